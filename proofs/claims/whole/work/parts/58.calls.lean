/-! calls upon the sayings: answers, answer -/
def cS (t t2 : sT) (a a2 : sA) : Prop := (∀ q, (q < 1216 ∨ (1280 ≤ q ∧ q < 1920) ∨ 1984 ≤ q) → t2 q = t q) ∧ ∀ k, (k < 20 ∨ k = 30 ∨ 41 ≤ k) → a2 k = a k
def mS (t t2 : sT) (a a2 : sA) : Prop := (∀ q, (q < 3220 ∨ 3240 ≤ q) → t2 q = t q) ∧ ∀ k, (k < 62 ∨ 653 ≤ k) → a2 k = a k
theorem cS.rf {t : sT} {a : sA} : cS t t a a := ⟨fun _ _ => rfl, fun _ _ => rfl⟩
theorem cS.tr {t t1 t2 : sT} {a a1 a2 : sA} (h : cS t t1 a a1) (h2 : cS t1 t2 a1 a2) : cS t t2 a a2 := ⟨fun q hq => (h2.1 q hq).trans (h.1 q hq), fun k hk => (h2.2 k hk).trans (h.2 k hk)⟩
theorem mS.rf {t : sT} {a : sA} : mS t t a a := ⟨fun _ _ => rfl, fun _ _ => rfl⟩
theorem mS.tr {t t1 t2 : sT} {a a1 a2 : sA} (h : mS t t1 a a1) (h2 : mS t1 t2 a1 a2) : mS t t2 a a2 := ⟨fun q hq => (h2.1 q hq).trans (h.1 q hq), fun k hk => (h2.2 k hk).trans (h.2 k hk)⟩
theorem mS.ss {t t2 : sT} {a a2 : sA} (h : mS t t2 a a2) (hs : SS t a) : SS t2 a2 := SF_SS _ _ _ _ (fun q hq => h.1 q (by unfold tS at hq; omega)) (fun k hk => h.2 k (by unfold tSA at hk; omega)) hs
theorem LsP.ms {w : Nat} {kd cs : Nat → Nat} {t0 t : sT} {a0 a : sA} {m : Nat} (h : LsP w kd cs t0 a0 m t a) : mS t0 t a0 a := ⟨fun q hq => h.2.2.1 q (by omega), fun k hk => h.2.2.2 k (by omega)⟩
theorem LsP.li {w : Nat} {kd cs : Nat → Nat} {t0 t : sT} {a0 a : sA} (h : LsP w kd cs t0 a0 (lv w 3) t a) : LI w kd cs t a := ⟨h.1, h.2.1⟩
theorem mS.tq {t : sT} {a : sA} {q : Sn} {l : Nat} : mS t (tq t q l) a a := ⟨fun k hk => tq_ne (by omega), fun _ _ => rfl⟩
theorem inv_fin {N : Nat} {u v : Option Nat} {t t2 t3 : sT} {a a2 a3 : sA} (h : Inv SS N u v t a) (hs : SS t2 a2) (hc : cS t t2 a a2) (hm : mS t2 t3 a2 a3) : Inv SS N u v t3 a3 :=
  inv_scr h (hm.ss hs) (fun q hq => by unfold scT at hq; rw [hm.1 q (by omega), hc.1 q (by omega)]) (fun k hk => by unfold scA at hk; rw [hm.2 k (by omega), hc.2 k (by omega)])
theorem SS_back {P more W : Nat} {t t2 : sT} {a a2 : sA} {G : Nat} {F Z : Nat → Nat} (hP : (P = 19 ∧ more = 0) ∨ (P = 30 ∧ more = 1)) (hs : SS t a) (q : t 196 = nI W) (hW : okW W (a 4) (a 5)) (ht : ∀ q, (q < 64 * P + 12 ∨ 64 * P + 18 ≤ q) → t2 q = t q) (ha : ∀ k, (k < P + 1 ∨ P + 11 ≤ k) → a2 k = a k) (h17 : t2 (64 * P + 17) = 1) (hx : FX P (wN W more) (kE W (a 4)) (cE W (a 5)) (a 6) G F Z t2 a2) (hc : CB P (wN W more) (kE W (a 4)) (cE W (a 5)) (a 6) a2) (hf : CF P (wN W more) (kE W (a 4)) (cE W (a 5)) t2 a2) : SS t2 a2 ∧ cS t t2 a a2 := by
  have hP9 : 19 ≤ P := by omega
  have hsc : SC P more t2 a2 := by
    refine SC.mk hW (by rw [ht 196 (by omega)]; exact q) ?_ h17 (ha 4 (by omega)) (ha 5 (by omega)) (ha 6 (by omega)) hx hc hf
    rw [ht _ (by omega)]
    rcases hP with ⟨rfl, rfl⟩ | ⟨rfl, rfl⟩
    · exact hs.1.1
    · exact hs.2.1
  refine ⟨?_, fun q hq => ht q (by omega), fun k hk => ha k (by omega)⟩
  rcases hP with ⟨rfl, rfl⟩ | ⟨rfl, rfl⟩
  · exact ⟨hsc, hs.2.fr (ht _ (by omega)) (fun q h1 h2 => ht q (by omega)) (ha 4 (by omega)) (ha 5 (by omega)) (ha 6 (by omega)) (fun k h1 h2 => ha k (by omega))⟩
  · exact ⟨hs.1.fr (ht _ (by omega)) (fun q h1 h2 => ht q (by omega)) (ha 4 (by omega)) (ha 5 (by omega)) (ha 6 (by omega)) (fun k h1 h2 => ha k (by omega)), hsc⟩
theorem SS_sc {P more : Nat} {t : sT} {a : sA} (hP : (P = 19 ∧ more = 0) ∨ (P = 30 ∧ more = 1)) (hs : SS t a) : SC P more t a := by
  rcases hP with ⟨rfl, rfl⟩ | ⟨rfl, rfl⟩
  · exact hs.1
  · exact hs.2
/-- refresh, then gather -/
theorem rg_ok {nF W l : Nat} (hF : 10000 ≤ nF) {t : sT} {a : sA} (hs : SS t a) (q : t 196 = nI W) (hW : okW W (a 4) (a 5)) (hb : okB (a 6)) (ql : t 198 = nI l) {x : Sn} (hx : okX x 6) : ∃ t2 a2 G F Z f fit, (∀ {ρ : Type} (K : Int32 → sT → sA → Option ρ), cal (fX3_refresh nF 19 t a) (fun v1 t1 a1 => cal (fX3_gather nF 19 (nI (pkS x)) (t1 198) t1 a1) K) = K 0 t2 a2) ∧ FX 19 W (kE W (a 4)) (cE W (a 5)) (a 6) G F Z t2 a2 ∧ FT 19 W (kE W (a 4)) (cE W (a 5)) F (nI l) x G f fit t2 a2 ∧ SS t2 a2 ∧ cS t t2 a a2 := by
  have hw8 := hW.1
  obtain ⟨t1, a1, G, F, Z, g1, g2, g3, g4, g5, g6, g7⟩ := ready_ok (P := 19) (more := 0) hF (by decide) (by decide) q hW hb hs.1
  have ew := wN0 hw8
  obtain ⟨t2, a2, f, fit, i1, i2, i3, i4, i5⟩ := gather_ok (nF := nF) (by omega) (okE hW) wN_le g3 hx (nI l)
  obtain ⟨s1, s2⟩ := SS_back (P := 19) (more := 0) (Or.inl ⟨rfl, rfl⟩) hs q hW (fun q hq => by rw [i4 q (by omega), g6 q hq]) (fun k hk => by rw [i5 k (by omega), g7 k hk]) (by rw [i4 _ (by omega)]; exact g2) i2 (g4.fr (i5 _ (by omega)) (i5 _ (by omega)) (i5 _ (by omega))) (g5.fr (i4 _ (by omega)) (i5 _ (by omega)))
  rw [ew] at i2 i3
  refine ⟨t2, a2, G, F, Z, f, fit, fun K => ?_, i2, i3, s1, s2⟩
  rw [g1, calS, g6 198 (by omega), ql, i1, calS]
def anyB (p : Nat → Bool) : Nat → Bool
  | 0 => false
  | n + 1 => anyB p n || p n
theorem anyB_iff {p : Nat → Bool} : ∀ n, anyB p n = true ↔ ∃ i, i < n ∧ p i = true := by
  intro n
  induction n with
  | zero => exact ⟨fun h => absurd h Bool.false_ne_true, fun ⟨i, hi, _⟩ => absurd hi (Nat.not_lt_zero i)⟩
  | succ n ih =>
    show (anyB p n || p n) = true ↔ _
    rw [Bool.or_eq_true, ih]
    constructor
    · rintro (⟨i, hi, h⟩ | h)
      · exact ⟨i, by omega, h⟩
      · exact ⟨n, by omega, h⟩
    · rintro ⟨i, hi, h⟩
      by_cases e : i = n
      · subst e; exact Or.inr h
      · exact Or.inl ⟨i, by omega, h⟩
section CC
variable {nF P w : Nat} {kd cs : Nat → Nat} {A : Nat → Int32} {G : Nat} {F Z : Nat → Nat} {t : sT} {a : sA}
theorem howM_ok (hF : 1000 ≤ nF) (hT : okT kd cs) (hw : w ≤ 8) (h : FX P w kd cs A G F Z t a) {L : Int32} {q : Sn} {f : Nat} {fit : Nat → Nat} (hf : FT P w kd cs F L q G f fit t a) {c : Nat} (hc : c < 8) : gX3_howManyAnswer nF P nF (nI c) (nI 0) (nI 0) t a = some (nI (sumN (fun i => if elB L q c (sn w kd cs i) then 1 else 0) (lv w 3)), t, a) := by
  obtain ⟨hG, hFl⟩ := h.b hw
  obtain ⟨k1, k2, k3, k4, k5, k6⟩ := hf
  have h0 := h
  obtain ⟨-, -, -, -, -, h3, h4, h5, -, h7⟩ := h
  have ok : ∀ i, i < lv w 3 → okX (sn w kd cs i) 3 := fun i hi => sn_ok hT 3 i hi
  have go : ∀ d k n, k + d = f → d < n → gX3_howManyAnswer nF P n (nI c) (nI (sumN (fun k => if btN (sn w kd cs (F (fit k))).1 c then Z (fit k) else 0) k)) (nI k) t a = some (nI (sumN (fun k => if btN (sn w kd cs (F (fit k))).1 c then Z (fit k) else 0) f), t, a) := by
    intro d
    induction d with
    | zero =>
      intro k n hk hn
      obtain ⟨n, rfl⟩ : ∃ m, n = m + 1 := ⟨n - 1, by omega⟩
      have : k = f := by omega
      subst this
      show gX3_howManyAnswer_21 nF P (gX3_howManyAnswer nF P n) _ _ _ t a = _
      unfold gX3_howManyAnswer_21
      rw [k1, if_pos ((x_le (by omega) (by omega)).mpr (Nat.le_refl k))]
    | succ d ih =>
      intro k n hk hn
      obtain ⟨n, rfl⟩ : ∃ m, n = m + 1 := ⟨n - 1, by omega⟩
      obtain ⟨j1, j2, -⟩ := k3 k (by omega)
      have ih := ih (k + 1) n (by omega) (by omega)
      have e0 : sumN (fun k => if btN (sn w kd cs (F (fit k))).1 c then Z (fit k) else 0) (k + 1) = sumN (fun k => if btN (sn w kd cs (F (fit k))).1 c then Z (fit k) else 0) k + if btN (sn w kd cs (F (fit k))).1 c then Z (fit k) else 0 := rfl
      rw [e0] at ih
      show gX3_howManyAnswer_21 nF P (gX3_howManyAnswer nF P n) _ _ _ t a = _
      unfold gX3_howManyAnswer_21
      rw [k1, if_neg (by rw [x_le (by omega) (by omega)]; omega), bnd_ok (by omega) (by decide), nI_cl (by omega), j2, holds_ok hT hw h0 j1 hc, calS, nI_1]
      cases hbt : btN (sn w kd cs (F (fit k))).1 c
      · rw [b2F, if_pos rfl]
        rw [hbt, if_neg Bool.false_ne_true, Nat.add_zero] at ih
        exact ih
      · rw [b2T, if_neg one0, bnd_ok (by omega) (by decide), j2, bnd_ok (show fit k < 585 by omega) (by decide), nI_cl (by omega), (h3 (fit k) j1).2.2.2.2.1, nI_add]
        rw [hbt, if_pos rfl] at ih
        exact ih
  have e := go f 0 nF (by omega) (by omega)
  rw [show nI (sumN (fun k => if btN (sn w kd cs (F (fit k))).1 c then Z (fit k) else 0) 0) = nI 0 from rfl] at e
  rw [e]
  have s1 : sumN (fun k => if btN (sn w kd cs (F (fit k))).1 c then Z (fit k) else 0) f = sumN (fun g => if ansB L q (sn w kd cs (F g)) then (if btN (sn w kd cs (F g)).1 c then Z g else 0) else 0) G := k6 (fun g => if btN (sn w kd cs (F g)).1 c then Z g else 0)
  have s2 := h7 (fun κ => if anyB (fun g => decide (key (sn w kd cs (F g)) = κ) && elB L q c (sn w kd cs (F g))) G then 1 else 0)
  have φok : ∀ i, i < lv w 3 → (if anyB (fun g => decide (key (sn w kd cs (F g)) = key (sn w kd cs i)) && elB L q c (sn w kd cs (F g))) G then 1 else 0) = if elB L q c (sn w kd cs i) then 1 else 0 := by
    intro i hi
    have : anyB (fun g => decide (key (sn w kd cs (F g)) = key (sn w kd cs i)) && elB L q c (sn w kd cs (F g))) G = elB L q c (sn w kd cs i) := by
      rw [Bool.eq_iff_iff, anyB_iff]
      constructor
      · rintro ⟨g, hg, e⟩
        rw [Bool.and_eq_true, decide_eq_true_iff] at e
        rw [← elB_sk (key_sk (ok _ (hFl g hg)) (ok i hi) e.1)]
        exact e.2
      · intro e
        obtain ⟨g, hg, -, g2⟩ := h5 i hi
        refine ⟨g, hg, ?_⟩
        rw [Bool.and_eq_true, decide_eq_true_iff]
        exact ⟨g2, by rw [elB_sk (key_sk (ok _ (hFl g hg)) (ok i hi) g2)]; exact e⟩
    rw [this]
  have s3 : sumN (fun g => if ansB L q (sn w kd cs (F g)) then (if btN (sn w kd cs (F g)).1 c then Z g else 0) else 0) G = sumN (fun i => if elB L q c (sn w kd cs i) then 1 else 0) (lv w 3) := by
    rw [← sumN_congr (lv w 3) φok, ← s2]
    refine sumN_congr G (fun g hg => ?_)
    show (if ansB L q (sn w kd cs (F g)) then (if btN (sn w kd cs (F g)).1 c then Z g else 0) else 0) = Z g * (if anyB (fun g' => decide (key (sn w kd cs (F g')) = key (sn w kd cs (F g))) && elB L q c (sn w kd cs (F g'))) G then 1 else 0)
    rw [φok (F g) (hFl g hg)]
    unfold elB
    cases ansB L q (sn w kd cs (F g)) <;> cases btN (sn w kd cs (F g)).1 c <;> simp
  rw [s1, s3]
theorem count8_ok (hF : 1000 ≤ nF) (hT : okT kd cs) (hw : w ≤ 8) (h : LI w kd cs t a) {q : Sn} {L : Int32} (hq : LQ q L t) {c : Nat} (hc : c < 8) : gX8_answers nF nF (nI c) (nI 0) (nI 0) t a = some (nI (sumN (fun i => if elB L q c (sn w kd cs i) then 1 else 0) (lv w 3)), t, a) := by
  have h585 := lv_3 hw
  have go : ∀ d i n, i + d = lv w 3 → d < n → gX8_answers nF n (nI c) (nI (sumN (fun i => if elB L q c (sn w kd cs i) then 1 else 0) i)) (nI i) t a = some (nI (sumN (fun i => if elB L q c (sn w kd cs i) then 1 else 0) (lv w 3)), t, a) := by
    intro d
    induction d with
    | zero =>
      intro i n hi hn
      obtain ⟨n, rfl⟩ : ∃ m, n = m + 1 := ⟨n - 1, by omega⟩
      have : i = lv w 3 := by omega
      subst this
      show gX8_answers_25 nF (gX8_answers nF n) _ _ _ t a = _
      unfold gX8_answers_25
      rw [h.1, if_pos ((x_le (by omega) (by omega)).mpr (Nat.le_refl _))]
    | succ d ih =>
      intro i n hi hn
      obtain ⟨n, rfl⟩ : ∃ m, n = m + 1 := ⟨n - 1, by omega⟩
      have hil : i < lv w 3 := by omega
      obtain ⟨h5, g1, g2, g3⟩ := h.g hw hil
      have ok := sn_ok (w := w) hT 3 i hil
      have ih := ih (i + 1) n (by omega) (by omega)
      have e0 : sumN (fun i => if elB L q c (sn w kd cs i) then 1 else 0) (i + 1) = sumN (fun i => if elB L q c (sn w kd cs i) then 1 else 0) i + if elB L q c (sn w kd cs i) then 1 else 0 := rfl
      rw [e0] at ih
      unfold elB at ih ⊢
      have hbit := bit_0 (n := (sn w kd cs i).1) (c := c) (by have := ok.1; omega) hc
      show gX8_answers_25 nF (gX8_answers nF n) _ _ _ t a = _
      unfold gX8_answers_25
      rw [h.1, if_neg (by rw [x_le (by omega) (by omega)]; omega), bnd_ok h5 (by decide), nI_cl (by omega), g2, nI_1]
      cases hbt : btN (sn w kd cs i).1 c
      · rw [if_pos (hbit.mpr hbt), Int32.add_zero]
        rw [hbt, Bool.false_and, if_neg Bool.false_ne_true, Nat.add_zero] at ih
        exact ih
      · rw [if_neg (fun y => by rw [hbit.mp y] at hbt; exact absurd hbt (by decide)), isAns_ok hw h hq hil, calS]
        rw [hbt, Bool.true_and] at ih
        cases han : ansB L q (sn w kd cs i)
        · rw [b2F, if_pos rfl, Int32.add_zero]
          rw [han, if_neg Bool.false_ne_true, Nat.add_zero] at ih
          exact ih
        · rw [b2T, if_neg one0, nI_1]
          rw [han, if_pos rfl] at ih
          exact ih
  exact go (lv w 3) 0 nF (by omega) (by omega)
end CC
theorem stp11 {nF : Nat} (hF : 10000 ≤ nF) : stp_11 nF (Inv SS) := by
  intro x N u v t a h
  obtain ⟨W, l, tc, q1, q2, hW, hb, hag, haw, l1, l2, hl, -⟩ := CX_of h.1
  have hw8 := hW.1
  have no : (fX7_isCase nF x t a = some (0, t, a)) → (∀ b, fX8_isCase nF x t b = some (0, t, b)) → ∃ r t1 a1 t2 a2, fX7_answers nF x t a = some (r, t1, a1) ∧ fX8_answers nF x t1 a1 = some (r, t2, a2) ∧ Inv SS N u v t2 a2 := by
    intro g1 g2
    refine st_ref SF_SS h 1 (w := -1) ?_ ?_
    · unfold fX7_answers; rw [cal_of g1, if_pos rfl, R7_1]; rfl
    · unfold fX8_answers; rw [cal_of (g2 _), if_pos rfl, R8_1]; rfl
  rcases tri x (n := 8) (by omega) with g | ⟨c, hc, rfl⟩ | ⟨g0, g⟩
  · exact no (c7_neg g) (fun b => c8_neg g)
  · obtain ⟨qs, ok, sen, ask⟩ := ask_ok h.1 l2
    obtain ⟨t2, a2, G, F, Z, f, fit, r1, r2, r3, r4, r5⟩ := rg_ok hF h.2.1 q1 hW hb l1 ok
    have c1 := howM_ok (nF := nF) (by omega) (okE hW) hw8 r2 r3 hc
    obtain ⟨t3, a3, m1, m2⟩ := list_ok (nF := nF) (t0 := t2) (a0 := a2) (by omega) (okE hW) hw8 (hag.fr (r5.2 55 (by omega)) (r5.2 56 (by omega))) (by rw [r5.1 3207 (by omega)]; exact q2) hF
    have e4 := ask nF t3 a3 (by omega) (by rw [m2.ms.1 _ (by omega), r5.1 _ (by omega)]) (by rw [m2.ms.1 _ (by omega), r5.1 _ (by omega)]) (by rw [m2.ms.2 _ (by omega), r5.2 _ (by omega)]) (by rw [m2.ms.2 _ (by omega), r5.2 _ (by omega)]) (by rw [m2.ms.2 _ (by omega), r5.2 _ (by omega)])
    have c2 := count8_ok (nF := nF) (a := a3) (by omega) (okE hW) hw8 (m2.li.fr (t' := tq t3 qs l) (tq_ne (by omega)) (fun _ _ _ => rfl) hw8) tq_q hc
    refine ⟨nI (sumN (fun i => if elB (nI l) qs c (sn W (kE W (a 4)) (cE W (a 5)) i) then 1 else 0) (lv W 3)), t2, a2, tq t3 qs l, a3, ?_, ?_, inv_fin h r4 r5 (m2.ms.tr mS.tq)⟩
    · unfold fX7_answers
      rw [c7_yes hc, calS, if_neg one0, sen nF (by omega), calS]
      unfold fX3_howManyAnswer
      rw [r1, show (0 : Int32) = nI 0 from rfl, c1, calS]
    · unfold fX8_answers
      rw [c8_yes hc, calS, if_neg one0, m1, calS, e4, calS, show (0 : Int32) = nI 0 from rfl, c2]
  · exact no (c7_big g0 g) (fun b => c8_big g0 g)
