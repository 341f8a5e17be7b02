/-! meant -/
theorem ask_ok2 {t : sT} {a : sA} (h : Lo t a) {l : Nat} (hl : t 3213 = nI l) : ∃ q : Sn, okX q 6 ∧ (∀ nF (t' : sT) (a' : sA), 100 ≤ nF → t' 833 = t 833 → t' 196 = t 196 → a' 14 = a 14 → a' 4 = a 4 → a' 5 = a 5 → fX2_sense nF 13 3 t' a' = some (nI (pkS q), t', a')) ∧ ∀ nF (t' : sT) (a' : sA), 100 ≤ nF → t' 3203 = t 3203 → t' 3213 = t 3213 → a' 55 = a 55 → a' 56 = a 56 → a' 52 = a 52 → fX8_asksRow nF t' a' = some (0, tq t' q l, a') := by
  have h0 := h
  obtain ⟨-, ⟨⟨w, hw, q1, q2, q3⟩, -⟩, ⟨k, wn, hk, hwn, r1, r2, r3, r4⟩, -⟩ := h
  have ew : wn = w := by have := r1.symm.trans q1; rw [x_eq (by omega) (by omega)] at this; exact this
  subst ew
  have hW : okW wn (a 4) (a 5) := ⟨hw, fun i hi => ⟨(q3 i hi).2.2.1, (q3 i hi).2.2.2⟩⟩
  have hR : okR wn (a 14) k := fun i hi => (r4 i hi).2
  have hW' : okW wn (a 55) (a 56) := ⟨hw, fun i hi => ⟨by rw [← (q3 i hi).1]; exact (q3 i hi).2.2.1, by rw [← (q3 i hi).2.1]; exact (q3 i hi).2.2.2⟩⟩
  have hR' : okR wn (a 52) k := fun i hi => by rw [← (r4 i hi).1]; exact (r4 i hi).2
  have hc : snS (a 55) (a 56) (a 52) k = snS (a 4) (a 5) (a 14) k := snS_congr hw hR (fun i hi => (r4 i hi).1.symm) (fun i hi => ⟨(q3 i hi).1.symm, (q3 i hi).2.1.symm⟩)
  obtain ⟨i1, i2, i3⟩ := snS_ok hW hR
  refine ⟨((snS (a 4) (a 5) (a 14) k).1, (snS (a 4) (a 5) (a 14) k).2.1, (snS (a 4) (a 5) (a 14) k).2.2, k), ⟨i1, i2, i3, hk⟩, fun nF t' a' hF p1 p2 p3 p4 p5 => ?_, fun nF t' a' hF p1 p2 p3 p4 p5 => ?_⟩
  · have := sense7 (nF := nF) (t := t') (a := a') hF 13 (p2.trans q1) (by rw [p4, p5]; exact hW) hk (p1.trans r2) (by show okR wn (a' 14) k; rw [p3]; exact hR)
    rw [p4, p5] at this
    have e14 : a' (13 + 1) = a 14 := p3
    rw [e14] at this
    exact this
  · have m1 := mean8 (nF := nF) (t := t') (a := a') (p := 52) (n1 := 6) hF (by rw [p3, p4]; exact hW') hk hk (by decide) (by rw [p5]; exact hR')
    have m2 := idle8 (nF := nF) (t := t') (a := a') (p := 52) (n1 := 6) hF (by rw [p3, p4]; exact hW') hk hk (by decide) (by rw [p5]; exact hR')
    rw [p3, p4, p5, hc] at m1 m2
    unfold fX8_asksRow fX8_asks
    rw [p1, r3, m2, calS, p1, r3, m1, calS, p2, hl, calS]
    rfl
theorem nb_inj {w : Nat} {R H : Nat → Nat} : ∀ k, (∀ j, j < k → R j < w ∧ H j < w) → nb w R k = nb w H k → ∀ j, j < k → R j = H j := by
  intro k
  induction k with
  | zero => intro _ _ j hj; exact absurd hj (Nat.not_lt_zero j)
  | succ k ih =>
    intro h e j hj
    obtain ⟨h1, h2⟩ := h k (by omega)
    obtain ⟨d1, d2⟩ := dm_step (s := nb w R k) h1
    obtain ⟨d3, d4⟩ := dm_step (s := nb w H k) h2
    have e9 : nb w R k * w + 1 + R k = nb w H k * w + 1 + H k := e
    rw [e9] at d1 d2
    by_cases ej : j = k
    · subst ej; rw [← d2, d4]
    · exact ih (fun i hi => h i (by omega)) (by rw [← d1, d3]) j (by omega)
theorem nb_congr {w : Nat} {R H : Nat → Nat} : ∀ k, (∀ j, j < k → R j = H j) → nb w R k = nb w H k := by
  intro k
  induction k with
  | zero => intro _; rfl
  | succ k ih =>
    intro h
    show nb w R k * w + 1 + R k = nb w H k * w + 1 + H k
    rw [ih (fun j hj => h j (by omega)), h k (by omega)]
/-- the number of the told answer -/
def tdN (w : Nat) (H : Nat → Nat) (n : Nat) : Int32 := if n ≤ 3 then nI (nb w H n) else -1
theorem told8 {nF w n : Nat} {kd cs : Nat → Nat} {H : Nat → Nat} {t : sT} {a : sA} (hF : 100 ≤ nF) (hw : w ≤ 8) (h : LI w kd cs t a) (hn : n ≤ 6) (q : t 3205 = nI n) (hH : ∀ j, j < n → H j < w ∧ a 53 j = nI (H j)) {b : Nat} (hb : b < lv w 3) : fX8_isTold nF (nI b) t a = some (b2I (decide (nI b = tdN w H n)), t, a) := by
  have h585 := lv_3 hw
  obtain ⟨R, k, hk, hR, eb, k1, k2⟩ := low8 hw h hb
  have h3 := h.2 b hb
  unfold fX8_isTold
  rw [bnd_ok (by omega) (by decide), nI_cl (by omega), k1, q]
  by_cases hkn : k = n
  · subst hkn
    rw [if_pos rfl]
    have hlt0 := nb_lt (w := w) (row := H) k (fun j hj => (hH j hj).1)
    have hlt : nb w H k < 5000 := by have := lv_le4 hw (show k ≤ 4 by omega); omega
    have ed : decide (nI b = tdN w H k) = decide (nb w R k = nb w H k) := by
      refine decide_eq_decide.mpr ?_
      unfold tdN
      rw [if_pos hk, x_eq (by omega) (by omega), eb]
    rw [ed]
    have go : ∀ d i m, i + d = k → d < m → (∀ j, j < i → R j = H j) → gX8_isTold nF m (nI b) (nI i) t a = some (b2I (decide (nb w R k = nb w H k)), t, a) := by
      intro d
      induction d with
      | zero =>
        intro i m hi hm hj
        obtain ⟨m, rfl⟩ : ∃ m', m = m' + 1 := ⟨m - 1, by omega⟩
        have : i = k := by omega
        subst this
        show gX8_isTold_17 nF (gX8_isTold nF m) _ _ t a = _
        unfold gX8_isTold_17
        rw [q, if_pos ((x_le (by omega) (by omega)).mpr (Nat.le_refl i)), decide_eq_true (nb_congr i hj)]
        rfl
      | succ d ih =>
        intro i m hi hm hj
        obtain ⟨m, rfl⟩ : ∃ m', m = m' + 1 := ⟨m - 1, by omega⟩
        have hr := hR i (by omega)
        have hh := hH i (by omega)
        show gX8_isTold_17 nF (gX8_isTold nF m) _ _ t a = _
        unfold gX8_isTold_17
        rw [q, if_neg (by rw [x_le (by omega) (by omega)]; omega), bnd_ok (by omega) (by decide), bnd_ok (by omega) (by decide), bnd_ok (by omega) (by decide), nI_cl (by omega), nI_cl (by omega), k2 i (by omega), hh.2, nI_1]
        by_cases e : R i = H i
        · rw [if_pos (by rw [e])]
          exact ih (i + 1) m (by omega) (by omega) (fun j hj2 => by
            by_cases e9 : j = i
            · subst e9; exact e
            · exact hj j (by omega))
        · rw [if_neg (by rw [x_eq (by omega) (by omega)]; exact e), decide_eq_false (fun e9 => e (nb_inj k (fun j hj => ⟨hR j hj, (hH j hj).1⟩) e9 i (by omega)))]
          rfl
    exact go k 0 nF (by omega) (by omega) (fun j hj => absurd hj (Nat.not_lt_zero j))
  · rw [if_neg (by rw [x_eq (by omega) (by omega)]; exact hkn)]
    have : ¬ nI b = tdN w H n := by
      unfold tdN
      by_cases hn3 : n ≤ 3
      · rw [if_pos hn3]
        have hlt := nb_lt (w := w) (row := H) n (fun j hj => (hH j hj).1)
        have hl4 := lv_le4 hw (show n ≤ 4 by omega)
        rw [x_eq (by omega) (by omega), eb]
        intro e
        apply hkn
        have e1 := sn_nb (w := w) (kd := kd) (cs := cs) k hR
        have e2 := sn_nb (w := w) (kd := kd) (cs := cs) (row := H) n (fun j hj => (hH j hj).1)
        rw [e, e2] at e1
        have := congrArg (fun x : Sn => x.2.2.2) e1
        have : (snR kd cs H n).2.2.2 = (snR kd cs R k).2.2.2 := this
        rw [snR_ln, snR_ln] at this
        exact this.symm
      · rw [if_neg hn3]
        intro e
        have := nneg (show b < 2 ^ 31 by omega)
        rw [e] at this
        exact this (by decide)
    rw [decide_eq_false this]
    rfl
/-- cases gathered bit by bit -/
def mSI (p : Nat → Bool) : Nat → Int32
  | 0 => 0
  | c + 1 => if p c then mSI p c ||| ((1 : Int32) <<< (nI c &&& 31)) else mSI p c
theorem mSI_lt {p : Nat → Bool} : ∀ c, c ≤ 8 → ∃ k, k < 256 ∧ mSI p c = nI k := by
  intro c
  induction c with
  | zero => intro _; exact ⟨0, by decide, rfl⟩
  | succ c ih =>
    intro hc
    obtain ⟨k, hk, e⟩ := ih (by omega)
    show ∃ k, k < 256 ∧ (if p c then mSI p c ||| ((1 : Int32) <<< (nI c &&& 31)) else mSI p c) = nI k
    have hp : 2 ^ c < 2 ^ 8 := Nat.pow_lt_pow_right (by decide) (by omega)
    cases p c
    · rw [if_neg Bool.false_ne_true]; exact ⟨k, hk, e⟩
    · rw [if_pos rfl, e, shl8 c (by omega), b_or (by omega) (by omega)]
      exact ⟨_, Nat.or_lt_two_pow (n := 8) hk hp, rfl⟩
def mtP (v : Int32) : Option Nat → Bool
  | none => false
  | some b => decide (nI b = v)
section MT
variable {nF P w : Nat} {kd cs : Nat → Nat} {A : Nat → Int32} {G : Nat} {F Z : Nat → Nat} {t : sT} {a : sA}
theorem cab7 (hF : 1000 ≤ nF) (hT : okT kd cs) (hw : w ≤ 8) (hA : okB A) (h : FX P w kd cs A G F Z t a) {L : Int32} {q : Sn} {f : Nat} {fit : Nat → Nat} (hf : FT P w kd cs F L q G f fit t a) {j : Nat} (hj : j < 5) (v : Int32) : ∀ d c n, c + d = 8 → d < n → gX3_casesAnsweredBy nF P n v (nI j) (mSI (fun c => mtP v (pkO w kd cs A j L q c)) c) (nI c) t a = some (mSI (fun c => mtP v (pkO w kd cs A j L q c)) 8, t, a) := by
  obtain ⟨hG, hFl⟩ := h.b hw
  intro d
  induction d with
  | zero =>
    intro c n hc hn
    obtain ⟨n, rfl⟩ : ∃ m, n = m + 1 := ⟨n - 1, by omega⟩
    have : c = 8 := by omega
    subst this
    show gX3_casesAnsweredBy_22 nF P (gX3_casesAnsweredBy nF P n) _ _ _ _ t a = _
    unfold gX3_casesAnsweredBy_22
    rw [if_pos (by decide)]
  | succ d ih =>
    intro c n hc hn
    obtain ⟨n, rfl⟩ : ∃ m, n = m + 1 := ⟨n - 1, by omega⟩
    have ih := ih (c + 1) n (by omega) (by omega)
    have e0 : mSI (fun c => mtP v (pkO w kd cs A j L q c)) (c + 1) = if mtP v (pkO w kd cs A j L q c) then mSI (fun c => mtP v (pkO w kd cs A j L q c)) c ||| ((1 : Int32) <<< (nI c &&& 31)) else mSI (fun c => mtP v (pkO w kd cs A j L q c)) c := rfl
    rw [e0] at ih
    obtain ⟨vc, v1, v2⟩ := chosen_ok (nF := nF) hF hT hw hA h hf hj (show c < 8 by omega)
    show gX3_casesAnsweredBy_22 nF P (gX3_casesAnsweredBy nF P n) _ _ _ _ t a = _
    unfold gX3_casesAnsweredBy_22
    rw [if_neg (by rw [show (8 : Int32) = nI 8 from rfl, x_le (by omega) (by omega)]; omega), v1, calS, nI_1]
    cases hp : pkO w kd cs A j L q c with
    | none =>
      rw [hp] at v2 ih
      have v2 : vc = -1 := v2
      subst v2
      rw [if_pos (by decide)]
      exact ih
    | some b =>
      rw [hp] at v2 ih
      obtain ⟨g, hg, rfl, hb⟩ := v2
      rw [if_neg (nneg (by omega)), bnd_ok (by omega) (by decide), nI_cl (by omega), (h.2.2.2.2.2.1 g hg).2.2.2.1, hb]
      have em : mtP v (some b) = decide (nI b = v) := rfl
      rw [em] at ih
      by_cases e : nI b = v
      · rw [if_pos e]
        rw [decide_eq_true e, if_pos rfl] at ih
        exact ih
      · rw [if_neg e]
        rw [decide_eq_false e, if_neg Bool.false_ne_true] at ih
        exact ih
end MT
theorem meant8 {nF w n p j l : Nat} {kd cs : Nat → Nat} {A : Nat → Int32} {H : Nat → Nat} {q : Sn} {a : sA} (hF : 1000 ≤ nF) (hT : okT kd cs) (hA : okB A) (hw : w ≤ 8) (hAW : AW A a) (hn : n ≤ 6) (hp : p < 4) (hj : j < 5) (e58 : a 58 p = tkL j) (hH : ∀ i, i < n → H i < w ∧ a 53 i = nI (H i)) : ∀ d c m (t : sT), c + d = 8 → d < m → LI w kd cs t a → LQ q (nI l) t → t 3205 = nI n → t 3219 = mSI (fun c => mtP (tdN w H n) (pkO w kd cs A j (nI l) q c)) c → gX8_meant nF m (nI p) (nI c) t a = some (mSI (fun c => mtP (tdN w H n) (pkO w kd cs A j (nI l) q c)) 8, va_up (va_up (va_up t 3219 (mSI (fun c => mtP (tdN w H n) (pkO w kd cs A j (nI l) q c)) 8)) 3203 0) 3205 0, a) := by
  have h585 := lv_3 hw
  intro d
  induction d with
  | zero =>
    intro c m t hc hm hI hq q5 q19
    obtain ⟨m, rfl⟩ : ∃ m', m = m' + 1 := ⟨m - 1, by omega⟩
    have : c = 8 := by omega
    subst this
    show gX8_meant_29 nF (gX8_meant nF m) _ _ t a = _
    unfold gX8_meant_29
    rw [if_pos (by decide), up_ne (show 3219 ≠ 3205 by decide), up_ne (show 3219 ≠ 3203 by decide), q19, ← q19, up_id]
  | succ d ih =>
    intro c m t hc hm hI hq q5 q19
    obtain ⟨m, rfl⟩ : ∃ m', m = m' + 1 := ⟨m - 1, by omega⟩
    have st : ∀ x : Int32, va_up (va_up (va_up (va_up t 3219 x) 3219 (mSI (fun c => mtP (tdN w H n) (pkO w kd cs A j (nI l) q c)) 8)) 3203 0) 3205 0 = va_up (va_up (va_up t 3219 (mSI (fun c => mtP (tdN w H n) (pkO w kd cs A j (nI l) q c)) 8)) 3203 0) 3205 0 := fun x => by rw [up_up]
    have ih := fun x (e : x = mSI (fun c => mtP (tdN w H n) (pkO w kd cs A j (nI l) q c)) (c + 1)) => ih (c + 1) m (va_up t 3219 x) (by omega) (by omega) (hI.fr (up_ne (by decide)) (fun _ _ _ => rfl) hw) hq (by rw [up_ne (by decide)]; exact q5) (by rw [up_same]; exact e)
    have e0 : mSI (fun c => mtP (tdN w H n) (pkO w kd cs A j (nI l) q c)) (c + 1) = if mtP (tdN w H n) (pkO w kd cs A j (nI l) q c) then mSI (fun c => mtP (tdN w H n) (pkO w kd cs A j (nI l) q c)) c ||| ((1 : Int32) <<< (nI c &&& 31)) else mSI (fun c => mtP (tdN w H n) (pkO w kd cs A j (nI l) q c)) c := rfl
    show gX8_meant_29 nF (gX8_meant nF m) _ _ t a = _
    unfold gX8_meant_29
    rw [if_neg (by rw [show (8 : Int32) = nI 8 from rfl, x_le (by omega) (by omega)]; omega), bnd_ok (by omega) (by decide), nI_cl (by omega), e58, answerOf_ok hF hT hA hw hAW hI hq hj (show c < 8 by omega), calS, nI_1, q19, Int32.or_zero]
    cases hp9 : pkO w kd cs A j (nI l) q c with
    | none =>
      rw [hp9] at e0
      rw [if_pos (show o9 none = (-9 : Int32) from rfl), ih _ (by rw [e0]; rfl), st]
    | some b =>
      rw [hp9] at e0
      have hb : b < lv w 3 := (pick_lt hp9).1
      have o9s : o9 (some b) = nI b := rfl
      rw [o9s, if_neg (n9_nI (by omega)), told8 (by omega) hw hI hn q5 hH hb, calS]
      have em : mtP (tdN w H n) (some b) = decide (nI b = tdN w H n) := rfl
      rw [em] at e0
      cases hd : decide (nI b = tdN w H n)
      · rw [hd, if_neg Bool.false_ne_true] at e0
        rw [b2F, if_pos rfl, ih _ e0.symm, st]
      · rw [hd, if_pos rfl] at e0
        rw [b2T, if_neg one0, ih _ e0.symm, st]
theorem inv_meant {N : Nat} {u v : Option Nat} {t : sT} {a : sA} (h : Inv SS N u v t a) {m : Nat} (hm : m < 256) : Inv SS N u v (va_up (va_up (va_up (va_up (va_up (va_up t 961 0) 833 0) 10 (nI m)) 3219 (nI m)) 3203 0) 3205 0) a := by
  obtain ⟨⟨h1, h2, h3, h4, h5, h6, h7⟩, hs, hh⟩ := h
  have kt : ∀ q, q ≠ 961 → q ≠ 833 → q ≠ 10 → q ≠ 3219 → q ≠ 3203 → q ≠ 3205 → va_up (va_up (va_up (va_up (va_up (va_up t 961 0) 833 0) 10 (nI m)) 3219 (nI m)) 3203 0) 3205 0 q = t q := fun q a1 a2 a3 a4 a5 a6 => by rw [up_ne a6, up_ne a5, up_ne a4, up_ne a3, up_ne a2, up_ne a1]
  obtain ⟨k, wn, hk, hwn, r1, -⟩ := h3
  exact ⟨⟨h1, h2, ⟨0, wn, by omega, hwn, r1, rfl, rfl, fun i hi => absurd hi (Nat.not_lt_zero i)⟩, ⟨0, wn, by omega, hwn, r1, rfl, rfl, fun i hi => absurd hi (Nat.not_lt_zero i)⟩, h5, ⟨m, hm, rfl, rfl⟩, h7⟩, SF_SS _ _ _ _ (fun q hq => by unfold tS at hq; exact kt q (by omega) (by omega) (by omega) (by omega) (by omega) (by omega)) (fun _ _ => rfl) hs, Hi.fr (fun q hq => by unfold tH at hq; exact kt q (by omega) (by omega) (by omega) (by omega) (by omega) (by omega)) (fun _ _ => rfl) hh⟩
theorem stp17 {nF : Nat} (hF : 10000 ≤ nF) : stp_17 nF (Inv SS) := by
  intro x N u v t a h
  obtain ⟨W, l, tc, q1, q2, hW, hb, hag, haw, l1, l2, hl, c1, c2, htc⟩ := CX_of h.1
  have hw8 := hW.1
  rcases per_ok (nF := nF) h.1 x with ⟨p1, p2⟩ | ⟨p, j, hp, hj, rfl, j1, j2, p1, p2⟩
  · refine st_ref SF_SS h 1 (w := -1) ?_ ?_
    · unfold fX7_meant; rw [p1, calS, if_pos rfl, R7_1]; rfl
    · unfold fX8_meant; rw [p2 _ _ rfl, calS, if_pos rfl, R8_1]; rfl
  obtain ⟨qs, ok, sen, ask⟩ := ask_ok2 h.1 l2
  obtain ⟨n, H, hn, e961, e3205, hH16, hH53⟩ : ∃ (n : Nat) (H : Nat → Nat), n ≤ 6 ∧ t 961 = nI n ∧ t 3205 = nI n ∧ (∀ i, i < n → a 16 i = nI (H i)) ∧ ∀ i, i < n → H i < W ∧ a 53 i = nI (H i) := by
    obtain ⟨n, wn, hn, hwn, r1, r2, r3, r4⟩ := h.1.2.2.2.1
    have ew : wn = W := by have := r1.symm.trans q1; rw [x_eq (by omega) (by omega)] at this; exact this
    subst ew
    refine ⟨n, fun i => (a 16 i).toNatClampNeg, hn, r2, r3, fun i hi => ?_, fun i hi => ?_⟩
    · obtain ⟨-, c, hc, e⟩ := r4 i hi
      show a 16 i = nI ((a 16 i).toNatClampNeg)
      rw [e, nI_cl (by omega)]
    · obtain ⟨e2, c, hc, e⟩ := r4 i hi
      show (a 16 i).toNatClampNeg < wn ∧ a 53 i = nI ((a 16 i).toNatClampNeg)
      rw [← e2, e, nI_cl (by omega)]
      exact ⟨hc, rfl⟩
  -- the class: the told answer's number
  obtain ⟨t1, a1, G0, F0', Z0, g1, g2, g3, g4, g5, g6, g7⟩ := ready_ok (P := 19) (more := 0) hF (by decide) (by decide) q1 hW hb h.2.1.1
  obtain ⟨s1, s2⟩ := SS_back (P := 19) (more := 0) (Or.inl ⟨rfl, rfl⟩) h.2.1 q1 hW (fun q hq => g6 q hq) (fun k hk => g7 k hk) g2 g3 g4 g5
  have w12 : t1 1228 = nI W := by have := g3.1; rw [wN0 hw8] at this; exact this
  have num : fX3_numberOf nF 19 15 t a = some (tdN W H n, t1, a1) := by
    unfold fX3_numberOf tdN
    have f961 : t1 (64 * 15 + 1) = nI n := (s2.1 961 (by omega)).trans e961
    rw [g1, calS, f961]
    by_cases hn3 : n ≤ 3
    · rw [if_pos (show nI n ≤ 3 from (x_le (a := n) (b := 3) (by omega) (by omega)).mpr hn3), if_pos hn3]
      have go : ∀ d i m, i + d = n → d < m → gX3_numberOf nF 19 15 m (nI (nb W H i)) (nI i) t1 a1 = some (nI (nb W H n), t1, a1) := by
        intro d
        induction d with
        | zero =>
          intro i m hi hm
          obtain ⟨m, rfl⟩ : ∃ m', m = m' + 1 := ⟨m - 1, by omega⟩
          have : i = n := by omega
          subst this
          show gX3_numberOf_18 nF 19 15 (gX3_numberOf nF 19 15 m) _ _ t1 a1 = _
          unfold gX3_numberOf_18
          rw [f961, if_pos ((x_le (by omega) (by omega)).mpr (Nat.le_refl i))]
        | succ d ih =>
          intro i m hi hm
          obtain ⟨m, rfl⟩ : ∃ m', m = m' + 1 := ⟨m - 1, by omega⟩
          have w9 : t1 (64 * 19 + 12) = nI W := w12
          have a16 : a1 (15 + 1) i = nI (H i) := by rw [show a1 (15 + 1) = a 16 from s2.2 16 (by omega)]; exact hH16 i (by omega)
          show gX3_numberOf_18 nF 19 15 (gX3_numberOf nF 19 15 m) _ _ t1 a1 = _
          unfold gX3_numberOf_18
          rw [f961, if_neg (by rw [x_le (by omega) (by omega)]; omega), bnd_ok (by omega) (by decide), nI_cl (by omega), w9, a16, pk_mul, nI_1, nI_add, nI_1]
          exact ih (i + 1) m (by omega) (by omega)
      exact go n 0 nF (by omega) (by omega)
    · rw [if_neg (show ¬ nI n ≤ 3 by rw [show (3 : Int32) = nI 3 from rfl, x_le (by omega) (by omega)]; exact hn3), if_neg hn3]
  -- .. and the cases
  have fB : ∀ q, (q < 1216 ∨ (1280 ≤ q ∧ q < 1920) ∨ 1984 ≤ q) → q ≠ 961 → q ≠ 833 → va_up (va_up t1 961 0) 833 0 q = t q := fun q hq h1 h2 => by rw [up_ne h2, up_ne h1, s2.1 q hq]
  have sB : SS (va_up (va_up t1 961 0) 833 0) a1 := SF_SS _ _ _ _ (fun q hq => by unfold tS at hq; rw [up_ne (by omega), up_ne (by omega)]) (fun _ _ => rfl) s1
  have f4 := s2.2 4 (by omega)
  have f5 := s2.2 5 (by omega)
  have f6 := s2.2 6 (by omega)
  obtain ⟨t2, a2, G, F, Z, f, fit, r1, r2, r3, r4, r5⟩ := rg_ok hF sB (by rw [fB 196 (by omega) (by omega) (by omega)]; exact q1) (by rw [f4, f5]; exact hW) (by rw [f6]; exact hb) (by rw [fB 198 (by omega) (by omega) (by omega)]; exact l1) ok
  rw [f4, f5, f6] at r2
  rw [f4, f5] at r3
  have cab := cab7 (nF := nF) (by omega) (okE hW) hw8 hb r2 r3 hj (tdN W H n) 8 0 nF (by omega) (by omega)
  obtain ⟨mk, hmk, emk⟩ := mSI_lt (p := fun c => mtP (tdN W H n) (pkO W (kE W (a 4)) (cE W (a 5)) (a 6) j (nI l) qs c)) 8 (by decide)
  have c7 : fX7_meant nF (nI p) t a = some (nI mk, va_up t2 10 (nI mk), a2) := by
    unfold fX7_meant fX7_takeRow fX3_casesAnsweredBy
    rw [p1, calS, if_neg one0, num, calS, sen nF _ _ (by omega) (by rw [up_ne (by decide), s2.1 833 (by omega)]) (by rw [up_ne (by decide), s2.1 196 (by omega)]) (s2.2 14 (by omega)) f4 f5, calS, calS, bnd_ok (by omega) (by decide), nI_cl (by omega), s2.2 7 (by omega), j1, r1]
    show cal (gX3_casesAnsweredBy nF 19 nF (tdN W H n) (nI j) (mSI (fun c => mtP (tdN W H n) (pkO W (kE W (a 4)) (cE W (a 5)) (a 6) j (nI l) qs c)) 0) (nI 0) t2 a2) _ = _
    rw [cab, calS, up_same, emk]
  -- the reference
  have cT : ∀ q, (q < 1216 ∨ (1280 ≤ q ∧ q < 1920) ∨ 1984 ≤ q) → q ≠ 961 → q ≠ 833 → q ≠ 10 → va_up t2 10 (nI mk) q = t q := fun q hq h1 h2 h3 => by rw [up_ne h3, r5.1 q hq, fB q hq h1 h2]
  have cA : ∀ k, (k < 20 ∨ k = 30 ∨ 41 ≤ k) → a2 k = a k := fun k hk => by rw [r5.2 k hk, s2.2 k hk]
  obtain ⟨t3, a3, m1, m2⟩ := list_ok (nF := nF) (t0 := va_up t2 10 (nI mk)) (a0 := a2) (by omega) (okE hW) hw8 (hag.fr (cA 55 (by omega)) (cA 56 (by omega))) (by rw [cT 3207 (by omega) (by omega) (by omega) (by omega)]; exact q2) hF
  have e4 := ask nF t3 a3 (by omega) (by rw [m2.ms.1 _ (by omega), cT _ (by omega) (by omega) (by omega) (by omega)]) (by rw [m2.ms.1 _ (by omega), cT _ (by omega) (by omega) (by omega) (by omega)]) (by rw [m2.ms.2 _ (by omega), cA _ (by omega)]) (by rw [m2.ms.2 _ (by omega), cA _ (by omega)]) (by rw [m2.ms.2 _ (by omega), cA _ (by omega)])
  have e58 : a3 58 p = tkL j := by rw [m2.ms.2 58 (by omega), cA 58 (by omega)]; exact j2
  have e53 : a3 53 = a 53 := by rw [m2.ms.2 53 (by omega), cA 53 (by omega)]
  have m8 := meant8 (nF := nF) (w := W) (n := n) (p := p) (j := j) (l := l) (kd := kE W (a 4)) (cs := cE W (a 5)) (A := a 6) (H := H) (q := qs) (a := a3) (by omega) (okE hW) hb hw8 (haw.fr (by rw [m2.ms.2 _ (by omega), cA _ (by omega)])) hn hp hj e58 (by rw [e53]; exact hH53) 8 0 nF (va_up (tq t3 qs l) 3219 0) (by omega) (by omega) (m2.li.fr (by rw [up_ne (by decide), tq_ne (by omega)]) (fun _ _ _ => rfl) hw8) ⟨rfl, rfl, rfl, rfl⟩ (by rw [up_ne (by decide), tq_ne (by omega), m2.ms.1 _ (by omega), cT _ (by omega) (by omega) (by omega) (by omega)]; exact e3205) (up_same _ _ _)
  rw [up_up, emk] at m8
  refine ⟨nI mk, va_up t2 10 (nI mk), a2, va_up (va_up (va_up (tq t3 qs l) 3219 (nI mk)) 3203 0) 3205 0, a3, c7, ?_, ?_⟩
  · unfold fX8_meant
    rw [p2 _ _ (cT _ (by omega) (by omega) (by omega) (by omega)), calS, if_neg one0, m1, calS, e4, calS, show (0 : Int32) = nI 0 from rfl]
    exact m8
  · have mm := m2.ms.tr (mS.tq (q := qs) (l := l))
    have b0 := inv_meant h hmk
    have hs3 : SS (va_up (va_up (va_up (tq t3 qs l) 3219 (nI mk)) 3203 0) 3205 0) a3 := SF_SS _ _ _ _ (fun q hq => by unfold tS at hq; rw [up_ne (by omega), up_ne (by omega), up_ne (by omega), mm.1 q (by omega), up_ne (by omega)]) (fun k hk => by unfold tSA at hk; exact mm.2 k (by omega)) r4
    refine inv_scr b0 hs3 (fun q hq => ?_) (fun k hk => ?_)
    · unfold scT at hq
      by_cases e1 : q = 3205
      · subst e1; rw [up_same, up_same]
      rw [up_ne e1, up_ne e1]
      by_cases e2 : q = 3203
      · subst e2; rw [up_same, up_same]
      rw [up_ne e2, up_ne e2]
      by_cases e3 : q = 3219
      · subst e3; rw [up_same, up_same]
      rw [up_ne e3, up_ne e3, mm.1 q (by omega)]
      by_cases e5 : q = 10
      · subst e5; rw [up_same, up_same]
      rw [up_ne e5, up_ne e5, r5.1 q (by omega)]
      by_cases e6 : q = 833
      · subst e6; rw [up_same, up_same]
      rw [up_ne e6, up_ne e6]
      by_cases e7 : q = 961
      · subst e7; rw [up_same, up_same]
      rw [up_ne e7, up_ne e7, s2.1 q (by omega)]
    · unfold scA at hk
      rw [mm.2 k (by omega), cA k (by omega)]
