/-! what the class's two Sayings keep; calls upon them -/
def o1 : Option Nat → Int32
  | none => -1
  | some b => nI b
def frO (w : Nat) (kd cs : Nat → Nat) (m : Nat) : Option Nat := pick (fun s => decide ((sn w kd cs s).1 = m)) (fun _ => 0) (lv w 4)
def CF (P w : Nat) (kd cs : Nat → Nat) (t : sT) (a : sA) : Prop := t (64 * P + 16) = 0 ∨ (t (64 * P + 16) = 1 ∧ ∀ m, m < 256 → a (P + 8) m = o1 (frO w kd cs m))
def SC (P more : Nat) (t : sT) (a : sA) : Prop := t (64 * P + 1) = nI more ∧ AL P t a ∧ (t (64 * P + 17) = 0 ∨ (t (64 * P + 17) = 1 ∧ ∃ (W G : Nat) (F Z : Nat → Nat), t 196 = nI W ∧ W ≤ 8 ∧ FX P (wN W more) (kE W (a 4)) (cE W (a 5)) (a 6) G F Z t a ∧ CB P (wN W more) (kE W (a 4)) (cE W (a 5)) (a 6) a ∧ CF P (wN W more) (kE W (a 4)) (cE W (a 5)) t a))
def SS (t : sT) (a : sA) : Prop := SC 19 0 t a ∧ SC 30 1 t a
theorem CB.fr {P w : Nat} {kd cs : Nat → Nat} {A : Nat → Int32} {a a' : sA} (h : CB P w kd cs A a) (h3 : a' (P + 3) = a (P + 3)) (h9 : a' (P + 9) = a (P + 9)) (h10 : a' (P + 10) = a (P + 10)) : CB P w kd cs A a' := by
  unfold CB CBat
  rw [h3, h9, h10]
  exact h
theorem CF.fr {P w : Nat} {kd cs : Nat → Nat} {t t' : sT} {a a' : sA} (h : CF P w kd cs t a) (h16 : t' (64 * P + 16) = t (64 * P + 16)) (h8 : a' (P + 8) = a (P + 8)) : CF P w kd cs t' a' := by
  unfold CF
  rw [h16, h8]
  exact h
theorem SC.fr {P more : Nat} {t t' : sT} {a a' : sA} (h : SC P more t a) (h196 : t' 196 = t 196) (ht : ∀ q, 64 * P ≤ q → q < 64 * P + 64 → t' q = t q) (h4 : a' 4 = a 4) (h5 : a' 5 = a 5) (h6 : a' 6 = a 6) (ha : ∀ k, P + 1 ≤ k → k ≤ P + 10 → a' k = a k) : SC P more t' a' := by
  obtain ⟨g1, g2, g3⟩ := h
  refine ⟨by rw [ht _ (by omega) (by omega)]; exact g1, g2.fr (ht _ (by omega) (by omega)) (ha _ (by omega) (by omega)) (ha _ (by omega) (by omega)), ?_⟩
  rw [ht (64 * P + 17) (by omega) (by omega), h4, h5, h6, h196]
  rcases g3 with g3 | ⟨g3, W, G, F, Z, k1, k2, k3, k4, k5⟩
  · exact Or.inl g3
  · exact Or.inr ⟨g3, W, G, F, Z, k1, k2, k3.fr (fun q h1 h2 => ht q (by omega) (by omega)) (fun k h1 h2 => ha k h1 (by omega)), k4.fr (ha _ (by omega) (by omega)) (ha _ (by omega) (by omega)) (ha _ (by omega) (by omega)), k5.fr (ht _ (by omega) (by omega)) (ha _ (by omega) (by omega))⟩
theorem SF_SS : SF SS := by
  intro t t' a a' ht ha h
  obtain ⟨h1, h2⟩ := h
  refine ⟨h1.fr (ht 196 (Or.inl rfl)) (fun q g1 g2 => ht q (by unfold tS; omega)) (ha 4 (by unfold tSA; omega)) (ha 5 (by unfold tSA; omega)) (ha 6 (by unfold tSA; omega)) (fun k g1 g2 => ha k (by unfold tSA; omega)), h2.fr (ht 196 (Or.inl rfl)) (fun q g1 g2 => ht q (by unfold tS; omega)) (ha 4 (by unfold tSA; omega)) (ha 5 (by unfold tSA; omega)) (ha 6 (by unfold tSA; omega)) (fun k g1 g2 => ha k (by unfold tSA; omega))⟩
theorem SD_SS : SD SS := by
  intro t t' a a' ht ha h17 h17' h
  obtain ⟨⟨h1, h2, -⟩, ⟨g1, g2, -⟩⟩ := h
  refine ⟨⟨by rw [ht _ (by unfold tS; omega) (by omega) (by omega) (by omega)]; exact h1, h2.fr (ht _ (by unfold tS; omega) (by omega) (by omega) (by omega)) (ha _ (by unfold tSA; omega) (by omega)) (ha _ (by unfold tSA; omega) (by omega)), Or.inl h17⟩, ⟨by rw [ht _ (by unfold tS; omega) (by omega) (by omega) (by omega)]; exact g1, g2.fr (ht _ (by unfold tS; omega) (by omega) (by omega) (by omega)) (ha _ (by unfold tSA; omega) (by omega)) (ha _ (by unfold tSA; omega) (by omega)), Or.inl h17'⟩⟩
theorem FX.al {P w : Nat} {kd cs : Nat → Nat} {A : Nat → Int32} {G : Nat} {F Z : Nat → Nat} {t : sT} {a : sA} (hT : okT kd cs) (hw : w ≤ 8) (h : FX P w kd cs A G F Z t a) : AL P t a := by
  obtain ⟨hG, hFl⟩ := h.b hw
  obtain ⟨-, -, -, e14, -, h3, -, -, h6, -⟩ := h
  refine ⟨G, hG, e14, fun g hg => ⟨_, sn_ok hT 3 _ (hFl g hg), (h3 g hg).2.2.1⟩, fun k hk => ?_⟩
  by_cases hex : ∃ g, g < G ∧ key (sn w kd cs (F g)) = k
  · obtain ⟨g, hg, e⟩ := hex
    exact Or.inr ⟨g, _, hg, sn_ok hT 3 _ (hFl g hg), (h3 g hg).2.2.1, e⟩
  · exact Or.inl (h6 k hk (fun g hg e => hex ⟨g, hg, e⟩))
theorem wN_le {W more : Nat} : wN W more ≤ 8 := by unfold wN; split <;> omega
theorem wN0 {W : Nat} (h : W ≤ 8) : wN W 0 = W := by unfold wN; rw [if_neg (by omega)]; rfl
theorem wN1 {W : Nat} (h : W < 8) : wN W 1 = W + 1 := by unfold wN; rw [if_neg (by omega)]
theorem ready_ok {nF P more W : Nat} (hF : 10000 ≤ nF) (hP : 19 ≤ P) (hm : more ≤ 1) {t : sT} {a : sA} (q : t 196 = nI W) (hW : okW W (a 4) (a 5)) (hb : okB (a 6)) (h : SC P more t a) : ∃ t' a' G F Z, fX3_refresh nF P t a = some (0, t', a') ∧ t' (64 * P + 17) = 1 ∧ FX P (wN W more) (kE W (a 4)) (cE W (a 5)) (a 6) G F Z t' a' ∧ CB P (wN W more) (kE W (a 4)) (cE W (a 5)) (a 6) a' ∧ CF P (wN W more) (kE W (a 4)) (cE W (a 5)) t' a' ∧ (∀ q, (q < 64 * P + 12 ∨ 64 * P + 18 ≤ q) → t' q = t q) ∧ ∀ k, (k < P + 1 ∨ P + 11 ≤ k) → a' k = a k := by
  have hw8 := hW.1
  obtain ⟨h1, h2, h3⟩ := h
  rcases h3 with h3 | ⟨h3, W', G, F, Z, k1, k2, k3, k4, k5⟩
  · obtain ⟨t', a', g1, ⟨e1, e2, e3, G, F, Z, e4⟩, g3, g4, g5, g6, g7⟩ := refresh_ok hF hP hm q hW hb h1 h3 h2
    exact ⟨t', a', G, F, Z, g1, g4, ⟨e1, e2, e3, e4⟩, fun l j hl hj => Or.inl (g5 _ (by omega)), Or.inl g3, g6, g7⟩
  · have : W' = W := by rw [q] at k1; exact ((x_eq (by omega) (by omega)).mp k1).symm
    subst this
    refine ⟨t, a, G, F, Z, ?_, h3, k3, k4, k5, fun _ _ => rfl, fun _ _ => rfl⟩
    unfold fX3_refresh
    rw [h3, if_neg one0]
theorem SC.mk {P more W : Nat} {t : sT} {a : sA} {A4 A5 A6 : Nat → Int32} {G : Nat} {F Z : Nat → Nat} (hW : okW W A4 A5) (q : t 196 = nI W) (q1 : t (64 * P + 1) = nI more) (h17 : t (64 * P + 17) = 1) (e4 : a 4 = A4) (e5 : a 5 = A5) (e6 : a 6 = A6) (hx : FX P (wN W more) (kE W A4) (cE W A5) A6 G F Z t a) (hc : CB P (wN W more) (kE W A4) (cE W A5) A6 a) (hf : CF P (wN W more) (kE W A4) (cE W A5) t a) : SC P more t a := by
  subst e4 e5 e6
  exact ⟨q1, hx.al (okE hW) wN_le, Or.inr ⟨h17, W, G, F, Z, q, hW.1, hx, hc, hf⟩⟩
/-- scratch: places that no call's answer keeps -/
def scT (q : Nat) : Prop := (1216 ≤ q ∧ q < 1280) ∨ (1920 ≤ q ∧ q < 1984) ∨ (3220 ≤ q ∧ q < 3240)
def scA (k : Nat) : Prop := (20 ≤ k ∧ k ≤ 29) ∨ (31 ≤ k ∧ k ≤ 40) ∨ (62 ≤ k ∧ k < 653)
theorem Lo.fr2 {t t' : sT} {a a' : sA} (ht : ∀ q, ¬ scT q → t' q = t q) (ha : ∀ k, ¬ scA k → a' k = a k) (h : Lo t a) : Lo t' a' := by
  obtain ⟨h1, h2, h3, h4, h5, h6, h7⟩ := h
  have ht : ∀ q, (q < 1216 ∨ (3200 ≤ q ∧ q < 3220)) → t' q = t q := fun q hq => ht q (by unfold scT; omega)
  have ha : ∀ k, (k < 20 ∨ (41 ≤ k ∧ k < 62)) → a' k = a k := fun k hk => ha k (by unfold scA; omega)
  refine ⟨?_, ?_, ?_, ?_, ?_, ?_, ?_⟩
  · rw [ht 65 (by decide), ht 3201 (by decide), ha 2 (by decide), ha 51 (by decide)]; exact h1
  · rw [ht 196 (by decide), ht 197 (by decide), ht 198 (by decide), ht 199 (by decide), ht 3207 (by decide), ht 3211 (by decide), ht 3213 (by decide), ht 3214 (by decide), ha 4 (by decide), ha 5 (by decide), ha 6 (by decide), ha 7 (by decide), ha 55 (by decide), ha 56 (by decide), ha 57 (by decide), ha 58 (by decide)]; exact h2
  · rw [ht 196 (by decide), ht 833 (by decide), ht 3203 (by decide), ha 14 (by decide), ha 52 (by decide)]; exact h3
  · rw [ht 196 (by decide), ht 961 (by decide), ht 3205 (by decide), ha 16 (by decide), ha 53 (by decide)]; exact h4
  · rw [ht 1089 (by decide), ht 3215 (by decide), ha 18 (by decide), ha 59 (by decide), ha 60 (by decide), ha 61 (by decide)]; exact h5
  · rw [ht 10 (by decide), ht 3219 (by decide)]; exact h6
  · rw [ha 49 (by decide), ha 54 (by decide)]; exact h7
theorem inv_scr {N : Nat} {u v : Option Nat} {t t' : sT} {a a' : sA} (h : Inv SS N u v t a) (hs : SS t' a') (ht : ∀ q, ¬ scT q → t' q = t q) (ha : ∀ k, ¬ scA k → a' k = a k) : Inv SS N u v t' a' :=
  ⟨h.1.fr2 ht ha, hs, Hi.fr (fun q hq => ht q (by unfold tH at hq; unfold scT; omega)) (fun k hk => ha k (by unfold tHA at hk; unfold scA; omega)) h.2.2⟩
/-- what both sides know of the tongue -/
def CX (t : sT) (a : sA) (W l tc : Nat) : Prop := t 196 = nI W ∧ t 3207 = nI W ∧ okW W (a 4) (a 5) ∧ okB (a 6) ∧ AG W (kE W (a 4)) (cE W (a 5)) a ∧ AW (a 6) a ∧ t 198 = nI l ∧ t 3213 = nI l ∧ l < 5 ∧ t 199 = nI tc ∧ t 3214 = nI tc ∧ tc < 8
theorem CX_of {t : sT} {a : sA} (h : Lo t a) : ∃ W l tc, CX t a W l tc := by
  obtain ⟨-, ⟨⟨W, hW, q1, q2, q3⟩, p2, -, ⟨l, hl, l1, l2⟩, ⟨tc, htc, c1, c2⟩⟩, -⟩ := h
  refine ⟨W, l, tc, q1, q2, ⟨hW, fun i hi => ⟨(q3 i hi).2.2.1, (q3 i hi).2.2.2⟩⟩, fun i hi => (p2 i hi).2, fun c hc => ?_, fun c hc => (p2 c hc).1.symm, l1, l2, hl, c1, c2, htc⟩
  obtain ⟨e1, e2, ⟨k, hk, k1⟩, m, hm, k2⟩ := q3 c hc
  unfold kE cE
  rw [if_pos hc, if_pos hc, ← e1, ← e2, k1, k2, nI_cl (by omega), nI_cl (by omega)]
  exact ⟨rfl, rfl⟩
theorem AG.fr {w : Nat} {kd cs : Nat → Nat} {a a' : sA} (h : AG w kd cs a) (h5 : a' 55 = a 55) (h6 : a' 56 = a 56) : AG w kd cs a' := by
  unfold AG
  rw [h5, h6]
  exact h
theorem AW.fr {A : Nat → Int32} {a a' : sA} (h : AW A a) (h7 : a' 57 = a 57) : AW A a' := by
  unfold AW
  rw [h7]
  exact h
/-- persons -/
theorem per_ok {nF : Nat} {t : sT} {a : sA} (h : Lo t a) (x : Int32) : (fX6_hasPerson nF 3 x t a = some (0, t, a) ∧ ∀ (t' : sT) (a' : sA), t' 3211 = t 3211 → fX8_isPerson nF x t' a' = some (0, t', a')) ∨ ∃ p j, p < 4 ∧ j < 5 ∧ x = nI p ∧ a 7 p = nI j ∧ a 58 p = tkL j ∧ fX6_hasPerson nF 3 x t a = some (1, t, a) ∧ ∀ (t' : sT) (a' : sA), t' 3211 = t 3211 → fX8_isPerson nF x t' a' = some (1, t', a') := by
  obtain ⟨-, ⟨-, -, ⟨n, hn, p1, p2, p3⟩, -⟩, -⟩ := h
  rcases tri x (n := n) (by omega) with g | ⟨p, hp, rfl⟩ | ⟨g0, g⟩
  · exact Or.inl ⟨p7_neg g, fun t' a' _ => p8_neg g⟩
  · obtain ⟨j, hj, j1, j2⟩ := p3 p hp
    exact Or.inr ⟨p, j, by omega, hj, rfl, j1, j2, p7_yes p1 (by omega) hp, fun t' a' e => p8_yes (e.trans p2) (by omega) hp⟩
  · exact Or.inl ⟨p7_big p1 g0 g, fun t' a' e => p8_big (e.trans p2) (by omega) g0 g⟩
/-- the row that is asked, by the reference -/
def tq (t : sT) (q : Sn) (l : Nat) : sT := va_up (va_up (va_up (va_up t 3228 (nI q.2.2.2)) 3229 (nI q.2.2.1)) 3230 (nI q.1)) 3231 (nI l)
theorem tq_ne {t : sT} {q : Sn} {l k : Nat} (h : k < 3228 ∨ 3232 ≤ k) : tq t q l k = t k := by
  unfold tq
  rw [up_ne (by omega), up_ne (by omega), up_ne (by omega), up_ne (by omega)]
theorem tq_q {t : sT} {q : Sn} {l : Nat} : LQ q (nI l) (tq t q l) := ⟨rfl, rfl, rfl, rfl⟩
theorem ask_ok {t : sT} {a : sA} (h : Lo t a) {l : Nat} (hl : t 3213 = nI l) : ∃ q : Sn, okX q 6 ∧ (∀ nF, 100 ≤ nF → fX2_sense nF 13 3 t a = some (nI (pkS q), t, a)) ∧ ∀ nF (t' : sT) (a' : sA), 100 ≤ nF → t' 3203 = t 3203 → t' 3213 = t 3213 → a' 55 = a 55 → a' 56 = a 56 → a' 52 = a 52 → fX8_asksRow nF t' a' = some (0, tq t' q l, a') := by
  obtain ⟨k, wn, m, f, id, hk, hwn, q1, q2, r2, r3, i1, i2, i3, e1, e2, e3⟩ := row_ok h
  refine ⟨(m, f, id, k), ⟨i1, i2, i3, hk⟩, fun nF hF => e1 nF hF, fun nF t' a' hF p1 p2 p3 p4 p5 => ?_⟩
  unfold fX8_asksRow fX8_asks
  rw [p1, r3, e3 nF t' a' hF p3 p4 p5, calS, p1, r3, e2 nF t' a' hF p3 p4 p5, calS, p2, hl, calS]
  rfl
