/-! what a question leaves, and the best one: by the class -/
section LU
variable {nF P w : Nat} {kd cs : Nat → Nat} {A : Nat → Int32} {G : Nat} {F Z : Nat → Nat} {t : sT} {a : sA}
theorem w_pos {A : Nat → Int32} (hA : okB A) {c : Nat} (hc : c < 8) : ∃ k, k ≤ 9 ∧ A c = nI k ∧ (A c).toNatClampNeg = k ∧ (A c ≤ 0 ↔ k = 0) := by
  obtain ⟨k, hk, e⟩ := hA c hc
  refine ⟨k, hk, e, by rw [e, nI_cl (by omega)], ?_⟩
  rw [e, show (0 : Int32) = nI 0 from rfl, x_le (by omega) (by omega)]
  omega
theorem left_ok (hF : 1000 ≤ nF) (hT : okT kd cs) (hw : w ≤ 8) (hA : okB A) (h6 : a 6 = A) (hP : 19 ≤ P) (h : FX P w kd cs A G F Z t a) {q : Sn} (hq : okX q 6) (L : Int32) {j : Nat} (hj : j < 5) : ∃ t' a', fX3_leftUnder nF P (nI (pkS q)) (nI j) L t a = some (nI (LF w kd cs A j L q), t', a') ∧ FX P w kd cs A G F Z t' a' ∧ (∀ q, q ≠ 64 * P + 15 → t' q = t q) ∧ ∀ k, k ≠ P + 7 → a' k = a k := by
  obtain ⟨t', a', f, fit, g1, g2, g3, g4, g5⟩ := gather_ok hF hT hw h hq L
  refine ⟨t', a', ?_, g2, g4, g5⟩
  have e6 : a' 6 = A := by rw [g5 6 (by omega), h6]
  obtain ⟨hG, hFl⟩ := g2.b hw
  have wt := weight7 (nF := nF) (t := t') (a := a') (by omega) (by rw [e6]; exact hA) 255
  rw [e6] at wt
  unfold fX3_leftUnder
  rw [g1, calS, wt, calS]
  have go : ∀ d c n, c + d = 8 → d < n → gX3_leftUnder nF P n (nI j) (nI (wS A 255 8)) (nI (sumN (fun c => (A c).toNatClampNeg * oW w kd cs A (pkO w kd cs A j L q c)) c)) (nI c) t' a' = some (nI (LF w kd cs A j L q), t', a') := by
    intro d
    induction d with
    | zero =>
      intro c n hc hn
      obtain ⟨n, rfl⟩ : ∃ m, n = m + 1 := ⟨n - 1, by omega⟩
      have : c = 8 := by omega
      subst this
      show gX3_leftUnder_24 nF P (gX3_leftUnder nF P n) _ _ _ _ t' a' = _
      unfold gX3_leftUnder_24
      rw [if_pos (by decide)]
      rfl
    | succ d ih =>
      intro c n hc hn
      obtain ⟨n, rfl⟩ : ∃ m, n = m + 1 := ⟨n - 1, by omega⟩
      obtain ⟨k, hk, k1, k2, k3⟩ := w_pos hA (show c < 8 by omega)
      have ih := ih (c + 1) n (by omega) (by omega)
      have e0 : sumN (fun c => (A c).toNatClampNeg * oW w kd cs A (pkO w kd cs A j L q c)) (c + 1) = sumN (fun c => (A c).toNatClampNeg * oW w kd cs A (pkO w kd cs A j L q c)) c + k * oW w kd cs A (pkO w kd cs A j L q c) := by
        show _ + (A c).toNatClampNeg * _ = _
        rw [k2]
      rw [e0] at ih
      show gX3_leftUnder_24 nF P (gX3_leftUnder nF P n) _ _ _ _ t' a' = _
      unfold gX3_leftUnder_24
      rw [if_neg (by rw [show (8 : Int32) = nI 8 from rfl, x_le (by omega) (by omega)]; omega), bnd_ok (by omega) (by decide), nI_cl (by omega), e6, nI_1]
      by_cases hk0 : k = 0
      · subst hk0
        rw [if_pos (k3.mpr rfl)]
        rw [Nat.zero_mul, Nat.add_zero] at ih
        exact ih
      · rw [if_neg (fun y => hk0 (k3.mp y))]
        obtain ⟨v, v1, v2⟩ := chosen_ok (nF := nF) hF hT hw hA g2 g3 hj (show c < 8 by omega)
        rw [v1, calS, bnd_ok (by omega) (by decide), e6, k1]
        cases hp : pkO w kd cs A j L q c with
        | none =>
          rw [hp] at v2 ih
          have v2 : v = -1 := v2
          rw [v2, if_neg (by decide), pk_mul, nI_add]
          exact ih
        | some b =>
          rw [hp] at v2 ih
          obtain ⟨g, hg, rfl, hb⟩ := v2
          obtain ⟨-, -, -, -, -, h3, -⟩ := g2
          obtain ⟨-, -, -, -, -, q6, -⟩ := h3 g hg
          rw [if_pos (Int32.not_lt.mp (nneg (by omega))), bnd_ok (by omega) (by decide), nI_cl (by omega), q6, pk_mul, nI_add, hb]
          exact ih
  exact go 8 0 nF (by omega) (by omega)
/-- group 0 is the saying without words -/
theorem grp0 (hT : okT kd cs) (hw : w ≤ 8) (h : FX P w kd cs A G F Z t a) : 0 < G ∧ F 0 = 0 ∧ (∀ g, 0 < g → g < G → 0 < F g) ∧ ∀ i, 0 < i → i < lv w 3 → ∃ g, 0 < g ∧ g < G ∧ F g ≤ i ∧ sk (sn w kd cs (F g)) (sn w kd cs i) := by
  obtain ⟨hG, hFl⟩ := h.b hw
  obtain ⟨-, -, -, -, -, h3, h4, h5, -⟩ := h
  obtain ⟨g0, hg0, q1, -⟩ := h5 0 (lv_pos 3)
  have z0 : g0 = 0 := by
    rcases Nat.eq_zero_or_pos g0 with e | e
    · exact e
    · have := h4 0 g0 e hg0; omega
  subst z0
  have hF0 : F 0 = 0 := by omega
  refine ⟨hg0, hF0, fun g h1 h2 => by have := h4 0 g h1 h2; omega, fun i h1 h2 => ?_⟩
  obtain ⟨g, hg, g1, g2⟩ := h5 i h2
  have hs := key_sk (sn_ok hT 3 _ (hFl g hg)) (sn_ok hT 3 i h2) g2
  refine ⟨g, ?_, hg, g1, hs⟩
  rcases Nat.eq_zero_or_pos g with e | e
  · exfalso
    subst e
    have e1 := hs.2.2
    have e2 : (sn w kd cs (F 0)).2.2.2 = 0 := by rw [hF0]; rfl
    have e3 := sn_ln (w := w) (kd := kd) (cs := cs) (k := 0) h1
    omega
  · exact e
/-- a best question that is kept -/
def CBat (P w : Nat) (kd cs : Nat → Nat) (A : Nat → Int32) (l j : Nat) (a : sA) : Prop := ∃ b g, g < 585 ∧ bestO w kd cs A j (nI l) = some b ∧ a (P + 9) (l * 5 + j) = nI g ∧ a (P + 3) g = nI b ∧ a (P + 10) (l * 5 + j) = nI (LF w kd cs A j (nI l) (sn w kd cs b))
def CB (P w : Nat) (kd cs : Nat → Nat) (A : Nat → Int32) (a : sA) : Prop := ∀ l j, l < 5 → j < 5 → a (P + 10) (l * 5 + j) = -1 ∨ CBat P w kd cs A l j a
theorem bestO_G (hT : okT kd cs) (hw : w ≤ 8) (h : FX P w kd cs A G F Z t a) {j : Nat} {L : Int32} : bestO w kd cs A j L = (pick (fun g => decide (1 ≤ g)) (fun g => 6000 - LF w kd cs A j L (sn w kd cs (F g))) G).map F := by
  obtain ⟨hG, hFl⟩ := h.b hw
  obtain ⟨f1, f2, f3, f4⟩ := grp0 hT hw h
  obtain ⟨-, -, -, -, -, h3, h4, h5, -⟩ := h
  refine pick_map F (fun k i hki hi => h4 k i hki hi) hFl (fun k hk => ?_) (fun _ _ => rfl) (fun i hi hei => ?_)
  · rcases Nat.eq_zero_or_pos k with e | e
    · subst e; rw [f2]
    · have := f3 k e hk
      rw [decide_eq_true (show 1 ≤ k from e), decide_eq_true (show 1 ≤ F k from this)]
  · obtain ⟨g, g1, g2, g3, g4⟩ := f4 i (decide_eq_true_iff.mp hei) hi
    refine ⟨g, g2, g3, decide_eq_true g1, ?_⟩
    show 6000 - LF w kd cs A j L (sn w kd cs (F g)) = 6000 - LF w kd cs A j L (sn w kd cs i)
    rw [LF_sq g4]
theorem findBest_ok (hF : 1000 ≤ nF) (hT : okT kd cs) (hw : w ≤ 8) (hw0 : 0 < w) (hA : okB A) (h6 : a 6 = A) (hP : 19 ≤ P) (hfr : t (64 * P + 17) = 1) (h : FX P w kd cs A G F Z t a) (hc : CB P w kd cs A a) {l j : Nat} (hl : l < 5) (hj : j < 5) : ∃ t' a', fX3_findBest nF P (nI j) (nI l) t a = some (nI (l * 5 + j), t', a') ∧ FX P w kd cs A G F Z t' a' ∧ CB P w kd cs A a' ∧ CBat P w kd cs A l j a' ∧ (∀ q, q ≠ 64 * P + 15 → t' q = t q) ∧ ∀ k, k ≠ P + 7 → k ≠ P + 9 → k ≠ P + 10 → a' k = a k := by
  obtain ⟨hG, hFl⟩ := h.b hw
  obtain ⟨f1, f2, f3, f4⟩ := grp0 hT hw h
  have hn : 1 < lv w 3 := by
    have : ∀ w, w < 9 → 0 < w → 1 < lv w 3 := by decide
    exact this w (by omega) hw0
  have hG2 : 1 < G := by
    obtain ⟨g, g1, g2, -⟩ := f4 1 (by omega) hn
    omega
  have h1 := h
  obtain ⟨e12, e13, es, e14, -, h3, -⟩ := h1
  have at1 : nI l * 5 + nI j = nI (l * 5 + j) := by rw [show (5 : Int32) = nI 5 from rfl, pk_mul, nI_add]
  have hat : l * 5 + j < 25 := by omega
  have rfr : fX3_refresh nF P t a = some (0, t, a) := by
    unfold fX3_refresh
    rw [hfr, if_neg one0]
  have st : fX3_findBest nF P (nI j) (nI l) t a = (if 0 ≤ a (P + 10) (l * 5 + j) then some (nI (l * 5 + j), t, a) else cal (fX3_leftUnder nF P (a (P + 2) 1) (nI j) (nI l) t (va_up a (P + 9) (upd (a (P + 9)) (l * 5 + j) 1))) (fun v3 t3 a3 => gX3_findBest nF P nF (nI j) (nI l) (nI (l * 5 + j)) 2 t3 (va_up a3 (P + 10) (upd (a3 (P + 10)) (l * 5 + j) v3)))) := by
    unfold fX3_findBest
    rw [rfr, calS, e14, if_neg (show ¬ nI G < 2 by rw [show (2 : Int32) = nI 2 from rfl, x_lt (by omega) (by omega)]; omega), if_neg (nneg (by omega)), if_neg (show ¬ (5 : Int32) ≤ nI j by rw [show (5 : Int32) = nI 5 from rfl, x_le (by omega) (by omega)]; omega), l7_yes hl, calS, if_neg one0, at1, bnd_ok hat (by decide), bnd_ok hat (by decide), nI_cl (by omega), bnd1 (by decide) (by decide), up_ne (show P + 2 ≠ P + 9 by omega)]
    congr 2
    funext v3 t3 a3
    rw [bnd_ok hat (by decide)]
  rw [st]
  rcases hc l j hl hj with e | hcb
  · rw [e, if_neg (by decide)]
    obtain ⟨-, -, g3, -⟩ := h3 1 hG2
    have hx : FX P w kd cs A G F Z t (va_up a (P + 9) (upd (a (P + 9)) (l * 5 + j) 1)) := h.fr (fun _ _ _ => rfl) (fun k h1 h2 => up_ne (by omega))
    obtain ⟨t3, a3, i1, i2, i3, i4⟩ := left_ok (nF := nF) hF hT hw hA (by rw [up_ne (by omega)]; exact h6) hP hx ((sn_ok hT 3 (F 1) (hFl 1 hG2)).le (by decide)) (nI l) hj
    rw [g3, i1, calS]
    have go : ∀ d g n b (t9 : sT) (a9 : sA), g + d = G → d < n → a9 6 = A → FX P w kd cs A G F Z t9 a9 → a9 (P + 9) (l * 5 + j) = nI b → a9 (P + 10) (l * 5 + j) = nI (LF w kd cs A j (nI l) (sn w kd cs (F b))) → pick (fun g => decide (1 ≤ g)) (fun g => 6000 - LF w kd cs A j (nI l) (sn w kd cs (F g))) g = some b → ∃ t' a', gX3_findBest nF P n (nI j) (nI l) (nI (l * 5 + j)) (nI g) t9 a9 = some (nI (l * 5 + j), t', a') ∧ FX P w kd cs A G F Z t' a' ∧ CBat P w kd cs A l j a' ∧ (∀ q, q ≠ 64 * P + 15 → t' q = t9 q) ∧ (∀ k, k ≠ P + 7 → k ≠ P + 9 → k ≠ P + 10 → a' k = a9 k) ∧ ∀ i, i ≠ l * 5 + j → a' (P + 9) i = a9 (P + 9) i ∧ a' (P + 10) i = a9 (P + 10) i := by
      intro d
      induction d with
      | zero =>
        intro g n b t9 a9 hg hn e1 e2 e3 e4 e5
        obtain ⟨n, rfl⟩ : ∃ m, n = m + 1 := ⟨n - 1, by omega⟩
        have : g = G := by omega
        subst this
        have hb := (pick_lt e5).1
        refine ⟨t9, a9, ?_, e2, ⟨F b, b, by omega, ?_, e3, ?_, e4⟩, fun _ _ => rfl, fun _ _ _ _ => rfl, fun _ _ => ⟨rfl, rfl⟩⟩
        · show gX3_findBest_73 nF P (gX3_findBest nF P n) _ _ _ _ t9 a9 = _
          unfold gX3_findBest_73
          rw [e2.2.2.2.1, if_pos ((x_le (by omega) (by omega)).mpr (Nat.le_refl _))]
        · rw [bestO_G hT hw h, e5]; rfl
        · exact (e2.2.2.2.2.2.1 b hb).2.2.2.1
      | succ d ih =>
        intro g n b t9 a9 hg hn e1 e2 e3 e4 e5
        obtain ⟨n, rfl⟩ : ∃ m, n = m + 1 := ⟨n - 1, by omega⟩
        obtain ⟨-, -, q3, -⟩ := e2.2.2.2.2.2.1 g (by omega)
        obtain ⟨t4, a4, j1, j2, j3, j4⟩ := left_ok (nF := nF) hF hT hw hA e1 hP e2 ((sn_ok hT 3 (F g) (hFl g (by omega))).le (by decide)) (nI l) hj
        have l1 := LF_le (w := w) (kd := kd) (cs := cs) (j := j) (L := nI l) (q := sn w kd cs (F b)) hA
        have l2 := LF_le (w := w) (kd := kd) (cs := cs) (j := j) (L := nI l) (q := sn w kd cs (F g)) hA
        have hgp : decide (1 ≤ g) = true := by
          have := pick_lt e5
          exact decide_eq_true (by omega)
        have e0 : pick (fun g => decide (1 ≤ g)) (fun g => 6000 - LF w kd cs A j (nI l) (sn w kd cs (F g))) (g + 1) = if LF w kd cs A j (nI l) (sn w kd cs (F g)) < LF w kd cs A j (nI l) (sn w kd cs (F b)) then some g else some b := by
          show (match pick (fun g => decide (1 ≤ g)) (fun g => 6000 - LF w kd cs A j (nI l) (sn w kd cs (F g))) g with
            | none => if decide (1 ≤ g) then some g else none
            | some b => if decide (1 ≤ g) && decide (6000 - LF w kd cs A j (nI l) (sn w kd cs (F b)) < 6000 - LF w kd cs A j (nI l) (sn w kd cs (F g))) then some g else some b) = _
          rw [e5]
          show (if decide (1 ≤ g) && decide (6000 - LF w kd cs A j (nI l) (sn w kd cs (F b)) < 6000 - LF w kd cs A j (nI l) (sn w kd cs (F g))) then some g else some b) = _
          rw [hgp, Bool.true_and]
          by_cases hlt : LF w kd cs A j (nI l) (sn w kd cs (F g)) < LF w kd cs A j (nI l) (sn w kd cs (F b))
          · rw [if_pos hlt, if_pos (decide_eq_true (by omega))]
          · rw [if_neg hlt, if_neg (by rw [decide_eq_true_iff]; omega)]
        have st2 : gX3_findBest nF P (n + 1) (nI j) (nI l) (nI (l * 5 + j)) (nI g) t9 a9 = (if LF w kd cs A j (nI l) (sn w kd cs (F g)) < LF w kd cs A j (nI l) (sn w kd cs (F b)) then gX3_findBest nF P n (nI j) (nI l) (nI (l * 5 + j)) (nI (g + 1)) t4 (va_up (va_up a4 (P + 10) (upd (a4 (P + 10)) (l * 5 + j) (nI (LF w kd cs A j (nI l) (sn w kd cs (F g)))))) (P + 9) (upd (a4 (P + 9)) (l * 5 + j) (nI g))) else gX3_findBest nF P n (nI j) (nI l) (nI (l * 5 + j)) (nI (g + 1)) t4 a4) := by
          show gX3_findBest_73 nF P (gX3_findBest nF P n) _ _ _ _ t9 a9 = _
          unfold gX3_findBest_73
          rw [e2.2.2.2.1, if_neg (by rw [x_le (by omega) (by omega)]; omega), bnd_ok (show g < 585 by omega) (by decide), nI_cl (by omega), q3, j1, calS, bnd_ok hat (by decide), nI_cl (by omega), bnd_ok hat (by decide), bnd_ok hat (by decide), nI_1, j4 (P + 10) (by omega), e4, up_ne (show P + 9 ≠ P + 10 by omega)]
          by_cases hlt : LF w kd cs A j (nI l) (sn w kd cs (F g)) < LF w kd cs A j (nI l) (sn w kd cs (F b))
          · rw [if_pos hlt, if_neg (by rw [x_le (by omega) (by omega)]; omega)]
          · rw [if_neg hlt, if_pos ((x_le (by omega) (by omega)).mpr (by omega))]
        rw [st2]
        by_cases hlt : LF w kd cs A j (nI l) (sn w kd cs (F g)) < LF w kd cs A j (nI l) (sn w kd cs (F b))
        · rw [if_pos hlt]
          rw [if_pos hlt] at e0
          have hx5 : FX P w kd cs A G F Z t4 (va_up (va_up a4 (P + 10) (upd (a4 (P + 10)) (l * 5 + j) (nI (LF w kd cs A j (nI l) (sn w kd cs (F g)))))) (P + 9) (upd (a4 (P + 9)) (l * 5 + j) (nI g))) := j2.fr (fun _ _ _ => rfl) (fun k h1 h2 => by rw [up_ne (by omega), up_ne (by omega)])
          obtain ⟨t', a', k1, k2, k3, k4, k5, k6⟩ := ih (g + 1) n g t4 _ (by omega) (by omega) (by rw [up_ne (by omega), up_ne (by omega), j4 6 (by omega)]; exact e1) hx5 (by rw [up_same, upd_same]) (by rw [up_ne (by omega), up_same, upd_same]) e0
          refine ⟨t', a', k1, k2, k3, fun q hq => by rw [k4 q hq, j3 q hq], fun k h1 h2 h3 => by rw [k5 k h1 h2 h3, up_ne h2, up_ne h3, j4 k h1], fun i hi => ?_⟩
          obtain ⟨m1, m2⟩ := k6 i hi
          rw [m1, m2, up_same, upd_ne hi, up_ne (show P + 10 ≠ P + 9 by omega), up_same, upd_ne hi, j4 _ (by omega), j4 _ (by omega)]
          exact ⟨rfl, rfl⟩
        · rw [if_neg hlt]
          rw [if_neg hlt] at e0
          obtain ⟨t', a', k1, k2, k3, k4, k5, k6⟩ := ih (g + 1) n b t4 a4 (by omega) (by omega) (by rw [j4 6 (by omega)]; exact e1) j2 (by rw [j4 _ (by omega)]; exact e3) (by rw [j4 _ (by omega)]; exact e4) e0
          refine ⟨t', a', k1, k2, k3, fun q hq => by rw [k4 q hq, j3 q hq], fun k h1 h2 h3 => by rw [k5 k h1 h2 h3, j4 k h1], fun i hi => ?_⟩
          obtain ⟨m1, m2⟩ := k6 i hi
          rw [m1, m2, j4 _ (by omega), j4 _ (by omega)]
          exact ⟨rfl, rfl⟩
    have hx3 : FX P w kd cs A G F Z t3 (va_up a3 (P + 10) (upd (a3 (P + 10)) (l * 5 + j) (nI (LF w kd cs A j (nI l) (sn w kd cs (F 1)))))) := i2.fr (fun _ _ _ => rfl) (fun k h1 h2 => up_ne (by omega))
    obtain ⟨t', a', k1, k2, k3, k4, k5, k6⟩ := go (G - 2) 2 nF 1 t3 _ (by omega) (by omega) (by rw [up_ne (by omega), i4 6 (by omega), up_ne (by omega)]; exact h6) hx3 (by rw [up_ne (by omega), i4 _ (by omega), up_same, upd_same]; rfl) (by rw [up_same, upd_same]) rfl
    have kk : ∀ i, i ≠ l * 5 + j → a' (P + 9) i = a (P + 9) i ∧ a' (P + 10) i = a (P + 10) i := fun i hi => by
      obtain ⟨m1, m2⟩ := k6 i hi
      rw [m1, m2, up_ne (show P + 9 ≠ P + 10 by omega), up_same, upd_ne hi, i4 _ (by omega), i4 _ (by omega), up_same, upd_ne hi, up_ne (by omega)]
      exact ⟨rfl, rfl⟩
    refine ⟨t', a', k1, k2, fun l' j' hl' hj' => ?_, k3, fun q hq => by rw [k4 q hq, i3 q hq], fun k h1 h2 h3 => by rw [k5 k h1 h2 h3, up_ne h3, i4 k h1, up_ne h2]⟩
    by_cases e9 : l' * 5 + j' = l * 5 + j
    · have : l' = l := by omega
      subst this
      have : j' = j := by omega
      subst this
      exact Or.inr k3
    · rcases hc l' j' hl' hj' with q | ⟨b, g, q1, q2, q3, q4, q5⟩
      · exact Or.inl (by rw [(kk _ e9).2]; exact q)
      · refine Or.inr ⟨b, g, q1, q2, by rw [(kk _ e9).1]; exact q3, ?_, by rw [(kk _ e9).2]; exact q5⟩
        rw [k5 (P + 3) (by omega) (by omega) (by omega), up_ne (by omega), i4 _ (by omega), up_ne (by omega)]
        exact q4
  · have h9 := hcb
    obtain ⟨b, g, q1, q2, q3, q4, q5⟩ := h9
    have := LF_le (w := w) (kd := kd) (cs := cs) (j := j) (L := nI l) (q := sn w kd cs b) hA
    rw [q5, if_pos (Int32.not_lt.mp (nneg (by omega)))]
    exact ⟨t, a, rfl, h, hc, hcb, fun _ _ => rfl, fun _ _ _ _ => rfl⟩
end LU
