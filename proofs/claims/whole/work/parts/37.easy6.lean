/-! easy calls: count, chance, longest, last -/
theorem stp30 {nF : Nat} (hF : 100 ≤ nF) {S : sT → sA → Prop} (hS : SF S) : stp_30 nF (Inv S) := by
  intro x N u v t a h
  obtain ⟨hb1, hb2, hb3⟩ := wt_ok h.1
  obtain ⟨w, hw, w1, w2, -⟩ := h.1.2.1.1
  obtain ⟨pn, hp, p1, p2, -⟩ := h.1.2.1.2.2.1
  obtain ⟨lw, hlw, l1, l2⟩ := h.1.2.1.2.2.2.1
  obtain ⟨tc, htc, c1, c2⟩ := h.1.2.1.2.2.2.2
  obtain ⟨ln, hln, n1, n2, -⟩ := h.1.1
  obtain ⟨k, wn, hk, hwn, -, r2, r3, -⟩ := h.1.2.2.1
  obtain ⟨k', wn', hk', hwn', -, s2, s3, -⟩ := h.1.2.2.2.1
  obtain ⟨n, hn, t1, t2, -⟩ := h.1.2.2.2.2.1
  have rf := h.1.2.2.2.2.2.2
  by_cases g : x < 11
  · have lo : fX8_in nF x 11 16 t a = some (0, t, a) := in8_0 (Or.inl g)
    unfold St2 at *
    by_cases g0 : x = 0
    · exact st_same h (w := nI w) (by unfold fX7_count; rw [if_pos g, if_pos g0, w1]) (by unfold fX8_count; rw [if_pos g0, w2])
    by_cases g1 : x = 1
    · exact st_same h (w := nI pn) (by unfold fX7_count; rw [if_pos g, if_neg g0, if_pos g1, p1]) (by unfold fX8_count; rw [if_neg g0, if_pos g1, p2])
    by_cases g2 : x = 2
    · exact st_same h (w := nI n) (by unfold fX7_count; rw [if_pos g, if_neg g0, if_neg g1, if_pos g2, t1]) (by unfold fX8_count; rw [if_neg g0, if_neg g1, if_pos g2, t2])
    by_cases g3 : x = 3
    · exact st_same h (w := nI k) (by unfold fX7_count; rw [if_pos g, if_neg g0, if_neg g1, if_neg g2, if_pos g3, r2]) (by unfold fX8_count; rw [if_neg g0, if_neg g1, if_neg g2, if_pos g3, r3])
    by_cases g4 : x = 4
    · exact st_same h (w := nI ln) (by unfold fX7_count; rw [if_pos g, if_neg g0, if_neg g1, if_neg g2, if_neg g3, if_pos g4, n1]) (by unfold fX8_count; rw [if_neg g0, if_neg g1, if_neg g2, if_neg g3, if_pos g4, n2])
    by_cases g5 : x = 5
    · exact st_same h (w := nI lw) (by unfold fX7_count; rw [if_pos g, if_neg g0, if_neg g1, if_neg g2, if_neg g3, if_neg g4, if_pos g5, l1]) (by unfold fX8_count; rw [if_neg g0, if_neg g1, if_neg g2, if_neg g3, if_neg g4, if_pos g5, l2])
    by_cases g6 : x = 6
    · exact st_same h (w := nI tc) (by unfold fX7_count; rw [if_pos g, if_neg g0, if_neg g1, if_neg g2, if_neg g3, if_neg g4, if_neg g5, if_pos g6, c1]) (by unfold fX8_count; rw [if_neg g0, if_neg g1, if_neg g2, if_neg g3, if_neg g4, if_neg g5, if_pos g6, c2])
    by_cases g7 : x = 7
    · exact st_same h (w := nI (wS (a 6) 255 8)) (by unfold fX7_count; rw [if_pos g, if_neg g0, if_neg g1, if_neg g2, if_neg g3, if_neg g4, if_neg g5, if_neg g6, if_pos g7, weight7 hF hb1, calS]) (by unfold fX8_count; rw [if_neg g0, if_neg g1, if_neg g2, if_neg g3, if_neg g4, if_neg g5, if_neg g6, if_pos g7, weight8 hF hb2, calS, hb3])
    by_cases g8 : x = 8
    · exact st_same h (w := nI k') (by unfold fX7_count; rw [if_pos g, if_neg g0, if_neg g1, if_neg g2, if_neg g3, if_neg g4, if_neg g5, if_neg g6, if_neg g7, if_pos g8, s2]) (by unfold fX8_count; rw [if_neg g0, if_neg g1, if_neg g2, if_neg g3, if_neg g4, if_neg g5, if_neg g6, if_neg g7, if_pos g8, s3])
    · exact st_same h (w := -9) (by unfold fX7_count; rw [if_pos g, if_neg g0, if_neg g1, if_neg g2, if_neg g3, if_neg g4, if_neg g5, if_neg g6, if_neg g7, if_neg g8]) (by unfold fX8_count; rw [if_neg g0, if_neg g1, if_neg g2, if_neg g3, if_neg g4, if_neg g5, if_neg g6, if_neg g7, if_neg g8, lo, calS, if_pos rfl])
  · have ne : ∀ y : Int32, y < 11 → ¬ x = y := fun y hy e => g (e ▸ hy)
    by_cases g16 : (16 : Int32) < x
    · exact st_same h (w := -9) (by unfold fX7_count; rw [if_neg g, if_pos g16, if_neg (ne 0 (by decide)), if_neg (ne 1 (by decide)), if_neg (ne 2 (by decide)), if_neg (ne 3 (by decide)), if_neg (ne 4 (by decide)), if_neg (ne 5 (by decide)), if_neg (ne 6 (by decide)), if_neg (ne 7 (by decide)), if_neg (ne 8 (by decide))]) (by unfold fX8_count; rw [if_neg (ne 0 (by decide)), if_neg (ne 1 (by decide)), if_neg (ne 2 (by decide)), if_neg (ne 3 (by decide)), if_neg (ne 4 (by decide)), if_neg (ne 5 (by decide)), if_neg (ne 6 (by decide)), if_neg (ne 7 (by decide)), if_neg (ne 8 (by decide)), in8_0 (Or.inr g16), calS, if_pos rfl])
    · have x0 : ¬ x < 0 := fun y => g (Int32.lt_trans y (by decide))
      obtain ⟨j, hj, rfl⟩ := nI_of2 (M := 16) (n := 16) rfl x0 (Int32.not_lt.mp g16)
      have j11 : 11 ≤ j := by
        rcases Nat.lt_or_ge j 11 with q | q
        · exact absurd ((x_lt (a := j) (b := 11) (by omega) (by omega)).mpr q) g
        · exact q
      have js : nI j - 10 = nI (j - 10) := pk_sub (a := j) (b := 10) (by omega)
      exact st_same h (w := a 49 (j - 10)) (by unfold fX7_count; rw [if_neg g, if_neg g16, js, bnd_ok (by omega) (by decide), nI_cl (by omega)]) (by unfold fX8_count; rw [if_neg (ne 0 (by decide)), if_neg (ne 1 (by decide)), if_neg (ne 2 (by decide)), if_neg (ne 3 (by decide)), if_neg (ne 4 (by decide)), if_neg (ne 5 (by decide)), if_neg (ne 6 (by decide)), if_neg (ne 7 (by decide)), if_neg (ne 8 (by decide)), in8_1 g g16, calS, if_neg one0, js, bnd_ok (by omega) (by decide), nI_cl (by omega), rf (j - 10) (by omega)])
theorem dvz_ok {ρ : Type} {g : Nat} {A : Option ρ} (h : 0 < g) (h2 : g < 2 ^ 31) : dvz (nI g) A = A := by
  unfold dvz
  rw [if_neg (by rw [nI0 h2]; omega)]
theorem stp18 {nF : Nat} (hF : 100 ≤ nF) {S : sT → sA → Prop} (hS : SF S) : stp_18 nF (Inv S) := by
  intro x y N u v t a h
  obtain ⟨hb1, hb2, hb3⟩ := wt_ok h.1
  obtain ⟨mn, hmn, m1, m2⟩ := h.1.2.2.2.2.2.1
  have q3 := h.1.2.1.2.1
  have no : (fX7_isCase nF x t a = some (0, t, a)) → (∀ b, fX8_isCase nF x t b = some (0, t, b)) → ∃ r t1 a1 t2 a2, fX7_chance nF x y t a = some (r, t1, a1) ∧ fX8_chance nF x y t1 a1 = some (r, t2, a2) ∧ Inv S N u v t2 a2 := by
    intro g1 g2
    refine st_ref hS h 1 (w := -1) ?_ ?_
    · unfold fX7_chance; rw [cal_of g1, if_pos rfl, R7_1]; rfl
    · unfold fX8_chance; rw [cal_of (g2 _), if_pos rfl, R8_1]; rfl
  rcases tri x (n := 8) (by omega) with g | ⟨j, hj, rfl⟩ | ⟨g0, g⟩
  · exact no (c7_neg g) (fun b => c8_neg g)
  · by_cases y01 : y = 0 ∨ y = 1
    · have yin : fX8_in nF y 0 1 t a = some (1, t, a) := by
        rcases y01 with rfl | rfl
        · exact in8_1 (by decide) (by decide)
        · exact in8_1 (by decide) (by decide)
      have sh : fX7_chance nF (nI j) y t a = if (((t 10) >>> (nI j &&& 31)) &&& (1 : Int32)) = 0 then some (y, t, a) else (bnd (nI j) 8 (if (a 6 (nI j).toNatClampNeg) = 0 then (some (y, t, a)) else (cal (fX6_weightOf nF 3 (t 10) t a) (fun v2 t2 a2 => cal (fX7_commonDivisor nF v2 (a 6 (nI j).toNatClampNeg) t2 a2) (fun v3 t3 a3 => if v3 = 0 then (some (y, t3, a3)) else (if y = 0 then (dvz v3 (some ((a 6 (nI j).toNatClampNeg) / v3, t3, a3))) else (dvz v3 (some (v2 / v3, t3, a3))))))))) := by
        unfold fX7_chance
        rw [c7_yes hj, calS, if_neg one0]
        rcases y01 with rfl | rfl
        · rw [if_pos rfl, if_pos rfl]
        · rw [if_neg one0, if_pos rfl, if_pos rfl]
      by_cases bz : (((t 10) >>> (nI j &&& 31)) &&& (1 : Int32)) = 0
      · refine st_same h (w := y) ?_ ?_
        · rw [sh, if_pos bz]
        · unfold fX8_chance
          rw [c8_yes hj, calS, if_neg one0, yin, calS, if_neg one0, m2, ← m1, if_pos bz, weight8 hF hb2, calS, if_pos rfl]
      · obtain ⟨q4, c, hc, q5⟩ := q3 j hj
        rcases Nat.eq_zero_or_pos c with rfl | hcp
        · refine st_same h (w := y) ?_ ?_
          · rw [sh, if_neg bz, bnd_ok hj (by decide), nI_cl (by omega), q5, if_pos z00]
          · unfold fX8_chance
            rw [c8_yes hj, calS, if_neg one0, yin, calS, if_neg one0, m2, ← m1, if_neg bz, bnd_ok hj (by decide), weight8 hF hb2, calS, nI_cl (by omega), ← q4, q5, if_pos z00]
        · have wle := wS_le hb1 (t 10) (Nat.le_refl 8)
          obtain ⟨g, g0, g1, g2, g3⟩ := gcd_ok (nF := nF) (t := t) (a := a) c (wS (a 6) (t 10) 8) 0 nF nF (by omega) (by omega) (by omega) (Or.inr hcp) (by omega)
          have c0 : ¬ nI c = 0 := by rw [nI0 (by omega)]; omega
          have gz : ¬ nI g = 0 := by rw [nI0 (by omega)]; omega
          have e7 : fX7_commonDivisor nF (nI (wS (a 6) (t 10) 8)) (nI c) t a = some (nI g, t, a) := g2
          have e8 : fX8_common nF (nI (wS (a 6) (t 10) 8)) (nI c) t a = some (nI g, t, a) := g3
          by_cases y0 : y = 0
          · refine st_same h (w := nI c / nI g) ?_ ?_
            · rw [sh, if_neg bz, bnd_ok hj (by decide), nI_cl (by omega), q5, if_neg c0, weight7 hF hb1, calS, e7, calS, if_neg gz, if_pos y0, dvz_ok g0 (by omega)]
            · unfold fX8_chance
              rw [c8_yes hj, calS, if_neg one0, yin, calS, if_neg one0, m2, ← m1, if_neg bz, bnd_ok hj (by decide), weight8 hF hb2, calS, nI_cl (by omega), ← q4, q5, if_neg c0, hb3, e8, calS, if_pos y0, dvz_ok g0 (by omega)]
          · refine st_same h (w := nI (wS (a 6) (t 10) 8) / nI g) ?_ ?_
            · rw [sh, if_neg bz, bnd_ok hj (by decide), nI_cl (by omega), q5, if_neg c0, weight7 hF hb1, calS, e7, calS, if_neg gz, if_neg y0, dvz_ok g0 (by omega)]
            · unfold fX8_chance
              rw [c8_yes hj, calS, if_neg one0, yin, calS, if_neg one0, m2, ← m1, if_neg bz, bnd_ok hj (by decide), weight8 hF hb2, calS, nI_cl (by omega), ← q4, q5, if_neg c0, hb3, e8, calS, if_neg y0, dvz_ok g0 (by omega)]
    · obtain ⟨y0, y1⟩ := not_or.mp y01
      refine st_ref hS h 2 (w := -2) ?_ ?_
      · unfold fX7_chance; rw [c7_yes hj, calS, if_neg one0, if_neg y0, if_neg y1, R7_2]; rfl
      · unfold fX8_chance
        have : fX8_in nF y 0 1 t (rf7 2 a) = some (0, t, rf7 2 a) := by
          rcases tri y (n := 2) (by omega) with g | ⟨k, hk, rfl⟩ | ⟨g0, g⟩
          · exact in8_0 (Or.inl g)
          · have hk2 : k = 0 ∨ k = 1 := by omega
            rcases hk2 with rfl | rfl
            · exact absurd rfl y0
            · exact absurd rfl y1
          · exact in8_0 (Or.inr (show (1 : Int32) < y from big_lt (n := 1) (by decide) g0 g))
        rw [c8_yes hj, calS, if_neg one0, this, calS, if_pos rfl, R8_2]; rfl
  · exact no (c7_big g0 g) (fun b => c8_big g0 g)
/-- may a saying of n words follow one of p words, by the law -/
def mfN (L n p : Nat) : Bool := if L = 0 then decide (n < p) else if L = 1 then decide (n ≤ p) else if L = 2 then decide (n < p) else if L = 3 then decide (n = p + 1) else true
theorem mfN_ok {nF L n p : Nat} (hL : L < 5) (hn : n ≤ 6) (hp : p ≤ 6) {t : sT} {a : sA} : fX7_mayFollow nF (nI L) (nI (pk 255 0 0 n)) (nI (pk 255 0 0 p)) t a = some (if mfN L n p then 1 else 0, t, a) := by
  rw [mf78 (by decide) (by decide) (by decide) (by omega) (by decide) (by decide) (by decide) (by omega)]
  have l1 : nI p ≤ nI n ↔ p ≤ n := x_le (by omega) (by omega)
  have l2 : nI p < nI n ↔ p < n := x_lt (by omega) (by omega)
  have l3 : nI n = nI p + 1 ↔ n = p + 1 := by rw [nI_1]; exact x_eq (by omega) (by omega)
  have l4 : nI p - nI 0 ≤ nI n - nI 0 ↔ p ≤ n := by rw [z00, Int32.sub_zero, Int32.sub_zero]; exact l1
  have h5 : L = 0 ∨ L = 1 ∨ L = 2 ∨ L = 3 ∨ L = 4 := by omega
  unfold fX8_mayFollow
  rcases h5 with rfl | rfl | rfl | rfl | rfl
  · show (if nI p ≤ nI n then some (0, t, a) else some (1, t, a)) = some (if decide (n < p) = true then 1 else 0, t, a)
    by_cases g : n < p
    · rw [if_neg (by rw [l1]; omega), if_pos (decide_eq_true g)]
    · rw [if_pos (by rw [l1]; omega), if_neg (by rw [decide_eq_true_iff]; exact g)]
  · show (if nI p < nI n then some (0, t, a) else some (1, t, a)) = some (if decide (n ≤ p) = true then 1 else 0, t, a)
    by_cases g : n ≤ p
    · rw [if_neg (by rw [l2]; omega), if_pos (decide_eq_true g)]
    · rw [if_pos (by rw [l2]; omega), if_neg (by rw [decide_eq_true_iff]; exact g)]
  · show (if nI p - nI 0 ≤ nI n - nI 0 then some (0, t, a) else some (1, t, a)) = some (if decide (n < p) = true then 1 else 0, t, a)
    by_cases g : n < p
    · rw [if_neg (by rw [l4]; omega), if_pos (decide_eq_true g)]
    · rw [if_pos (by rw [l4]; omega), if_neg (by rw [decide_eq_true_iff]; exact g)]
  · show (if nI n = nI p + 1 then some (1, t, a) else some (0, t, a)) = some (if decide (n = p + 1) = true then 1 else 0, t, a)
    by_cases g : n = p + 1
    · rw [if_pos (l3.mpr g), if_pos (decide_eq_true g)]
    · rw [if_neg (by rw [l3]; exact g), if_neg (by rw [decide_eq_true_iff]; exact g)]
  · rfl
/-- the longest row of sayings: 0 stands for no bound -/
def lfL (rs : Nat → Nat) (L x : Nat) : Nat → Nat → Nat
  | 0, b => b + 1
  | r + 1, b => if mfN L (6 - r) x then (if rs (6 - r) = 0 then 0 else lfL rs L x r (if b < rs (6 - r) then rs (6 - r) else b)) else lfL rs L x r b
def lfN : Nat → Nat → Nat → Nat → Nat
  | 0, _, _, _ => 0
  | d + 1, L, x, dep => if 6 < dep then 0 else lfL (fun y => lfN d L y (dep + 1)) L x 6 0
def toI (r : Nat) : Int32 := if r = 0 then -9 else nI r
def slL (rs : Nat → Bool) (L x : Nat) : Nat → Bool
  | 0 => true
  | r + 1 => if mfN L (6 - r) x then (if rs (6 - r) then false else slL rs L x r) else slL rs L x r
def slN : Nat → Nat → Nat → Nat → Bool
  | 0, _, _, _ => true
  | d + 1, L, x, dep => if 6 < dep then true else slL (fun y => slN d L y (dep + 1)) L x 6
def b2I (b : Bool) : Int32 := if b then 1 else 0
theorem lfL_le {rs : Nat → Nat} {L x B : Nat} (hr : ∀ y, rs y ≤ B) : ∀ r b, b ≤ B → lfL rs L x r b ≤ B + 1 := by
  intro r
  induction r with
  | zero => intro b hb; show b + 1 ≤ B + 1; omega
  | succ r ih =>
    intro b hb
    show (if _ then (if _ then 0 else lfL rs L x r (if b < rs (6 - r) then rs (6 - r) else b)) else lfL rs L x r b) ≤ B + 1
    split
    · split
      · omega
      · exact ih _ (by have := hr (6 - r); split <;> omega)
    · exact ih b hb
theorem lfN_le : ∀ d L x dep, lfN d L x dep ≤ d := by
  intro d
  induction d with
  | zero => intro L x dep; exact Nat.le_refl 0
  | succ d ih =>
    intro L x dep
    show (if 6 < dep then 0 else lfL (fun y => lfN d L y (dep + 1)) L x 6 0) ≤ d + 1
    split
    · omega
    · exact lfL_le (fun y => ih L y (dep + 1)) 6 0 (by omega)
theorem b2I0 {b : Bool} : b2I b = 0 ↔ b = false := by cases b <;> decide
theorem lf_loop {nF L x dep B : Nat} (hL : L < 5) (hx : x ≤ 6) {rs : Int32 → Int32 → Int32 → sT → sA → Rs} {rN : Nat → Nat} (hB : B < 1000) (hr : ∀ y, rN y ≤ B) {t : sT} {a : sA} (H : ∀ y, y ≤ 6 → rs (nI L) (nI y) (nI (dep + 1)) t a = some (toI (rN y), t, a)) : ∀ r n b, r ≤ 6 → r < n → b ≤ B → gX7_longestFrom nF rs n (nI L) (nI x) (nI dep) (nI b) (nI (7 - r)) t a = some (toI (lfL rN L x r b), t, a) := by
  intro r
  induction r with
  | zero =>
    intro n b hr6 hn hb
    obtain ⟨n, rfl⟩ : ∃ m, n = m + 1 := ⟨n - 1, by omega⟩
    show gX7_longestFrom_14 nF rs (gX7_longestFrom nF rs n) _ _ _ _ _ t a = some (toI (b + 1), t, a)
    unfold gX7_longestFrom_14
    rw [if_pos (by decide), nI_1]
    unfold toI
    rw [if_neg (by omega)]
  | succ r ih =>
    intro n b hr6 hn hb
    obtain ⟨n, rfl⟩ : ∃ m, n = m + 1 := ⟨n - 1, by omega⟩
    have e7 : 7 - (r + 1) = 6 - r := by omega
    have e8 : 6 - r + 1 = 7 - r := by omega
    rw [e7]
    show gX7_longestFrom_14 nF rs (gX7_longestFrom nF rs n) _ _ _ _ _ t a = some (toI (if mfN L (6 - r) x then (if rN (6 - r) = 0 then 0 else lfL rN L x r (if b < rN (6 - r) then rN (6 - r) else b)) else lfL rN L x r b), t, a)
    unfold gX7_longestFrom_14
    rw [if_neg (by rw [show (6 : Int32) = nI 6 from rfl, x_lt (by omega) (by omega)]; omega), show (fX4_ofLength nF (nI (6 - r)) 0 t a) = fX4_ofLength nF (nI (6 - r)) (nI 0) t a from rfl, a_ofLen (by decide) (by omega), calS, show (fX4_ofLength nF (nI x) 0 t a) = fX4_ofLength nF (nI x) (nI 0) t a from rfl, a_ofLen (by decide) (by omega), calS, mfN_ok hL (by omega) hx, calS, nI_1, nI_1, e8]
    by_cases g : mfN L (6 - r) x = true
    · rw [if_pos g, if_pos g, if_neg (by decide), H (6 - r) (by omega), calS]
      by_cases g2 : rN (6 - r) = 0
      · rw [g2, if_pos rfl, if_neg (by decide)]; rfl
      · have e : toI (rN (6 - r)) = nI (rN (6 - r)) := if_neg g2
        have hb2 := hr (6 - r)
        rw [e, if_neg g2, if_pos (show 0 ≤ nI (rN (6 - r)) from Int32.not_lt.mp (nneg (by omega)))]
        have e2 : (if nI b < nI (rN (6 - r)) then nI (rN (6 - r)) else nI b) = nI (if b < rN (6 - r) then rN (6 - r) else b) := by
          by_cases g3 : b < rN (6 - r)
          · rw [if_pos g3, if_pos ((x_lt (by omega) (by omega)).mpr g3)]
          · rw [if_neg g3, if_neg (by rw [x_lt (by omega) (by omega)]; exact g3)]
        rw [e2]
        exact ih n _ (by omega) (by omega) (by split <;> omega)
    · rw [if_neg g, if_neg g, if_pos rfl]
      exact ih n b (by omega) (by omega) hb
theorem lf_ok {nF L : Nat} (hF : 100 ≤ nF) (hL : L < 5) {t : sT} {a : sA} : ∀ d x dep, d < 100 → x ≤ 6 → dep + d = 9 → 1 ≤ d → fX7_longestFrom nF d (nI L) (nI x) (nI dep) t a = some (toI (lfN d L x dep), t, a) := by
  intro d
  induction d with
  | zero => intro x dep _ _ _ h; omega
  | succ d ih =>
    intro x dep hd hx hdep _
    show (if nI dep ≤ (6 : Int32) then gX7_longestFrom nF (fX7_longestFrom nF d) nF (nI L) (nI x) (nI dep) (nI 0) (nI (7 - 6)) t a else some (-9, t, a)) = some (toI (if 6 < dep then 0 else lfL (fun y => lfN d L y (dep + 1)) L x 6 0), t, a)
    by_cases g : 6 < dep
    · rw [if_pos g, if_neg (by rw [show (6 : Int32) = nI 6 from rfl, x_le (by omega) (by omega)]; omega)]; rfl
    · rw [if_neg g, if_pos (show nI dep ≤ (6 : Int32) from (x_le (a := dep) (b := 6) (by omega) (by omega)).mpr (by omega))]
      exact lf_loop hL hx (B := d) (by omega) (fun y => lfN_le d L y (dep + 1)) (fun y hy => ih y (dep + 1) (by omega) hy (by omega) (by omega)) 6 nF 0 (by omega) (by omega) (by omega)
theorem sl_loop {nF L x dep : Nat} (hL : L < 5) (hx : x ≤ 6) {rs : Int32 → Int32 → Int32 → sT → sA → Rs} {rN : Nat → Bool} {t : sT} {a : sA} (H : ∀ y, y ≤ 6 → rs (nI L) (nI y) (nI (dep + 1)) t a = some (b2I (rN y), t, a)) : ∀ r n, r ≤ 6 → r < n → gX7_speaksLast nF rs n (nI L) (nI x) (nI dep) (nI (7 - r)) t a = some (b2I (slL rN L x r), t, a) := by
  intro r
  induction r with
  | zero =>
    intro n hr6 hn
    obtain ⟨n, rfl⟩ : ∃ m, n = m + 1 := ⟨n - 1, by omega⟩
    rfl
  | succ r ih =>
    intro n hr6 hn
    obtain ⟨n, rfl⟩ : ∃ m, n = m + 1 := ⟨n - 1, by omega⟩
    have e7 : 7 - (r + 1) = 6 - r := by omega
    have e8 : 6 - r + 1 = 7 - r := by omega
    rw [e7]
    show gX7_speaksLast_10 nF rs (gX7_speaksLast nF rs n) _ _ _ _ t a = some (b2I (if mfN L (6 - r) x then (if rN (6 - r) then false else slL rN L x r) else slL rN L x r), t, a)
    unfold gX7_speaksLast_10
    rw [if_neg (by rw [show (6 : Int32) = nI 6 from rfl, x_lt (by omega) (by omega)]; omega), show (fX4_ofLength nF (nI (6 - r)) 0 t a) = fX4_ofLength nF (nI (6 - r)) (nI 0) t a from rfl, a_ofLen (by decide) (by omega), calS, show (fX4_ofLength nF (nI x) 0 t a) = fX4_ofLength nF (nI x) (nI 0) t a from rfl, a_ofLen (by decide) (by omega), calS, mfN_ok hL (by omega) hx, calS, nI_1, nI_1, e8]
    by_cases g : mfN L (6 - r) x = true
    · rw [if_pos g, if_pos g, if_neg (by decide), H (6 - r) (by omega), calS]
      by_cases g2 : rN (6 - r) = true
      · rw [g2, if_pos rfl, if_neg (by decide)]; rfl
      · rw [if_neg g2, if_pos (b2I0.mpr (by cases h : rN (6 - r) <;> simp_all))]
        exact ih n (by omega) (by omega)
    · rw [if_neg g, if_neg g, if_pos rfl]
      exact ih n (by omega) (by omega)
theorem sl_ok {nF L : Nat} (hF : 100 ≤ nF) (hL : L < 5) {t : sT} {a : sA} : ∀ d x dep, d < 100 → x ≤ 6 → dep + d = 9 → 1 ≤ d → fX7_speaksLast nF d (nI L) (nI x) (nI dep) t a = some (b2I (slN d L x dep), t, a) := by
  intro d
  induction d with
  | zero => intro x dep _ _ _ h; omega
  | succ d ih =>
    intro x dep hd hx hdep _
    show (if nI dep ≤ (6 : Int32) then gX7_speaksLast nF (fX7_speaksLast nF d) nF (nI L) (nI x) (nI dep) (nI (7 - 6)) t a else some (1, t, a)) = some (b2I (if 6 < dep then true else slL (fun y => slN d L y (dep + 1)) L x 6), t, a)
    by_cases g : 6 < dep
    · rw [if_pos g, if_neg (by rw [show (6 : Int32) = nI 6 from rfl, x_le (by omega) (by omega)]; omega)]; rfl
    · rw [if_neg g, if_pos (show nI dep ≤ (6 : Int32) from (x_le (a := dep) (b := 6) (by omega) (by omega)).mpr (by omega))]
      exact sl_loop hL hx (fun y hy => ih y (dep + 1) (by omega) hy (by omega) (by omega)) 6 nF (by omega) (by omega)
set_option maxRecDepth 100000 in
theorem lf_val : ∀ L, L < 5 → ∀ x, x < 7 → 1 ≤ x → lfN 8 L x 1 = (if L = 0 then x else if L = 2 then x else if L = 3 then 7 - x else 0) := by decide
set_option maxRecDepth 100000 in
theorem sl_v0 : ∀ x, x < 7 → 1 ≤ x → slN 8 0 x 1 = decide (x = 1) := by decide
set_option maxRecDepth 100000 in
theorem sl_v2 : ∀ x, x < 7 → 1 ≤ x → slN 8 2 x 1 = decide (x = 1) := by decide
set_option maxRecDepth 100000 in
theorem sl_v3 : ∀ x, x < 7 → 1 ≤ x → slN 8 3 x 1 = decide ((7 - x) % 2 = 1) := by decide
theorem sl_val (L : Nat) (x : Nat) (h7 : x < 7) (h1 : 1 ≤ x) : (L = 0 ∨ L = 2 → slN 8 L x 1 = decide (x = 1)) ∧ (L = 3 → slN 8 L x 1 = decide ((7 - x) % 2 = 1)) := by
  refine ⟨fun h => ?_, fun h => ?_⟩
  · rcases h with rfl | rfl
    · exact sl_v0 x h7 h1
    · exact sl_v2 x h7 h1
  · subst h
    exact sl_v3 x h7 h1
theorem le16 {x : Int32} (h0 : (1 : Int32) ≤ x) (h : x ≤ (6 : Int32)) : ∃ j, 1 ≤ j ∧ j < 7 ∧ x = nI j := by
  have hp : ¬ x < 0 := fun y => absurd (Int32.lt_of_le_of_lt h0 y) (by decide)
  obtain ⟨j, hj, rfl⟩ := nI_of2 (M := 6) (n := 6) rfl hp h
  exact ⟨j, (x_le (a := 1) (b := j) (by omega) (by omega)).mp h0, by omega, rfl⟩
theorem stp23 {nF : Nat} (hF : 100 ≤ nF) {S : sT → sA → Prop} (hS : SF S) : stp_23 nF (Inv S) := by
  intro x N u v t a h
  obtain ⟨L, hL, l1, l2⟩ := h.1.2.1.2.2.2.1
  by_cases c0 : (1 : Int32) ≤ x
  · by_cases c1 : x ≤ (6 : Int32)
    · obtain ⟨j, hj1, hj7, rfl⟩ := le16 c0 c1
      have e : fX7_longestFrom nF 8 (nI L) (nI j) 1 t a = some (toI (lfN 8 L j 1), t, a) := lf_ok hF hL 8 j 1 (by omega) (by omega) (by omega) (by omega)
      refine st_same h (w := toI (lfN 8 L j 1)) ?_ ?_
      · unfold fX7_longest
        rw [if_pos c0, if_pos c1, l1, e, calS]
      · unfold fX8_longest
        rw [if_pos c0, if_pos c1, l2, lf_val L hL j hj7 hj1]
        have h5 : L = 0 ∨ L = 1 ∨ L = 2 ∨ L = 3 ∨ L = 4 := by omega
        have tj : toI j = nI j := if_neg (by omega)
        rcases h5 with rfl | rfl | rfl | rfl | rfl
        · rw [if_pos rfl, tj]; rfl
        · rfl
        · show some (nI j, t, a) = some (toI j, t, a)
          rw [tj]
        · have t7 : toI (7 - j) = nI (7 - j) := if_neg (by omega)
          show some ((7 : Int32) - nI j, t, a) = some (toI (7 - j), t, a)
          rw [t7, show (7 : Int32) = nI 7 from rfl, pk_sub (by omega)]
        · rfl
    · refine st_ref hS h 6 (w := -6) ?_ ?_
      · unfold fX7_longest; rw [if_pos c0, if_neg c1, R7_6]; rfl
      · unfold fX8_longest; rw [if_pos c0, if_neg c1, R8_6]; rfl
  · refine st_ref hS h 4 (w := -4) ?_ ?_
    · unfold fX7_longest; rw [if_neg c0, R7_4]; rfl
    · unfold fX8_longest; rw [if_neg c0, R8_4]; rfl
theorem stp24 {nF : Nat} (hF : 100 ≤ nF) {S : sT → sA → Prop} (hS : SF S) : stp_24 nF (Inv S) := by
  intro x N u v t a h
  obtain ⟨L, hL, l1, l2⟩ := h.1.2.1.2.2.2.1
  by_cases c0 : (1 : Int32) ≤ x
  · by_cases c1 : x ≤ (6 : Int32)
    · obtain ⟨j, hj1, hj7, rfl⟩ := le16 c0 c1
      have e : fX7_longestFrom nF 8 (nI L) (nI j) 1 t a = some (toI (lfN 8 L j 1), t, a) := lf_ok hF hL 8 j 1 (by omega) (by omega) (by omega) (by omega)
      have e2 : fX7_speaksLast nF 8 (nI L) (nI j) 1 t a = some (b2I (slN 8 L j 1), t, a) := sl_ok hF hL 8 j 1 (by omega) (by omega) (by omega) (by omega)
      rw [lf_val L hL j hj7 hj1] at e
      obtain ⟨s1, s2⟩ := sl_val L j hj7 hj1
      have b01 : b2I (slN 8 L j 1) = 0 ∨ b2I (slN 8 L j 1) = 1 := by cases slN 8 L j 1 <;> decide
      have pos : ∀ m, 0 < m → m < 100 → toI m = nI m ∧ 0 ≤ nI m := fun m h0 h1 => ⟨if_neg (by omega), Int32.not_lt.mp (nneg (by omega))⟩
      have yes : (∃ m, 0 < m ∧ m < 100 ∧ (if L = 0 then j else if L = 2 then j else if L = 3 then 7 - j else 0) = m) → fX7_last nF (nI j) t a = some (b2I (slN 8 L j 1), t, a) := by
        rintro ⟨m, m0, m1, em⟩
        rw [em, (pos m m0 m1).1] at e
        unfold fX7_last
        rw [if_pos c0, if_pos c1, l1, e, calS, if_pos (pos m m0 m1).2, l1, e2, calS, bit7 b01, calS]
      have nay : (if L = 0 then j else if L = 2 then j else if L = 3 then 7 - j else 0) = 0 → fX7_last nF (nI j) t a = some (-9, t, a) := by
        intro em
        rw [em] at e
        unfold fX7_last
        rw [if_pos c0, if_pos c1, l1, e, calS, if_neg (by decide)]
      have j1 : nI j = 1 ↔ j = 1 := x_eq (a := j) (b := 1) (by omega) (by omega)
      have h5 : L = 0 ∨ L = 1 ∨ L = 2 ∨ L = 3 ∨ L = 4 := by omega
      have one : ∀ A : Rs, b2I (decide (j = 1)) = (if nI j = 1 then 1 else 0) := fun _ => by
        by_cases g : j = 1
        · rw [if_pos (j1.mpr g), decide_eq_true g]; rfl
        · rw [if_neg (by rw [j1]; exact g), decide_eq_false g]; rfl
      rcases h5 with rfl | rfl | rfl | rfl | rfl
      · refine st_same h (yes ⟨j, by omega, by omega, rfl⟩) ?_
        rw [s1 (Or.inl rfl), one none]
        unfold fX8_last
        rw [if_pos c0, if_pos c1, l2]
        show (if nI j = 1 then some (1, t, a) else some (0, t, a)) = _
        split <;> rfl
      · refine st_same h (nay rfl) ?_
        unfold fX8_last
        rw [if_pos c0, if_pos c1, l2]; rfl
      · refine st_same h (yes ⟨j, by omega, by omega, rfl⟩) ?_
        rw [s1 (Or.inr rfl), one none]
        unfold fX8_last
        rw [if_pos c0, if_pos c1, l2]
        show (if nI j = 1 then some (1, t, a) else some (0, t, a)) = _
        split <;> rfl
      · refine st_same h (yes ⟨7 - j, by omega, by omega, rfl⟩) ?_
        rw [s2 rfl]
        unfold fX8_last
        rw [if_pos c0, if_pos c1, l2]
        show some (((7 : Int32) - nI j) - ((7 : Int32) - nI j) / (2 : Int32) * (2 : Int32), t, a) = _
        rw [show (7 : Int32) = nI 7 from rfl, pk_sub (by omega), show (2 : Int32) = nI 2 from rfl, pk_rem (by omega) (by decide) (by decide)]
        have h2 : (7 - j) % 2 = 0 ∨ (7 - j) % 2 = 1 := by omega
        rcases h2 with h2 | h2
        · rw [h2]; rfl
        · rw [h2]; rfl
      · refine st_same h (nay rfl) ?_
        unfold fX8_last
        rw [if_pos c0, if_pos c1, l2]; rfl
    · refine st_ref hS h 6 (w := -6) ?_ ?_
      · unfold fX7_last; rw [if_pos c0, if_neg c1, R7_6]; rfl
      · unfold fX8_last; rw [if_pos c0, if_neg c1, R8_6]; rfl
  · refine st_ref hS h 4 (w := -4) ?_ ?_
    · unfold fX7_last; rw [if_neg c0, R7_4]; rfl
    · unfold fX8_last; rw [if_neg c0, R8_4]; rfl
