/-! easy calls: word, weight, truth, law, row, told, silence -/
section P8
variable {nF : Nat} {t : sT} {a : sA} {x lo hi : Int32}
theorem in8_0 (h : x < lo ∨ hi < x) : fX8_in nF x lo hi t a = some (0, t, a) := by
  unfold fX8_in
  by_cases h1 : x < lo
  · rw [if_pos h1]; rfl
  · rw [if_neg h1, if_pos (h.resolve_left h1)]; rfl
theorem in8_1 (h1 : ¬ x < lo) (h2 : ¬ hi < x) : fX8_in nF x lo hi t a = some (1, t, a) := by
  unfold fX8_in
  rw [if_neg h1, if_neg h2]; rfl
theorem sub1_lt {w m : Nat} (hw : w < 2 ^ 30) (hm : m < 2 ^ 31) : nI w - 1 < nI m ↔ w ≤ m := by
  rw [Int32.lt_iff_toInt_lt, nI_toInt hm]
  have := pk_sub_toInt (a := w) (b := 1) hw (by decide)
  rw [show nI w - (1 : Int32) = nI w - nI 1 from rfl, this]
  omega
theorem nneg {n : Nat} (h : n < 2 ^ 31) : ¬ nI n < 0 := nI_pos h
theorem h7_yes {w j : Nat} (q : t 196 = nI w) (hw : w < 2 ^ 31) (hj : j < w) : fX6_hasWord nF 3 (nI j) t a = some (1, t, a) := by
  unfold fX6_hasWord
  show (if nI j < 0 then _ else if t 196 ≤ nI j then _ else _) = _
  rw [if_neg (nneg (by omega)), q, if_neg (by rw [x_le hw (by omega)]; omega)]; rfl
theorem h7_neg (h : x < 0) : fX6_hasWord nF 3 x t a = some (0, t, a) := by
  unfold fX6_hasWord
  rw [if_pos h]; rfl
theorem h7_big {w : Nat} (q : t 196 = nI w) (h0 : ¬ x < 0) (h : nI w ≤ x) : fX6_hasWord nF 3 x t a = some (0, t, a) := by
  unfold fX6_hasWord
  show (if x < 0 then _ else if t 196 ≤ x then _ else _) = _
  rw [if_neg h0, q, if_pos h]; rfl
theorem w8_yes {w j : Nat} (q : t 3207 = nI w) (hw : w < 2 ^ 30) (hj : j < w) : fX8_isWord nF (nI j) t a = some (1, t, a) := by
  unfold fX8_isWord
  rw [q, cal_of (in8_1 (nneg (by omega)) (by rw [sub1_lt hw (by omega)]; omega))]; rfl
theorem w8_neg (h : x < 0) : fX8_isWord nF x t a = some (0, t, a) := by
  unfold fX8_isWord
  rw [cal_of (in8_0 (Or.inl h))]; rfl
theorem big_sub1 {w : Nat} (hw : w < 2 ^ 30) (h0 : ¬ x < 0) (h : nI w ≤ x) : nI w - 1 < x := by
  obtain ⟨m, hm, rfl⟩ := nI_of h0
  exact (sub1_lt hw hm).mpr ((x_le (by omega) hm).mp h)
theorem w8_big {w : Nat} (q : t 3207 = nI w) (hw : w < 2 ^ 30) (h0 : ¬ x < 0) (h : nI w ≤ x) : fX8_isWord nF x t a = some (0, t, a) := by
  unfold fX8_isWord
  rw [q, cal_of (in8_0 (Or.inr (big_sub1 hw h0 h)))]; rfl
theorem p7_yes {w j : Nat} (q : t 197 = nI w) (hw : w < 2 ^ 31) (hj : j < w) : fX6_hasPerson nF 3 (nI j) t a = some (1, t, a) := by
  unfold fX6_hasPerson
  show (if nI j < 0 then _ else if t 197 ≤ nI j then _ else _) = _
  rw [if_neg (nneg (by omega)), q, if_neg (by rw [x_le hw (by omega)]; omega)]; rfl
theorem p7_neg (h : x < 0) : fX6_hasPerson nF 3 x t a = some (0, t, a) := by
  unfold fX6_hasPerson
  rw [if_pos h]; rfl
theorem p7_big {w : Nat} (q : t 197 = nI w) (h0 : ¬ x < 0) (h : nI w ≤ x) : fX6_hasPerson nF 3 x t a = some (0, t, a) := by
  unfold fX6_hasPerson
  show (if x < 0 then _ else if t 197 ≤ x then _ else _) = _
  rw [if_neg h0, q, if_pos h]; rfl
theorem p8_yes {w j : Nat} (q : t 3211 = nI w) (hw : w < 2 ^ 30) (hj : j < w) : fX8_isPerson nF (nI j) t a = some (1, t, a) := by
  unfold fX8_isPerson
  rw [q, cal_of (in8_1 (nneg (by omega)) (by rw [sub1_lt hw (by omega)]; omega))]; rfl
theorem p8_neg (h : x < 0) : fX8_isPerson nF x t a = some (0, t, a) := by
  unfold fX8_isPerson
  rw [cal_of (in8_0 (Or.inl h))]; rfl
theorem p8_big {w : Nat} (q : t 3211 = nI w) (hw : w < 2 ^ 30) (h0 : ¬ x < 0) (h : nI w ≤ x) : fX8_isPerson nF x t a = some (0, t, a) := by
  unfold fX8_isPerson
  rw [q, cal_of (in8_0 (Or.inr (big_sub1 hw h0 h)))]; rfl
theorem c7_yes {j : Nat} (hj : j < 8) : fX7_isCase nF (nI j) t a = some (1, t, a) := by
  unfold fX7_isCase
  rw [if_neg (nneg (by omega)), if_neg (by rw [show (8 : Int32) = nI 8 from rfl, x_le (by omega) (by omega)]; omega)]; rfl
theorem c7_neg (h : x < 0) : fX7_isCase nF x t a = some (0, t, a) := by
  unfold fX7_isCase
  rw [if_pos h]; rfl
theorem c7_big (h0 : ¬ x < 0) (h : nI 8 ≤ x) : fX7_isCase nF x t a = some (0, t, a) := by
  unfold fX7_isCase
  rw [if_neg h0, if_pos (show (8 : Int32) ≤ x from h)]; rfl
theorem c8_yes {j : Nat} (hj : j < 8) : fX8_isCase nF (nI j) t a = some (1, t, a) := by
  unfold fX8_isCase
  rw [cal_of (in8_1 (nneg (by omega)) (by rw [show (7 : Int32) = nI 7 from rfl, x_lt (by omega) (by omega)]; omega))]; rfl
theorem c8_neg (h : x < 0) : fX8_isCase nF x t a = some (0, t, a) := by
  unfold fX8_isCase
  rw [cal_of (in8_0 (Or.inl h))]; rfl
theorem big_lt {n : Nat} (hn : n + 1 < 2 ^ 31) (h0 : ¬ x < 0) (h : nI (n + 1) ≤ x) : nI n < x := by
  obtain ⟨m, hm, rfl⟩ := nI_of h0
  exact (x_lt (by omega) hm).mpr (by have := (x_le hn hm).mp h; omega)
theorem c8_big (h0 : ¬ x < 0) (h : nI 8 ≤ x) : fX8_isCase nF x t a = some (0, t, a) := by
  unfold fX8_isCase
  rw [cal_of (in8_0 (Or.inr (show (7 : Int32) < x from big_lt (n := 7) (by decide) h0 h)))]; rfl
theorem l7_yes {j : Nat} (hj : j < 5) : fX7_isLaw nF (nI j) t a = some (1, t, a) := by
  unfold fX7_isLaw
  rw [if_neg (nneg (by omega)), if_neg (by rw [show (5 : Int32) = nI 5 from rfl, x_le (by omega) (by omega)]; omega)]; rfl
theorem l7_neg (h : x < 0) : fX7_isLaw nF x t a = some (0, t, a) := by
  unfold fX7_isLaw
  rw [if_pos h]; rfl
theorem l7_big (h0 : ¬ x < 0) (h : nI 5 ≤ x) : fX7_isLaw nF x t a = some (0, t, a) := by
  unfold fX7_isLaw
  rw [if_neg h0, if_pos (show (5 : Int32) ≤ x from h)]; rfl
theorem l8_yes {j : Nat} (hj : j < 5) : fX8_in nF (nI j) 0 4 t a = some (1, t, a) := in8_1 (nneg (by omega)) (by rw [show (4 : Int32) = nI 4 from rfl, x_lt (by omega) (by omega)]; omega)
theorem l8_big (h0 : ¬ x < 0) (h : nI 5 ≤ x) : fX8_in nF x 0 4 t a = some (0, t, a) := in8_0 (Or.inr (show (4 : Int32) < x from big_lt (n := 4) (by decide) h0 h))
end P8
theorem one0 : ¬ (1 : Int32) = 0 := by decide
theorem lit_ne {j n : Nat} (h : j ≠ n) (hj : j < 2 ^ 31) (hn : n < 2 ^ 31) : ¬ nI j = nI n := by rw [x_eq hj hn]; exact h
theorem stp2 {nF : Nat} {S : sT → sA → Prop} (hS : SF S) : stp_2 nF (Inv S) := by
  intro e1 e2 N u v t a h
  have h9 := h
  obtain ⟨⟨h1, ⟨⟨w, hw, q1, q2, q3⟩, -⟩, -⟩, -⟩ := h9
  have no : (fX6_hasWord nF 3 e1 t a = some (0, t, a)) → (∀ b, fX8_isWord nF e1 t b = some (0, t, b)) → ∃ r t1 a1 t2 a2, fX7_word nF e1 e2 t a = some (r, t1, a1) ∧ fX8_word nF e1 e2 t1 a1 = some (r, t2, a2) ∧ Inv S N u v t2 a2 := by
    intro g1 g2
    refine st_ref hS h 1 (w := -1) ?_ ?_
    · unfold fX7_word; rw [cal_of g1, if_pos rfl, R7_1]; rfl
    · unfold fX8_word; rw [cal_of (g2 _), if_pos rfl, R8_1]; rfl
  rcases tri e1 (n := w) (by omega) with g | ⟨j, hj, rfl⟩ | ⟨g0, g⟩
  · exact no (h7_neg g) (fun b => w8_neg g)
  · obtain ⟨q4, q5, -, -⟩ := q3 j hj
    rcases tri e2 (n := 2) (by omega) with g | ⟨k, hk, rfl⟩ | ⟨g0, g⟩
    · have n0 : ¬ e2 = 0 := fun z => by rw [z] at g; exact absurd g (by decide)
      have n1 : ¬ e2 = 1 := fun z => by rw [z] at g; exact absurd g (by decide)
      refine st_ref hS h 2 (w := -2) ?_ ?_
      · unfold fX7_word; rw [cal_of (h7_yes q1 (by omega) hj), if_neg one0, if_neg n0, if_neg n1, R7_2]; rfl
      · unfold fX8_word; rw [cal_of (w8_yes q2 (by omega) hj), if_neg one0, cal_of (in8_0 (Or.inl g)), if_pos rfl, R8_2]; rfl
    · have hk2 : k = 0 ∨ k = 1 := by omega
      rcases hk2 with rfl | rfl
      · refine st_same h (w := a 4 j) ?_ ?_
        · unfold fX7_word; rw [cal_of (h7_yes q1 (by omega) hj), if_neg one0, if_pos (by decide), bnd_ok (by omega) (by decide), nI_cl (by omega)]
        · unfold fX8_word; rw [cal_of (w8_yes q2 (by omega) hj), if_neg one0, cal_of (in8_1 (by decide) (by decide)), if_neg one0, if_pos (by decide), bnd_ok (by omega) (by decide), nI_cl (by omega), q4]
      · refine st_same h (w := a 5 j) ?_ ?_
        · unfold fX7_word; rw [cal_of (h7_yes q1 (by omega) hj), if_neg one0, if_neg (by decide), if_pos (by decide), bnd_ok (by omega) (by decide), nI_cl (by omega)]
        · unfold fX8_word; rw [cal_of (w8_yes q2 (by omega) hj), if_neg one0, cal_of (in8_1 (by decide) (by decide)), if_neg one0, if_neg (by decide), bnd_ok (by omega) (by decide), nI_cl (by omega), q5]
    · have n0 : ¬ e2 = 0 := fun z => by rw [z] at g; exact absurd g (by decide)
      have n1 : ¬ e2 = 1 := fun z => by rw [z] at g; exact absurd g (by decide)
      refine st_ref hS h 2 (w := -2) ?_ ?_
      · unfold fX7_word; rw [cal_of (h7_yes q1 (by omega) hj), if_neg one0, if_neg n0, if_neg n1, R7_2]; rfl
      · unfold fX8_word; rw [cal_of (w8_yes q2 (by omega) hj), if_neg one0, cal_of (in8_0 (Or.inr (show (1 : Int32) < e2 from big_lt (n := 1) (by decide) g0 g))), if_pos rfl, R8_2]; rfl
  · exact no (h7_big q1 g0 g) (fun b => w8_big q2 (by omega) g0 g)
theorem stp3 {nF : Nat} {S : sT → sA → Prop} (hS : SF S) : stp_3 nF (Inv S) := by
  intro e1 N u v t a h
  have h9 := h
  obtain ⟨⟨h1, ⟨-, q3, -⟩, -⟩, -⟩ := h9
  have no : (fX7_isCase nF e1 t a = some (0, t, a)) → (∀ b, fX8_isCase nF e1 t b = some (0, t, b)) → ∃ r t1 a1 t2 a2, fX7_weight nF e1 t a = some (r, t1, a1) ∧ fX8_weight nF e1 t1 a1 = some (r, t2, a2) ∧ Inv S N u v t2 a2 := by
    intro g1 g2
    refine st_ref hS h 1 (w := -1) ?_ ?_
    · unfold fX7_weight; rw [cal_of g1, if_pos rfl, R7_1]; rfl
    · unfold fX8_weight; rw [cal_of (g2 _), if_pos rfl, R8_1]; rfl
  rcases tri e1 (n := 8) (by omega) with g | ⟨j, hj, rfl⟩ | ⟨g0, g⟩
  · exact no (c7_neg g) (fun b => c8_neg g)
  · refine st_same h (w := a 6 j) ?_ ?_
    · unfold fX7_weight; rw [cal_of (c7_yes hj), if_neg one0, bnd_ok hj (by decide), nI_cl (by omega)]
    · unfold fX8_weight; rw [cal_of (c8_yes hj), if_neg one0, bnd_ok hj (by decide), nI_cl (by omega), (q3 j hj).1]
  · exact no (c7_big g0 g) (fun b => c8_big g0 g)
theorem stp4 {nF : Nat} {S : sT → sA → Prop} (hS : SF S) : stp_4 nF (Inv S) := by
  intro e1 N u v t a h
  have h9 := h
  obtain ⟨⟨h1, ⟨p1, p2, p3, p4, p5⟩, h3, h4, h5, h6, h7⟩, hs, hh⟩ := h9
  obtain ⟨k, hk, q1, q2⟩ := p5
  have no : (fX7_isCase nF e1 t a = some (0, t, a)) → (∀ b, fX8_isCase nF e1 t b = some (0, t, b)) → ∃ r t1 a1 t2 a2, fX7_truth nF e1 t a = some (r, t1, a1) ∧ fX8_truth nF e1 t1 a1 = some (r, t2, a2) ∧ Inv S N u v t2 a2 := by
    intro g1 g2
    refine st_ref hS h 1 (w := -1) ?_ ?_
    · unfold fX7_truth; rw [cal_of g1, if_pos rfl, R7_1]; rfl
    · unfold fX8_truth; rw [cal_of (g2 _), if_pos rfl, R8_1]; rfl
  rcases tri e1 (n := 8) (by omega) with g | ⟨j, hj, rfl⟩ | ⟨g0, g⟩
  · exact no (c7_neg g) (fun b => c8_neg g)
  · refine ⟨nI k, va_up t 199 (nI j), a, va_up (va_up t 199 (nI j)) 3214 (nI j), a, ?_, ?_, ?_⟩
    · unfold fX7_truth; rw [cal_of (c7_yes hj), if_neg one0, q1]
    · unfold fX8_truth; rw [cal_of (c8_yes hj), if_neg one0, up_ne (by decide), q2]
    · have kt : ∀ q, q ≠ 199 → q ≠ 3214 → va_up (va_up t 199 (nI j)) 3214 (nI j) q = t q := fun q p r => by rw [up_ne r, up_ne p]
      exact ⟨⟨h1, ⟨p1, p2, p3, p4, j, hj, rfl, rfl⟩, h3, h4, h5, h6, h7⟩, hS _ _ _ _ (fun q hq => kt q (by unfold tS at hq; omega) (by unfold tS at hq; omega)) (fun _ _ => rfl) hs, Hi.fr (fun q hq => kt q (by unfold tH at hq; omega) (by unfold tH at hq; omega)) (fun _ _ => rfl) hh⟩
  · exact no (c7_big g0 g) (fun b => c8_big g0 g)
theorem stp5 {nF : Nat} {S : sT → sA → Prop} (hS : SF S) : stp_5 nF (Inv S) := by
  intro e1 N u v t a h
  have h9 := h
  obtain ⟨⟨h1, ⟨p1, p2, p3, p4, p5⟩, h3, h4, h5, h6, h7⟩, hs, hh⟩ := h9
  obtain ⟨k, hk, q1, q2⟩ := p4
  have no : (fX7_isLaw nF e1 t a = some (0, t, a)) → (∀ b, fX8_in nF e1 0 4 t b = some (0, t, b)) → ∃ r t1 a1 t2 a2, fX7_law nF e1 t a = some (r, t1, a1) ∧ fX8_law nF e1 t1 a1 = some (r, t2, a2) ∧ Inv S N u v t2 a2 := by
    intro g1 g2
    refine st_ref hS h 2 (w := -2) ?_ ?_
    · unfold fX7_law; rw [cal_of g1, if_pos rfl, R7_2]; rfl
    · unfold fX8_law; rw [cal_of (g2 _), if_pos rfl, R8_2]; rfl
  rcases tri e1 (n := 5) (by omega) with g | ⟨j, hj, rfl⟩ | ⟨g0, g⟩
  · exact no (l7_neg g) (fun b => in8_0 (Or.inl g))
  · refine ⟨nI k, va_up t 198 (nI j), a, va_up (va_up t 198 (nI j)) 3213 (nI j), a, ?_, ?_, ?_⟩
    · unfold fX7_law; rw [cal_of (l7_yes hj), if_neg one0, q1]
    · unfold fX8_law; rw [cal_of (l8_yes hj), if_neg one0, up_ne (by decide), q2]
    · have kt : ∀ q, q ≠ 198 → q ≠ 3213 → va_up (va_up t 198 (nI j)) 3213 (nI j) q = t q := fun q p r => by rw [up_ne r, up_ne p]
      exact ⟨⟨h1, ⟨p1, p2, p3, ⟨j, hj, rfl, rfl⟩, p5⟩, h3, h4, h5, h6, h7⟩, hS _ _ _ _ (fun q hq => kt q (by unfold tS at hq; omega) (by unfold tS at hq; omega)) (fun _ _ => rfl) hs, Hi.fr (fun q hq => kt q (by unfold tH at hq; omega) (by unfold tH at hq; omega)) (fun _ _ => rfl) hh⟩
  · exact no (l7_big g0 g) (fun b => l8_big g0 g)
theorem stp22 {nF : Nat} {S : sT → sA → Prop} (hS : SF S) : stp_22 nF (Inv S) := by
  intro N u v t a h
  obtain ⟨⟨h1, h2, h3, h4, h5, h6, h7⟩, hs, hh⟩ := h
  obtain ⟨k, hk, q1, q2, q3⟩ := h5
  refine ⟨nI k, va_up t 1089 0, a, va_up (va_up t 1089 0) 3215 0, a, by unfold fX7_silence; rw [q1], by unfold fX8_silence; rw [up_ne (by decide), q2], ?_⟩
  have kt : ∀ q, q ≠ 1089 → q ≠ 3215 → va_up (va_up t 1089 0) 3215 0 q = t q := fun q p r => by rw [up_ne r, up_ne p]
  exact ⟨⟨h1, h2, h3, h4, ⟨0, by omega, rfl, rfl, fun i hi => absurd hi (Nat.not_lt_zero i)⟩, h6, h7⟩, hS _ _ _ _ (fun q hq => kt q (by unfold tS at hq; omega) (by unfold tS at hq; omega)) (fun _ _ => rfl) hs, Hi.fr (fun q hq => kt q (by unfold tH at hq; omega) (by unfold tH at hq; omega)) (fun _ _ => rfl) hh⟩
