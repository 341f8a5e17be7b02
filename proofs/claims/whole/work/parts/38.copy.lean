/-! image and on -/
/-- S does not speak of the tongue while nothing is fresh -/
def SD (S : sT → sA → Prop) : Prop := ∀ (t t' : sT) (a a' : sA), (∀ q, tS q → q ≠ 196 → q ≠ 1233 → q ≠ 1937 → t' q = t q) → (∀ k, tSA k → 20 ≤ k → a' k = a k) → t' 1233 = 0 → t' 1937 = 0 → S t a → S t' a'
theorem up_up {α : Type} (f : Nat → α) (k : Nat) (v w : α) : va_up (va_up f k v) k w = va_up f k w := by
  funext j
  by_cases h : j = k
  · subst h; rw [up_same, up_same]
  · rw [up_ne h, up_ne h, up_ne h]
theorem up_id {α : Type} (f : Nat → α) (k : Nat) : va_up f k (f k) = f := by
  funext j
  by_cases h : j = k
  · subst h; rw [up_same]
  · rw [up_ne h]
theorem over_ok {nF k0 n0 k1 n1 : Nat} (hF : n0 < nF) (hk : k0 ≠ k1) (hn : n0 ≤ n1) (hb : n1 < 2 ^ 31) (t : sT) (a : sA) : ∃ f, fX8_over nF k0 n0 k1 n1 t a = some (0, t, va_up a k1 f) ∧ ∀ i, i < n0 → f i = a k0 i := by
  have go : ∀ d i n (f : Nat → Int32), i + d = n0 → d < n → (∀ j, j < i → f j = a k0 j) → ∃ f', gX8_over nF k0 n0 k1 n1 n (nI i) t (va_up a k1 f) = some (0, t, va_up a k1 f') ∧ ∀ j, j < n0 → f' j = a k0 j := by
    intro d
    induction d with
    | zero =>
      intro i n f hi hn hf
      obtain ⟨n, rfl⟩ : ∃ m, n = m + 1 := ⟨n - 1, by omega⟩
      refine ⟨f, ?_, fun j hj => hf j (by omega)⟩
      show (if nI n0 ≤ nI i then some (0, t, va_up a k1 f) else _) = _
      rw [if_pos ((x_le (by omega) (by omega)).mpr (by omega))]
    | succ d ih =>
      intro i n f hi hn hf
      obtain ⟨n, rfl⟩ : ∃ m, n = m + 1 := ⟨n - 1, by omega⟩
      obtain ⟨f', g1, g2⟩ := ih (i + 1) n (upd f i (a k0 i)) (by omega) (by omega) (fun j hj => by
        by_cases e : j = i
        · subst e; rw [upd_same]
        · rw [upd_ne e]; exact hf j (by omega))
      refine ⟨f', ?_, g2⟩
      show (if nI n0 ≤ nI i then _ else bnd (nI i) n0 (bnd (nI i) n1 (gX8_over nF k0 n0 k1 n1 n (nI i + 1) t (va_up (va_up a k1 f) k1 (upd ((va_up a k1 f) k1) (nI i).toNatClampNeg ((va_up a k1 f) k0 (nI i).toNatClampNeg)))))) = _
      rw [if_neg (by rw [x_le (by omega) (by omega)]; omega), bnd_ok (by omega) (by omega), bnd_ok (by omega) hb, nI_cl (by omega), nI_1, up_same, up_ne hk, up_up]
      exact g1
  obtain ⟨f, g1, g2⟩ := go n0 0 nF (a k1) (by omega) hF (fun j hj => absurd hj (Nat.not_lt_zero j))
  rw [up_id] at g1
  exact ⟨f, g1, g2⟩
/-- the reference's copy of all that is kept -/
theorem take_ok {nF k0 k1 : Nat} (hF : 100 ≤ nF) (hk : k0 + 20 ≤ k1 ∨ k1 + 20 ≤ k0) (t : sT) (a : sA) : ∃ t' a', fX8_takeFrom nF k0 k1 t a = some (0, t', a') ∧ (t' (64 * k0 + 7) = t (64 * k1 + 7) ∧ t' (64 * k0 + 11) = t (64 * k1 + 11) ∧ t' (64 * k0 + 13) = t (64 * k1 + 13) ∧ t' (64 * k0 + 14) = t (64 * k1 + 14) ∧ t' (64 * k0 + 15) = t (64 * k1 + 15) ∧ t' (64 * k0 + 19) = t (64 * k1 + 19)) ∧ ((∀ i, i < 8 → a' (k0 + 5) i = a (k1 + 5) i) ∧ (∀ i, i < 8 → a' (k0 + 6) i = a (k1 + 6) i) ∧ (∀ i, i < 8 → a' (k0 + 7) i = a (k1 + 7) i) ∧ (∀ i, i < 4 → a' (k0 + 8) i = a (k1 + 8) i) ∧ (∀ i, i < 12 → a' (k0 + 9) i = a (k1 + 9) i) ∧ (∀ i, i < 12 → a' (k0 + 10) i = a (k1 + 10) i) ∧ (∀ i, i < 12 → a' (k0 + 11) i = a (k1 + 11) i)) ∧ (∀ q, (q < 64 * k0 ∨ 64 * k0 + 64 ≤ q) → t' q = t q) ∧ (∀ k, (k < k0 + 5 ∨ k0 + 12 ≤ k) → a' k = a k) ∧ (∀ q, 64 * k0 ≤ q → q < 64 * k0 + 64 → q ≠ 64 * k0 + 7 → q ≠ 64 * k0 + 11 → q ≠ 64 * k0 + 13 → q ≠ 64 * k0 + 14 → q ≠ 64 * k0 + 15 → q ≠ 64 * k0 + 19 → t' q = t q) := by
  obtain ⟨f1, e1, p1⟩ := over_ok (nF := nF) (k0 := k1 + 5) (n0 := 8) (k1 := k0 + 5) (n1 := 8) (by omega) (by omega) (by omega) (by omega) (va_up t (64 * k0 + 7) (t (64 * k1 + 7))) a
  obtain ⟨f2, e2, p2⟩ := over_ok (nF := nF) (k0 := k1 + 6) (n0 := 8) (k1 := k0 + 6) (n1 := 8) (by omega) (by omega) (by omega) (by omega) (va_up t (64 * k0 + 7) (t (64 * k1 + 7))) (va_up a (k0 + 5) f1)
  obtain ⟨f3, e3, p3⟩ := over_ok (nF := nF) (k0 := k1 + 7) (n0 := 8) (k1 := k0 + 7) (n1 := 8) (by omega) (by omega) (by omega) (by omega) (va_up t (64 * k0 + 7) (t (64 * k1 + 7))) (va_up (va_up a (k0 + 5) f1) (k0 + 6) f2)
  obtain ⟨f4, e4, p4⟩ := over_ok (nF := nF) (k0 := k1 + 8) (n0 := 4) (k1 := k0 + 8) (n1 := 4) (by omega) (by omega) (by omega) (by omega) (va_up (va_up t (64 * k0 + 7) (t (64 * k1 + 7))) (64 * k0 + 11) (t (64 * k1 + 11))) (va_up (va_up (va_up a (k0 + 5) f1) (k0 + 6) f2) (k0 + 7) f3)
  obtain ⟨f5, e5, p5⟩ := over_ok (nF := nF) (k0 := k1 + 9) (n0 := 12) (k1 := k0 + 9) (n1 := 12) (by omega) (by omega) (by omega) (by omega) (va_up (va_up (va_up (va_up (va_up t (64 * k0 + 7) (t (64 * k1 + 7))) (64 * k0 + 11) (t (64 * k1 + 11))) (64 * k0 + 13) (t (64 * k1 + 13))) (64 * k0 + 14) (t (64 * k1 + 14))) (64 * k0 + 15) (t (64 * k1 + 15))) (va_up (va_up (va_up (va_up a (k0 + 5) f1) (k0 + 6) f2) (k0 + 7) f3) (k0 + 8) f4)
  obtain ⟨f6, e6, p6⟩ := over_ok (nF := nF) (k0 := k1 + 10) (n0 := 12) (k1 := k0 + 10) (n1 := 12) (by omega) (by omega) (by omega) (by omega) (va_up (va_up (va_up (va_up (va_up t (64 * k0 + 7) (t (64 * k1 + 7))) (64 * k0 + 11) (t (64 * k1 + 11))) (64 * k0 + 13) (t (64 * k1 + 13))) (64 * k0 + 14) (t (64 * k1 + 14))) (64 * k0 + 15) (t (64 * k1 + 15))) (va_up (va_up (va_up (va_up (va_up a (k0 + 5) f1) (k0 + 6) f2) (k0 + 7) f3) (k0 + 8) f4) (k0 + 9) f5)
  obtain ⟨f7, e7, p7⟩ := over_ok (nF := nF) (k0 := k1 + 11) (n0 := 12) (k1 := k0 + 11) (n1 := 12) (by omega) (by omega) (by omega) (by omega) (va_up (va_up (va_up (va_up (va_up t (64 * k0 + 7) (t (64 * k1 + 7))) (64 * k0 + 11) (t (64 * k1 + 11))) (64 * k0 + 13) (t (64 * k1 + 13))) (64 * k0 + 14) (t (64 * k1 + 14))) (64 * k0 + 15) (t (64 * k1 + 15))) (va_up (va_up (va_up (va_up (va_up (va_up a (k0 + 5) f1) (k0 + 6) f2) (k0 + 7) f3) (k0 + 8) f4) (k0 + 9) f5) (k0 + 10) f6)
  refine ⟨va_up (va_up (va_up (va_up (va_up (va_up t (64 * k0 + 7) (t (64 * k1 + 7))) (64 * k0 + 11) (t (64 * k1 + 11))) (64 * k0 + 13) (t (64 * k1 + 13))) (64 * k0 + 14) (t (64 * k1 + 14))) (64 * k0 + 15) (t (64 * k1 + 15))) (64 * k0 + 19) (t (64 * k1 + 19)), va_up (va_up (va_up (va_up (va_up (va_up (va_up a (k0 + 5) f1) (k0 + 6) f2) (k0 + 7) f3) (k0 + 8) f4) (k0 + 9) f5) (k0 + 10) f6) (k0 + 11) f7, ?_, ⟨?_, ?_, ?_, ?_, ?_, ?_⟩, ⟨?_, ?_, ?_, ?_, ?_, ?_, ?_⟩, ?_, ?_, ?_⟩
  · unfold fX8_takeFrom
    rw [e1, calS, e2, calS, e3, calS, up_ne (show 64 * k1 + 11 ≠ 64 * k0 + 7 by omega), e4, calS, up_ne (show 64 * k1 + 13 ≠ 64 * k0 + 11 by omega), up_ne (show 64 * k1 + 13 ≠ 64 * k0 + 7 by omega), up_ne (show 64 * k1 + 14 ≠ 64 * k0 + 13 by omega), up_ne (show 64 * k1 + 14 ≠ 64 * k0 + 11 by omega), up_ne (show 64 * k1 + 14 ≠ 64 * k0 + 7 by omega), up_ne (show 64 * k1 + 15 ≠ 64 * k0 + 14 by omega), up_ne (show 64 * k1 + 15 ≠ 64 * k0 + 13 by omega), up_ne (show 64 * k1 + 15 ≠ 64 * k0 + 11 by omega), up_ne (show 64 * k1 + 15 ≠ 64 * k0 + 7 by omega), e5, calS, e6, calS, e7, calS, up_ne (show 64 * k1 + 19 ≠ 64 * k0 + 15 by omega), up_ne (show 64 * k1 + 19 ≠ 64 * k0 + 14 by omega), up_ne (show 64 * k1 + 19 ≠ 64 * k0 + 13 by omega), up_ne (show 64 * k1 + 19 ≠ 64 * k0 + 11 by omega), up_ne (show 64 * k1 + 19 ≠ 64 * k0 + 7 by omega)]
  · rw [up_ne (by omega), up_ne (by omega), up_ne (by omega), up_ne (by omega), up_ne (by omega), up_same]
  · rw [up_ne (by omega), up_ne (by omega), up_ne (by omega), up_ne (by omega), up_same]
  · rw [up_ne (by omega), up_ne (by omega), up_ne (by omega), up_same]
  · rw [up_ne (by omega), up_ne (by omega), up_same]
  · rw [up_ne (by omega), up_same]
  · rw [up_same]
  · intro i hi
    rw [up_ne (by omega), up_ne (by omega), up_ne (by omega), up_ne (by omega), up_ne (by omega), up_ne (by omega), up_same, p1 i hi]
  · intro i hi
    rw [up_ne (by omega), up_ne (by omega), up_ne (by omega), up_ne (by omega), up_ne (by omega), up_same, p2 i hi, up_ne (by omega)]
  · intro i hi
    rw [up_ne (by omega), up_ne (by omega), up_ne (by omega), up_ne (by omega), up_same, p3 i hi, up_ne (by omega), up_ne (by omega)]
  · intro i hi
    rw [up_ne (by omega), up_ne (by omega), up_ne (by omega), up_same, p4 i hi, up_ne (by omega), up_ne (by omega), up_ne (by omega)]
  · intro i hi
    rw [up_ne (by omega), up_ne (by omega), up_same, p5 i hi, up_ne (by omega), up_ne (by omega), up_ne (by omega), up_ne (by omega)]
  · intro i hi
    rw [up_ne (by omega), up_same, p6 i hi, up_ne (by omega), up_ne (by omega), up_ne (by omega), up_ne (by omega), up_ne (by omega)]
  · intro i hi
    rw [up_same, p7 i hi, up_ne (by omega), up_ne (by omega), up_ne (by omega), up_ne (by omega), up_ne (by omega), up_ne (by omega)]
  · intro q hq
    rw [up_ne (by omega), up_ne (by omega), up_ne (by omega), up_ne (by omega), up_ne (by omega), up_ne (by omega)]
  · intro k hk
    rw [up_ne (by omega), up_ne (by omega), up_ne (by omega), up_ne (by omega), up_ne (by omega), up_ne (by omega), up_ne (by omega)]
  · intro q _ _ h1 h2 h3 h4 h5 h6
    rw [up_ne h6, up_ne h5, up_ne h4, up_ne h3, up_ne h2, up_ne h1]
theorem cpy_in {f g : Nat → Int32} {n i : Nat} (h : i < n) : va_cpy f g 0 0 n i = f i := by
  rw [pk_cpy_in (Nat.zero_le i) (by omega)]
  congr 1
  omega
/-- the class's copy of a tongue -/
theorem copy6_ok {nF k0 k1 : Nat} (hk : k0 + 5 ≤ k1 ∨ k1 + 5 ≤ k0) (t : sT) (a : sA) : ∃ t' a', fX6_copyFrom nF k0 k1 t a = some (0, t', a') ∧ (t' (64 * k0 + 4) = t (64 * k1 + 4) ∧ t' (64 * k0 + 5) = t (64 * k1 + 5) ∧ t' (64 * k0 + 6) = t (64 * k1 + 6) ∧ t' (64 * k0 + 7) = t (64 * k1 + 7)) ∧ ((∀ i, i < 8 → a' (k0 + 1) i = a (k1 + 1) i) ∧ (∀ i, i < 8 → a' (k0 + 2) i = a (k1 + 2) i) ∧ (∀ i, i < 8 → a' (k0 + 3) i = a (k1 + 3) i) ∧ (∀ i, i < 4 → a' (k0 + 4) i = a (k1 + 4) i)) ∧ (∀ q, (q < 64 * k0 + 4 ∨ 64 * k0 + 8 ≤ q) → t' q = t q) ∧ (∀ k, (k < k0 + 1 ∨ k0 + 5 ≤ k) → a' k = a k) := by
  refine ⟨_, _, rfl, ⟨?_, ?_, ?_, ?_⟩, ⟨?_, ?_, ?_, ?_⟩, ?_, ?_⟩
  · rw [up_ne (by omega), up_ne (by omega), up_ne (by omega), up_same]
  · rw [up_ne (by omega), up_ne (by omega), up_same, up_ne (by omega)]
  · rw [up_ne (by omega), up_same, up_ne (by omega), up_ne (by omega)]
  · rw [up_same, up_ne (by omega), up_ne (by omega), up_ne (by omega)]
  · intro i hi
    rw [up_ne (by omega), up_ne (by omega), up_ne (by omega), up_same]
    exact cpy_in hi
  · intro i hi
    rw [up_ne (by omega), up_ne (by omega), up_same, up_ne (show k1 + 2 ≠ k0 + 1 by omega)]
    exact cpy_in hi
  · intro i hi
    rw [up_ne (by omega), up_same, up_ne (show k1 + 3 ≠ k0 + 2 by omega), up_ne (show k1 + 3 ≠ k0 + 1 by omega)]
    exact cpy_in hi
  · intro i hi
    rw [up_same, up_ne (show k1 + 4 ≠ k0 + 3 by omega), up_ne (show k1 + 4 ≠ k0 + 2 by omega), up_ne (show k1 + 4 ≠ k0 + 1 by omega)]
    exact cpy_in hi
  · intro q hq
    rw [up_ne (by omega), up_ne (by omega), up_ne (by omega), up_ne (by omega)]
  · intro k hk
    rw [up_ne (by omega), up_ne (by omega), up_ne (by omega), up_ne (by omega)]
theorem iTng.cp {w kd cs ws np ps lw tc w' kd' cs' ws' np' ps' lw' tc'} {kd2 cs2 ws2 ps2 kd2' cs2' ws2' ps2' : Nat → Int32} (h : iTng w kd cs ws np ps lw tc w' kd' cs' ws' np' ps' lw' tc') (c1 : ∀ i, i < 8 → kd2 i = kd i) (c2 : ∀ i, i < 8 → cs2 i = cs i) (c3 : ∀ i, i < 8 → ws2 i = ws i) (c4 : ∀ i, i < 4 → ps2 i = ps i) (d1 : ∀ i, i < 8 → kd2' i = kd' i) (d2 : ∀ i, i < 8 → cs2' i = cs' i) (d3 : ∀ i, i < 8 → ws2' i = ws' i) (d4 : ∀ i, i < 4 → ps2' i = ps' i) : iTng w kd2 cs2 ws2 np ps2 lw tc w' kd2' cs2' ws2' np' ps2' lw' tc' := by
  obtain ⟨⟨k, hk, q1, q2, q3⟩, h2, ⟨p, hp, r1, r2, r3⟩, h4, h5⟩ := h
  refine ⟨⟨k, hk, q1, q2, fun i hi => ?_⟩, fun i hi => ?_, ⟨p, hp, r1, r2, fun i hi => ?_⟩, h4, h5⟩
  · rw [c1 i (by omega), c2 i (by omega), d1 i (by omega), d2 i (by omega)]; exact q3 i hi
  · rw [c3 i hi, d3 i hi]; exact h2 i hi
  · rw [c4 i (by omega), d4 i (by omega)]; exact r3 i hi
theorem iTalk.cp {n s n' lw lm li} {s2 lw2 lm2 li2 : Nat → Int32} (h : iTalk n s n' lw lm li) (c1 : ∀ i, i < 12 → s2 i = s i) (c2 : ∀ i, i < 12 → lw2 i = lw i) (c3 : ∀ i, i < 12 → lm2 i = lm i) (c4 : ∀ i, i < 12 → li2 i = li i) : iTalk n s2 n' lw2 lm2 li2 := by
  obtain ⟨k, hk, q1, q2, q3⟩ := h
  refine ⟨k, hk, q1, q2, fun i hi => ?_⟩
  rw [c1 i (by omega), c2 i (by omega), c3 i (by omega), c4 i (by omega)]
  exact q3 i hi
theorem Lo.fr {t t' : sT} {a a' : sA} (ht : ∀ q, q < 2600 ∨ (3200 ≤ q ∧ q < 3264) → t' q = t q) (ha : ∀ k, k < 42 ∨ (49 ≤ k ∧ k < 62) → a' k = a k) (h : Lo t a) : Lo t' a' := by
  obtain ⟨h1, h2, h3, h4, h5, h6, h7⟩ := h
  refine ⟨?_, ?_, ?_, ?_, ?_, ?_, ?_⟩
  · rw [ht 65 (by decide), ht 3201 (by decide), ha 2 (by decide), ha 51 (by decide)]; exact h1
  · rw [ht 196 (by decide), ht 197 (by decide), ht 198 (by decide), ht 199 (by decide), ht 3207 (by decide), ht 3211 (by decide), ht 3213 (by decide), ht 3214 (by decide), ha 4 (by decide), ha 5 (by decide), ha 6 (by decide), ha 7 (by decide), ha 55 (by decide), ha 56 (by decide), ha 57 (by decide), ha 58 (by decide)]; exact h2
  · rw [ht 196 (by decide), ht 833 (by decide), ht 3203 (by decide), ha 14 (by decide), ha 52 (by decide)]; exact h3
  · rw [ht 196 (by decide), ht 961 (by decide), ht 3205 (by decide), ha 16 (by decide), ha 53 (by decide)]; exact h4
  · rw [ht 1089 (by decide), ht 3215 (by decide), ha 18 (by decide), ha 59 (by decide), ha 60 (by decide), ha 61 (by decide)]; exact h5
  · rw [ht 10 (by decide), ht 3219 (by decide)]; exact h6
  · rw [ha 49 (by decide), ha 54 (by decide)]; exact h7
