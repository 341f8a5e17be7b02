/-! reading the letters: signs, digits, talkers; the form of a statement -/
def sg (K : Nat) (A : Nat → Int32) (i : Nat) : Int32 := if i < K then A i else -1
def isDg (x : Int32) : Bool := if x < 48 then false else if (57 : Int32) < x then false else true
def isTkr (x : Int32) : Bool := if x = 104 then true else if x = 111 then true else if x = 98 then true else if x = 103 then true else if x = 102 then true else false
def tkN (x : Int32) : Int32 := if x = 104 then 0 else if x = 111 then 1 else if x = 98 then 2 else if x = 103 then 3 else if x = 102 then 4 else -1
section RD
variable {nF K i : Nat} {t : sT} {a : sA}
theorem sign7 (q : t 65 = nI K) (hK : K ≤ 64) (hi : i < 2 ^ 30) : fX1_sign nF (nI i) t a = some (sg K (a 2) i, t, a) := by
  unfold fX1_sign sg
  rw [if_neg (nneg (by omega)), q]
  by_cases g : i < K
  · rw [if_neg (by rw [x_le (by omega) (by omega)]; omega), bnd_ok (by omega) (by decide), nI_cl (by omega), if_pos g]
  · rw [if_pos ((x_le (by omega) (by omega)).mpr (by omega)), if_neg g]
theorem sees8 {x : Int32} (hx : x ≠ -1) (q : t 3201 = nI K) (hK : K ≤ 64) (hi : i < 2 ^ 30) : fX8_sees nF x (va_up t 3221 (nI i)) a = some (if sg K (a 51) i = x then 1 else 0, va_up t 3221 (nI i), a) := by
  unfold fX8_sees sg
  rw [up_same, up_ne (by decide), q]
  by_cases g : i < K
  · rw [if_neg (by rw [x_le (by omega) (by omega)]; omega), bnd_ok (by omega) (by decide), nI_cl (by omega), if_pos g]
    split <;> rfl
  · rw [if_pos ((x_le (by omega) (by omega)).mpr (by omega)), if_neg g, if_neg (Ne.symm hx)]; rfl
theorem must8 {x : Int32} (hx : x ≠ -1) (q : t 3201 = nI K) (hK : K ≤ 64) (hi : i < 2 ^ 30) : fX8_must nF x (va_up t 3221 (nI i)) a = if sg K (a 51) i = x then some (1, va_up t 3221 (nI (i + 1)), a) else some (0, va_up t 3221 (nI i), a) := by
  unfold fX8_must
  rw [sees8 hx q hK hi, calS, up_same, up_up, up_up, Int32.add_zero, nI_1]
  split
  · rw [if_neg one0]; rfl
  · rw [if_pos rfl]; rfl
theorem seesD8 (q : t 3201 = nI K) (hK : K ≤ 64) (hi : i < 2 ^ 30) : fX8_seesDigit nF (va_up t 3221 (nI i)) a = some (b2I (isDg (sg K (a 51) i)), va_up t 3221 (nI i), a) := by
  unfold fX8_seesDigit sg
  rw [up_same, up_ne (by decide), q]
  by_cases g : i < K
  · rw [if_neg (by rw [x_le (by omega) (by omega)]; omega), bnd_ok (by omega) (by decide), nI_cl (by omega), if_pos g]
    unfold isDg
    by_cases h1 : a 51 i < 48
    · rw [if_pos h1, if_pos h1]; rfl
    · rw [if_neg h1, if_neg h1, bnd_ok (by omega) (by decide)]
      by_cases h2 : (57 : Int32) < a 51 i
      · rw [if_pos h2, if_pos h2]; rfl
      · rw [if_neg h2, if_neg h2]; rfl
  · rw [if_pos ((x_le (by omega) (by omega)).mpr (by omega)), if_neg g]; rfl
theorem digit8 (q : t 3201 = nI K) (hK : K ≤ 64) (hi : i < 2 ^ 30) : fX8_digit nF (va_up t 3221 (nI i)) a = if isDg (sg K (a 51) i) then some (1, va_up t 3221 (nI (i + 1)), a) else some (0, va_up t 3221 (nI i), a) := by
  unfold fX8_digit
  rw [seesD8 q hK hi, calS, up_same, up_up, up_up, Int32.add_zero, nI_1]
  cases isDg (sg K (a 51) i)
  · rfl
  · rfl
theorem seesT8 (q : t 3201 = nI K) (hK : K ≤ 64) (hi : i < 2 ^ 30) : fX8_seesTalker nF (va_up t 3221 (nI i)) a = some (b2I (isTkr (sg K (a 51) i)), va_up t 3221 (nI i), a) := by
  unfold fX8_seesTalker
  rw [sees8 (by decide) q hK hi, calS, sees8 (by decide) q hK hi, calS, sees8 (by decide) q hK hi, calS, sees8 (by decide) q hK hi, calS, sees8 (by decide) q hK hi, calS]
  unfold isTkr
  by_cases h1 : sg K (a 51) i = 104
  · rw [if_pos h1, if_pos h1]; rfl
  · rw [if_neg h1, if_neg h1, if_pos rfl]
    by_cases h2 : sg K (a 51) i = 111
    · rw [if_pos h2, if_pos h2]; rfl
    · rw [if_neg h2, if_neg h2, if_pos rfl]
      by_cases h3 : sg K (a 51) i = 98
      · rw [if_pos h3, if_pos h3]; rfl
      · rw [if_neg h3, if_neg h3, if_pos rfl]
        by_cases h4 : sg K (a 51) i = 103
        · rw [if_pos h4, if_pos h4]; rfl
        · rw [if_neg h4, if_neg h4, if_pos rfl]
          by_cases h5 : sg K (a 51) i = 102
          · rw [if_pos h5, if_pos h5]; rfl
          · rw [if_neg h5, if_neg h5, if_pos rfl]; rfl
theorem isDg7 {x : Int32} : fX1_isDigit nF x t a = some (b2I (isDg x), t, a) := by
  unfold fX1_isDigit isDg
  by_cases h1 : x < 48
  · rw [if_pos h1, if_pos h1]; rfl
  · rw [if_neg h1, if_neg h1]
    by_cases h2 : (57 : Int32) < x
    · rw [if_pos h2, if_pos h2]; rfl
    · rw [if_neg h2, if_neg h2]; rfl
theorem isTkr_tkN {x : Int32} : isTkr x = true ↔ ¬ tkN x < 0 := by
  unfold isTkr tkN
  by_cases h1 : x = 104
  · rw [if_pos h1, if_pos h1]; decide
  · rw [if_neg h1, if_neg h1]
    by_cases h2 : x = 111
    · rw [if_pos h2, if_pos h2]; decide
    · rw [if_neg h2, if_neg h2]
      by_cases h3 : x = 98
      · rw [if_pos h3, if_pos h3]; decide
      · rw [if_neg h3, if_neg h3]
        by_cases h4 : x = 103
        · rw [if_pos h4, if_pos h4]; decide
        · rw [if_neg h4, if_neg h4]
          by_cases h5 : x = 102
          · rw [if_pos h5, if_pos h5]; decide
          · rw [if_neg h5, if_neg h5]; decide
end RD
set_option maxRecDepth 1000000 in
theorem ch16 : ∀ c, c < 256 → ((nI c).toUInt32 % 65536).toInt32 = nI c := by decide +kernel
set_option maxRecDepth 1000000 in
theorem ch8 : ∀ c, c < 256 → ((104 : Int32) = (nI c).toInt8.toInt32 ↔ nI c = 104) ∧ ((111 : Int32) = (nI c).toInt8.toInt32 ↔ nI c = 111) ∧ ((98 : Int32) = (nI c).toInt8.toInt32 ↔ nI c = 98) ∧ ((103 : Int32) = (nI c).toInt8.toInt32 ↔ nI c = 103) ∧ ((102 : Int32) = (nI c).toInt8.toInt32 ↔ nI c = 102) := by decide +kernel
