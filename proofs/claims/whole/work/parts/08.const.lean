/-! constants, places of ours -/
theorem rowlt {i N : Nat} (h : i < 585) (hN : 653 ≤ N) : 64 + i < N := by omega
theorem tg3 : isTg 3 := (Or.inl rfl)
theorem tg8 : isTg 8 := (Or.inr (Or.inl rfl))
theorem tg42 : isTg 42 := (Or.inr (Or.inr rfl))
theorem rw13 : isRw 13 := (Or.inl rfl)
theorem rw15 : isRw 15 := (Or.inr rfl)
theorem tk17 : isTk 17 := (Or.inl rfl)
theorem tk47 : isTk 47 := (Or.inr rfl)
theorem sy19 : isSy 19 := (Or.inl rfl)
theorem sy30 : isSy 30 := (Or.inr rfl)
theorem cI_0 : Int32.ofInt 0 = 0 := by decide
theorem cI_1 : Int32.ofInt 1 = 1 := by decide
theorem cB_8 : (Int8.ofInt 8).toInt32 = 8 := by decide
