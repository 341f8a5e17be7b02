/-! constants, places of ours -/
theorem rowlt {i N : Nat} (h : i < 585) (hN : 653 ≤ N) : 64 + i < N := by omega
theorem tg3 : isTg 3 := (Or.inl rfl)
theorem tg8 : isTg 8 := (Or.inr (Or.inl rfl))
theorem tg42 : isTg 42 := (Or.inr (Or.inr rfl))
theorem rw13 : isRw 13 := (Or.inl rfl)
theorem rw15 : isRw 15 := (Or.inr rfl)
theorem tk17 : isTk 17 := (Or.inl rfl)
theorem tk47 : isTk 47 := (Or.inr rfl)
theorem sy19 : isSy 19 := (Or.inl rfl)
theorem sy30 : isSy 30 := (Or.inr rfl)
theorem cI_m1 : Int32.ofInt (-1) = (-1) := by decide
theorem cI_0 : Int32.ofInt 0 = 0 := by decide
theorem cI_1 : Int32.ofInt 1 = 1 := by decide
theorem cI_2 : Int32.ofInt 2 = 2 := by decide
theorem cI_3 : Int32.ofInt 3 = 3 := by decide
theorem cI_4 : Int32.ofInt 4 = 4 := by decide
theorem cI_5 : Int32.ofInt 5 = 5 := by decide
theorem cB_m9 : (Int8.ofInt (-9)).toInt32 = (-9) := by decide
theorem cB_m6 : (Int8.ofInt (-6)).toInt32 = (-6) := by decide
theorem cB_m4 : (Int8.ofInt (-4)).toInt32 = (-4) := by decide
theorem cB_m3 : (Int8.ofInt (-3)).toInt32 = (-3) := by decide
theorem cB_m2 : (Int8.ofInt (-2)).toInt32 = (-2) := by decide
theorem cB_6 : (Int8.ofInt 6).toInt32 = 6 := by decide
theorem cB_7 : (Int8.ofInt 7).toInt32 = 7 := by decide
theorem cB_8 : (Int8.ofInt 8).toInt32 = 8 := by decide
theorem cB_10 : (Int8.ofInt 10).toInt32 = 10 := by decide
theorem cB_11 : (Int8.ofInt 11).toInt32 = 11 := by decide
theorem cB_12 : (Int8.ofInt 12).toInt32 = 12 := by decide
theorem cB_14 : (Int8.ofInt 14).toInt32 = 14 := by decide
theorem cB_16 : (Int8.ofInt 16).toInt32 = 16 := by decide
theorem cB_30 : (Int8.ofInt 30).toInt32 = 30 := by decide
theorem cB_44 : (Int8.ofInt 44).toInt32 = 44 := by decide
theorem cB_48 : (Int8.ofInt 48).toInt32 = 48 := by decide
theorem cB_57 : (Int8.ofInt 57).toInt32 = 57 := by decide
theorem cB_59 : (Int8.ofInt 59).toInt32 = 59 := by decide
theorem cB_64 : (Int8.ofInt 64).toInt32 = 64 := by decide
theorem cB_98 : (Int8.ofInt 98).toInt32 = 98 := by decide
theorem cB_100 : (Int8.ofInt 100).toInt32 = 100 := by decide
theorem cB_102 : (Int8.ofInt 102).toInt32 = 102 := by decide
theorem cB_103 : (Int8.ofInt 103).toInt32 = 103 := by decide
theorem cB_104 : (Int8.ofInt 104).toInt32 = 104 := by decide
theorem cB_105 : (Int8.ofInt 105).toInt32 = 105 := by decide
theorem cB_108 : (Int8.ofInt 108).toInt32 = 108 := by decide
theorem cB_110 : (Int8.ofInt 110).toInt32 = 110 := by decide
theorem cB_111 : (Int8.ofInt 111).toInt32 = 111 := by decide
theorem cB_112 : (Int8.ofInt 112).toInt32 = 112 := by decide
theorem cB_116 : (Int8.ofInt 116).toInt32 = 116 := by decide
theorem cB_119 : (Int8.ofInt 119).toInt32 = 119 := by decide
theorem cS_m2000 : (Int16.ofInt (-2000)).toInt32 = (-2000) := by decide
theorem cS_m1000 : (Int16.ofInt (-1000)).toInt32 = (-1000) := by decide
theorem cS_255 : (Int16.ofInt 255).toInt32 = 255 := by decide
theorem cS_256 : (Int16.ofInt 256).toInt32 = 256 := by decide
theorem cS_512 : (Int16.ofInt 512).toInt32 = 512 := by decide
theorem cS_1024 : (Int16.ofInt 1024).toInt32 = 1024 := by decide
theorem cS_2048 : (Int16.ofInt 2048).toInt32 = 2048 := by decide
theorem cS_16384 : (Int16.ofInt 16384).toInt32 = 16384 := by decide
