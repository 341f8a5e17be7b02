/-! the form of one statement, on both sides -/
/-- a sign: a letter's number, or -1 -/
def okS (x : Int32) : Prop := x = -1 ∨ ∃ c, c ≤ 255 ∧ x = nI c
theorem len_ok {nF i2 : Nat} (h : i2 < 6) {t : sT} {a : sA} : fJ0_length_8abf5 nF i2 t a = some (nI (strN.getD i2 0), t, a) := by
  unfold fJ0_length_8abf5 fJ0_coder_7d493
  rw [if_neg (by decide), zok0, calS]
  have : ∀ i, i < 6 → (Int32.ofNat (strN.getD i 0)) >>> ((0 : Int32) &&& 31) = nI (strN.getD i 0) := by decide
  rw [this i2 h]
theorem lat_ok {nF i2 : Nat} {t : sT} {a : sA} : fJ0_isLatin1_aae02 nF i2 t a = some (1, t, a) := by
  unfold fJ0_isLatin1_aae02
  rw [if_neg (by decide), if_pos rfl, zok1]
theorem chr_ok {nF i2 k : Nat} (h : i2 < 4) (hk : k < strN.getD i2 0) {t : sT} {a : sA} : fJ0_charAt_5068e nF i2 (nI k) t a = some ((strB.getD i2 []).getD k 0, t, a) := by
  have h4 : strN.getD i2 0 ≤ 4 := by
    have : ∀ i, i < 4 → strN.getD i 0 ≤ 4 := by decide
    exact this i2 h
  have c1 : (((((strB.getD i2 []).getD k 0) &&& (255 : Int32)).toUInt32 % 65536).toInt32) = (strB.getD i2 []).getD k 0 := by
    have : ∀ i, i < 4 → ∀ k, k < 4 → (((((strB.getD i []).getD k 0) &&& (255 : Int32)).toUInt32 % 65536).toInt32) = (strB.getD i []).getD k 0 := by decide
    exact this i2 h k (by omega)
  have c2 : (((strB.getD i2 []).getD k 0).toUInt32 % 65536).toInt32 = (strB.getD i2 []).getD k 0 := by
    have : ∀ i, i < 4 → ∀ k, k < 4 → ((((strB.getD i []).getD k 0)).toUInt32 % 65536).toInt32 = (strB.getD i []).getD k 0 := by decide
    exact this i2 h k (by omega)
  unfold fJ0_charAt_5068e fJ1_charAt_3b067 fJ0_checkIndex_df160 fJ3_checkIndex_8e157
  rw [lat_ok, calS, if_neg one0, if_neg (nneg (by omega)), if_pos (show nI k < Int32.ofNat (strN.getD i2 0) from (x_lt (by omega) (by omega)).mpr hk), calS, calS, bnd_ok hk (by omega), nI_cl (by omega), c1]
  unfold cok
  rw [if_pos c2, calS, if_pos c2]
theorem talker7 {nF : Nat} (hF : 100 ≤ nF) {t : sT} {a : sA} {x : Int32} (hx : okS x) : fX1_talkerOf nF x t a = some (tkN x, t, a) := by
  rcases hx with rfl | ⟨c, hc, rfl⟩
  · rfl
  · obtain ⟨n, rfl⟩ : ∃ n, nF = n + 6 := ⟨nF - 6, by omega⟩
    obtain ⟨h1, h2, h3, h4, h5⟩ := ch8 c (by omega)
    unfold fX1_talkerOf
    rw [if_pos (Int32.not_lt.mp (nneg (by omega))), ch16 c (by omega)]
    have ce : fJ1_canEncode_9a6ad (n + 6) (nI c) t a = some (1, t, a) := by
      unfold fJ1_canEncode_9a6ad
      rw [if_neg (nneg (by omega)), if_neg (by rw [show (255 : Int32) = nI 255 from rfl, x_lt (by omega) (by omega)]; omega)]; rfl
    have ix : fJ1_indexOfChar_4cfef (n + 6) 5 (nI c) 0 5 t a = some (tkN (nI c), t, a) := by
      show (if (104 : Int32) = (nI c).toInt8.toInt32 then some ((0 : Int32), t, a) else if (111 : Int32) = (nI c).toInt8.toInt32 then some (1, t, a) else if (98 : Int32) = (nI c).toInt8.toInt32 then some (2, t, a) else if (103 : Int32) = (nI c).toInt8.toInt32 then some (3, t, a) else if (102 : Int32) = (nI c).toInt8.toInt32 then some (4, t, a) else some (-1, t, a)) = _
      unfold tkN
      by_cases g1 : nI c = 104
      · rw [if_pos (h1.mpr g1), if_pos g1]
      · rw [if_neg (fun y => g1 (h1.mp y)), if_neg g1]
        by_cases g2 : nI c = 111
        · rw [if_pos (h2.mpr g2), if_pos g2]
        · rw [if_neg (fun y => g2 (h2.mp y)), if_neg g2]
          by_cases g3 : nI c = 98
          · rw [if_pos (h3.mpr g3), if_pos g3]
          · rw [if_neg (fun y => g3 (h3.mp y)), if_neg g3]
            by_cases g4 : nI c = 103
            · rw [if_pos (h4.mpr g4), if_pos g4]
            · rw [if_neg (fun y => g4 (h4.mp y)), if_neg g4]
              by_cases g5 : nI c = 102
              · rw [if_pos (h5.mpr g5), if_pos g5]
              · rw [if_neg (fun y => g5 (h5.mp y)), if_neg g5]
    have io : fJ1_indexOf_4cfef (n + 6) 5 (nI c) 0 5 t a = some (tkN (nI c), t, a) := by
      unfold fJ1_indexOf_4cfef
      rw [ce, calS, if_neg one0]
      show (if (0 : Int32) < 5 then cal (fJ1_indexOfChar_4cfef (n + 6) 5 (nI c) 0 5 t a) _ else _) = _
      rw [if_pos (by decide), ix, calS]
    unfold fJ0_indexOf_0f7a4 fJ0_indexOf_7cf53
    rw [lat_ok, calS, if_neg one0, len_ok (by decide), calS, show nI (strN.getD 5 0) = (5 : Int32) from rfl, io, calS, calS, calS]
/-- does a sign fit a letter of the form -/
def ftS (c x : Int32) : Bool := if c = 48 then isDg x else if c = 107 then isTkr x else decide (x = c)
def fmB (g : Nat → Int32) : List Int32 → Nat → Bool × Nat
  | [], p => (true, p)
  | c :: cs, p => if ftS c (g p) then fmB g cs (p + 1) else (false, p)
def dgr (g : Nat → Int32) : Nat → Nat → Nat
  | 0, p => p
  | n + 1, p => if isDg (g p) then dgr g n (p + 1) else p
def foI (x : Int32) : Nat := if x = 105 then 0 else if x = 108 then 2 else if x = 110 then 0 else if x = 111 then 0 else if x = 112 then 3 else if x = 119 then 1 else 4
def stB (g : Nat → Int32) (p : Nat) : Bool × Nat := if g p = 116 then (if dgr g 8 (p + 1) = p + 1 then (false, p + 1) else if g (dgr g 8 (p + 1)) = 59 then (true, dgr g 8 (p + 1) + 1) else (false, dgr g 8 (p + 1))) else if foI (g p) = 4 then (false, p) else fmB g (strB.getD (foI (g p)) []) (p + 1)
def rsB (r : Bool × Nat) : Int32 := if r.1 then nI r.2 else (-1000 : Int32) - nI r.2
theorem fits7 {nF : Nat} (hF : 100 ≤ nF) {t : sT} {a : sA} {c x : Int32} (hx : okS x) : fX1_fits nF c x t a = some (b2I (ftS c x), t, a) := by
  unfold fX1_fits ftS
  by_cases h1 : c = 48
  · rw [if_pos h1, if_pos h1, isDg7, calS]; cases isDg x <;> rfl
  · rw [if_neg h1, if_neg h1]
    by_cases h2 : c = 107
    · rw [if_pos h2, if_pos h2, talker7 hF hx, calS]
      by_cases h3 : tkN x < 0
      · have : isTkr x = false := by cases e : isTkr x; rfl; exact absurd h3 (isTkr_tkN.mp e)
        rw [if_pos h3, this]; rfl
      · rw [if_neg h3, isTkr_tkN.mpr h3]; rfl
    · rw [if_neg h2, if_neg h2]
      by_cases h3 : x = c
      · rw [if_pos h3, decide_eq_true h3]; rfl
      · rw [if_neg h3, decide_eq_false h3]; rfl
theorem b2T : b2I true = 1 := rfl
theorem b2F : b2I false = 0 := rfl
section BF
variable {nF K p : Nat} {t : sT} {a : sA}
theorem okS_sg {A : Nat → Int32} (hs : ∀ i, i < K → ∃ c, c ≤ 255 ∧ A i = nI c) (i : Nat) : okS (sg K A i) := by
  unfold sg
  by_cases g : i < K
  · rw [if_pos g]; exact Or.inr (hs i g)
  · rw [if_neg g]; exact Or.inl rfl
theorem form7 (hF : 100 ≤ nF) (q : t 65 = nI K) (hK : K ≤ 64) (hs : ∀ i, i < K → ∃ c, c ≤ 255 ∧ a 2 i = nI c) (hp : p < 1000) {i2 : Nat} (h4 : i2 < 4) : ∀ d k n, k + d = strN.getD i2 0 → d < n → gX1_behindForm nF i2 n (nI p) (nI k) t a = some (rsB (fmB (sg K (a 2)) ((strB.getD i2 []).drop k) (p + 1 + k)), t, a) := by
  have hlen : strN.getD i2 0 ≤ 4 := by
    have : ∀ i, i < 4 → strN.getD i 0 ≤ 4 := by decide
    exact this i2 h4
  have ln : ∀ t' a', fJ0_length_8abf5 nF i2 t' a' = some (nI (strN.getD i2 0), t', a') := fun t' a' => len_ok (by omega)
  intro d
  induction d with
  | zero =>
    intro k n hk hn
    obtain ⟨n, rfl⟩ : ∃ m, n = m + 1 := ⟨n - 1, by omega⟩
    have dr : (strB.getD i2 []).drop k = [] := by
      have : ∀ i, i < 4 → (strB.getD i []).drop (strN.getD i 0) = [] := by decide
      rw [show k = strN.getD i2 0 by omega]
      exact this i2 h4
    show gX1_behindForm_15 nF i2 (gX1_behindForm nF i2 n) _ _ t a = _
    unfold gX1_behindForm_15
    rw [ln, calS, if_pos ((x_le (by omega) (by omega)).mpr (by omega)), ln, calS, dr, nI_1, nI_add]
    show _ = some (nI (p + 1 + k), t, a)
    rw [show k = strN.getD i2 0 by omega]
  | succ d ih =>
    intro k n hk hn
    obtain ⟨n, rfl⟩ : ∃ m, n = m + 1 := ⟨n - 1, by omega⟩
    have ih := ih (k + 1) n (by omega) (by omega)
    have dr : ∃ c, (strB.getD i2 []).drop k = c :: (strB.getD i2 []).drop (k + 1) ∧ ∀ t' a', fJ0_charAt_5068e nF i2 (nI k) t' a' = some (c, t', a') := by
      have hk4 : k < strN.getD i2 0 := by omega
      have : ∀ i, i < 4 → ∀ k, k < 4 → k < strN.getD i 0 → (strB.getD i []).drop k = (strB.getD i []).getD k 0 :: (strB.getD i []).drop (k + 1) := by decide
      exact ⟨_, this i2 h4 k (by omega) hk4, fun t' a' => chr_ok h4 hk4⟩
    obtain ⟨c, e1, e2⟩ := dr
    show gX1_behindForm_15 nF i2 (gX1_behindForm nF i2 n) _ _ t a = _
    unfold gX1_behindForm_15
    rw [ln, calS, if_neg (by rw [x_le (by omega) (by omega)]; omega), e2, calS, nI_1, nI_add, sign7 q hK (by omega), calS, fits7 hF (okS_sg hs _), calS, e1, nI_1]
    show _ = some (rsB (if ftS c (sg K (a 2) (p + 1 + k)) then fmB (sg K (a 2)) ((strB.getD i2 []).drop (k + 1)) (p + 1 + k + 1) else (false, p + 1 + k)), t, a)
    cases ftS c (sg K (a 2) (p + 1 + k))
    · rw [b2F, if_pos rfl]; rfl
    · rw [b2T, if_neg one0]
      exact ih
end BF
