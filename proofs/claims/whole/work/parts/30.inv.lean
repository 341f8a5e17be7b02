/-! THE INVARIANT between the class's state and the reference's -/
/-- the talkers' letters h o b g f -/
def tkL (j : Nat) : Int32 := ([104, 111, 98, 103, 102] : List Int32).getD j 0
def iLet (n : Int32) (s : Nat → Int32) (n' : Int32) (s' : Nat → Int32) : Prop := ∃ k, k ≤ 64 ∧ n = nI k ∧ n' = nI k ∧ ∀ i, i < k → s i = s' i ∧ ∃ c, c ≤ 255 ∧ s i = nI c
def iWds (w : Int32) (kd cs : Nat → Int32) (w' : Int32) (kd' cs' : Nat → Int32) : Prop := ∃ k, k ≤ 8 ∧ w = nI k ∧ w' = nI k ∧ ∀ i, i < k → kd i = kd' i ∧ cs i = cs' i ∧ (∃ c, c ≤ 3 ∧ kd i = nI c) ∧ ∃ c, c ≤ 255 ∧ cs i = nI c
def iWt (ws ws' : Nat → Int32) : Prop := ∀ i, i < 8 → ws i = ws' i ∧ ∃ c, c ≤ 9 ∧ ws i = nI c
def iPer (n : Int32) (ps : Nat → Int32) (n' : Int32) (ps' : Nat → Int32) : Prop := ∃ k, k ≤ 4 ∧ n = nI k ∧ n' = nI k ∧ ∀ i, i < k → ∃ j, j < 5 ∧ ps i = nI j ∧ ps' i = tkL j
def iNum (b : Nat) (x x' : Int32) : Prop := ∃ k, k < b ∧ x = nI k ∧ x' = nI k
def iRow (w n : Int32) (s : Nat → Int32) (n' : Int32) (s' : Nat → Int32) : Prop := ∃ k wn, k ≤ 6 ∧ wn ≤ 8 ∧ w = nI wn ∧ n = nI k ∧ n' = nI k ∧ ∀ i, i < k → s i = s' i ∧ ∃ c, c < wn ∧ s i = nI c
/-- a saying in one number -/
def pk (m f id ln : Nat) : Nat := m + 256 * f + 2048 * id + 16384 * ln
def iTalk (n : Int32) (s : Nat → Int32) (n' : Int32) (lw lm li : Nat → Int32) : Prop := ∃ k, k ≤ 12 ∧ n = nI k ∧ n' = nI k ∧ ∀ i, i < k → ∃ m f id ln, m < 256 ∧ f < 8 ∧ id ≤ ln ∧ ln ≤ 6 ∧ s i = nI (pk m f id ln) ∧ lw i = nI ln ∧ lm i = nI m ∧ li i = nI id
def iRef (r r' : Nat → Int32) : Prop := ∀ i, i < 7 → r i = r' i
/-- all that is told, by a tongue's fields on either side -/
def iTng (w : Int32) (kd cs ws : Nat → Int32) (np : Int32) (ps : Nat → Int32) (lw tc : Int32) (w' : Int32) (kd' cs' ws' : Nat → Int32) (np' : Int32) (ps' : Nat → Int32) (lw' tc' : Int32) : Prop := iWds w kd cs w' kd' cs' ∧ iWt ws ws' ∧ iPer np ps np' ps' ∧ iNum 5 lw lw' ∧ iNum 8 tc tc'
def Lo (t : sT) (a : sA) : Prop := iLet (t 65) (a 2) (t 3201) (a 51) ∧ iTng (t 196) (a 4) (a 5) (a 6) (t 197) (a 7) (t 198) (t 199) (t 3207) (a 55) (a 56) (a 57) (t 3211) (a 58) (t 3213) (t 3214) ∧ iRow (t 196) (t 833) (a 14) (t 3203) (a 52) ∧ iRow (t 196) (t 961) (a 16) (t 3205) (a 53) ∧ iTalk (t 1089) (a 18) (t 3215) (a 59) (a 60) (a 61) ∧ iNum 256 (t 10) (t 3219) ∧ iRef (a 49) (a 54)
/-- the image: the class's copy against the reference's kept object -/
def iImg (u : Option Nat) (t : sT) (a : sA) : Prop := match u with
  | none => t 2627 = 0
  | some k => t 2627 = 1 ∧ iTng (t 2692) (a 43) (a 44) (a 45) (t 2693) (a 46) (t 2694) (t 2695) (t (64 * k + 7)) (a (k + 5)) (a (k + 6)) (a (k + 7)) (t (64 * k + 11)) (a (k + 8)) (t (64 * k + 13)) (t (64 * k + 14)) ∧ iTalk (t 3009) (a 48) (t (64 * k + 15)) (a (k + 9)) (a (k + 10)) (a (k + 11)) ∧ iNum 256 (t 2626) (t (64 * k + 19))
/-- how many models there are, and which -/
def iN (N : Nat) (u v : Option Nat) : Prop := (u = none ∧ v = none ∧ N = 653) ∨ (u = some 653 ∧ v = none ∧ N = 1256) ∨ (u = none ∧ v = some 653 ∧ N = 1256) ∨ (u = some 653 ∧ v = some 1256 ∧ N = 1859) ∨ (u = some 1256 ∧ v = some 653 ∧ N = 1859)
def Hi (N : Nat) (u v : Option Nat) (t : sT) (a : sA) : Prop := iN N u v ∧ iImg u t a ∧ zT t N ∧ zA a N
def Inv (S : sT → sA → Prop) : Iv := fun N u v t a => Lo t a ∧ S t a ∧ Hi N u v t a
/-- which places the Sayings' caches speak of -/
def tS (q : Nat) : Prop := q = 196 ∨ (1216 ≤ q ∧ q < 1280) ∨ (1920 ≤ q ∧ q < 1984)
def tSA (k : Nat) : Prop := k = 4 ∨ k = 5 ∨ k = 6 ∨ (20 ≤ k ∧ k ≤ 29) ∨ (31 ≤ k ∧ k ≤ 40)
def tH (q : Nat) : Prop := q = 2626 ∨ q = 2627 ∨ (2692 ≤ q ∧ q ≤ 2695) ∨ q = 3009 ∨ 41792 ≤ q
def tHA (k : Nat) : Prop := (43 ≤ k ∧ k ≤ 46) ∨ k = 48 ∨ 653 ≤ k
def SF (S : sT → sA → Prop) : Prop := ∀ (t t' : sT) (a a' : sA), (∀ q, tS q → t' q = t q) → (∀ k, tSA k → a' k = a k) → S t a → S t' a'
theorem iN_653 {N : Nat} {u v : Option Nat} (h : iN N u v) : 653 ≤ N := by unfold iN at h; omega
theorem iN_u {N k : Nat} {u v : Option Nat} (h : iN N u v) (hu : u = some k) : isMd k ∧ k + 603 ≤ N ∧ 653 ≤ k := by
  unfold iN at h
  subst hu
  rcases h with ⟨h1, h2, h3⟩ | ⟨h1, h2, h3⟩ | ⟨h1, h2, h3⟩ | ⟨h1, h2, h3⟩ | ⟨h1, h2, h3⟩
  · cases h1
  · cases h1; exact ⟨Or.inr (Or.inl rfl), by omega, by omega⟩
  · cases h1
  · cases h1; exact ⟨Or.inr (Or.inl rfl), by omega, by omega⟩
  · cases h1; exact ⟨Or.inr (Or.inr rfl), by omega, by omega⟩
theorem iN_v {N k : Nat} {u v : Option Nat} (h : iN N u v) (hv : v = some k) : isMd k ∧ k + 603 ≤ N ∧ 653 ≤ k ∧ u ≠ some k := by
  unfold iN at h
  subst hv
  rcases h with ⟨h1, h2, h3⟩ | ⟨h1, h2, h3⟩ | ⟨h1, h2, h3⟩ | ⟨h1, h2, h3⟩ | ⟨h1, h2, h3⟩
  · cases h2
  · cases h2
  · cases h2; exact ⟨Or.inr (Or.inl rfl), by omega, by omega, by rw [h1]; decide⟩
  · cases h2; exact ⟨Or.inr (Or.inr rfl), by omega, by omega, by rw [h1]; decide⟩
  · cases h2; exact ⟨Or.inr (Or.inl rfl), by omega, by omega, by rw [h1]; decide⟩
theorem Hi.fr {N : Nat} {u v : Option Nat} {t t' : sT} {a a' : sA} (ht : ∀ q, tH q → t' q = t q) (ha : ∀ k, tHA k → a' k = a k) (h : Hi N u v t a) : Hi N u v t' a' := by
  obtain ⟨h1, h2, h3, h4⟩ := h
  have hN := iN_653 h1
  refine ⟨h1, ?_, fun q hq => ?_, fun k hk => ?_⟩
  · rcases u with _ | k
    · show t' 2627 = 0
      rw [ht 2627 (by unfold tH; omega)]
      exact h2
    · obtain ⟨-, -, hk⟩ := iN_u h1 rfl
      obtain ⟨g1, g2, g3, g4⟩ := h2
      refine ⟨?_, ?_, ?_, ?_⟩
      · rw [ht 2627 (by unfold tH; omega)]; exact g1
      · rw [ht 2692 (by unfold tH; omega), ht 2693 (by unfold tH; omega), ht 2694 (by unfold tH; omega), ht 2695 (by unfold tH; omega), ht (64 * k + 7) (by unfold tH; omega), ht (64 * k + 11) (by unfold tH; omega), ht (64 * k + 13) (by unfold tH; omega), ht (64 * k + 14) (by unfold tH; omega), ha 43 (by unfold tHA; omega), ha 44 (by unfold tHA; omega), ha 45 (by unfold tHA; omega), ha 46 (by unfold tHA; omega), ha (k + 5) (by unfold tHA; omega), ha (k + 6) (by unfold tHA; omega), ha (k + 7) (by unfold tHA; omega), ha (k + 8) (by unfold tHA; omega)]
        exact g2
      · rw [ht 3009 (by unfold tH; omega), ht (64 * k + 15) (by unfold tH; omega), ha 48 (by unfold tHA; omega), ha (k + 9) (by unfold tHA; omega), ha (k + 10) (by unfold tHA; omega), ha (k + 11) (by unfold tHA; omega)]
        exact g3
      · rw [ht 2626 (by unfold tH; omega), ht (64 * k + 19) (by unfold tH; omega)]
        exact g4
  · rw [ht q (by unfold tH; omega)]
    exact h3 q hq
  · rw [ha k (by unfold tHA; omega)]
    exact h4 k hk
/-! numbers -/
theorem x_lt {a b : Nat} (ha : a < 2 ^ 31) (hb : b < 2 ^ 31) : nI a < nI b ↔ a < b := nI_ltI ha hb
theorem x_le {a b : Nat} (ha : a < 2 ^ 31) (hb : b < 2 ^ 31) : nI a ≤ nI b ↔ a ≤ b := nI_leI ha hb
theorem x_eq {a b : Nat} (ha : a < 2 ^ 31) (hb : b < 2 ^ 31) : nI a = nI b ↔ a = b := nI_eq ha hb
theorem lt_nI {x : Int32} {b : Nat} (h0 : ¬ x < 0) (h : x < nI b) (hb : b < 2 ^ 31) : ∃ j, j < b ∧ x = nI j := by
  obtain ⟨j, hj, rfl⟩ := nI_of h0
  exact ⟨j, (x_lt hj hb).mp h, rfl⟩
theorem bnd_ok {ρ : Type} {k n : Nat} {A : Option ρ} (h : k < n) (hn : n < 2 ^ 31) : bnd (nI k) n A = A := by
  unfold bnd
  rw [if_neg (vp_in_nI h hn)]
theorem nI_cl {n : Nat} (h : n < 2 ^ 31) : (nI n).toNatClampNeg = n := nI_clamp h
theorem zok0 {ρ : Type} {A : Option ρ} : zok 0 A = A := rfl
theorem zok1 {ρ : Type} {A : Option ρ} : zok 1 A = A := rfl
theorem cal_of {ρ : Type} {o : Rs} {K : Int32 → sT → sA → Option ρ} {v : Int32} {t : sT} {a : sA} (h : o = some (v, t, a)) : cal o K = K v t a := by rw [h]; rfl
/-- any int is below 0, or small, or not small -/
theorem tri (x : Int32) {n : Nat} (hn : n < 2 ^ 31) : x < 0 ∨ (∃ j, j < n ∧ x = nI j) ∨ (¬ x < 0 ∧ nI n ≤ x) := by
  by_cases h0 : x < 0
  · exact Or.inl h0
  · obtain ⟨j, hj, rfl⟩ := nI_of h0
    rcases Nat.lt_or_ge j n with h | h
    · exact Or.inr (Or.inl ⟨j, h, rfl⟩)
    · exact Or.inr (Or.inr ⟨h0, (x_le hn hj).mpr h⟩)
