/-! force -/
theorem btN_tb (m c : Nat) : btN m c = m.testBit c := by unfold btN; rw [Nat.testBit_eq_decide_div_mod_eq]
theorem btN_or {m n c : Nat} : btN (m ||| n) c = (btN m c || btN n c) := by rw [btN_tb, btN_tb, btN_tb, Nat.testBit_or]
theorem btN_and {m n c : Nat} : btN (m &&& n) c = (btN m c && btN n c) := by rw [btN_tb, btN_tb, btN_tb, Nat.testBit_and]
theorem btN_0 {c : Nat} : btN 0 c = false := by rw [btN_tb, Nat.zero_testBit]
theorem btN_hi {m c : Nat} (hm : m < 256) (hc : 8 ≤ c) : btN m c = false := by
  rw [btN_tb]
  exact Nat.testBit_lt_two_pow (Nat.lt_of_lt_of_le hm (show 2 ^ 8 ≤ 2 ^ c from Nat.pow_le_pow_right (by decide) hc))
theorem and_0 {m n : Nat} (hm : m < 256) : m &&& n = 0 ↔ ∀ c, c < 8 → ¬ (btN m c = true ∧ btN n c = true) := by
  constructor
  · intro h c hc ⟨h1, h2⟩
    have := btN_and (m := m) (n := n) (c := c)
    rw [h, btN_0, h1, h2] at this
    exact absurd this (by decide)
  · intro h
    apply Nat.eq_of_testBit_eq
    intro c
    rw [← btN_tb, ← btN_tb, btN_0, btN_and]
    by_cases hc : c < 8
    · cases h1 : btN m c
      · rfl
      · cases h2 : btN n c
        · rfl
        · exact absurd ⟨h1, h2⟩ (h c hc)
    · rw [btN_hi hm (by omega)]; rfl
theorem sub_set {H an : Nat} (hH : H < 256) (ha : an < 256) : nI H &&& (nI an ^^^ (-1 : Int32)) = 0 ↔ ∀ c, c < 8 → btN H c = true → btN an c = true := by
  have hx : an ^^^ 4294967295 < 2 ^ 32 := Nat.xor_lt_two_pow (by omega) (by decide)
  rw [show (-1 : Int32) = nI 4294967295 from rfl, b_xor (by omega) (by decide), b_and (by omega) hx, nI0 (Nat.lt_of_le_of_lt Nat.and_le_left (by omega)), and_0 hH]
  have hb : ∀ c, c < 8 → btN (an ^^^ 4294967295) c = !btN an c := by
    intro c hc
    rw [btN_tb, btN_tb, Nat.testBit_xor]
    have : ∀ c, c < 8 → Nat.testBit 4294967295 c = true := by decide
    rw [this c hc, Bool.xor_true]
  constructor
  · intro h c hc h1
    have := h c hc
    rw [hb c hc] at this
    cases h2 : btN an c
    · exact absurd ⟨h1, by rw [h2]; rfl⟩ this
    · rfl
  · intro h c hc ⟨h1, h2⟩
    rw [hb c hc, h c hc h1] at h2
    exact absurd h2 (by decide)
def hvB (A : Nat → Int32) (c : Nat) : Bool := decide (0 < (A c).toNatClampNeg)
def cntB (A : Nat → Int32) (m : Nat) : Bool := anyB (fun c => hvB A c && btN m c) 8
def fcB (w : Nat) (kd cs : Nat → Nat) (A : Nat → Int32) (L set : Int32) (q : Sn) : Bool := !(anyB (fun i => ansB L q (sn w kd cs i) && (cntB A (sn w kd cs i).1 && !osI (nI (sn w kd cs i).1) set)) (lv w 3)) && !(anyB (fun c => hvB A c && !(anyB (fun i => ansB L q (sn w kd cs i) && btN (sn w kd cs i).1 c) (lv w 3))) 8)
def fcP (w : Nat) (kd cs : Nat → Nat) (A : Nat → Int32) (L set : Int32) (q : Sn) : Prop := (∀ i, i < lv w 3 → ansB L q (sn w kd cs i) = true → cntB A (sn w kd cs i).1 = true → osI (nI (sn w kd cs i).1) set = true) ∧ ∀ c, c < 8 → hvB A c = true → ∃ i, i < lv w 3 ∧ ansB L q (sn w kd cs i) = true ∧ btN (sn w kd cs i).1 c = true
theorem fcB_iff {w : Nat} {kd cs : Nat → Nat} {A : Nat → Int32} {L set : Int32} {q : Sn} : fcB w kd cs A L set q = true ↔ fcP w kd cs A L set q := by
  unfold fcB fcP
  rw [Bool.and_eq_true, Bool.not_eq_true', Bool.not_eq_true', ← Bool.not_eq_true, ← Bool.not_eq_true, anyB_iff, anyB_iff]
  constructor
  · rintro ⟨h1, h2⟩
    refine ⟨fun i hi ha hc => ?_, fun c hc hh => ?_⟩
    · cases ho : osI (nI (sn w kd cs i).1) set
      · exact absurd ⟨i, hi, by rw [ha, hc, ho]; rfl⟩ h1
      · rfl
    · cases ho : anyB (fun i => ansB L q (sn w kd cs i) && btN (sn w kd cs i).1 c) (lv w 3)
      · exact absurd ⟨c, hc, by rw [hh, ho]; rfl⟩ h2
      · obtain ⟨i, hi, e⟩ := (anyB_iff _).mp ho
        rw [Bool.and_eq_true] at e
        exact ⟨i, hi, e⟩
  · rintro ⟨h1, h2⟩
    refine ⟨?_, ?_⟩
    · rintro ⟨i, hi, e⟩
      rw [Bool.and_eq_true, Bool.and_eq_true] at e
      obtain ⟨e1, e2, e3⟩ := e
      rw [h1 i hi e1 e2] at e3
      exact absurd e3 (by decide)
    · rintro ⟨c, hc, e⟩
      rw [Bool.and_eq_true] at e
      obtain ⟨e1, e2⟩ := e
      obtain ⟨i, hi, k1, k2⟩ := h2 c hc e1
      have : anyB (fun i => ansB L q (sn w kd cs i) && btN (sn w kd cs i).1 c) (lv w 3) = true := (anyB_iff _).mpr ⟨i, hi, by rw [k1, k2]; rfl⟩
      rw [this] at e2
      exact absurd e2 (by decide)
theorem fcB_sq {w : Nat} {kd cs : Nat → Nat} {A : Nat → Int32} {L set : Int32} {q q' : Sn} (h : sk q q') : fcB w kd cs A L set q = fcB w kd cs A L set q' := by
  have : ∀ x, ansB L q x = ansB L q' x := fun x => ansB_sq h
  unfold fcB
  simp only [this]
def frcO (w : Nat) (kd cs : Nat → Nat) (A : Nat → Int32) (L set : Int32) : Option Nat := pick (fun i => decide (1 ≤ i) && fcB w kd cs A L set (sn w kd cs i)) (fun _ => 0) (lv w 3)
theorem eqB {b : Bool} {p : Prop} {c : Bool} (h1 : b = true ↔ p) (h2 : c = true ↔ p) : b = c := by
  rw [Bool.eq_iff_iff, h1, h2]
section F7
variable {nF P w : Nat} {kd cs : Nat → Nat} {A : Nat → Int32} {G : Nat} {F Z : Nat → Nat} {t : sT} {a : sA}
theorem hvB_ok (hA : okB A) {c : Nat} (hc : c < 8) : (A c ≤ 0) ↔ hvB A c = false := by
  obtain ⟨k, hk, k1, k2, k3⟩ := w_pos hA hc
  unfold hvB
  rw [k3, k2, decide_eq_false_iff_not]
  omega
theorem heavy7 (hF : 100 ≤ nF) (hA : okB A) (h6 : a 6 = A) : ∃ H, H < 256 ∧ fX3_casesWithWeight nF P t a = some (nI H, t, a) ∧ ∀ c, c < 8 → btN H c = hvB A c := by
  have go : ∀ d c n h, c + d = 8 → d < n → h < 2 ^ c → (∀ i, i < c → btN h i = hvB A i) → ∃ H, H < 256 ∧ gX3_casesWithWeight nF P n (nI h) (nI c) t a = some (nI H, t, a) ∧ ∀ c, c < 8 → btN H c = hvB A c := by
    intro d
    induction d with
    | zero =>
      intro c n h hc hn hh hb
      obtain ⟨n, rfl⟩ : ∃ m, n = m + 1 := ⟨n - 1, by omega⟩
      have : c = 8 := by omega
      subst this
      refine ⟨h, hh, ?_, hb⟩
      show gX3_casesWithWeight_4 nF P (gX3_casesWithWeight nF P n) _ _ t a = _
      unfold gX3_casesWithWeight_4
      rw [if_pos (by decide)]
    | succ d ih =>
      intro c n h hc hn hh hb
      obtain ⟨n, rfl⟩ : ∃ m, n = m + 1 := ⟨n - 1, by omega⟩
      have hp : 2 ^ c < 2 ^ 8 := Nat.pow_lt_pow_right (by decide) (by omega)
      have hp1 : 2 ^ c < 2 ^ (c + 1) := Nat.pow_lt_pow_right (by decide) (by omega)
      have st : gX3_casesWithWeight nF P (n + 1) (nI h) (nI c) t a = if hvB A c then gX3_casesWithWeight nF P n (nI (h ||| 2 ^ c)) (nI (c + 1)) t a else gX3_casesWithWeight nF P n (nI h) (nI (c + 1)) t a := by
        show gX3_casesWithWeight_4 nF P (gX3_casesWithWeight nF P n) _ _ t a = _
        unfold gX3_casesWithWeight_4
        rw [if_neg (by rw [show (8 : Int32) = nI 8 from rfl, x_le (by omega) (by omega)]; omega), bnd_ok (by omega) (by decide), nI_cl (by omega), h6, nI_1, shl8 c (by omega), b_or (by omega) (by omega)]
        have := hvB_ok hA (show c < 8 by omega)
        cases e : hvB A c
        · rw [if_pos (this.mpr e), if_neg Bool.false_ne_true]
        · rw [if_neg (fun y => by rw [this.mp y] at e; exact absurd e (by decide)), if_pos rfl]
      rw [st]
      cases e : hvB A c
      · rw [if_neg Bool.false_ne_true]
        refine ih (c + 1) n h (by omega) (by omega) (by omega) (fun i hi => ?_)
        by_cases e9 : i = c
        · subst e9
          rw [e, btN_tb]
          exact Nat.testBit_lt_two_pow hh
        · exact hb i (by omega)
      · rw [if_pos rfl]
        refine ih (c + 1) n (h ||| 2 ^ c) (by omega) (by omega) (Nat.or_lt_two_pow (by omega) hp1) (fun i hi => ?_)
        rw [btN_or]
        by_cases e9 : i = c
        · subst e9
          rw [e, btN_tb (2 ^ i), Nat.testBit_two_pow_self, Bool.or_true]
        · rw [btN_tb (2 ^ c), Nat.testBit_two_pow_of_ne (fun y => e9 y.symm), Bool.or_false]
          exact hb i (by omega)
  exact go 8 0 nF 0 (by omega) (by omega) (by decide) (fun i hi => absurd hi (Nat.not_lt_zero i))
theorem forces7 (hF : 1000 ≤ nF) (hT : okT kd cs) (hw : w ≤ 8) (hA : okB A) (h6 : a 6 = A) (h : FX P w kd cs A G F Z t a) {L set : Int32} {q : Sn} {f : Nat} {fit : Nat → Nat} (hf : FT P w kd cs F L q G f fit t a) : fX3_forcesAnswer nF P set t a = some (b2I (fcB w kd cs A L set q), t, a) := by
  obtain ⟨hG, hFl⟩ := h.b hw
  obtain ⟨k1, k2, k3, k4, k5, -⟩ := hf
  obtain ⟨H, hH, e1, e2⟩ := heavy7 (nF := nF) (P := P) (t := t) (by omega) hA h6
  have ok : ∀ i, i < lv w 3 → okX (sn w kd cs i) 3 := fun i hi => sn_ok hT 3 i hi
  have hcn : ∀ m, m < 256 → (nI m &&& nI H = 0 ↔ cntB A m = false) := by
    intro m hm
    rw [b_and (by omega) (by omega), nI0 (Nat.lt_of_le_of_lt Nat.and_le_left (by omega)), and_0 hm, ← Bool.not_eq_true]
    unfold cntB
    rw [anyB_iff]
    constructor
    · rintro h1 ⟨c, hc, e⟩
      rw [Bool.and_eq_true] at e
      exact h1 c hc ⟨e.2, by rw [e2 c hc]; exact e.1⟩
    · intro h1 c hc ⟨a1, a2⟩
      exact h1 ⟨c, hc, by rw [← e2 c hc, a1, a2]; rfl⟩
  have go : ∀ d k n an, k + d = f → d < n → an < 256 → ∃ b, gX3_forcesAnswer nF P n set (nI H) (nI an) (nI k) t a = some (b2I b, t, a) ∧ (b = true ↔ (∀ i, k ≤ i → i < f → cntB A (sn w kd cs (F (fit i))).1 = true → osI (nI (sn w kd cs (F (fit i))).1) set = true) ∧ ∀ c, c < 8 → hvB A c = true → btN an c = true ∨ ∃ i, k ≤ i ∧ i < f ∧ btN (sn w kd cs (F (fit i))).1 c = true) := by
    intro d
    induction d with
    | zero =>
      intro k n an hk hn ha
      obtain ⟨n, rfl⟩ : ∃ m, n = m + 1 := ⟨n - 1, by omega⟩
      have : k = f := by omega
      subst this
      refine ⟨decide (nI H &&& (nI an ^^^ (-1 : Int32)) = 0), ?_, ?_⟩
      · show gX3_forcesAnswer_10 nF P (gX3_forcesAnswer nF P n) _ _ _ _ t a = _
        unfold gX3_forcesAnswer_10
        rw [k1, if_pos ((x_le (by omega) (by omega)).mpr (Nat.le_refl k)), bbY]
      · rw [decide_eq_true_iff, sub_set hH ha]
        constructor
        · intro h1
          exact ⟨fun i h2 h3 => absurd h3 (by omega), fun c hc hh => Or.inl (h1 c hc (by rw [e2 c hc]; exact hh))⟩
        · rintro ⟨-, h1⟩ c hc hh
          rcases h1 c hc (by rw [← e2 c hc]; exact hh) with h2 | ⟨i, h2, h3, -⟩
          · exact h2
          · exact absurd h3 (by omega)
    | succ d ih =>
      intro k n an hk hn ha
      obtain ⟨n, rfl⟩ : ∃ m, n = m + 1 := ⟨n - 1, by omega⟩
      obtain ⟨j1, j2, -⟩ := k3 k (by omega)
      have okk := ok _ (hFl _ j1)
      have st : gX3_forcesAnswer nF P (n + 1) set (nI H) (nI an) (nI k) t a = if cntB A (sn w kd cs (F (fit k))).1 then (if osI (nI (sn w kd cs (F (fit k))).1) set then gX3_forcesAnswer nF P n set (nI H) (nI (an ||| (sn w kd cs (F (fit k))).1)) (nI (k + 1)) t a else some (0, t, a)) else gX3_forcesAnswer nF P n set (nI H) (nI an) (nI (k + 1)) t a := by
        show gX3_forcesAnswer_10 nF P (gX3_forcesAnswer nF P n) _ _ _ _ t a = _
        unfold gX3_forcesAnswer_10
        rw [k1, if_neg (by rw [x_le (by omega) (by omega)]; omega), bnd_ok (by omega) (by decide), nI_cl (by omega), j2, bnd_ok (show fit k < 585 by omega) (by decide), nI_cl (by omega), (h.2.2.2.2.2.1 _ j1).2.2.1, x_mean okk (by decide), calS, nI_1]
        have hc9 := hcn _ okk.1
        cases e : cntB A (sn w kd cs (F (fit k))).1
        · rw [if_pos (hc9.mpr e), if_neg Bool.false_ne_true]
        · rw [if_neg (fun y => by rw [hc9.mp y] at e; exact absurd e (by decide)), if_pos rfl, osI7, calS, b_or (by omega) (by have := okk.1; omega)]
          cases osI (nI (sn w kd cs (F (fit k))).1) set
          · rw [b2F, if_pos rfl, if_neg Bool.false_ne_true]; rfl
          · rw [b2T, if_neg one0, if_pos rfl]
      rw [st]
      have hor : an ||| (sn w kd cs (F (fit k))).1 < 256 := Nat.or_lt_two_pow (n := 8) ha okk.1
      cases e : cntB A (sn w kd cs (F (fit k))).1
      · rw [if_neg Bool.false_ne_true]
        obtain ⟨b, g1, g2⟩ := ih (k + 1) n an (by omega) (by omega) ha
        refine ⟨b, g1, g2.trans ?_⟩
        constructor
        · rintro ⟨h1, h2⟩
          refine ⟨fun i h3 h4 h5 => ?_, fun c hc hh => ?_⟩
          · by_cases e9 : i = k
            · subst e9; rw [e] at h5; exact absurd h5 (by decide)
            · exact h1 i (by omega) h4 h5
          · rcases h2 c hc hh with h3 | ⟨i, h3, h4, h5⟩
            · exact Or.inl h3
            · exact Or.inr ⟨i, by omega, h4, h5⟩
        · rintro ⟨h1, h2⟩
          refine ⟨fun i h3 h4 h5 => h1 i (by omega) h4 h5, fun c hc hh => ?_⟩
          rcases h2 c hc hh with h3 | ⟨i, h3, h4, h5⟩
          · exact Or.inl h3
          · by_cases e9 : i = k
            · subst e9
              exfalso
              have : cntB A (sn w kd cs (F (fit i))).1 = true := (anyB_iff _).mpr ⟨c, hc, by rw [hh, h5]; rfl⟩
              rw [e] at this
              exact absurd this (by decide)
            · exact Or.inr ⟨i, by omega, h4, h5⟩
      · rw [if_pos rfl]
        cases eo : osI (nI (sn w kd cs (F (fit k))).1) set
        · rw [if_neg Bool.false_ne_true]
          refine ⟨false, rfl, ?_⟩
          constructor
          · intro y; exact absurd y Bool.false_ne_true
          · rintro ⟨h1, -⟩
            have := h1 k (Nat.le_refl k) (by omega) e
            rw [eo] at this
            exact this
        · rw [if_pos rfl]
          obtain ⟨b, g1, g2⟩ := ih (k + 1) n (an ||| (sn w kd cs (F (fit k))).1) (by omega) (by omega) hor
          refine ⟨b, g1, g2.trans ?_⟩
          constructor
          · rintro ⟨h1, h2⟩
            refine ⟨fun i h3 h4 h5 => ?_, fun c hc hh => ?_⟩
            · by_cases e9 : i = k
              · subst e9; exact eo
              · exact h1 i (by omega) h4 h5
            · rcases h2 c hc hh with h3 | ⟨i, h3, h4, h5⟩
              · rw [btN_or, Bool.or_eq_true] at h3
                rcases h3 with h3 | h3
                · exact Or.inl h3
                · exact Or.inr ⟨k, Nat.le_refl k, by omega, h3⟩
              · exact Or.inr ⟨i, by omega, h4, h5⟩
          · rintro ⟨h1, h2⟩
            refine ⟨fun i h3 h4 h5 => h1 i (by omega) h4 h5, fun c hc hh => ?_⟩
            rw [btN_or, Bool.or_eq_true]
            rcases h2 c hc hh with h3 | ⟨i, h3, h4, h5⟩
            · exact Or.inl (Or.inl h3)
            · by_cases e9 : i = k
              · subst e9; exact Or.inl (Or.inr h5)
              · exact Or.inr ⟨i, by omega, h4, h5⟩
  obtain ⟨b, g1, g2⟩ := go f 0 nF 0 (by omega) (by omega) (by decide)
  obtain ⟨-, -, -, -, -, h3, h4, h5, -⟩ := h
  have : b = fcB w kd cs A L set q := by
    refine eqB (g2.trans ?_) fcB_iff
    unfold fcP
    constructor
    · rintro ⟨h1, h2⟩
      refine ⟨fun i hi ha hc => ?_, fun c hc hh => ?_⟩
      · obtain ⟨g, hg, -, hke⟩ := h5 i hi
        have hs := key_sk (ok _ (hFl g hg)) (ok i hi) hke
        obtain ⟨k, hk, hfk⟩ := k5 g hg (by rw [ansB_sk hs]; exact ha)
        have := h1 k (Nat.zero_le k) hk (by rw [hfk, hs.1]; exact hc)
        rw [hfk, hs.1] at this
        exact this
      · rcases h2 c hc hh with h6 | ⟨k, -, hk, h6⟩
        · rw [btN_0] at h6; exact absurd h6 (by decide)
        · exact ⟨F (fit k), hFl _ (k3 k hk).1, (k3 k hk).2.2, h6⟩
    · rintro ⟨h1, h2⟩
      refine ⟨fun k _ hk hc => h1 _ (hFl _ (k3 k hk).1) (k3 k hk).2.2 hc, fun c hc hh => ?_⟩
      obtain ⟨i, hi, ha, hb⟩ := h2 c hc hh
      obtain ⟨g, hg, -, hke⟩ := h5 i hi
      have hs := key_sk (ok _ (hFl g hg)) (ok i hi) hke
      obtain ⟨k, hk, hfk⟩ := k5 g hg (by rw [ansB_sk hs]; exact ha)
      exact Or.inr ⟨k, Nat.zero_le k, hk, by rw [hfk, hs.1]; exact hb⟩
  unfold fX3_forcesAnswer
  rw [e1, calS, ← this]
  exact g1
/-- the first that forces, by the class -/
theorem firstF7 (hF : 1000 ≤ nF) (hT : okT kd cs) (hw : w ≤ 8) (hA : okB A) (hP : 19 ≤ P) {set : Int32} {l : Nat} (h0 : FX P w kd cs A G F Z t a) : ∀ d g n (t9 : sT) (a9 : sA), g + d = G → 1 ≤ g → d < n → a9 6 = A → t9 198 = nI l → FX P w kd cs A G F Z t9 a9 → (∀ g', 1 ≤ g' → g' < g → fcB w kd cs A (nI l) set (sn w kd cs (F g')) = false) → ∃ t' a', gX3_firstThatForces nF P n set (nI g) t9 a9 = some (o1 (frcO w kd cs A (nI l) set), t', a') ∧ FX P w kd cs A G F Z t' a' ∧ (∀ q, q ≠ 64 * P + 15 → t' q = t9 q) ∧ ∀ k, k ≠ P + 7 → a' k = a9 k := by
  obtain ⟨hG, hFl⟩ := h0.b hw
  obtain ⟨f1, f2, f3, f4⟩ := grp0 hT hw h0
  intro d
  induction d with
  | zero =>
    intro g n t9 a9 hg h1 hn h6 ql h hno
    obtain ⟨n, rfl⟩ : ∃ m, n = m + 1 := ⟨n - 1, by omega⟩
    have : g = G := by omega
    subst this
    have e : frcO w kd cs A (nI l) set = none := by
      refine pick_of (o := none) (fun i hi => ?_)
      show (decide (1 ≤ i) && fcB w kd cs A (nI l) set (sn w kd cs i)) = false
      by_cases hi1 : 1 ≤ i
      · obtain ⟨g', g1, g2, g3, g4⟩ := f4 i hi1 hi
        rw [← fcB_sq g4, hno g' g1 g2, Bool.and_false]
      · rw [decide_eq_false hi1]; rfl
    refine ⟨t9, a9, ?_, h, fun _ _ => rfl, fun _ _ => rfl⟩
    show gX3_firstThatForces_6 nF P (gX3_firstThatForces nF P n) _ _ t9 a9 = _
    unfold gX3_firstThatForces_6
    rw [h.2.2.2.1, if_pos ((x_le (by omega) (by omega)).mpr (Nat.le_refl g)), e]
    rfl
  | succ d ih =>
    intro g n t9 a9 hg h1 hn h6 ql h hno
    obtain ⟨n, rfl⟩ : ∃ m, n = m + 1 := ⟨n - 1, by omega⟩
    have hgl := hFl g (by omega)
    obtain ⟨t2, a2, f, fit, i1, i2, i3, i4, i5⟩ := gather_ok (nF := nF) hF hT hw h ((sn_ok hT 3 (F g) hgl).le (by decide)) (nI l)
    have fc := forces7 (nF := nF) (set := set) hF hT hw hA (by rw [i5 6 (by omega)]; exact h6) i2 i3
    have st : gX3_firstThatForces nF P (n + 1) set (nI g) t9 a9 = if fcB w kd cs A (nI l) set (sn w kd cs (F g)) then some (nI (F g), t2, a2) else gX3_firstThatForces nF P n set (nI (g + 1)) t2 a2 := by
      show gX3_firstThatForces_6 nF P (gX3_firstThatForces nF P n) _ _ t9 a9 = _
      unfold gX3_firstThatForces_6
      rw [h.2.2.2.1, if_neg (by rw [x_le (by omega) (by omega)]; omega), bnd_ok (show g < 585 by omega) (by decide), nI_cl (by omega), (h.2.2.2.2.2.1 g (by omega)).2.2.1, ql, i1, calS, fc, calS, nI_1]
      cases fcB w kd cs A (nI l) set (sn w kd cs (F g))
      · rw [b2F, if_pos rfl, if_neg Bool.false_ne_true]
      · rw [b2T, if_neg one0, if_pos rfl, bnd_ok (show g < 585 by omega) (by decide), (i2.2.2.2.2.2.1 g (by omega)).2.2.2.1]
    rw [st]
    cases e : fcB w kd cs A (nI l) set (sn w kd cs (F g))
    · rw [if_neg Bool.false_ne_true]
      obtain ⟨t', a', j1, j2, j3, j4⟩ := ih (g + 1) n t2 a2 (by omega) (by omega) (by omega) (by rw [i5 6 (by omega)]; exact h6) (by rw [i4 198 (by omega)]; exact ql) i2 (fun g' hg1 hg2 => by
        by_cases e9 : g' = g
        · subst e9; exact e
        · exact hno g' hg1 (by omega))
      exact ⟨t', a', j1, j2, fun q hq => by rw [j3 q hq, i4 q hq], fun k hk => by rw [j4 k hk, i5 k hk]⟩
    · rw [if_pos rfl]
      have e9 : frcO w kd cs A (nI l) set = some (F g) := by
        refine pick_of (o := some (F g)) ⟨hgl, ?_, fun i hi hei => ?_⟩
        · show (decide (1 ≤ F g) && fcB w kd cs A (nI l) set (sn w kd cs (F g))) = true
          rw [e, decide_eq_true (show 1 ≤ F g from f3 g h1 (by omega))]; rfl
        · have hei : (decide (1 ≤ i) && fcB w kd cs A (nI l) set (sn w kd cs i)) = true := hei
          rw [Bool.and_eq_true, decide_eq_true_iff] at hei
          obtain ⟨g', g1, g2, g3, g4⟩ := f4 i hei.1 hi
          refine Or.inr ⟨rfl, ?_⟩
          rcases Nat.lt_or_ge g' g with hlt | hge
          · have := hno g' g1 hlt
            rw [fcB_sq g4, hei.2] at this
            exact absurd this (by decide)
          · rcases Nat.eq_or_lt_of_le hge with e8 | e8
            · subst e8; exact g3
            · have := h0.2.2.2.2.2.2.1 g g' e8 g2
              omega
      rw [e9]
      exact ⟨t2, a2, rfl, i2, i4, i5⟩
end F7
section F8
variable {nF w : Nat} {kd cs : Nat → Nat} {A : Nat → Int32} {t : sT} {a : sA}
theorem anyB_hi {p : Nat → Bool} {n : Nat} : anyB p (n + 1) = (anyB p n || p n) := rfl
theorem inner8 (hA : okB A) (hAW : AW A a) {set : Int32} {acc i m : Nat} (hm : m < 256) (hacc : acc < 256) : ∀ d c n, c + d = 8 → d < n → (gX8_forces nF n).2.1 set (nI acc) (nI i) (nI m) (nI (if anyB (fun c => hvB A c && btN m c) c then 1 else 0)) (nI c) t a = (if cntB A m then (if osI (nI m) set then (gX8_forces nF (n - d - 1)).1 set (nI (acc ||| m)) (nI (i + 1)) t a else some (0, t, a)) else (gX8_forces nF (n - d - 1)).1 set (nI (acc ||| m)) (nI (i + 1)) t a) := by
  intro d
  induction d with
  | zero =>
    intro c n hc hn
    obtain ⟨n, rfl⟩ : ∃ m, n = m + 1 := ⟨n - 1, by omega⟩
    have : c = 8 := by omega
    subst this
    have e34 : (gX8_forces nF (n + 1)).2.1 = gX8_forces_34 nF (gX8_forces nF n).1 (gX8_forces nF n).2.1 (gX8_forces nF n).2.2 := rfl
    rw [e34]
    unfold gX8_forces_34
    have e9 : n + 1 - 0 - 1 = n := by omega
    rw [if_pos (by decide), b_or (by omega) (by omega), nI_1, e9]
    unfold cntB osI
    cases anyB (fun c => hvB A c && btN m c) 8
    · rfl
    · rw [if_neg (show ¬ nI (if true = true then 1 else 0) = 0 by decide), if_pos rfl]
      by_cases g1 : nI m &&& (set ^^^ (-1 : Int32)) = 0
      · rw [if_pos g1, decide_eq_true g1]; rfl
      · rw [if_neg g1, decide_eq_false g1, Bool.false_or]
        by_cases g2 : nI m &&& set = 0
        · rw [if_pos g2, decide_eq_true g2]; rfl
        · rw [if_neg g2, decide_eq_false g2]; rfl
  | succ d ih =>
    intro c n hc hn
    obtain ⟨n, rfl⟩ : ∃ m, n = m + 1 := ⟨n - 1, by omega⟩
    have ih := ih (c + 1) n (by omega) (by omega)
    rw [anyB_hi] at ih
    have hb := bit_0 (n := m) (c := c) (by omega) (by omega)
    have hh := hvB_ok hA (show c < 8 by omega)
    have o0 : ∀ b : Bool, nI (if b then 1 else 0) ||| (0 : Int32) = nI (if b then 1 else 0) := fun b => Int32.or_zero
    have o1' : ∀ b : Bool, nI (if b then 1 else 0) ||| (1 : Int32) = nI 1 := by intro b; cases b <;> decide
    show gX8_forces_34 nF (gX8_forces nF n).1 (gX8_forces nF n).2.1 (gX8_forces nF n).2.2 _ _ _ _ _ _ t a = _
    unfold gX8_forces_34
    rw [if_neg (by rw [show (8 : Int32) = nI 8 from rfl, x_le (by omega) (by omega)]; omega), bnd_ok (by omega) (by decide), nI_cl (by omega), hAW c (by omega), nI_1, show n + 1 - (d + 1) - 1 = n - d - 1 by omega, o0, o1']
    cases e1 : hvB A c
    · rw [if_pos (hh.mpr e1)]
      rw [e1, Bool.false_and, Bool.or_false] at ih
      exact ih
    · rw [if_neg (fun y => by rw [hh.mp y] at e1; exact absurd e1 (by decide))]
      rw [e1, Bool.true_and] at ih
      cases e2 : btN m c
      · rw [if_pos (hb.mpr e2)]
        rw [e2, Bool.or_false] at ih
        exact ih
      · rw [if_neg (fun y => by rw [hb.mp y] at e2; exact absurd e2 (by decide))]
        rw [e2, Bool.or_true] at ih
        exact ih
theorem last8 (hA : okB A) (hAW : AW A a) {acc : Nat} (hacc : acc < 256) : ∀ d c n, c + d = 8 → d < n → ∃ b, (gX8_forces nF n).2.2 (nI acc) (nI c) t a = some (b2I b, t, a) ∧ (b = true ↔ ∀ c', c ≤ c' → c' < 8 → hvB A c' = true → btN acc c' = true) := by
  intro d
  induction d with
  | zero =>
    intro c n hc hn
    obtain ⟨n, rfl⟩ : ∃ m, n = m + 1 := ⟨n - 1, by omega⟩
    have : c = 8 := by omega
    subst this
    refine ⟨true, ?_, fun _ c' h1 h2 => absurd h2 (by omega), fun _ => rfl⟩
    have e13 : (gX8_forces nF (n + 1)).2.2 = gX8_forces_113 nF (gX8_forces nF n).1 (gX8_forces nF n).2.1 (gX8_forces nF n).2.2 := rfl
    rw [e13]
    unfold gX8_forces_113
    rw [if_pos (by decide)]
    rfl
  | succ d ih =>
    intro c n hc hn
    obtain ⟨n, rfl⟩ : ∃ m, n = m + 1 := ⟨n - 1, by omega⟩
    obtain ⟨b, g1, g2⟩ := ih (c + 1) n (by omega) (by omega)
    have hb := bit_0 (n := acc) (c := c) (by omega) (by omega)
    have hh := hvB_ok hA (show c < 8 by omega)
    have st : (gX8_forces nF (n + 1)).2.2 (nI acc) (nI c) t a = if hvB A c && !btN acc c then some (0, t, a) else (gX8_forces nF n).2.2 (nI acc) (nI (c + 1)) t a := by
      show gX8_forces_113 nF (gX8_forces nF n).1 (gX8_forces nF n).2.1 (gX8_forces nF n).2.2 _ _ t a = _
      unfold gX8_forces_113
      rw [if_neg (by rw [show (8 : Int32) = nI 8 from rfl, x_le (by omega) (by omega)]; omega), bnd_ok (by omega) (by decide), nI_cl (by omega), hAW c (by omega), nI_1]
      cases e1 : hvB A c
      · rw [if_pos (hh.mpr e1)]; rfl
      · rw [if_neg (fun y => by rw [hh.mp y] at e1; exact absurd e1 (by decide))]
        cases e2 : btN acc c
        · rw [if_pos (hb.mpr e2)]; rfl
        · rw [if_neg (fun y => by rw [hb.mp y] at e2; exact absurd e2 (by decide))]; rfl
    rw [st]
    by_cases hc9 : (hvB A c && !btN acc c) = true
    · rw [if_pos hc9]
      refine ⟨false, rfl, fun y => absurd y Bool.false_ne_true, fun h => ?_⟩
      rw [Bool.and_eq_true] at hc9
      have := h c (Nat.le_refl c) (by omega) hc9.1
      rw [this] at hc9
      exact absurd hc9.2 (by decide)
    · rw [if_neg hc9]
      refine ⟨b, g1, g2.trans ⟨fun h c' h1 h2 h3 => ?_, fun h c' h1 h2 h3 => h c' (by omega) h2 h3⟩⟩
      by_cases e9 : c' = c
      · subst e9
        cases e2 : btN acc c'
        · rw [h3, e2] at hc9; exact absurd rfl hc9
        · rfl
      · exact h c' (by omega) h2 h3
theorem forces8 (hF : 10000 ≤ nF) (hT : okT kd cs) (hA : okB A) (hw : w ≤ 8) (hAW : AW A a) (h : LI w kd cs t a) {q : Sn} {L set : Int32} (hq : LQ q L t) : fX8_forces nF set t a = some (b2I (fcB w kd cs A L set q), t, a) := by
  have h585 := lv_3 hw
  have go : ∀ d i n acc, i + d = lv w 3 → 10 * d + 10 < n → acc < 256 → ∃ b, (gX8_forces nF n).1 set (nI acc) (nI i) t a = some (b2I b, t, a) ∧ (b = true ↔ (∀ i', i ≤ i' → i' < lv w 3 → ansB L q (sn w kd cs i') = true → cntB A (sn w kd cs i').1 = true → osI (nI (sn w kd cs i').1) set = true) ∧ ∀ c, c < 8 → hvB A c = true → btN acc c = true ∨ ∃ i', i ≤ i' ∧ i' < lv w 3 ∧ ansB L q (sn w kd cs i') = true ∧ btN (sn w kd cs i').1 c = true) := by
    intro d
    induction d with
    | zero =>
      intro i n acc hi hn ha
      obtain ⟨n, rfl⟩ : ∃ m, n = m + 1 := ⟨n - 1, by omega⟩
      have : i = lv w 3 := by omega
      subst this
      obtain ⟨b, g1, g2⟩ := last8 (nF := nF) (t := t) hA hAW ha 8 0 n (by omega) (by omega)
      refine ⟨b, ?_, g2.trans ⟨fun h1 => ⟨fun i' h2 h3 => absurd h3 (by omega), fun c hc hh => Or.inl (h1 c (Nat.zero_le c) hc hh)⟩, fun h1 c _ hc hh => ?_⟩⟩
      · show gX8_forces_4 nF (gX8_forces nF n).1 (gX8_forces nF n).2.1 (gX8_forces nF n).2.2 _ _ _ t a = _
        unfold gX8_forces_4
        rw [h.1, if_pos ((x_le (by omega) (by omega)).mpr (Nat.le_refl _))]
        exact g1
      · rcases h1.2 c hc hh with h2 | ⟨i', h2, h3, -⟩
        · exact h2
        · exact absurd h3 (by omega)
    | succ d ih =>
      intro i n acc hi hn ha
      obtain ⟨n, rfl⟩ : ∃ m, n = m + 1 := ⟨n - 1, by omega⟩
      have hil : i < lv w 3 := by omega
      obtain ⟨h5, g1, g2, g3⟩ := h.g hw hil
      have hm := (sn_ok (w := w) hT 3 i hil).1
      have hor : acc ||| (sn w kd cs i).1 < 256 := Nat.or_lt_two_pow (n := 8) ha hm
      have inn := inner8 (nF := nF) (t := t) (set := set) (i := i) hA hAW hm ha 8 0 n (by omega) (by omega)
      have st : (gX8_forces nF (n + 1)).1 set (nI acc) (nI i) t a = if ansB L q (sn w kd cs i) then (gX8_forces nF n).2.1 set (nI acc) (nI i) (nI (sn w kd cs i).1) (nI 0) (nI 0) t a else (gX8_forces nF n).1 set (nI acc) (nI (i + 1)) t a := by
        show gX8_forces_4 nF (gX8_forces nF n).1 (gX8_forces nF n).2.1 (gX8_forces nF n).2.2 _ _ _ t a = _
        unfold gX8_forces_4
        rw [h.1, if_neg (by rw [x_le (by omega) (by omega)]; omega), isAns_ok hw h hq hil, calS, nI_1]
        cases ansB L q (sn w kd cs i)
        · rw [b2F, if_pos rfl, if_neg Bool.false_ne_true]
        · rw [b2T, if_neg one0, if_pos rfl, bnd_ok h5 (by decide), nI_cl (by omega), g2]
          rfl
      rw [st]
      cases e : ansB L q (sn w kd cs i)
      · rw [if_neg Bool.false_ne_true]
        obtain ⟨b, k1, k2⟩ := ih (i + 1) n acc (by omega) (by omega) ha
        refine ⟨b, k1, k2.trans ⟨fun ⟨h1, h2⟩ => ⟨fun i' h3 h4 h8 h6 => ?_, fun c hc hh => ?_⟩, fun ⟨h1, h2⟩ => ⟨fun i' h3 h4 h8 h6 => h1 i' (by omega) h4 h8 h6, fun c hc hh => ?_⟩⟩⟩
        · by_cases e9 : i' = i
          · subst e9; rw [e] at h8; exact absurd h8 (by decide)
          · exact h1 i' (by omega) h4 h8 h6
        · rcases h2 c hc hh with h3 | ⟨i', h3, h4, h5⟩
          · exact Or.inl h3
          · exact Or.inr ⟨i', by omega, h4, h5⟩
        · rcases h2 c hc hh with h3 | ⟨i', h3, h4, h8, h6⟩
          · exact Or.inl h3
          · by_cases e9 : i' = i
            · subst e9; rw [e] at h8; exact absurd h8 (by decide)
            · exact Or.inr ⟨i', by omega, h4, h8, h6⟩
      · rw [if_pos rfl]
        have inn : (gX8_forces nF n).2.1 set (nI acc) (nI i) (nI (sn w kd cs i).1) (nI 0) (nI 0) t a = _ := inn
        rw [inn]
        obtain ⟨b, k1, k2⟩ := ih (i + 1) (n - 8 - 1) (acc ||| (sn w kd cs i).1) (by omega) (by omega) hor
        have tail : (cntB A (sn w kd cs i).1 = true → osI (nI (sn w kd cs i).1) set = true) → ∃ b, (gX8_forces nF (n - 8 - 1)).1 set (nI (acc ||| (sn w kd cs i).1)) (nI (i + 1)) t a = some (b2I b, t, a) ∧ (b = true ↔ (∀ i', i ≤ i' → i' < lv w 3 → ansB L q (sn w kd cs i') = true → cntB A (sn w kd cs i').1 = true → osI (nI (sn w kd cs i').1) set = true) ∧ ∀ c, c < 8 → hvB A c = true → btN acc c = true ∨ ∃ i', i ≤ i' ∧ i' < lv w 3 ∧ ansB L q (sn w kd cs i') = true ∧ btN (sn w kd cs i').1 c = true) := by
          intro hos
          refine ⟨b, k1, k2.trans ⟨fun ⟨h1, h2⟩ => ⟨fun i' h3 h4 h5 h6 => ?_, fun c hc hh => ?_⟩, fun ⟨h1, h2⟩ => ⟨fun i' h3 h4 h5 h6 => h1 i' (by omega) h4 h5 h6, fun c hc hh => ?_⟩⟩⟩
          · by_cases e9 : i' = i
            · subst e9; exact hos h6
            · exact h1 i' (by omega) h4 h5 h6
          · rcases h2 c hc hh with h3 | ⟨i', h3, h4, h5⟩
            · rw [btN_or, Bool.or_eq_true] at h3
              rcases h3 with h3 | h3
              · exact Or.inl h3
              · exact Or.inr ⟨i, Nat.le_refl i, hil, e, h3⟩
            · exact Or.inr ⟨i', by omega, h4, h5⟩
          · rw [btN_or, Bool.or_eq_true]
            rcases h2 c hc hh with h3 | ⟨i', h3, h4, h5, h6⟩
            · exact Or.inl (Or.inl h3)
            · by_cases e9 : i' = i
              · subst e9; exact Or.inl (Or.inr h6)
              · exact Or.inr ⟨i', by omega, h4, h5, h6⟩
        cases ec : cntB A (sn w kd cs i).1
        · rw [if_neg Bool.false_ne_true]
          exact tail (fun y => by rw [ec] at y; exact absurd y Bool.false_ne_true)
        · rw [if_pos rfl]
          cases eo : osI (nI (sn w kd cs i).1) set
          · rw [if_neg Bool.false_ne_true]
            refine ⟨false, rfl, fun y => absurd y Bool.false_ne_true, fun ⟨h1, _⟩ => ?_⟩
            have := h1 i (Nat.le_refl i) hil e ec
            rw [eo] at this
            exact this
          · rw [if_pos rfl]
            exact tail (fun _ => eo)
  obtain ⟨b, g1, g2⟩ := go (lv w 3) 0 nF 0 (by omega) (by omega) (by decide)
  have : b = fcB w kd cs A L set q := by
    refine eqB (g2.trans ?_) fcB_iff
    unfold fcP
    constructor
    · rintro ⟨h1, h2⟩
      refine ⟨fun i hi => h1 i (Nat.zero_le i) hi, fun c hc hh => ?_⟩
      rcases h2 c hc hh with h3 | ⟨i, -, h4⟩
      · rw [btN_0] at h3; exact absurd h3 (by decide)
      · exact ⟨i, h4⟩
    · rintro ⟨h1, h2⟩
      exact ⟨fun i _ hi => h1 i hi, fun c hc hh => by
        obtain ⟨i, h4⟩ := h2 c hc hh
        exact Or.inr ⟨i, Nat.zero_le i, h4⟩⟩
  unfold fX8_forces
  rw [← this]
  exact g1
end F8
/-- what is told of a first saying, -9 if there is none -/
def lowO (w : Nat) (o : Option Nat) (x r : Int32) : Prop := match o with
  | none => r = -9
  | some b => ∃ R k, k ≤ 3 ∧ (∀ j, j < k → R j < w) ∧ b = nb w R k ∧ r = lowS R k x
theorem low_tail {w : Nat} {kd cs : Nat → Nat} {t : sT} {a : sA} {b : Nat} {y : Int32} (hw : w ≤ 8) (h : LI w kd cs t a) (hb : b < lv w 3) (hy : (-1 : Int32) ≤ y) : ∃ R k, k ≤ 3 ∧ (∀ j, j < k → R j < w) ∧ b = nb w R k ∧ (if y = (-1 : Int32) then (bnd (nI b) 585 (some (a 62 (nI b).toNatClampNeg, t, a))) else (bnd (nI b) 585 (if (a 62 (nI b).toNatClampNeg) ≤ y then (some ((-9 : Int32), t, a)) else (bnd (nI b) 585 (bnd y 3 (some (a (64 + (nI b).toNatClampNeg) y.toNatClampNeg, t, a))))))) = some (lowS R k y, t, a) := by
  have h585 := lv_3 hw
  obtain ⟨R, k, hk, hR, eb, k1, k2⟩ := low8 hw h hb
  refine ⟨R, k, hk, hR, eb, ?_⟩
  unfold lowS
  rw [nI_cl (by omega), k1, bnd_ok (by omega) (by decide), bnd_ok (by omega) (by decide), bnd_ok (by omega) (by decide)]
  rcases ge_m1 hy with rfl | ⟨i, hi, rfl⟩
  · rw [if_pos rfl, if_pos rfl]
  · have hn1 : ¬ nI i = (-1 : Int32) := fun e => by have := nneg hi; rw [e] at this; exact this (by decide)
    rw [if_neg hn1, if_neg hn1, if_neg (nneg hi)]
    by_cases hik : k ≤ i
    · rw [if_pos ((x_le (by omega) hi).mpr hik), if_pos ((x_le (by omega) hi).mpr hik)]
    · rw [if_neg (by rw [x_le (by omega) hi]; exact hik), if_neg (by rw [x_le (by omega) hi]; exact hik), bnd_ok (show i < 3 by omega) (by decide), nI_cl hi, k2 i (by omega)]
theorem force8 {nF w l : Nat} {kd cs : Nat → Nat} {A : Nat → Int32} {set y : Int32} {a : sA} (hF : 10000 ≤ nF) (hT : okT kd cs) (hA : okB A) (hw : w ≤ 8) (hAW : AW A a) (hy : (-1 : Int32) ≤ y) : ∀ d i n (t : sT), i + d = lv w 3 → 1 ≤ i → d < n → LI w kd cs t a → t 3213 = nI l → (∀ i', 1 ≤ i' → i' < i → fcB w kd cs A (nI l) set (sn w kd cs i') = false) → ∃ r t', gX8_force nF n set y (nI i) t a = some (r, t', a) ∧ lowO w (frcO w kd cs A (nI l) set) y r ∧ mS t t' a a := by
  have h585 := lv_3 hw
  intro d
  induction d with
  | zero =>
    intro i n t hi h1 hn h ql hno
    obtain ⟨n, rfl⟩ : ∃ m, n = m + 1 := ⟨n - 1, by omega⟩
    have : i = lv w 3 := by omega
    subst this
    have e : frcO w kd cs A (nI l) set = none := by
      refine pick_of (o := none) (fun i hi => ?_)
      show (decide (1 ≤ i) && fcB w kd cs A (nI l) set (sn w kd cs i)) = false
      by_cases hi1 : 1 ≤ i
      · rw [hno i hi1 hi, Bool.and_false]
      · rw [decide_eq_false hi1]; rfl
    refine ⟨-9, t, ?_, by rw [e]; rfl, mS.rf⟩
    show gX8_force_31 nF (gX8_force nF n) _ _ _ t a = _
    unfold gX8_force_31
    rw [h.1, if_pos ((x_le (by omega) (by omega)).mpr (Nat.le_refl _))]
  | succ d ih =>
    intro i n t hi h1 hn h ql hno
    obtain ⟨n, rfl⟩ : ∃ m, n = m + 1 := ⟨n - 1, by omega⟩
    have hil : i < lv w 3 := by omega
    obtain ⟨h5, g1, g2, g3⟩ := h.g hw hil
    have hI1 : LI w kd cs (tq t (sn w kd cs i) l) a := h.fr (tq_ne (by omega)) (fun _ _ _ => rfl) hw
    have fc := forces8 (nF := nF) (set := set) hF hT hA hw hAW hI1 (tq_q (q := sn w kd cs i) (l := l))
    obtain ⟨R, k, hk, hR, eb, lt⟩ := low_tail (y := y) hw hI1 hil hy
    have st : gX8_force nF (n + 1) set y (nI i) t a = if fcB w kd cs A (nI l) set (sn w kd cs i) then some (lowS R k y, tq t (sn w kd cs i) l, a) else gX8_force nF n set y (nI (i + 1)) (tq t (sn w kd cs i) l) a := by
      show gX8_force_31 nF (gX8_force nF n) _ _ _ t a = _
      unfold gX8_force_31 fX8_asks
      rw [h.1, if_neg (by rw [x_le (by omega) (by omega)]; omega), bnd_ok h5 (by decide), bnd_ok h5 (by decide), bnd_ok h5 (by decide), nI_cl (by omega), g1, g2, g3, ql, calS]
      show cal (fX8_forces nF set (tq t (sn w kd cs i) l) a) _ = _
      rw [fc, calS, nI_1]
      cases fcB w kd cs A (nI l) set (sn w kd cs i)
      · rw [b2F, if_pos rfl, if_neg Bool.false_ne_true]
      · rw [b2T, if_neg one0, if_pos rfl, ← lt, nI_cl (by omega)]
    rw [st]
    cases e : fcB w kd cs A (nI l) set (sn w kd cs i)
    · rw [if_neg Bool.false_ne_true]
      obtain ⟨r, t', j1, j2, j3⟩ := ih (i + 1) n (tq t (sn w kd cs i) l) (by omega) (by omega) (by omega) hI1 (by rw [tq_ne (by omega)]; exact ql) (fun i' hi1 hi2 => by
        by_cases e9 : i' = i
        · subst e9; exact e
        · exact hno i' hi1 (by omega))
      exact ⟨r, t', j1, j2, mS.tq.tr j3⟩
    · rw [if_pos rfl]
      have e9 : frcO w kd cs A (nI l) set = some i := by
        refine pick_of (o := some i) ⟨hil, ?_, fun i' hi' hei => ?_⟩
        · show (decide (1 ≤ i) && fcB w kd cs A (nI l) set (sn w kd cs i)) = true
          rw [e, decide_eq_true h1]; rfl
        · have hei : (decide (1 ≤ i') && fcB w kd cs A (nI l) set (sn w kd cs i')) = true := hei
          rw [Bool.and_eq_true, decide_eq_true_iff] at hei
          refine Or.inr ⟨rfl, ?_⟩
          rcases Nat.lt_or_ge i' i with hlt | hge
          · have := hno i' hei.1 hlt
            rw [hei.2] at this
            exact absurd this (by decide)
          · exact hge
      rw [e9]
      exact ⟨lowS R k y, _, rfl, ⟨R, k, hk, hR, eb, rfl⟩, mS.tq⟩
theorem stp15 {nF : Nat} (hF : 10000 ≤ nF) : stp_15 nF (Inv SS) := by
  intro x y N u v t a h
  obtain ⟨W, l, tc, q1, q2, hW, hb, hag, haw, l1, l2, hl, c1, c2, htc⟩ := CX_of h.1
  have hw8 := hW.1
  by_cases hx : x < 0 ∨ (255 : Int32) < x
  · refine st_ref SF_SS h 1 (w := -1) ?_ ?_
    · unfold fX7_force; rw [s7_no hx, calS, if_pos rfl, R7_1]; rfl
    · unfold fX8_force; rw [s8_no hx, calS, if_pos rfl, R8_1]; rfl
  obtain ⟨hx0, hx1⟩ := not_or.mp hx
  by_cases hy : (-1 : Int32) ≤ y
  · have ew := wN0 hw8
    have h585 := lv_3 hw8
    obtain ⟨t1, a1, G, F, Z, g1, g2, g3, g4, g5, g6, g7⟩ := ready_ok (P := 19) (more := 0) hF (by decide) (by decide) q1 hW hb h.2.1.1
    have g3' := g3
    rw [ew] at g3'
    have hG := (g3'.b hw8).1
    have hG0 := (grp0 (okE hW) hw8 g3').1
    obtain ⟨t2, a2, i1, i2, i3, i4⟩ := firstF7 (nF := nF) (set := x) (l := l) (by omega) (okE hW) hw8 hb (by decide) g3' (G - 1) 1 nF t1 a1 (by omega) (Nat.le_refl 1) (by omega) (g7 6 (by omega)) (by rw [g6 198 (by omega)]; exact l1) g3' (fun g' h1 h2 => absurd h2 (by omega))
    obtain ⟨s1, s2⟩ := SS_back (P := 19) (more := 0) (Or.inl ⟨rfl, rfl⟩) h.2.1 q1 hW (fun q hq => by rw [i3 q (by omega), g6 q hq]) (fun k hk => by rw [i4 k (by omega), g7 k hk]) (by rw [i3 _ (by omega)]; exact g2) (by rw [ew]; exact i2) (g4.fr (i4 _ (by omega)) (i4 _ (by omega)) (i4 _ (by omega))) (g5.fr (i3 _ (by omega)) (i4 _ (by omega)))
    have c7 : fX3_firstThatForces nF 19 x t a = some (o1 (frcO W (kE W (a 4)) (cE W (a 5)) (a 6) (nI l) x), t2, a2) := by
      unfold fX3_firstThatForces
      rw [g1, calS]
      exact i1
    obtain ⟨t3, a3, m1, m2⟩ := list_ok (nF := nF) (t0 := t2) (a0 := a2) (by omega) (okE hW) hw8 (hag.fr (s2.2 55 (by omega)) (s2.2 56 (by omega))) (by rw [s2.1 3207 (by omega)]; exact q2) hF
    have hp := lv_pos (w := W) 3
    obtain ⟨r, t4, k1, k2, k3⟩ := force8 (nF := nF) (l := l) (set := x) (A := a 6) (a := a3) hF (okE hW) hb hw8 (haw.fr (by rw [m2.ms.2 57 (by omega), s2.2 57 (by omega)])) hy (lv W 3 - 1) 1 nF t3 (by omega) (Nat.le_refl 1) (by omega) m2.li (by rw [m2.ms.1 3213 (by omega), s2.1 3213 (by omega)]; exact l2) (fun g' h1 h2 => absurd h2 (by omega))
    refine ⟨r, t2, a2, t4, a3, ?_, ?_, inv_fin h s1 s2 (m2.ms.tr k3)⟩
    · unfold fX7_force
      rw [s7_yes hx0 hx1, calS, if_neg one0, if_pos hy, c7, calS]
      cases hfo : frcO W (kE W (a 4)) (cE W (a 5)) (a 6) (nI l) x with
      | none =>
        rw [hfo] at k2
        have k2 : r = -9 := k2
        rw [k2, if_neg (show ¬ (0 : Int32) ≤ o1 none by decide)]
      | some b =>
        rw [hfo] at k2
        obtain ⟨R, k, hk, hR, eb, er⟩ := k2
        have hbl : b < lv W 3 := (pick_lt hfo).1
        have o1s : o1 (some b) = nI b := rfl
        have lo := low_ok (nF := nF) (t := t2) (a := a2) (k := k) (R := R) (by omega) hw8 i2.1 (by omega) hR y
        rw [← eb] at lo
        rw [o1s, if_pos (Int32.not_lt.mp (nneg (by omega))), lo, calS, er]
    · unfold fX8_force
      rw [s8_yes hx0 hx1, calS, if_neg one0, if_pos hy, m1, calS]
      exact k1
  · refine st_ref SF_SS h 4 (w := -4) ?_ ?_
    · unfold fX7_force; rw [s7_yes hx0 hx1, calS, if_neg one0, if_neg hy, R7_4]; rfl
    · unfold fX8_force; rw [s8_yes hx0 hx1, calS, if_neg one0, if_neg hy, R8_4]; rfl
