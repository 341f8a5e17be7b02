/-! the class's sayings: refresh -/
/-- always so: what the groups kept last leave behind -/
def AL (P : Nat) (t : sT) (a : sA) : Prop := ∃ G, G ≤ 585 ∧ t (64 * P + 14) = nI G ∧ (∀ g, g < G → ∃ x : Sn, okX x 3 ∧ a (P + 2) g = nI (pkS x)) ∧ ∀ k, k < 2560 → a (P + 6) k = 0 ∨ ∃ g x, g < G ∧ okX x 3 ∧ a (P + 2) g = nI (pkS x) ∧ key x = k
theorem AL.fr {P : Nat} {t t' : sT} {a a' : sA} (h : AL P t a) (ht : t' (64 * P + 14) = t (64 * P + 14)) (h2 : a' (P + 2) = a (P + 2)) (h6 : a' (P + 6) = a (P + 6)) : AL P t' a' := by
  unfold AL
  rw [ht, h2, h6]
  exact h
theorem pk_inj {x y : Sn} (h : okX x 3) (h' : okX y 3) (e : nI (pkS x) = nI (pkS y)) : x = y := by
  obtain ⟨h1, h2, h3, h4⟩ := h
  obtain ⟨g1, g2, g3, g4⟩ := h'
  unfold pkS at e
  have e : pk x.1 x.2.1 x.2.2.1 x.2.2.2 = pk y.1 y.2.1 y.2.2.1 y.2.2.2 := (x_eq (Nat.lt_trans (pk17 h1 h2 (by omega) (by omega)) (by decide)) (Nat.lt_trans (pk17 g1 g2 (by omega) (by omega)) (by decide))).mp e
  unfold pk at e
  obtain ⟨a, b, c, d⟩ := x
  obtain ⟨a', b', c', d'⟩ := y
  dsimp only at *
  have q1 : a = a' := by omega
  have q2 : b = b' := by omega
  have q3 : c = c' := by omega
  have q4 : d = d' := by omega
  rw [q1, q2, q3, q4]
theorem bnd0 {ρ : Type} {n : Nat} {A : Option ρ} (h : 0 < n) (hn : n < 2 ^ 31) : bnd (0 : Int32) n A = A := bnd_ok (k := 0) h hn
theorem bnd1 {ρ : Type} {n : Nat} {A : Option ρ} (h : 1 < n) (hn : n < 2 ^ 31) : bnd (1 : Int32) n A = A := bnd_ok (k := 1) h hn
theorem bnd2 {ρ : Type} {n : Nat} {A : Option ρ} (h : 2 < n) (hn : n < 2 ^ 31) : bnd (2 : Int32) n A = A := bnd_ok (k := 2) h hn
section CL
variable {nF P W w : Nat} {t : sT} {a : sA}
theorem clear_ok (hF : 1000 ≤ nF) (h : AL P t a) : ∃ a', fX3_clearGroups nF P t a = some (0, va_up t (64 * P + 14) 0, a') ∧ (∀ k, k < 2560 → a' (P + 6) k = 0) ∧ ∀ k, k ≠ P + 6 → a' k = a k := by
  obtain ⟨G, hG, h1, h2, h3⟩ := h
  have go : ∀ d i n (a9 : sA), i + d = G → d < n → a9 (P + 2) = a (P + 2) → (∀ k, k < 2560 → a9 (P + 6) k = 0 ∨ ∃ g x, i ≤ g ∧ g < G ∧ okX x 3 ∧ a (P + 2) g = nI (pkS x) ∧ key x = k) → ∃ a', gX3_clearGroups nF P n (nI i) t a9 = some (0, va_up t (64 * P + 14) 0, a') ∧ (∀ k, k < 2560 → a' (P + 6) k = 0) ∧ ∀ k, k ≠ P + 6 → a' k = a9 k := by
    intro d
    induction d with
    | zero =>
      intro i n a9 hi hn e2 e3
      obtain ⟨n, rfl⟩ : ∃ m, n = m + 1 := ⟨n - 1, by omega⟩
      refine ⟨a9, ?_, fun k hk => ?_, fun _ _ => rfl⟩
      · show gX3_clearGroups_2 nF P (gX3_clearGroups nF P n) _ t a9 = _
        unfold gX3_clearGroups_2
        rw [h1, if_pos ((x_le (by omega) (by omega)).mpr (by omega))]
      · rcases e3 k hk with e | ⟨g, x, g1, g2, -⟩
        · exact e
        · omega
    | succ d ih =>
      intro i n a9 hi hn e2 e3
      obtain ⟨n, rfl⟩ : ∃ m, n = m + 1 := ⟨n - 1, by omega⟩
      obtain ⟨x, hx, ex⟩ := h2 i (by omega)
      have hk := key_lt hx
      obtain ⟨a', g1, g2, g3⟩ := ih (i + 1) n (va_up a9 (P + 6) (upd (a9 (P + 6)) (key x) 0)) (by omega) (by omega) (by rw [up_ne (by omega)]; exact e2) (fun k hk2 => by
        rw [up_same]
        by_cases e9 : k = key x
        · exact Or.inl (by rw [e9, upd_same])
        · rw [upd_ne e9]
          rcases e3 k hk2 with e | ⟨g, y, q1, q2, q3, q4, q5⟩
          · exact Or.inl e
          · refine Or.inr ⟨g, y, ?_, q2, q3, q4, q5⟩
            rcases Nat.lt_or_ge i g with q | q
            · exact q
            · exfalso
              have : g = i := by omega
              subst this
              rw [ex] at q4
              exact e9 (by rw [← q5, pk_inj hx q3 q4]))
      refine ⟨a', ?_, g2, fun k hk2 => by rw [g3 k hk2, up_ne hk2]⟩
      show gX3_clearGroups_2 nF P (gX3_clearGroups nF P n) _ t a9 = _
      unfold gX3_clearGroups_2
      rw [h1, if_neg (by rw [x_le (by omega) (by omega)]; omega), bnd_ok (by omega) (by decide), nI_cl (by omega), e2, ex, key_ok hx, calS, bnd_ok hk (by decide), nI_cl (by omega), nI_1]
      exact g1
  exact go G 0 nF a (by omega) (by omega) rfl (fun k hk => by
    rcases h3 k hk with e | ⟨g, x, q1, q2⟩
    · exact Or.inl e
    · exact Or.inr ⟨g, x, Nat.zero_le g, q1, q2⟩)
theorem fill_ok {k0 n0 : Nat} {x : Int32} (hn0 : n0 < 2 ^ 30) (hF : n0 < nF) : ∃ f, fJ7_fill_53178 nF k0 n0 x t a = some (0, t, va_up a k0 f) ∧ ∀ i, i < n0 → f i = x := by
  have go : ∀ d i n (f : Nat → Int32), i + d = n0 → d < n → (∀ j, j < i → f j = x) → ∃ f', gJ7_fill_53178 nF k0 n0 n x (nI i) (nI n0) t (va_up a k0 f) = some (0, t, va_up a k0 f') ∧ ∀ j, j < n0 → f' j = x := by
    intro d
    induction d with
    | zero =>
      intro i n f hi hn hf
      obtain ⟨n, rfl⟩ : ∃ m, n = m + 1 := ⟨n - 1, by omega⟩
      refine ⟨f, ?_, fun j hj => hf j (by omega)⟩
      show gJ7_fill_53178_5 nF k0 n0 (gJ7_fill_53178 nF k0 n0 n) _ _ _ t _ = _
      unfold gJ7_fill_53178_5
      rw [if_pos ((x_le (by omega) (by omega)).mpr (by omega))]
    | succ d ih =>
      intro i n f hi hn hf
      obtain ⟨n, rfl⟩ : ∃ m, n = m + 1 := ⟨n - 1, by omega⟩
      obtain ⟨f', g1, g2⟩ := ih (i + 1) n (upd f i x) (by omega) (by omega) (fun j hj => by
        by_cases e : j = i
        · subst e; rw [upd_same]
        · rw [upd_ne e]; exact hf j (by omega))
      refine ⟨f', ?_, g2⟩
      show gJ7_fill_53178_5 nF k0 n0 (gJ7_fill_53178 nF k0 n0 n) _ _ _ t _ = _
      unfold gJ7_fill_53178_5
      rw [if_neg (by rw [x_le (by omega) (by omega)]; omega), bnd_ok (by omega) (by omega), nI_cl (by omega), nI_1, up_same, up_up]
      exact g1
  obtain ⟨f, g1, g2⟩ := go n0 0 nF (a k0) (by omega) hF (fun j hj => absurd hj (Nat.not_lt_zero j))
  rw [up_id] at g1
  exact ⟨f, g1, g2⟩
/-- all that is kept of the sayings while the tongue stands -/
def FR (P w : Nat) (kd cs : Nat → Nat) (A : Nat → Int32) (t : sT) (a : sA) : Prop := t (64 * P + 12) = nI w ∧ t (64 * P + 13) = nI (lv w 3) ∧ (∀ i, i < lv w 3 → a (P + 1) i = nI (pkS (sn w kd cs i))) ∧ ∃ G F Z, GR P w kd cs A G F Z (lv w 3) t a
theorem refresh_68 {sh : Nat} (hP : 19 ≤ P) (q : t 196 = nI W) (hW : okW W (a 4) (a 5)) (hw : w ≤ 8) (qw : t (64 * P + 12) = nI w) {s : Nat} (hs : s < lv w 2) (hsh : sh < 1000) : ∀ d c n (a9 : sA), c + d = w → d < n → (∀ k, k ≠ P + 1 → a9 k = a k) → (∀ i, i < s * w + 1 + c → a9 (P + 1) i = nI (pkS (sn w (kE W (a 4)) (cE W (a 5)) i))) → ∃ a', (gX3_refresh nF P n).2.1 (nI sh) (nI s) (nI c) t a9 = (gX3_refresh nF P (n - d - 1)).1 (nI sh) (nI (s + 1)) t a' ∧ (∀ k, k ≠ P + 1 → a' k = a k) ∧ ∀ i, i < s * w + 1 + w → a' (P + 1) i = nI (pkS (sn w (kE W (a 4)) (cE W (a 5)) i)) := by
  have hT := okE hW
  have h73 := lv_2 hw
  have hsw : s < s * w + 1 := by
    rcases Nat.eq_zero_or_pos s with e | e
    · subst e; omega
    · have hw0 : 0 < w := by
        rcases Nat.eq_zero_or_pos w with e9 | e9
        · subst e9; have : lv 0 2 = 1 := by decide
          omega
        · exact e9
      have := Nat.le_mul_of_pos_right s hw0
      omega
  have hn : s * w + 1 + w ≤ lv w 3 := by
    show s * w + 1 + w ≤ lv w 2 * w + 1
    have := Nat.mul_le_mul_right w (show s + 1 ≤ lv w 2 from hs)
    rw [Nat.add_mul] at this
    omega
  have h585 := lv_3 hw
  intro d
  induction d with
  | zero =>
    intro c n a9 hc hn' e1 e2
    obtain ⟨n, rfl⟩ : ∃ m, n = m + 1 := ⟨n - 1, by omega⟩
    have : c = w := by omega
    subst this
    refine ⟨a9, ?_, e1, e2⟩
    show gX3_refresh_68 nF P (gX3_refresh nF P n).1 (gX3_refresh nF P n).2.1 (gX3_refresh nF P n).2.2 _ _ _ t a9 = _
    unfold gX3_refresh_68
    rw [qw, if_pos ((x_le (by omega) (by omega)).mpr (Nat.le_refl c)), nI_1]
    rfl
  | succ d ih =>
    intro c n a9 hc hn' e1 e2
    obtain ⟨n, rfl⟩ : ∃ m, n = m + 1 := ⟨n - 1, by omega⟩
    have e4 : a9 4 = a 4 := e1 4 (by omega)
    have e5 : a9 5 = a 5 := e1 5 (by omega)
    have g := x_grown (nF := nF) (t := t) (a := a9) (c := c) q (by rw [e4, e5]; exact hW) (sn_ok hT 2 s hs) (by decide) (by omega)
    rw [e4, e5] at g
    obtain ⟨a', g1, g2, g3⟩ := ih (c + 1) n (va_up a9 (P + 1) (upd (a9 (P + 1)) (s * w + 1 + c) (nI (pkS (sn w (kE W (a 4)) (cE W (a 5)) (s * w + 1 + c)))))) (by omega) (by omega) (fun k hk => by rw [up_ne hk, e1 k hk]) (fun i hi => by
      rw [up_same]
      by_cases e9 : i = s * w + 1 + c
      · rw [e9, upd_same]
      · rw [upd_ne e9]; exact e2 i (by omega))
    refine ⟨a', ?_, g2, g3⟩
    show gX3_refresh_68 nF P (gX3_refresh nF P n).1 (gX3_refresh nF P n).2.1 (gX3_refresh nF P n).2.2 _ _ _ t a9 = _
    unfold gX3_refresh_68
    rw [qw, if_neg (by rw [x_le (by omega) (by omega)]; omega), bnd_ok (by omega) (by decide), nI_cl (by omega), e2 s (by omega), g, calS, pk_mul, nI_1, nI_add, bnd_ok (by omega) (by decide), nI_cl (by omega), nI_1, ← sn_step (by omega)]
    have : n + 1 - (d + 1) - 1 = n - d - 1 := by omega
    rw [this]
    exact g1
theorem refresh_61 (hP : 19 ≤ P) (q : t 196 = nI W) (hW : okW W (a 4) (a 5)) (hw : w ≤ 8) (qw : t (64 * P + 12) = nI w) : ∀ d s n (a9 : sA), s + d = lv w 2 → 10 * d < n → (∀ k, k ≠ P + 1 → a9 k = a k) → (∀ i, i < s * w + 1 → a9 (P + 1) i = nI (pkS (sn w (kE W (a 4)) (cE W (a 5)) i))) → ∃ a' n', n - 10 * d - 1 ≤ n' ∧ (gX3_refresh nF P n).1 (nI (lv w 2)) (nI s) t a9 = (gX3_refresh nF P n').2.2 (nI 0) (va_up t (64 * P + 13) (nI (lv w 3))) a' ∧ (∀ k, k ≠ P + 1 → a' k = a k) ∧ ∀ i, i < lv w 3 → a' (P + 1) i = nI (pkS (sn w (kE W (a 4)) (cE W (a 5)) i)) := by
  have h73 := lv_2 hw
  intro d
  induction d with
  | zero =>
    intro s n a9 hs hn e1 e2
    obtain ⟨n, rfl⟩ : ∃ m, n = m + 1 := ⟨n - 1, by omega⟩
    have : s = lv w 2 := by omega
    subst this
    refine ⟨a9, n, by omega, ?_, e1, e2⟩
    show gX3_refresh_61 nF P (gX3_refresh nF P n).1 (gX3_refresh nF P n).2.1 (gX3_refresh nF P n).2.2 _ _ t a9 = _
    unfold gX3_refresh_61
    rw [if_pos ((x_le (by omega) (by omega)).mpr (Nat.le_refl _)), qw, pk_mul, nI_1]
    rfl
  | succ d ih =>
    intro s n a9 hs hn e1 e2
    obtain ⟨n, rfl⟩ : ∃ m, n = m + 1 := ⟨n - 1, by omega⟩
    obtain ⟨a2, g1, g2, g3⟩ := refresh_68 (nF := nF) (sh := lv w 2) hP q hW hw qw (show s < lv w 2 by omega) (by omega) w 0 n a9 (by omega) (by omega) e1 (fun i hi => e2 i (by omega))
    obtain ⟨a', n', i1, i2, i3, i4⟩ := ih (s + 1) (n - w - 1) a2 (by omega) (by omega) g2 (fun i hi => g3 i (by rw [Nat.add_mul] at hi; omega))
    refine ⟨a', n', by omega, ?_, i3, i4⟩
    show gX3_refresh_61 nF P (gX3_refresh nF P n).1 (gX3_refresh nF P n).2.1 (gX3_refresh nF P n).2.2 _ _ t a9 = _
    unfold gX3_refresh_61
    rw [if_neg (by rw [x_le (by omega) (by omega)]; omega), show (0 : Int32) = nI 0 from rfl, g1, i2]
theorem refresh_131 (hF : 100 ≤ nF) (hP : 19 ≤ P) {kd cs : Nat → Nat} {A : Nat → Int32} (hT : okT kd cs) (hb : okB A) (hw : w ≤ 8) : ∀ d s n (t9 : sT) (a9 : sA) (G : Nat) (F Z : Nat → Nat), s + d = lv w 3 → d < n → t9 (64 * P + 13) = nI (lv w 3) → a9 6 = A → (∀ i, i < lv w 3 → a9 (P + 1) i = nI (pkS (sn w kd cs i))) → GR P w kd cs A G F Z s t9 a9 → ∃ t' a', (gX3_refresh nF P n).2.2 (nI s) t9 a9 = some (0, t', a') ∧ (∃ G F Z, GR P w kd cs A G F Z (lv w 3) t' a') ∧ t' (64 * P + 16) = 0 ∧ t' (64 * P + 17) = 1 ∧ (∀ i, i < 25 → a' (P + 10) i = -1) ∧ (∀ q, q ≠ 64 * P + 14 → q ≠ 64 * P + 16 → q ≠ 64 * P + 17 → t' q = t9 q) ∧ ∀ k, (k < P + 2 ∨ P + 7 ≤ k) → k ≠ P + 10 → a' k = a9 k := by
  have h585 := lv_3 hw
  intro d
  induction d with
  | zero =>
    intro s n t9 a9 G F Z hs hn e1 e2 e3 e4
    obtain ⟨n, rfl⟩ : ∃ m, n = m + 1 := ⟨n - 1, by omega⟩
    have : s = lv w 3 := by omega
    subst this
    obtain ⟨f, g1, g2⟩ := fill_ok (nF := nF) (k0 := P + 10) (n0 := 25) (x := -1) (t := t9) (a := a9) (by decide) (by omega)
    refine ⟨va_up (va_up t9 (64 * P + 16) 0) (64 * P + 17) 1, va_up a9 (P + 10) f, ?_, ⟨G, F, Z, ?_⟩, ?_, up_same _ _ _, fun i hi => by rw [up_same]; exact g2 i hi, fun q h1 h2 h3 => by rw [up_ne h3, up_ne h2], fun k h1 h2 => up_ne h2⟩
    · show gX3_refresh_131 nF P (gX3_refresh nF P n).1 (gX3_refresh nF P n).2.1 (gX3_refresh nF P n).2.2 _ t9 a9 = _
      unfold gX3_refresh_131
      rw [e1, if_pos ((x_le (by omega) (by omega)).mpr (Nat.le_refl _)), g1, calS, zok0, zok1]
    · unfold GR at e4 ⊢
      rw [up_ne (show 64 * P + 14 ≠ 64 * P + 17 by omega), up_ne (show 64 * P + 14 ≠ 64 * P + 16 by omega), up_ne (show P + 2 ≠ P + 10 by omega), up_ne (show P + 3 ≠ P + 10 by omega), up_ne (show P + 4 ≠ P + 10 by omega), up_ne (show P + 5 ≠ P + 10 by omega), up_ne (show P + 6 ≠ P + 10 by omega)]
      exact e4
    · rw [up_ne (by omega), up_same]
  | succ d ih =>
    intro s n t9 a9 G F Z hs hn e1 e2 e3 e4
    obtain ⟨n, rfl⟩ : ∃ m, n = m + 1 := ⟨n - 1, by omega⟩
    subst e2
    obtain ⟨t2, a2, G2, F2, Z2, g1, g2, g3, g4⟩ := putIn_ok (nF := nF) hF hT hP hb (show s < 585 by omega) (by omega) (e3 s (by omega)) e4
    obtain ⟨t', a', i1, i2, i3, i4, i5, i6, i7⟩ := ih (s + 1) n t2 a2 G2 F2 Z2 (by omega) (by omega) (by rw [g3 _ (by omega)]; exact e1) (g4 6 (by omega)) (fun i hi => by rw [g4 (P + 1) (by omega)]; exact e3 i hi) g2
    refine ⟨t', a', ?_, i2, i3, i4, i5, fun q h1 h2 h3 => by rw [i6 q h1 h2 h3, g3 q h1], fun k h1 h2 => by rw [i7 k h1 h2, g4 k h1]⟩
    show gX3_refresh_131 nF P (gX3_refresh nF P n).1 (gX3_refresh nF P n).2.1 (gX3_refresh nF P n).2.2 _ t9 a9 = _
    unfold gX3_refresh_131
    rw [e1, if_neg (by rw [x_le (by omega) (by omega)]; omega), g1, calS, nI_1]
    exact i1
/-- how many words the sayings are of -/
def wN (W more : Nat) : Nat := if 8 < W + more then 8 else W + more
theorem refresh_ok (hF : 10000 ≤ nF) (hP : 19 ≤ P) {more : Nat} (hm : more ≤ 1) (q : t 196 = nI W) (hW : okW W (a 4) (a 5)) (hb : okB (a 6)) (qm : t (64 * P + 1) = nI more) (q0 : t (64 * P + 17) = 0) (h : AL P t a) : ∃ t' a', fX3_refresh nF P t a = some (0, t', a') ∧ FR P (wN W more) (kE W (a 4)) (cE W (a 5)) (a 6) t' a' ∧ t' (64 * P + 16) = 0 ∧ t' (64 * P + 17) = 1 ∧ (∀ i, i < 25 → a' (P + 10) i = -1) ∧ (∀ q, (q < 64 * P + 12 ∨ 64 * P + 18 ≤ q) → t' q = t q) ∧ ∀ k, (k < P + 1 ∨ P + 11 ≤ k) → a' k = a k := by
  have hw8 := hW.1
  have hw : wN W more ≤ 8 := by unfold wN; split <;> omega
  have h73 := lv_2 hw
  obtain ⟨a1, g1, g2, g3⟩ := clear_ok (nF := nF) (by omega) h
  have e12 : (if (8 : Int32) < va_up t (64 * P + 14) 0 196 + va_up t (64 * P + 14) 0 (64 * P + 1) then (8 : Int32) else va_up t (64 * P + 14) 0 196 + va_up t (64 * P + 14) 0 (64 * P + 1)) = nI (wN W more) := by
    rw [up_ne (show 196 ≠ 64 * P + 14 by omega), up_ne (show 64 * P + 1 ≠ 64 * P + 14 by omega), q, qm, nI_add]
    unfold wN
    by_cases g : 8 < W + more
    · rw [if_pos g, if_pos (show (8 : Int32) < nI (W + more) from (x_lt (a := 8) (b := W + more) (by omega) (by omega)).mpr g)]; rfl
    · rw [if_neg g, if_neg (show ¬ (8 : Int32) < nI (W + more) by rw [show (8 : Int32) = nI 8 from rfl, x_lt (by omega) (by omega)]; exact g)]
  have st : fX3_refresh nF P t a = (gX3_refresh nF P nF).1 (nI (lv (wN W more) 2)) (nI 0) (va_up (va_up t (64 * P + 14) 0) (64 * P + 12) (nI (wN W more))) (va_up a1 (P + 1) (upd (a1 (P + 1)) 0 255)) := by
    unfold fX3_refresh
    rw [q0, if_pos rfl, g1, calS, bnd0 (by decide) (by decide), e12, up_same, pk_mul, lv2_eq]
    show (gX3_refresh nF P nF).1 (nI 1 + nI (wN W more) + nI (wN W more * wN W more)) _ _ _ = _
    rw [nI_add, nI_add]
    rfl
  have f4 : (va_up a1 (P + 1) (upd (a1 (P + 1)) 0 255)) 4 = a 4 := by rw [up_ne (by omega), g3 4 (by omega)]
  have f5 : (va_up a1 (P + 1) (upd (a1 (P + 1)) 0 255)) 5 = a 5 := by rw [up_ne (by omega), g3 5 (by omega)]
  have f6 : (va_up a1 (P + 1) (upd (a1 (P + 1)) 0 255)) 6 = a 6 := by rw [up_ne (by omega), g3 6 (by omega)]
  obtain ⟨a2, n', i1, i2, i3, i4⟩ := refresh_61 (nF := nF) (w := wN W more) (t := va_up (va_up t (64 * P + 14) 0) (64 * P + 12) (nI (wN W more))) (a := va_up a1 (P + 1) (upd (a1 (P + 1)) 0 255)) hP (by rw [up_ne (by omega), up_ne (by omega)]; exact q) (by rw [f4, f5]; exact hW) hw (up_same _ _ _) (lv (wN W more) 2) 0 nF _ (by omega) (by omega) (fun _ _ => rfl) (fun i hi => by
    have : i = 0 := by omega
    subst this
    rw [up_same, upd_same]; rfl)
  rw [f4, f5] at i4
  obtain ⟨t', a', j1, j2, j3, j4, j5, j6, j7⟩ := refresh_131 (nF := nF) (A := a 6) (by omega) hP (okE hW) hb hw (lv (wN W more) 3) 0 n' (va_up (va_up (va_up t (64 * P + 14) 0) (64 * P + 12) (nI (wN W more))) (64 * P + 13) (nI (lv (wN W more) 3))) a2 0 (fun _ => 0) (fun _ => 0) (by omega) (by have := lv_3 hw; omega) (up_same _ _ _) (by rw [i3 6 (by omega), f6]) i4 (by
    refine ⟨?_, Nat.le_refl 0, fun g hg => absurd hg (Nat.not_lt_zero g), fun _ _ _ hg => absurd hg (Nat.not_lt_zero _), fun i hi => absurd hi (Nat.not_lt_zero i), fun k hk _ => ?_, fun _ => rfl⟩
    · rw [up_ne (by omega), up_ne (by omega), up_same]; rfl
    · rw [i3 (P + 6) (by omega), up_ne (by omega)]; exact g2 k hk)
  refine ⟨t', a', by rw [st, i2, j1], ⟨?_, ?_, fun i hi => ?_, j2⟩, j3, j4, j5, fun q9 hq => ?_, fun k hk => ?_⟩
  · rw [j6 _ (by omega) (by omega) (by omega), up_ne (by omega), up_same]
  · rw [j6 _ (by omega) (by omega) (by omega), up_same]
  · rw [j7 (P + 1) (by omega) (by omega)]; exact i4 i hi
  · rw [j6 _ (by omega) (by omega) (by omega), up_ne (by omega), up_ne (by omega), up_ne (by omega)]
  · rw [j7 k (by omega) (by omega), i3 k (by omega), up_ne (by omega), g3 k (by omega)]
end CL
