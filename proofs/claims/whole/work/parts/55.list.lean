/-! the reference's list of sayings -/
def AG (w : Nat) (kd cs : Nat → Nat) (a : sA) : Prop := ∀ c, c < w → a 55 c = nI (kd c) ∧ a 56 c = nI (cs c)
theorem AG.ok {w : Nat} {kd cs : Nat → Nat} {a : sA} (h : AG w kd cs a) (hT : okT kd cs) (hw : w ≤ 8) : okW w (a 55) (a 56) := ⟨hw, fun i hi => ⟨⟨kd i, (hT i).1, (h i hi).1⟩, cs i, (hT i).2, (h i hi).2⟩⟩
theorem snS_kd {w : Nat} {kd cs : Nat → Nat} {A B row : Nat → Int32} {R : Nat → Nat} (hT : okT kd cs) (hw : w ≤ 8) (hA : ∀ c, c < w → A c = nI (kd c) ∧ B c = nI (cs c)) : ∀ k, (∀ j, j < k → R j < w ∧ row j = nI (R j)) → snS A B row k = ((snR kd cs R k).1, (snR kd cs R k).2.1, (snR kd cs R k).2.2.1) := by
  intro k
  induction k with
  | zero => intro _; rfl
  | succ k ih =>
    intro h
    obtain ⟨h1, h2⟩ := h k (by omega)
    obtain ⟨e1, e2⟩ := hA _ h1
    have b1 := (hT (R k)).1
    have b2 := (hT (R k)).2
    show (gm _ _ _ _, gf _ _, gi _ _) = _
    rw [ih (fun j hj => h j (by omega)), h2, nI_cl (by omega), e1, e2, nI_cl (by omega), nI_cl (by omega)]
    rfl
/-- the i-th of the list -/
def LsE (w : Nat) (kd cs : Nat → Nat) (a : sA) (i : Nat) : Prop := ∃ (R : Nat → Nat) (k : Nat), k ≤ 3 ∧ (∀ j, j < k → R j < w) ∧ i = nb w R k ∧ a 62 i = nI k ∧ (∀ j, j < k → a (64 + i) j = nI (R j)) ∧ a 649 i = nI (sn w kd cs i).1 ∧ a 650 i = nI (sn w kd cs i).2.2.1 ∧ (sn w kd cs i).2.2.2 = k
def LsP (w : Nat) (kd cs : Nat → Nat) (t0 : sT) (a0 : sA) (m : Nat) (t : sT) (a : sA) : Prop := t 3227 = nI m ∧ (∀ i, i < m → LsE w kd cs a i) ∧ (∀ q, q ≠ 3227 → t q = t0 q) ∧ ∀ k, (k < 62 ∨ 651 ≤ k) → a k = a0 k
def row3 (x y z : Nat) (j : Nat) : Nat := if j = 0 then x else if j = 1 then y else z
theorem r3_1 {w x y z : Nat} (hx : x < w) : ∀ j, j < 1 → row3 x y z j < w := by
  intro j hj
  have : j = 0 := by omega
  subst this
  exact hx
theorem LsE.fr {w : Nat} {kd cs : Nat → Nat} {a a' : sA} {i : Nat} (h : LsE w kd cs a i) (h1 : a' 62 i = a 62 i) (h2 : a' (64 + i) = a (64 + i)) (h3 : a' 649 i = a 649 i) (h4 : a' 650 i = a 650 i) : LsE w kd cs a' i := by
  unfold LsE
  rw [h1, h2, h3, h4]
  exact h
section LI
variable {nF w : Nat} {kd cs : Nat → Nat} {t0 : sT} {a0 : sA}
theorem add8_ok (hF : 100 ≤ nF) (hT : okT kd cs) (hw : w ≤ 8) (hag : AG w kd cs a0) {t : sT} {a : sA} {m : Nat} (h : LsP w kd cs t0 a0 m t a) {x y z k : Nat} (hk : k ≤ 3) (hR : ∀ j, j < k → row3 x y z j < w) (hm : m = nb w (row3 x y z) k) : ∃ t' a', fX8_add nF (nI k) (nI x) (nI y) (nI z) t a = some (0, t', a') ∧ LsP w kd cs t0 a0 (m + 1) t' a' := by
  obtain ⟨h1, h2, h3, h4⟩ := h
  have hlv : nb w (row3 x y z) k < lv w 3 := by
    have := nb_lt (w := w) k hR
    have m1 : lv w 0 ≤ lv w 1 := lv_mono 0
    have m2 : lv w 1 ≤ lv w 2 := lv_mono 1
    have m3 : lv w 2 ≤ lv w 3 := lv_mono 2
    have hk4 : k = 0 ∨ k = 1 ∨ k = 2 ∨ k = 3 := by omega
    rcases hk4 with rfl | rfl | rfl | rfl <;> omega
  have h585 := lv_3 hw
  have hm5 : m < 585 := by omega
  have c0 : (0 : Int32).toNatClampNeg = 0 := rfl
  have c1 : (1 : Int32).toNatClampNeg = 1 := rfl
  have c2 : (2 : Int32).toNatClampNeg = 2 := rfl
  have nR : ∀ j, j < 3 → upd (upd (upd (a (64 + m)) 0 (nI x)) 1 (nI y)) 2 (nI z) j = nI (row3 x y z j) := by
    intro j hj
    have hj3 : j = 0 ∨ j = 1 ∨ j = 2 := by omega
    rcases hj3 with rfl | rfl | rfl
    · rw [upd_ne (by decide), upd_ne (by decide), upd_same]; rfl
    · rw [upd_ne (by decide), upd_same]; rfl
    · rw [upd_same]; rfl
  have main : ∀ a9 : sA, a9 55 = a0 55 → a9 56 = a0 56 → a9 (64 + m) = upd (upd (upd (a (64 + m)) 0 (nI x)) 1 (nI y)) 2 (nI z) → fX8_meaning nF (64 + m) 3 (nI k) t a9 = some (nI (sn w kd cs m).1, t, a9) ∧ fX8_idleOf nF (64 + m) 3 (nI k) t a9 = some (nI (sn w kd cs m).2.2.1, t, a9) := by
    intro a9 p1 p2 p3
    have hW : okW w (a9 55) (a9 56) := by rw [p1, p2]; exact hag.ok hT hw
    have hr : okR w (a9 (64 + m)) k := fun j hj => ⟨row3 x y z j, hR j hj, by rw [p3]; exact nR j (by omega)⟩
    have es : snS (a9 55) (a9 56) (a9 (64 + m)) k = ((sn w kd cs m).1, (sn w kd cs m).2.1, (sn w kd cs m).2.2.1) := by
      have := snS_kd (w := w) (kd := kd) (cs := cs) (A := a9 55) (B := a9 56) (row := a9 (64 + m)) (R := row3 x y z) hT hw (by rw [p1, p2]; exact hag) k (fun j hj => ⟨hR j hj, by rw [p3]; exact nR j (by omega)⟩)
      rw [this, hm, sn_nb k hR]
    have e1 := mean8 (nF := nF) (t := t) (a := a9) (wn := w) (k := k) (n1 := 3) (p := 64 + m) hF hW (by omega) (by omega) (by decide) hr
    have e2 := idle8 (nF := nF) (t := t) (a := a9) (wn := w) (k := k) (n1 := 3) (p := 64 + m) hF hW (by omega) (by omega) (by decide) hr
    rw [es] at e1 e2
    exact ⟨e1, e2⟩
  have A1 : ∀ k', k' ≠ 62 → k' ≠ 64 + m → va_up (va_up a (64 + m) (upd (upd (upd (a (64 + m)) 0 (nI x)) 1 (nI y)) 2 (nI z))) 62 (upd (a 62) m (nI k)) k' = a k' := fun k' g1 g2 => by rw [up_ne g1, up_ne g2]
  obtain ⟨m1, -⟩ := main (va_up (va_up a (64 + m) (upd (upd (upd (a (64 + m)) 0 (nI x)) 1 (nI y)) 2 (nI z))) 62 (upd (a 62) m (nI k))) (by rw [A1 55 (by omega) (by omega)]; exact h4 55 (by omega)) (by rw [A1 56 (by omega) (by omega)]; exact h4 56 (by omega)) (by rw [up_ne (by omega), up_same])
  obtain ⟨-, m2⟩ := main (va_up (va_up (va_up a (64 + m) (upd (upd (upd (a (64 + m)) 0 (nI x)) 1 (nI y)) 2 (nI z))) 62 (upd (a 62) m (nI k))) 649 (upd (a 649) m (nI (sn w kd cs m).1))) (by rw [up_ne (by decide), A1 55 (by omega) (by omega)]; exact h4 55 (by omega)) (by rw [up_ne (by decide), A1 56 (by omega) (by omega)]; exact h4 56 (by omega)) (by rw [up_ne (by omega), up_ne (by omega), up_same])
  refine ⟨va_up t 3227 (nI (m + 1)), va_up (va_up (va_up (va_up a (64 + m) (upd (upd (upd (a (64 + m)) 0 (nI x)) 1 (nI y)) 2 (nI z))) 62 (upd (a 62) m (nI k))) 649 (upd (a 649) m (nI (sn w kd cs m).1))) 650 (upd (a 650) m (nI (sn w kd cs m).2.2.1)), ?_, up_same _ _ _, fun i hi => ?_, fun q hq => by rw [up_ne hq, h3 q hq], fun k' hk' => ?_⟩
  · unfold fX8_add
    rw [h1, bnd_ok hm5 (by decide), bnd0 (by decide) (by decide), bnd1 (by decide) (by decide), bnd2 (by decide) (by decide), bnd_ok hm5 (by decide), nI_cl (by omega), c0, c1, c2, up_same, up_up, up_same, up_up, up_ne (show 62 ≠ 64 + m by omega), m1, calS, bnd_ok hm5 (by decide), A1 649 (by omega) (by omega), m2, calS, h1, bnd_ok hm5 (by decide), nI_cl (by omega), nI_1, up_ne (show 650 ≠ 649 by decide), A1 650 (by omega) (by omega)]
  · by_cases e : i = m
    · subst e
      refine ⟨row3 x y z, k, hk, hR, hm, ?_, fun j hj => ?_, ?_, ?_, ?_⟩
      · rw [up_ne (by decide), up_ne (by decide), up_same, upd_same]
      · rw [up_ne (by omega), up_ne (by omega), up_ne (by omega), up_same]; exact nR j (by omega)
      · rw [up_ne (by decide), up_same, upd_same]
      · rw [up_same, upd_same]
      · rw [hm, sn_nb k hR, snR_ln]
    · refine (h2 i (by omega)).fr ?_ ?_ ?_ ?_
      · rw [up_ne (by decide), up_ne (by decide), up_same, upd_ne e]
      · rw [up_ne (by omega), up_ne (by omega), up_ne (by omega), up_ne (by omega)]
      · rw [up_ne (by decide), up_same, upd_ne e]
      · rw [up_same, upd_ne e]
  · rw [up_ne (by omega), up_ne (by omega), up_ne (by omega), up_ne (by omega)]
    exact h4 k' hk'
theorem LsP.wd {t : sT} {a : sA} {m : Nat} (h : LsP w kd cs t0 a0 m t a) (q : t0 3207 = nI w) : t 3207 = nI w := (h.2.2.1 3207 (by decide)).trans q
theorem list_15 (hF : 100 ≤ nF) (hT : okT kd cs) (hw : w ≤ 8) (hag : AG w kd cs a0) (q : t0 3207 = nI w) : ∀ d x n (t : sT) (a : sA), x + d = w → d < n → LsP w kd cs t0 a0 (1 + x) t a → ∃ t' a' n', n ≤ n' + d + 1 ∧ (gX8_list nF n).1 (nI x) t a = (gX8_list nF n').2.1 (nI 0) t' a' ∧ LsP w kd cs t0 a0 (1 + w) t' a' := by
  intro d
  induction d with
  | zero =>
    intro x n t a hx hn h
    obtain ⟨n, rfl⟩ : ∃ m, n = m + 1 := ⟨n - 1, by omega⟩
    have : x = w := by omega
    subst this
    refine ⟨t, a, n, by omega, ?_, h⟩
    show gX8_list_15 nF (gX8_list nF n).1 (gX8_list nF n).2.1 (gX8_list nF n).2.2.1 (gX8_list nF n).2.2.2.1 (gX8_list nF n).2.2.2.2.1 (gX8_list nF n).2.2.2.2.2 _ t a = _
    unfold gX8_list_15
    rw [h.wd q, if_pos ((x_le (by omega) (by omega)).mpr (Nat.le_refl x))]
    rfl
  | succ d ih =>
    intro x n t a hx hn h
    obtain ⟨n, rfl⟩ : ∃ m, n = m + 1 := ⟨n - 1, by omega⟩
    obtain ⟨t1, a1, g1, g2⟩ := add8_ok (nF := nF) hF hT hw hag h (x := x) (y := 0) (z := 0) (k := 1) (by decide) (r3_1 (show x < w by omega)) (by show 1 + x = 0 * w + 1 + x; omega)
    obtain ⟨t', a', n', i1, i2, i3⟩ := ih (x + 1) n t1 a1 (by omega) (by omega) (by rw [show 1 + (x + 1) = 1 + x + 1 by omega]; exact g2)
    refine ⟨t', a', n', by omega, ?_, i3⟩
    show gX8_list_15 nF (gX8_list nF n).1 (gX8_list nF n).2.1 (gX8_list nF n).2.2.1 (gX8_list nF n).2.2.2.1 (gX8_list nF n).2.2.2.2.1 (gX8_list nF n).2.2.2.2.2 _ t a = _
    unfold gX8_list_15
    have g1' : fX8_add nF 1 (nI x) 0 0 t a = some (0, t1, a1) := g1
    rw [h.wd q, if_neg (by rw [x_le (by omega) (by omega)]; omega), g1', calS, nI_1]
    exact i2
theorem list_49 (hF : 100 ≤ nF) (hT : okT kd cs) (hw : w ≤ 8) (hag : AG w kd cs a0) (q : t0 3207 = nI w) {x : Nat} (hx : x < w) : ∀ d y n (t : sT) (a : sA), y + d = w → d < n → LsP w kd cs t0 a0 ((1 + x) * w + 1 + y) t a → ∃ t' a' n', n ≤ n' + d + 1 ∧ (gX8_list nF n).2.2.1 (nI x) (nI y) t a = (gX8_list nF n').2.1 (nI (x + 1)) t' a' ∧ LsP w kd cs t0 a0 ((1 + x) * w + 1 + w) t' a' := by
  intro d
  induction d with
  | zero =>
    intro y n t a hy hn h
    obtain ⟨n, rfl⟩ : ∃ m, n = m + 1 := ⟨n - 1, by omega⟩
    have : y = w := by omega
    subst this
    refine ⟨t, a, n, by omega, ?_, h⟩
    show gX8_list_49 nF (gX8_list nF n).1 (gX8_list nF n).2.1 (gX8_list nF n).2.2.1 (gX8_list nF n).2.2.2.1 (gX8_list nF n).2.2.2.2.1 (gX8_list nF n).2.2.2.2.2 _ _ t a = _
    unfold gX8_list_49
    rw [h.wd q, if_pos ((x_le (by omega) (by omega)).mpr (Nat.le_refl y)), nI_1]
  | succ d ih =>
    intro y n t a hy hn h
    obtain ⟨n, rfl⟩ : ∃ m, n = m + 1 := ⟨n - 1, by omega⟩
    obtain ⟨t1, a1, g1, g2⟩ := add8_ok (nF := nF) hF hT hw hag h (x := x) (y := y) (z := 0) (k := 2) (by decide) (fun j hj => by
      have : j = 0 ∨ j = 1 := by omega
      rcases this with rfl | rfl
      · show x < w; omega
      · show y < w; omega) (by show (1 + x) * w + 1 + y = (0 * w + 1 + x) * w + 1 + y; rw [show 0 * w + 1 + x = 1 + x by omega])
    obtain ⟨t', a', n', i1, i2, i3⟩ := ih (y + 1) n t1 a1 (by omega) (by omega) (by rw [show (1 + x) * w + 1 + (y + 1) = (1 + x) * w + 1 + y + 1 by omega]; exact g2)
    refine ⟨t', a', n', by omega, ?_, i3⟩
    show gX8_list_49 nF (gX8_list nF n).1 (gX8_list nF n).2.1 (gX8_list nF n).2.2.1 (gX8_list nF n).2.2.2.1 (gX8_list nF n).2.2.2.2.1 (gX8_list nF n).2.2.2.2.2 _ _ t a = _
    unfold gX8_list_49
    have g1' : fX8_add nF 2 (nI x) (nI y) 0 t a = some (0, t1, a1) := g1
    rw [h.wd q, if_neg (by rw [x_le (by omega) (by omega)]; omega), g1', calS, nI_1]
    exact i2
theorem list_39 (hF : 100 ≤ nF) (hT : okT kd cs) (hw : w ≤ 8) (hag : AG w kd cs a0) (q : t0 3207 = nI w) : ∀ d x n (t : sT) (a : sA), x + d = w → 11 * d < n → LsP w kd cs t0 a0 ((1 + x) * w + 1) t a → ∃ t' a' n', n ≤ n' + 11 * d + 1 ∧ (gX8_list nF n).2.1 (nI x) t a = (gX8_list nF n').2.2.2.1 (nI 0) t' a' ∧ LsP w kd cs t0 a0 ((1 + w) * w + 1) t' a' := by
  intro d
  induction d with
  | zero =>
    intro x n t a hx hn h
    obtain ⟨n, rfl⟩ : ∃ m, n = m + 1 := ⟨n - 1, by omega⟩
    have : x = w := by omega
    subst this
    refine ⟨t, a, n, by omega, ?_, h⟩
    show gX8_list_39 nF (gX8_list nF n).1 (gX8_list nF n).2.1 (gX8_list nF n).2.2.1 (gX8_list nF n).2.2.2.1 (gX8_list nF n).2.2.2.2.1 (gX8_list nF n).2.2.2.2.2 _ t a = _
    unfold gX8_list_39
    rw [h.wd q, if_pos ((x_le (by omega) (by omega)).mpr (Nat.le_refl x))]
    rfl
  | succ d ih =>
    intro x n t a hx hn h
    obtain ⟨n, rfl⟩ : ∃ m, n = m + 1 := ⟨n - 1, by omega⟩
    obtain ⟨t1, a1, n1, g0, g1, g2⟩ := list_49 hF hT hw hag q (show x < w by omega) w 0 n t a (by omega) (by omega) (by rw [Nat.add_zero]; exact h)
    obtain ⟨t', a', n', i1, i2, i3⟩ := ih (x + 1) n1 t1 a1 (by omega) (by omega) (by rw [show (1 + (x + 1)) * w + 1 = (1 + x) * w + 1 + w by rw [show 1 + (x + 1) = 1 + x + 1 by omega, Nat.add_mul (1 + x) 1 w]; omega]; exact g2)
    refine ⟨t', a', n', by omega, ?_, i3⟩
    show gX8_list_39 nF (gX8_list nF n).1 (gX8_list nF n).2.1 (gX8_list nF n).2.2.1 (gX8_list nF n).2.2.2.1 (gX8_list nF n).2.2.2.2.1 (gX8_list nF n).2.2.2.2.2 _ t a = _
    unfold gX8_list_39
    rw [h.wd q, if_neg (by rw [x_le (by omega) (by omega)]; omega), show (0 : Int32) = nI 0 from rfl, g1, i2]
theorem list_99 (hF : 100 ≤ nF) (hT : okT kd cs) (hw : w ≤ 8) (hag : AG w kd cs a0) (q : t0 3207 = nI w) {x y : Nat} (hx : x < w) (hy : y < w) : ∀ d z n (t : sT) (a : sA), z + d = w → d < n → LsP w kd cs t0 a0 (((1 + x) * w + 1 + y) * w + 1 + z) t a → ∃ t' a' n', n ≤ n' + d + 1 ∧ (gX8_list nF n).2.2.2.2.2 (nI x) (nI y) (nI z) t a = (gX8_list nF n').2.2.2.2.1 (nI x) (nI (y + 1)) t' a' ∧ LsP w kd cs t0 a0 (((1 + x) * w + 1 + y) * w + 1 + w) t' a' := by
  intro d
  induction d with
  | zero =>
    intro z n t a hz hn h
    obtain ⟨n, rfl⟩ : ∃ m, n = m + 1 := ⟨n - 1, by omega⟩
    have : z = w := by omega
    subst this
    refine ⟨t, a, n, by omega, ?_, h⟩
    show gX8_list_99 nF (gX8_list nF n).1 (gX8_list nF n).2.1 (gX8_list nF n).2.2.1 (gX8_list nF n).2.2.2.1 (gX8_list nF n).2.2.2.2.1 (gX8_list nF n).2.2.2.2.2 _ _ _ t a = _
    unfold gX8_list_99
    rw [h.wd q, if_pos ((x_le (by omega) (by omega)).mpr (Nat.le_refl z)), nI_1]
  | succ d ih =>
    intro z n t a hz hn h
    obtain ⟨n, rfl⟩ : ∃ m, n = m + 1 := ⟨n - 1, by omega⟩
    obtain ⟨t1, a1, g1, g2⟩ := add8_ok (nF := nF) hF hT hw hag h (x := x) (y := y) (z := z) (k := 3) (by decide) (fun j hj => by
      have : j = 0 ∨ j = 1 ∨ j = 2 := by omega
      rcases this with rfl | rfl | rfl
      · show x < w; omega
      · show y < w; omega
      · show z < w; omega) (by show ((1 + x) * w + 1 + y) * w + 1 + z = ((0 * w + 1 + x) * w + 1 + y) * w + 1 + z; rw [show 0 * w + 1 + x = 1 + x by omega])
    obtain ⟨t', a', n', i1, i2, i3⟩ := ih (z + 1) n t1 a1 (by omega) (by omega) (by rw [show ((1 + x) * w + 1 + y) * w + 1 + (z + 1) = ((1 + x) * w + 1 + y) * w + 1 + z + 1 by omega]; exact g2)
    refine ⟨t', a', n', by omega, ?_, i3⟩
    show gX8_list_99 nF (gX8_list nF n).1 (gX8_list nF n).2.1 (gX8_list nF n).2.2.1 (gX8_list nF n).2.2.2.1 (gX8_list nF n).2.2.2.2.1 (gX8_list nF n).2.2.2.2.2 _ _ _ t a = _
    unfold gX8_list_99
    have g1' : fX8_add nF 3 (nI x) (nI y) (nI z) t a = some (0, t1, a1) := g1
    rw [h.wd q, if_neg (by rw [x_le (by omega) (by omega)]; omega), g1', calS, nI_1]
    exact i2
theorem list_89 (hF : 100 ≤ nF) (hT : okT kd cs) (hw : w ≤ 8) (hag : AG w kd cs a0) (q : t0 3207 = nI w) {x : Nat} (hx : x < w) : ∀ d y n (t : sT) (a : sA), y + d = w → 11 * d < n → LsP w kd cs t0 a0 (((1 + x) * w + 1 + y) * w + 1) t a → ∃ t' a' n', n ≤ n' + 11 * d + 1 ∧ (gX8_list nF n).2.2.2.2.1 (nI x) (nI y) t a = (gX8_list nF n').2.2.2.1 (nI (x + 1)) t' a' ∧ LsP w kd cs t0 a0 (((1 + x) * w + 1 + w) * w + 1) t' a' := by
  intro d
  induction d with
  | zero =>
    intro y n t a hy hn h
    obtain ⟨n, rfl⟩ : ∃ m, n = m + 1 := ⟨n - 1, by omega⟩
    have : y = w := by omega
    subst this
    refine ⟨t, a, n, by omega, ?_, h⟩
    show gX8_list_89 nF (gX8_list nF n).1 (gX8_list nF n).2.1 (gX8_list nF n).2.2.1 (gX8_list nF n).2.2.2.1 (gX8_list nF n).2.2.2.2.1 (gX8_list nF n).2.2.2.2.2 _ _ t a = _
    unfold gX8_list_89
    rw [h.wd q, if_pos ((x_le (by omega) (by omega)).mpr (Nat.le_refl y)), nI_1]
  | succ d ih =>
    intro y n t a hy hn h
    obtain ⟨n, rfl⟩ : ∃ m, n = m + 1 := ⟨n - 1, by omega⟩
    obtain ⟨t1, a1, n1, g0, g1, g2⟩ := list_99 hF hT hw hag q hx (show y < w by omega) w 0 n t a (by omega) (by omega) (by rw [Nat.add_zero]; exact h)
    obtain ⟨t', a', n', i1, i2, i3⟩ := ih (y + 1) n1 t1 a1 (by omega) (by omega) (by rw [show ((1 + x) * w + 1 + (y + 1)) * w + 1 = ((1 + x) * w + 1 + y) * w + 1 + w by rw [show (1 + x) * w + 1 + (y + 1) = (1 + x) * w + 1 + y + 1 by omega, Nat.add_mul ((1 + x) * w + 1 + y) 1 w]; omega]; exact g2)
    refine ⟨t', a', n', by omega, ?_, i3⟩
    show gX8_list_89 nF (gX8_list nF n).1 (gX8_list nF n).2.1 (gX8_list nF n).2.2.1 (gX8_list nF n).2.2.2.1 (gX8_list nF n).2.2.2.2.1 (gX8_list nF n).2.2.2.2.2 _ _ t a = _
    unfold gX8_list_89
    rw [h.wd q, if_neg (by rw [x_le (by omega) (by omega)]; omega), show (0 : Int32) = nI 0 from rfl, g1, i2]
theorem list_79 (hF : 100 ≤ nF) (hT : okT kd cs) (hw : w ≤ 8) (hag : AG w kd cs a0) (q : t0 3207 = nI w) : ∀ d x n (t : sT) (a : sA), x + d = w → 100 * d < n → LsP w kd cs t0 a0 (((1 + x) * w + 1) * w + 1) t a → ∃ t' a', (gX8_list nF n).2.2.2.1 (nI x) t a = some (0, t', a') ∧ LsP w kd cs t0 a0 (((1 + w) * w + 1) * w + 1) t' a' := by
  intro d
  induction d with
  | zero =>
    intro x n t a hx hn h
    obtain ⟨n, rfl⟩ : ∃ m, n = m + 1 := ⟨n - 1, by omega⟩
    have : x = w := by omega
    subst this
    refine ⟨t, a, ?_, h⟩
    show gX8_list_79 nF (gX8_list nF n).1 (gX8_list nF n).2.1 (gX8_list nF n).2.2.1 (gX8_list nF n).2.2.2.1 (gX8_list nF n).2.2.2.2.1 (gX8_list nF n).2.2.2.2.2 _ t a = _
    unfold gX8_list_79
    rw [h.wd q, if_pos ((x_le (by omega) (by omega)).mpr (Nat.le_refl x))]
  | succ d ih =>
    intro x n t a hx hn h
    obtain ⟨n, rfl⟩ : ∃ m, n = m + 1 := ⟨n - 1, by omega⟩
    obtain ⟨t1, a1, n1, g0, g1, g2⟩ := list_89 hF hT hw hag q (show x < w by omega) w 0 n t a (by omega) (by omega) (by rw [Nat.add_zero]; exact h)
    obtain ⟨t', a', i2, i3⟩ := ih (x + 1) n1 t1 a1 (by omega) (by omega) (by rw [show (1 + (x + 1)) * w + 1 = (1 + x) * w + 1 + w by rw [show 1 + (x + 1) = 1 + x + 1 by omega, Nat.add_mul (1 + x) 1 w]; omega]; exact g2)
    refine ⟨t', a', ?_, i3⟩
    show gX8_list_79 nF (gX8_list nF n).1 (gX8_list nF n).2.1 (gX8_list nF n).2.2.1 (gX8_list nF n).2.2.2.1 (gX8_list nF n).2.2.2.2.1 (gX8_list nF n).2.2.2.2.2 _ t a = _
    unfold gX8_list_79
    rw [h.wd q, if_neg (by rw [x_le (by omega) (by omega)]; omega), show (0 : Int32) = nI 0 from rfl, g1, i2]
    rfl
/-- the list stands -/
theorem list_ok (hF : 100 ≤ nF) (hT : okT kd cs) (hw : w ≤ 8) (hag : AG w kd cs a0) (q : t0 3207 = nI w) (hF2 : 10000 ≤ nF) : ∃ t' a', fX8_list nF t0 a0 = some (0, t', a') ∧ LsP w kd cs t0 a0 (lv w 3) t' a' := by
  have h0 : LsP w kd cs t0 a0 0 (va_up t0 3227 0) a0 := ⟨up_same _ _ _, fun i hi => absurd hi (Nat.not_lt_zero i), fun q hq => up_ne hq, fun _ _ => rfl⟩
  obtain ⟨t1, a1, g1, g2⟩ := add8_ok (nF := nF) hF hT hw hag h0 (x := 0) (y := 0) (z := 0) (k := 0) (by decide) (fun j hj => absurd hj (Nat.not_lt_zero j)) rfl
  obtain ⟨t2, a2, n2, i0, i1, i2⟩ := list_15 hF hT hw hag q w 0 nF t1 a1 (by omega) (by omega) g2
  obtain ⟨t3, a3, n3, j0, j1, j2⟩ := list_39 hF hT hw hag q w 0 n2 t2 a2 (by omega) (by omega) (by rw [show (1 + 0) * w + 1 = 1 + w by omega]; exact i2)
  obtain ⟨t4, a4, k1, k2⟩ := list_79 hF hT hw hag q w 0 n3 t3 a3 (by omega) (by omega) (by rw [show (1 + 0) * w + 1 = 1 + w by omega]; exact j2)
  refine ⟨t4, a4, ?_, ?_⟩
  · unfold fX8_list
    have g1' : fX8_add nF 0 0 0 0 (va_up t0 3227 0) a0 = some (0, t1, a1) := g1
    rw [g1', calS, show (0 : Int32) = nI 0 from rfl, i1, j1, k1]
    rfl
  · have : lv w 3 = ((1 + w) * w + 1) * w + 1 := by
      show ((1 * w + 1) * w + 1) * w + 1 = _
      rw [show 1 * w + 1 = 1 + w by omega]
    rw [this]
    exact k2
end LI
