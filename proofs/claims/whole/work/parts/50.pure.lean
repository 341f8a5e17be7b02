/-! the sayings of a tongue, as numbers: what each means; choosing among them -/
abbrev Sn : Type := Nat × Nat × Nat × Nat
def okT (kd cs : Nat → Nat) : Prop := ∀ c, kd c ≤ 3 ∧ cs c ≤ 255
def s0 : Sn := (255, 0, 0, 0)
def grw (kd cs : Nat → Nat) (x : Sn) (c : Nat) : Sn := (gm x.1 x.2.1 (kd c) (cs c), gf x.2.1 (kd c), gi x.2.2.1 (kd c), x.2.2.2 + 1)
def snF (w : Nat) (kd cs : Nat → Nat) : Nat → Nat → Sn
  | 0, _ => s0
  | d + 1, s => if s = 0 then s0 else grw kd cs (snF w kd cs d ((s - 1) / w)) ((s - 1) % w)
def sn (w : Nat) (kd cs : Nat → Nat) (s : Nat) : Sn := snF w kd cs s s
/-- how many sayings of up to k words there are -/
def lv (w : Nat) : Nat → Nat
  | 0 => 1
  | k + 1 => lv w k * w + 1
def nb (w : Nat) (row : Nat → Nat) : Nat → Nat
  | 0 => 0
  | k + 1 => nb w row k * w + 1 + row k
def okX (x : Sn) (k : Nat) : Prop := x.1 < 256 ∧ x.2.1 < 8 ∧ x.2.2.1 ≤ x.2.2.2 ∧ x.2.2.2 ≤ k
def pkS (x : Sn) : Nat := pk x.1 x.2.1 x.2.2.1 x.2.2.2
def key (x : Sn) : Nat := (x.2.2.2 * (x.2.2.2 + 1) / 2 + x.2.2.1) * 256 + x.1
section SN
variable {w : Nat} {kd cs : Nat → Nat}
theorem snF_eq : ∀ d e s, s ≤ d → s ≤ e → snF w kd cs d s = snF w kd cs e s := by
  intro d
  induction d with
  | zero =>
    intro e s h1 h2
    have : s = 0 := by omega
    subst this
    cases e with
    | zero => rfl
    | succ e => show s0 = if (0 : Nat) = 0 then s0 else _; rw [if_pos rfl]
  | succ d ih =>
    intro e s h1 h2
    cases e with
    | zero =>
      have : s = 0 := by omega
      subst this
      show (if (0 : Nat) = 0 then s0 else _) = s0
      rw [if_pos rfl]
    | succ e =>
      show (if s = 0 then s0 else grw kd cs (snF w kd cs d ((s - 1) / w)) ((s - 1) % w)) = if s = 0 then s0 else grw kd cs (snF w kd cs e ((s - 1) / w)) ((s - 1) % w)
      by_cases h : s = 0
      · rw [if_pos h, if_pos h]
      · have := Nat.div_le_self (s - 1) w
        rw [if_neg h, if_neg h, ih e ((s - 1) / w) (by omega) (by omega)]
theorem sn_0 : sn w kd cs 0 = s0 := rfl
theorem sn_pos {s : Nat} (h : 0 < s) : sn w kd cs s = grw kd cs (sn w kd cs ((s - 1) / w)) ((s - 1) % w) := by
  obtain ⟨d, rfl⟩ : ∃ d, s = d + 1 := ⟨s - 1, by omega⟩
  unfold sn
  have e : snF w kd cs (d + 1) (d + 1) = if d + 1 = 0 then s0 else grw kd cs (snF w kd cs d ((d + 1 - 1) / w)) ((d + 1 - 1) % w) := rfl
  have := Nat.div_le_self (d + 1 - 1) w
  rw [e, if_neg (by omega), snF_eq d ((d + 1 - 1) / w) ((d + 1 - 1) / w) (by omega) (Nat.le_refl _)]
theorem dm_step {s c : Nat} (hc : c < w) : (s * w + 1 + c - 1) / w = s ∧ (s * w + 1 + c - 1) % w = c := by
  have e : s * w + 1 + c - 1 = c + w * s := by rw [Nat.mul_comm]; omega
  rw [e]
  exact ⟨by rw [Nat.add_mul_div_left _ _ (by omega), Nat.div_eq_of_lt hc]; omega, by rw [Nat.add_mul_mod_self_left, Nat.mod_eq_of_lt hc]⟩
theorem sn_step {s c : Nat} (hc : c < w) : sn w kd cs (s * w + 1 + c) = grw kd cs (sn w kd cs s) c := by
  rw [sn_pos (by omega), (dm_step hc).1, (dm_step hc).2]
theorem grw_ok (hT : okT kd cs) {x : Sn} {k c : Nat} (h : okX x k) : okX (grw kd cs x c) (k + 1) := by
  obtain ⟨h1, h2, h3, h4⟩ := h
  refine ⟨gm_lt h1 (hT c).2, gf_lt h2 (hT c).1, ?_, ?_⟩
  · show gi x.2.2.1 (kd c) ≤ x.2.2.2 + 1
    unfold gi
    split <;> omega
  · show x.2.2.2 + 1 ≤ k + 1
    omega
theorem s0_ok (k : Nat) : okX s0 k := ⟨by decide, by decide, Nat.le_refl 0, Nat.zero_le k⟩
theorem lv_div {k s : Nat} (h : 0 < s) (hs : s < lv w (k + 1)) : (s - 1) / w < lv w k ∧ 0 < w := by
  have hs : s < lv w k * w + 1 := hs
  have hw : 0 < w := by
    rcases Nat.eq_zero_or_pos w with e | e
    · subst e; omega
    · exact e
  exact ⟨by rw [Nat.div_lt_iff_lt_mul hw]; omega, hw⟩
theorem okX.le {x : Sn} {k j : Nat} (h : okX x k) (hj : k ≤ j) : okX x j := ⟨h.1, h.2.1, h.2.2.1, Nat.le_trans h.2.2.2 hj⟩
theorem sn_ok (hT : okT kd cs) : ∀ k s, s < lv w k → okX (sn w kd cs s) k := by
  intro k
  induction k with
  | zero =>
    intro s hs
    have : s = 0 := by have : s < 1 := hs; omega
    subst this
    exact s0_ok 0
  | succ k ih =>
    intro s hs
    rcases Nat.eq_zero_or_pos s with e | e
    · subst e; exact s0_ok _
    · rw [sn_pos e]
      exact grw_ok hT (ih _ (lv_div e hs).1)
theorem sn_ln {k s : Nat} (h : 0 < s) : 0 < (sn w kd cs s).2.2.2 := by
  rw [sn_pos h]
  exact Nat.succ_pos _
/-- a row's sense -/
def snR (kd cs : Nat → Nat) (row : Nat → Nat) : Nat → Sn
  | 0 => s0
  | k + 1 => grw kd cs (snR kd cs row k) (row k)
theorem sn_nb {row : Nat → Nat} : ∀ k, (∀ j, j < k → row j < w) → sn w kd cs (nb w row k) = snR kd cs row k := by
  intro k
  induction k with
  | zero => intro _; rfl
  | succ k ih =>
    intro h
    show sn w kd cs (nb w row k * w + 1 + row k) = grw kd cs (snR kd cs row k) (row k)
    rw [sn_step (h k (by omega)), ih (fun j hj => h j (by omega))]
theorem nb_lt {row : Nat → Nat} : ∀ k, (∀ j, j < k → row j < w) → nb w row k < lv w k := by
  intro k
  induction k with
  | zero => intro _; exact Nat.zero_lt_one
  | succ k ih =>
    intro h
    have i1 := ih (fun j hj => h j (by omega))
    have i2 := h k (by omega)
    show nb w row k * w + 1 + row k < lv w k * w + 1
    have : (nb w row k + 1) * w ≤ lv w k * w := Nat.mul_le_mul_right w i1
    rw [Nat.add_mul] at this
    omega
theorem snR_ln {row : Nat → Nat} : ∀ k, (snR kd cs row k).2.2.2 = k := by
  intro k
  induction k with
  | zero => rfl
  | succ k ih => show (snR kd cs row k).2.2.2 + 1 = k + 1; rw [ih]
theorem lv_mono : ∀ k, lv w k ≤ lv w (k + 1) := by
  intro k
  induction k with
  | zero => show 1 ≤ 1 * w + 1; omega
  | succ k ih =>
    show lv w k * w + 1 ≤ lv w (k + 1) * w + 1
    have := Nat.mul_le_mul_right w ih
    omega
theorem lv_3 (hw : w ≤ 8) : lv w 3 ≤ 585 := by
  have : ∀ w, w < 9 → lv w 3 ≤ 585 := by decide
  exact this w (by omega)
theorem lv_2 (hw : w ≤ 8) : lv w 2 ≤ 73 := by
  have : ∀ w, w < 9 → lv w 2 ≤ 73 := by decide
  exact this w (by omega)
theorem lv_4 (hw : w ≤ 8) : lv w 4 ≤ 4681 := by
  have : ∀ w, w < 9 → lv w 4 ≤ 4681 := by decide
  exact this w (by omega)
theorem lv2_eq : lv w 2 = 1 + w + w * w := by
  show (1 * w + 1) * w + 1 = _
  rw [Nat.one_mul, Nat.add_mul]; omega
theorem lv_pos : ∀ k, 0 < lv w k := by
  intro k
  cases k with
  | zero => exact Nat.zero_lt_one
  | succ k => exact Nat.succ_pos _
end SN
theorem key_lt {x : Sn} (h : okX x 3) : key x < 2560 := by
  obtain ⟨h1, h2, h3, h4⟩ := h
  unfold key
  generalize x.2.2.2 = l at *
  generalize x.2.2.1 = i at *
  have : l = 0 ∨ l = 1 ∨ l = 2 ∨ l = 3 := by omega
  rcases this with rfl | rfl | rfl | rfl <;> omega
theorem key_inj {x y : Sn} (h : okX x 3) (h' : okX y 3) (e : key x = key y) : x.1 = y.1 ∧ x.2.2.1 = y.2.2.1 ∧ x.2.2.2 = y.2.2.2 := by
  obtain ⟨h1, h2, h3, h4⟩ := h
  obtain ⟨g1, g2, g3, g4⟩ := h'
  unfold key at e
  generalize x.2.2.2 = l at *
  generalize x.2.2.1 = i at *
  generalize y.2.2.2 = l' at *
  generalize y.2.2.1 = i' at *
  have a1 : l = 0 ∨ l = 1 ∨ l = 2 ∨ l = 3 := by omega
  have a2 : l' = 0 ∨ l' = 1 ∨ l' = 2 ∨ l' = 3 := by omega
  rcases a1 with rfl | rfl | rfl | rfl <;> rcases a2 with rfl | rfl | rfl | rfl <;> omega
/-! the first of the best -/
def pick (e : Nat → Bool) (r : Nat → Nat) : Nat → Option Nat
  | 0 => none
  | n + 1 => match pick e r n with
    | none => if e n then some n else none
    | some b => if e n && decide (r b < r n) then some n else some b
def isP (e : Nat → Bool) (r : Nat → Nat) (n b : Nat) : Prop := b < n ∧ e b = true ∧ ∀ i, i < n → e i = true → r i < r b ∨ (r i = r b ∧ b ≤ i)
def isO (e : Nat → Bool) (r : Nat → Nat) (n : Nat) (o : Option Nat) : Prop := match o with
  | none => ∀ i, i < n → e i = false
  | some b => isP e r n b
theorem isO_uq {e : Nat → Bool} {r : Nat → Nat} {n : Nat} {o o' : Option Nat} (h : isO e r n o) (h' : isO e r n o') : o = o' := by
  cases o with
  | none =>
    cases o' with
    | none => rfl
    | some b =>
      have := h b h'.1
      rw [h'.2.1] at this
      exact absurd this (by decide)
  | some b =>
    cases o' with
    | none =>
      have := h' b h.1
      rw [h.2.1] at this
      exact absurd this (by decide)
    | some b' =>
      have h1 := h.2.2 b' h'.1 h'.2.1
      have h2 := h'.2.2 b h.1 h.2.1
      have : b = b' := by omega
      rw [this]
theorem pick_ok (e : Nat → Bool) (r : Nat → Nat) : ∀ n, isO e r n (pick e r n) := by
  intro n
  induction n with
  | zero => intro i hi; exact absurd hi (Nat.not_lt_zero i)
  | succ n ih =>
    show isO e r (n + 1) (match pick e r n with
    | none => if e n then some n else none
    | some b => if e n && decide (r b < r n) then some n else some b)
    generalize pick e r n = o at ih ⊢
    cases o with
    | none =>
      have ih : ∀ i, i < n → e i = false := ih
      show isO e r (n + 1) (if e n then some n else none)
      by_cases h : e n = true
      · rw [if_pos h]
        refine ⟨Nat.lt_succ_self n, h, fun i hi hei => ?_⟩
        by_cases e9 : i = n
        · subst e9; exact Or.inr ⟨rfl, Nat.le_refl i⟩
        · rw [ih i (by omega)] at hei; exact absurd hei (by decide)
      · rw [if_neg h]
        intro i hi
        by_cases e9 : i = n
        · subst e9
          cases e8 : e i
          · rfl
          · exact absurd e8 h
        · exact ih i (by omega)
    | some b =>
      obtain ⟨h1, h2, h3⟩ := ih
      show isO e r (n + 1) (if e n && decide (r b < r n) then some n else some b)
      by_cases h : (e n && decide (r b < r n)) = true
      · rw [if_pos h]
        rw [Bool.and_eq_true, decide_eq_true_iff] at h
        refine ⟨Nat.lt_succ_self n, h.1, fun i hi hei => ?_⟩
        by_cases e9 : i = n
        · subst e9; exact Or.inr ⟨rfl, Nat.le_refl i⟩
        · have := h3 i (by omega) hei
          exact Or.inl (by omega)
      · rw [if_neg h]
        refine ⟨by omega, h2, fun i hi hei => ?_⟩
        by_cases e9 : i = n
        · subst e9
          rw [hei, Bool.true_and, decide_eq_true_iff] at h
          omega
        · exact h3 i (by omega) hei
theorem pick_of {e : Nat → Bool} {r : Nat → Nat} {n : Nat} {o : Option Nat} (h : isO e r n o) : pick e r n = o := isO_uq (pick_ok e r n) h
theorem pick_lt {e : Nat → Bool} {r : Nat → Nat} {n b : Nat} (h : pick e r n = some b) : b < n ∧ e b = true := by
  have := pick_ok e r n
  rw [h] at this
  exact ⟨this.1, this.2.1⟩
theorem pick_congr {e e' : Nat → Bool} {r r' : Nat → Nat} : ∀ n, (∀ i, i < n → e i = e' i) → (∀ i, i < n → r i = r' i) → pick e r n = pick e' r' n := by
  intro n h1 h2
  apply pick_of
  have := pick_ok e' r' n
  generalize pick e' r' n = o at this ⊢
  cases o with
  | none => intro i hi; rw [h1 i hi]; exact this i hi
  | some b =>
    obtain ⟨g1, g2, g3⟩ := this
    exact ⟨g1, by rw [h1 b g1]; exact g2, fun i hi hei => by rw [h2 i hi, h2 b g1]; exact g3 i hi (by rw [← h1 i hi]; exact hei)⟩
/-- choosing among the representatives is choosing among all -/
theorem pick_map {e e' : Nat → Bool} {r r' : Nat → Nat} {f n : Nat} (h : Nat → Nat) (hm : ∀ k j, k < j → j < f → h k < h j) (hn : ∀ k, k < f → h k < n) (he : ∀ k, k < f → e k = e' (h k)) (hr : ∀ k, k < f → r k = r' (h k)) (hc : ∀ j, j < n → e' j = true → ∃ k, k < f ∧ h k ≤ j ∧ e k = true ∧ r k = r' j) : pick e' r' n = (pick e r f).map h := by
  apply pick_of
  have := pick_ok e r f
  generalize pick e r f = o at this ⊢
  cases o with
  | none =>
    intro j hj
    cases e8 : e' j
    · rfl
    · obtain ⟨k, hk, -, h3, -⟩ := hc j hj e8
      have := this k hk
      rw [h3] at this
      exact absurd this (by decide)
  | some k =>
    obtain ⟨g1, g2, g3⟩ := this
    refine ⟨hn k g1, by rw [← he k g1]; exact g2, fun j hj hej => ?_⟩
    obtain ⟨k', hk', h2, h3, h4⟩ := hc j hj hej
    have h5 := g3 k' hk' h3
    rw [h4, hr k g1] at h5
    rcases h5 with h5 | ⟨h5, h6⟩
    · exact Or.inl h5
    · refine Or.inr ⟨h5, ?_⟩
      show h k ≤ j
      rcases Nat.lt_or_ge k k' with h7 | h7
      · have := hm k k' h7 hk'; omega
      · have : k = k' := by omega
        rw [this]; exact h2
/-! sums -/
def sumN (f : Nat → Nat) : Nat → Nat
  | 0 => 0
  | n + 1 => sumN f n + f n
theorem sumN_congr {f g : Nat → Nat} : ∀ n, (∀ i, i < n → f i = g i) → sumN f n = sumN g n := by
  intro n
  induction n with
  | zero => intro _; rfl
  | succ n ih => intro h; show sumN f n + f n = sumN g n + g n; rw [ih (fun i hi => h i (by omega)), h n (by omega)]
theorem sumN_one {f g : Nat → Nat} {j d : Nat} : ∀ n, j < n → (∀ i, i < n → i ≠ j → f i = g i) → f j = g j + d → sumN f n = sumN g n + d := by
  intro n
  induction n with
  | zero => intro h; exact absurd h (Nat.not_lt_zero j)
  | succ n ih =>
    intro h h1 h2
    show sumN f n + f n = sumN g n + g n + d
    by_cases e : j = n
    · subst e
      rw [sumN_congr j (fun i hi => h1 i (by omega) (by omega)), h2]
      omega
    · rw [ih (by omega) (fun i hi hn => h1 i (by omega) hn) h2, h1 n (by omega) (fun e9 => e e9.symm)]
      omega
theorem sumN_le {f : Nat → Nat} {B : Nat} : ∀ n, (∀ i, i < n → f i ≤ B) → sumN f n ≤ B * n := by
  intro n
  induction n with
  | zero => intro _; exact Nat.zero_le _
  | succ n ih =>
    intro h
    have := ih (fun i hi => h i (by omega))
    have := h n (by omega)
    show sumN f n + f n ≤ B * (n + 1)
    rw [Nat.mul_succ]
    omega
