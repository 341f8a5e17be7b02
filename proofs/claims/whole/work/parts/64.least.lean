/-! least -/
def e4P (w : Nat) (kd cs : Nat → Nat) (m : Nat) (s : Nat) : Bool := decide ((sn w kd cs s).1 = m)
theorem num_row {w : Nat} : ∀ k s, s < lv w k → ∃ (R : Nat → Nat) (k' : Nat), k' ≤ k ∧ (∀ j, j < k' → R j < w) ∧ s = nb w R k' := by
  intro k
  induction k with
  | zero =>
    intro s hs
    have : s < 1 := hs
    exact ⟨fun _ => 0, 0, Nat.le_refl 0, fun j hj => absurd hj (Nat.not_lt_zero j), by show s = 0; omega⟩
  | succ k ih =>
    intro s hs
    rcases Nat.eq_zero_or_pos s with e | e
    · exact ⟨fun _ => 0, 0, Nat.zero_le _, fun j hj => absurd hj (Nat.not_lt_zero j), e⟩
    · obtain ⟨h1, h2⟩ := lv_div e hs
      obtain ⟨R, k', g1, g2, g3⟩ := ih _ h1
      refine ⟨fun x => if x = k' then (s - 1) % w else R x, k' + 1, by omega, fun j hj => ?_, ?_⟩
      · show (if j = k' then (s - 1) % w else R j) < w
        by_cases e9 : j = k'
        · rw [if_pos e9]; exact Nat.mod_lt _ h2
        · rw [if_neg e9]; exact g2 j (by omega)
      · show s = nb w (fun x => if x = k' then (s - 1) % w else R x) k' * w + 1 + (if k' = k' then (s - 1) % w else R k')
        rw [if_pos rfl, nb_congr (H := R) k' (fun x hx => by show (if x = k' then _ else R x) = R x; rw [if_neg (by omega)]), ← g3]
        have := Nat.div_add_mod (s - 1) w
        rw [Nat.mul_comm] at this
        omega
theorem pick0 {e : Nat → Bool} {k : Nat} : pick e (fun _ => 0) (k + 1) = match pick e (fun _ => 0) k with
  | none => if e k then some k else none
  | some b => some b := by
  show (match pick e (fun _ => 0) k with
    | none => if e k then some k else none
    | some b => if e k && decide (0 < 0) then some k else some b) = _
  cases pick e (fun _ => 0) k with
  | none => rfl
  | some b =>
    show (if e k && false then some k else some b) = some b
    rw [Bool.and_false, if_neg Bool.false_ne_true]
/-- the firsts of the first k sayings -/
def NF (P w : Nat) (kd cs : Nat → Nat) (k : Nat) (a : sA) : Prop := ∀ m, m < 256 → a (P + 8) m = o1 (pick (e4P w kd cs m) (fun _ => 0) k)
section LS
variable {nF P W w : Nat} {t : sT} {a : sA}
theorem note_ok {kd cs : Nat → Nat} (hP : 19 ≤ P) {k j : Nat} (hj : j ≤ 6) (hk : k < 5000) (hx : okX (sn w kd cs k) j) (h : NF P w kd cs k a) : ∃ a', fX3_noteFirst nF P (nI (pkS (sn w kd cs k))) (nI k) t a = some (0, t, a') ∧ NF P w kd cs (k + 1) a' ∧ ∀ q, q ≠ P + 8 → a' q = a q := by
  have hm := hx.1
  have e0 := h _ hm
  unfold fX3_noteFirst
  rw [x_mean hx hj, calS, bnd_ok hm (by decide), nI_cl (by omega), e0]
  have other : ∀ m, m < 256 → m ≠ (sn w kd cs k).1 → pick (e4P w kd cs m) (fun _ => 0) (k + 1) = pick (e4P w kd cs m) (fun _ => 0) k := by
    intro m _ hne
    have : e4P w kd cs m k = false := decide_eq_false (fun y => hne y.symm)
    rw [pick0, this]
    cases pick (e4P w kd cs m) (fun _ => 0) k <;> rfl
  cases hp : pick (e4P w kd cs (sn w kd cs k).1) (fun _ => 0) k with
  | some b =>
    have hb := (pick_lt hp).1
    have o1s : o1 (some b) = nI b := rfl
    rw [o1s, if_pos (Int32.not_lt.mp (nneg (by omega)))]
    refine ⟨a, rfl, fun m hm2 => ?_, fun _ _ => rfl⟩
    by_cases e9 : m = (sn w kd cs k).1
    · subst e9
      rw [h _ hm2, pick0, hp]
    · rw [other m hm2 e9]; exact h m hm2
  | none =>
    rw [if_neg (show ¬ (0 : Int32) ≤ o1 none by decide), bnd_ok hm (by decide)]
    refine ⟨_, rfl, fun m hm2 => ?_, fun q hq => up_ne hq⟩
    rw [up_same]
    by_cases e9 : m = (sn w kd cs k).1
    · subst e9
      have : e4P w kd cs (sn w kd cs k).1 k = true := decide_eq_true rfl
      rw [upd_same, pick0, hp, this]
      rfl
    · rw [upd_ne e9, other m hm2 e9]; exact h m hm2
theorem ff_61 (hP : 19 ≤ P) (q : t 196 = nI W) (hW : okW W (a 4) (a 5)) (hw : w ≤ 8) (qw : t (64 * P + 12) = nI w) (hs1 : ∀ i, i < lv w 3 → a (P + 1) i = nI (pkS (sn w (kE W (a 4)) (cE W (a 5)) i))) {s : Nat} (hs : s < lv w 3) : ∀ d c n (a9 : sA), c + d = w → d < n → (∀ k, k ≠ P + 8 → a9 k = a k) → NF P w (kE W (a 4)) (cE W (a 5)) (s * w + 1 + c) a9 → ∃ a', (gX3_findFirsts nF P n).2.2 (nI s) (nI c) t a9 = (gX3_findFirsts nF P (n - d - 1)).2.1 (nI (s + 1)) t a' ∧ (∀ k, k ≠ P + 8 → a' k = a k) ∧ NF P w (kE W (a 4)) (cE W (a 5)) (s * w + 1 + w) a' := by
  have hT := okE hW
  have h585 := lv_3 hw
  have hn : s * w + 1 + w ≤ lv w 4 := by
    show s * w + 1 + w ≤ lv w 3 * w + 1
    have := Nat.mul_le_mul_right w (show s + 1 ≤ lv w 3 from hs)
    rw [Nat.add_mul] at this
    omega
  have h4 := lv_4 hw
  intro d
  induction d with
  | zero =>
    intro c n a9 hc hn' e1 e2
    obtain ⟨n, rfl⟩ : ∃ m, n = m + 1 := ⟨n - 1, by omega⟩
    have : c = w := by omega
    subst this
    refine ⟨a9, ?_, e1, e2⟩
    show gX3_findFirsts_61 nF P (gX3_findFirsts nF P n).1 (gX3_findFirsts nF P n).2.1 (gX3_findFirsts nF P n).2.2 _ _ t a9 = _
    unfold gX3_findFirsts_61
    rw [qw, if_pos ((x_le (by omega) (by omega)).mpr (Nat.le_refl c)), nI_1]
    rfl
  | succ d ih =>
    intro c n a9 hc hn' e1 e2
    obtain ⟨n, rfl⟩ : ∃ m, n = m + 1 := ⟨n - 1, by omega⟩
    have e4 : a9 4 = a 4 := e1 4 (by omega)
    have e5 : a9 5 = a 5 := e1 5 (by omega)
    have g := x_grown (nF := nF) (t := t) (a := a9) (c := c) q (by rw [e4, e5]; exact hW) (sn_ok hT 3 s hs) (by decide) (by omega)
    rw [e4, e5, ← sn_step (by omega)] at g
    obtain ⟨a2, n1, n2, n3⟩ := note_ok (nF := nF) (t := t) (a := a9) (k := s * w + 1 + c) (j := 4) hP (by decide) (by omega) (sn_ok hT 4 _ (by omega)) e2
    obtain ⟨a', g1, g2, g3⟩ := ih (c + 1) n a2 (by omega) (by omega) (fun k hk => by rw [n3 k hk, e1 k hk]) n2
    refine ⟨a', ?_, g2, g3⟩
    show gX3_findFirsts_61 nF P (gX3_findFirsts nF P n).1 (gX3_findFirsts nF P n).2.1 (gX3_findFirsts nF P n).2.2 _ _ t a9 = _
    unfold gX3_findFirsts_61
    rw [qw, if_neg (by rw [x_le (by omega) (by omega)]; omega), bnd_ok (by omega) (by decide), nI_cl (by omega), e1 (P + 1) (by omega), hs1 s hs, g, calS, qw, pk_mul, nI_1, nI_add, n1, calS, nI_1]
    have : n + 1 - (d + 1) - 1 = n - d - 1 := by omega
    rw [this]
    exact g1
theorem ff_51 (hP : 19 ≤ P) (q : t 196 = nI W) (hW : okW W (a 4) (a 5)) (hw : w ≤ 8) (qw : t (64 * P + 12) = nI w) (qn : t (64 * P + 13) = nI (lv w 3)) (hs1 : ∀ i, i < lv w 3 → a (P + 1) i = nI (pkS (sn w (kE W (a 4)) (cE W (a 5)) i))) : ∀ d s n (a9 : sA), s + d = lv w 3 → 10 * d < n → (∀ k, k ≠ P + 8 → a9 k = a k) → NF P w (kE W (a 4)) (cE W (a 5)) (s * w + 1) a9 → ∃ a', (gX3_findFirsts nF P n).2.1 (nI s) t a9 = some (0, va_up t (64 * P + 16) 1, a') ∧ (∀ k, k ≠ P + 8 → a' k = a k) ∧ NF P w (kE W (a 4)) (cE W (a 5)) (lv w 4) a' := by
  have h585 := lv_3 hw
  intro d
  induction d with
  | zero =>
    intro s n a9 hs hn e1 e2
    obtain ⟨n, rfl⟩ : ∃ m, n = m + 1 := ⟨n - 1, by omega⟩
    have : s = lv w 3 := by omega
    subst this
    refine ⟨a9, ?_, e1, e2⟩
    have e51 : (gX3_findFirsts nF P (n + 1)).2.1 = gX3_findFirsts_51 nF P (gX3_findFirsts nF P n).1 (gX3_findFirsts nF P n).2.1 (gX3_findFirsts nF P n).2.2 := rfl
    rw [e51]
    unfold gX3_findFirsts_51
    rw [qn, if_pos ((x_le (by omega) (by omega)).mpr (Nat.le_refl _)), zok1]
  | succ d ih =>
    intro s n a9 hs hn e1 e2
    obtain ⟨n, rfl⟩ : ∃ m, n = m + 1 := ⟨n - 1, by omega⟩
    obtain ⟨a2, g1, g2, g3⟩ := ff_61 (nF := nF) hP q hW hw qw hs1 (show s < lv w 3 by omega) w 0 n a9 (by omega) (by omega) e1 (by rw [Nat.add_zero]; exact e2)
    obtain ⟨a', i1, i2, i3⟩ := ih (s + 1) (n - w - 1) a2 (by omega) (by omega) g2 (by rw [show (s + 1) * w + 1 = s * w + 1 + w by rw [Nat.add_mul]; omega]; exact g3)
    refine ⟨a', ?_, i2, i3⟩
    have e51 : (gX3_findFirsts nF P (n + 1)).2.1 = gX3_findFirsts_51 nF P (gX3_findFirsts nF P n).1 (gX3_findFirsts nF P n).2.1 (gX3_findFirsts nF P n).2.2 := rfl
    rw [e51]
    unfold gX3_findFirsts_51
    rw [qn, if_neg (by rw [x_le (by omega) (by omega)]; omega), show (0 : Int32) = nI 0 from rfl, g1, i1]
    rfl
theorem ff_10 (hP : 19 ≤ P) (hT : okT (kE W (a 4)) (cE W (a 5))) (hw : w ≤ 8) (qw : t (64 * P + 12) = nI w) (qn : t (64 * P + 13) = nI (lv w 3)) (hs1 : ∀ i, i < lv w 3 → a (P + 1) i = nI (pkS (sn w (kE W (a 4)) (cE W (a 5)) i))) : ∀ d s n (a9 : sA), s + d = lv w 3 → d < n → (∀ k, k ≠ P + 8 → a9 k = a k) → NF P w (kE W (a 4)) (cE W (a 5)) s a9 → ∃ a', (gX3_findFirsts nF P n).1 (nI s) t a9 = (gX3_findFirsts nF P (n - d - 1)).2.1 (nI (if w = 0 then 0 else lv w 2)) t a' ∧ (∀ k, k ≠ P + 8 → a' k = a k) ∧ NF P w (kE W (a 4)) (cE W (a 5)) (lv w 3) a' := by
  have h585 := lv_3 hw
  intro d
  induction d with
  | zero =>
    intro s n a9 hs hn e1 e2
    obtain ⟨n, rfl⟩ : ∃ m, n = m + 1 := ⟨n - 1, by omega⟩
    have : s = lv w 3 := by omega
    subst this
    refine ⟨a9, ?_, e1, e2⟩
    have e10 : (gX3_findFirsts nF P (n + 1)).1 = gX3_findFirsts_10 nF P (gX3_findFirsts nF P n).1 (gX3_findFirsts nF P n).2.1 (gX3_findFirsts nF P n).2.2 := rfl
    rw [e10]
    unfold gX3_findFirsts_10
    rw [qn, if_pos ((x_le (by omega) (by omega)).mpr (Nat.le_refl _)), qw, show nI (lv w 3) - 1 = nI (lv w 3 - 1) from pk_sub (b := 1) (lv_pos 3)]
    by_cases h0 : w = 0
    · subst h0
      rw [if_pos (show nI 0 < 1 by decide), if_pos rfl]
      rfl
    · have hw0 : 0 < w := by omega
      rw [if_neg (show ¬ nI w < 1 by rw [show (1 : Int32) = nI 1 from rfl, x_lt (by omega) (by omega)]; omega), if_neg h0, dvz_ok hw0 (by omega), pk_div (by omega) hw0 (by omega)]
      have : (lv w 3 - 1) / w = lv w 2 := by
        show (lv w 2 * w + 1 - 1) / w = lv w 2
        rw [Nat.add_sub_cancel, Nat.mul_div_cancel _ hw0]
      rw [this]
      rfl
  | succ d ih =>
    intro s n a9 hs hn e1 e2
    obtain ⟨n, rfl⟩ : ∃ m, n = m + 1 := ⟨n - 1, by omega⟩
    obtain ⟨a2, n1, n2, n3⟩ := note_ok (nF := nF) (t := t) (a := a9) (k := s) (j := 3) hP (by decide) (by omega) (sn_ok hT 3 _ (by omega)) e2
    obtain ⟨a', g1, g2, g3⟩ := ih (s + 1) n a2 (by omega) (by omega) (fun k hk => by rw [n3 k hk, e1 k hk]) n2
    refine ⟨a', ?_, g2, g3⟩
    have e10 : (gX3_findFirsts nF P (n + 1)).1 = gX3_findFirsts_10 nF P (gX3_findFirsts nF P n).1 (gX3_findFirsts nF P n).2.1 (gX3_findFirsts nF P n).2.2 := rfl
    rw [e10]
    unfold gX3_findFirsts_10
    rw [qn, if_neg (by rw [x_le (by omega) (by omega)]; omega), bnd_ok (by omega) (by decide), nI_cl (by omega), e1 (P + 1) (by omega), hs1 s (by omega), n1, calS, nI_1]
    have : n + 1 - (d + 1) - 1 = n - d - 1 := by omega
    rw [this]
    exact g1
theorem firsts_ok (hF : 10000 ≤ nF) (hP : 19 ≤ P) (q : t 196 = nI W) (hW : okW W (a 4) (a 5)) (hw : w ≤ 8) (qw : t (64 * P + 12) = nI w) (qn : t (64 * P + 13) = nI (lv w 3)) (hs1 : ∀ i, i < lv w 3 → a (P + 1) i = nI (pkS (sn w (kE W (a 4)) (cE W (a 5)) i))) : ∃ a', fX3_findFirsts nF P t a = some (0, va_up t (64 * P + 16) 1, a') ∧ (∀ k, k ≠ P + 8 → a' k = a k) ∧ NF P w (kE W (a 4)) (cE W (a 5)) (lv w 4) a' := by
  have h585 := lv_3 hw
  obtain ⟨f, g1, g2⟩ := fill_ok (nF := nF) (k0 := P + 8) (n0 := 256) (x := -1) (t := t) (a := a) (by decide) (by omega)
  have hT := okE hW
  obtain ⟨a1, i1, i2, i3⟩ := ff_10 (nF := nF) hP hT hw qw qn hs1 (lv w 3) 0 nF (va_up a (P + 8) f) (by omega) (by omega) (fun k hk => up_ne hk) (fun m hm => by rw [up_same]; exact g2 m hm)
  have hst : ∃ s0, s0 = (if w = 0 then 0 else lv w 2) ∧ s0 ≤ lv w 3 ∧ s0 * w + 1 = lv w 3 := by
    refine ⟨_, rfl, ?_, ?_⟩
    · by_cases h0 : w = 0
      · rw [if_pos h0]; omega
      · rw [if_neg h0]; exact lv_mono 2
    · by_cases h0 : w = 0
      · subst h0; rfl
      · rw [if_neg h0]; rfl
  obtain ⟨s0, es, hs0, hs2⟩ := hst
  rw [← es] at i1
  obtain ⟨a2, j1, j2, j3⟩ := ff_51 (nF := nF) hP q hW hw qw qn hs1 (lv w 3 - s0) s0 (nF - lv w 3 - 1) a1 (by omega) (by omega) i2 (by rw [hs2]; exact i3)
  refine ⟨a2, ?_, j2, j3⟩
  unfold fX3_findFirsts
  rw [g1, calS, show (0 : Int32) = nI 0 from rfl, i1, j1]
  rfl
end LS
/-! the reference's rows of four words -/
theorem nb_inc {w i : Nat} {R H : Nat → Nat} (hw : 0 < w) (h1 : ∀ x, x < i → H x = R x) (h2 : H i = R i + 1) : ∀ m, (∀ x, i < x → x < i + 1 + m → H x = 0 ∧ R x = w - 1) → nb w H (i + 1 + m) = nb w R (i + 1 + m) + 1 := by
  intro m
  induction m with
  | zero =>
    intro _
    show nb w H i * w + 1 + H i = nb w R i * w + 1 + R i + 1
    rw [nb_congr i h1, h2]
    omega
  | succ m ih =>
    intro h
    obtain ⟨e1, e2⟩ := h (i + 1 + m) (by omega) (by omega)
    have := ih (fun x hx hx2 => h x hx (by omega))
    show nb w H (i + 1 + m) * w + 1 + H (i + 1 + m) = nb w R (i + 1 + m) * w + 1 + R (i + 1 + m) + 1
    rw [this, e1, e2, Nat.add_mul]
    omega
theorem nb_top {w : Nat} {R : Nat → Nat} (hw : 0 < w) : ∀ m, (∀ x, x < m → R x = w - 1) → nb w R m + 1 = lv w m := by
  intro m
  induction m with
  | zero => intro _; rfl
  | succ m ih =>
    intro h
    have := ih (fun x hx => h x (by omega))
    show nb w R m * w + 1 + R m + 1 = lv w m * w + 1
    rw [← this, h m (by omega), Nat.add_mul]
    omega
theorem nb_bot {w : Nat} : ∀ m, nb w (fun _ => 0) (m + 1) = lv w m := by
  intro m
  induction m with
  | zero => show 0 * w + 1 + 0 = 1; omega
  | succ m ih =>
    show nb w (fun _ => 0) (m + 1) * w + 1 + 0 = lv w m * w + 1
    rw [ih]
section L8
variable {nF w : Nat} {kd cs : Nat → Nat}
def W4 (w : Nat) (R : Nat → Nat) (a : sA) : Prop := ∀ x, x < 4 → R x < w ∧ a 651 x = nI (R x)
theorem goes_ok (hF : 100 ≤ nF) (hw0 : 0 < w) (hw : w ≤ 8) {t : sT} (q : t 3207 = nI w) {R : Nat → Nat} {a : sA} (h : W4 w R a) : (∃ a' R', fX8_goesOn nF t a = some (1, t, a') ∧ W4 w R' a' ∧ nb w R' 4 = nb w R 4 + 1 ∧ ∀ k, k ≠ 651 → a' k = a k) ∨ (∃ a', fX8_goesOn nF t a = some (0, t, a') ∧ nb w R 4 + 1 = lv w 4 ∧ ∀ k, k ≠ 651 → a' k = a k) := by
  have e1 : nI w - 1 = nI (w - 1) := pk_sub (a := w) (b := 1) hw0
  have go : ∀ j n (a9 : sA), j ≤ 4 → j < n → (∀ x, x < j → a9 651 x = nI (R x)) → (∀ x, j ≤ x → x < 4 → a9 651 x = nI 0 ∧ R x = w - 1) → (∀ k, k ≠ 651 → a9 k = a k) → (∃ a' R', gX8_goesOn nF n (nI j - 1) t a9 = some (1, t, a') ∧ W4 w R' a' ∧ nb w R' 4 = nb w R 4 + 1 ∧ ∀ k, k ≠ 651 → a' k = a k) ∨ (∃ a', gX8_goesOn nF n (nI j - 1) t a9 = some (0, t, a') ∧ nb w R 4 + 1 = lv w 4 ∧ ∀ k, k ≠ 651 → a' k = a k) := by
    intro j
    induction j with
    | zero =>
      intro n a9 hj hn h1 h2 h3
      obtain ⟨n, rfl⟩ : ∃ m, n = m + 1 := ⟨n - 1, by omega⟩
      refine Or.inr ⟨a9, ?_, nb_top hw0 4 (fun x hx => (h2 x (Nat.zero_le x) hx).2), h3⟩
      show gX8_goesOn_2 nF (gX8_goesOn nF n) _ t a9 = _
      unfold gX8_goesOn_2
      have hneg : nI 0 - 1 < 0 := by decide
      rw [if_pos hneg, if_pos hneg, if_pos hneg, zok0]
    | succ j ih =>
      intro n a9 hj hn h1 h2 h3
      obtain ⟨n, rfl⟩ : ∃ m, n = m + 1 := ⟨n - 1, by omega⟩
      have ej : nI (j + 1) - 1 = nI j := pk_sub (a := j + 1) (b := 1) (by omega)
      have hr := h j (by omega)
      have hrj := h1 j (by omega)
      rw [ej]
      have st : gX8_goesOn nF (n + 1) (nI j) t a9 = if R j = w - 1 then gX8_goesOn nF n (nI j - 1) t (va_up a9 651 (upd (a9 651) j 0)) else some (1, t, va_up a9 651 (upd (a9 651) j (nI (R j + 1)))) := by
        show gX8_goesOn_2 nF (gX8_goesOn nF n) _ t a9 = _
        unfold gX8_goesOn_2
        have hnn := nneg (show j < 2 ^ 31 by omega)
        rw [if_neg hnn, bnd_ok (by omega) (by decide), nI_cl (by omega), hrj, q, e1]
        by_cases e : R j = w - 1
        · rw [if_pos (by rw [e]), if_pos e, bnd_ok (by omega) (by decide), ← Int32.sub_eq_add_neg]
        · rw [if_neg (by rw [x_eq (by omega) (by omega)]; exact e), if_neg e, if_neg hnn, bnd_ok (by omega) (by decide), bnd_ok (by omega) (by decide), if_neg hnn, nI_1, zok1]
      rw [st]
      by_cases e : R j = w - 1
      · rw [if_pos e]
        exact ih n _ (by omega) (by omega) (fun x hx => by rw [up_same, upd_ne (by omega)]; exact h1 x (by omega)) (fun x hx hx2 => by
          rw [up_same]
          by_cases e9 : x = j
          · subst e9; rw [upd_same]; exact ⟨rfl, e⟩
          · rw [upd_ne e9]; exact h2 x (by omega) hx2) (fun k hk => by rw [up_ne hk, h3 k hk])
      · rw [if_neg e]
        refine Or.inl ⟨_, fun x => if x = j then R j + 1 else if x < j then R x else 0, rfl, fun x hx => ?_, ?_, fun k hk => by rw [up_ne hk, h3 k hk]⟩
        · rw [up_same]
          show (if x = j then R j + 1 else if x < j then R x else 0) < w ∧ _ = nI (if x = j then R j + 1 else if x < j then R x else 0)
          by_cases e9 : x = j
          · subst e9
            rw [if_pos rfl, upd_same]
            exact ⟨by omega, rfl⟩
          · rw [if_neg e9, upd_ne e9]
            by_cases e8 : x < j
            · rw [if_pos e8]; exact ⟨(h x hx).1, h1 x (by omega)⟩
            · rw [if_neg e8]; exact ⟨hw0, (h2 x (by omega) hx).1⟩
        · have := nb_inc (w := w) (i := j) (R := R) (H := fun x => if x = j then R j + 1 else if x < j then R x else 0) hw0 (fun x hx => by show (if x = j then _ else if x < j then R x else 0) = R x; rw [if_neg (by omega), if_pos hx]) (by show (if j = j then R j + 1 else _) = _; rw [if_pos rfl]) (3 - j) (fun x hx hx2 => ⟨by show (if x = j then _ else if x < j then R x else 0) = 0; rw [if_neg (by omega), if_neg (by omega)], (h2 x (by omega) (by omega)).2⟩)
          rw [show j + 1 + (3 - j) = 4 by omega] at this
          exact this
  have := go 4 nF a (by omega) (by omega) (fun x hx => (h x hx).2) (fun x h1 h2 => absurd h2 (by omega)) (fun _ _ => rfl)
  exact this
/-- what is told of the first saying that means a set -/
def lowO4 (w : Nat) (o : Option Nat) (x r : Int32) : Prop := match o with
  | none => r = -9
  | some b => ∃ R k, k ≤ 4 ∧ (∀ j, j < k → R j < w) ∧ b = nb w R k ∧ r = lowS R k x
theorem frO_of {m b : Nat} (hb : b < lv w 4) (hm : (sn w kd cs b).1 = m) (hno : ∀ s, s < b → (sn w kd cs s).1 ≠ m) : frO w kd cs m = some b := by
  refine pick_of (o := some b) ⟨hb, decide_eq_true hm, fun i hi hei => Or.inr ⟨rfl, ?_⟩⟩
  rcases Nat.lt_or_ge i b with h | h
  · exact absurd (decide_eq_true_iff.mp hei) (hno i h)
  · exact h
theorem frO_no {m : Nat} (hno : ∀ s, s < lv w 4 → (sn w kd cs s).1 ≠ m) : frO w kd cs m = none :=
  pick_of (o := none) (fun i hi => decide_eq_false (hno i hi))
theorem ls_126 (hF : 100 ≤ nF) (hT : okT kd cs) (hw0 : 0 < w) (hw : w ≤ 8) {t : sT} (q : t 3207 = nI w) {m : Nat} (hm : m < 256) {y : Int32} (hy : (-1 : Int32) ≤ y) : ∀ d n (a : sA) (R : Nat → Nat), nb w R 4 + d = lv w 4 → d < n → AG w kd cs a → W4 w R a → (∀ s, s < nb w R 4 → (sn w kd cs s).1 ≠ m) → ∃ r a', (gX8_least nF n).2.2 (nI m) y 1 t a = some (r, t, a') ∧ lowO4 w (frO w kd cs m) y r ∧ ∀ k, k ≠ 651 → a' k = a k := by
  have h4 := lv_4 hw
  intro d
  induction d with
  | zero =>
    intro n a R hd hn hag h hno
    have := nb_lt (w := w) (row := R) 4 (fun x hx => (h x hx).1)
    omega
  | succ d ih =>
    intro n a R hd hn hag h hno
    obtain ⟨n, rfl⟩ : ∃ m, n = m + 1 := ⟨n - 1, by omega⟩
    have hlt := nb_lt (w := w) (row := R) 4 (fun x hx => (h x hx).1)
    have hW := hag.ok hT hw
    have es := snS_kd (A := a 55) (B := a 56) (row := a 651) (R := R) hT hw hag 4 (fun x hx => ⟨(h x hx).1, (h x hx).2⟩)
    have m1 := mean8 (nF := nF) (t := t) (a := a) (p := 651) (n1 := 4) (k := 4) hF hW (by omega) (by omega) (by decide) (fun x hx => ⟨R x, (h x hx).1, (h x hx).2⟩)
    rw [es, ← sn_nb 4 (fun x hx => (h x hx).1)] at m1
    have m1 : fX8_meaning nF 651 4 4 t a = some (nI (sn w kd cs (nb w R 4)).1, t, a) := m1
    have hmm := (sn_ok (w := w) hT 4 _ hlt).1
    have e126 : (gX8_least nF (n + 1)).2.2 = gX8_least_126 nF (gX8_least nF n).1 (gX8_least nF n).2.1 (gX8_least nF n).2.2 := rfl
    have st : (gX8_least nF (n + 1)).2.2 (nI m) y 1 t a = if (sn w kd cs (nb w R 4)).1 = m then some (lowS R 4 y, t, a) else cal (fX8_goesOn nF t a) (fun v7 t7 a7 => (gX8_least nF n).2.2 (nI m) y v7 t7 a7) := by
      rw [e126]
      unfold gX8_least_126
      rw [if_neg one0, m1, calS]
      by_cases e : (sn w kd cs (nb w R 4)).1 = m
      · rw [if_pos (by rw [e]), if_pos e]
        unfold lowS
        rcases ge_m1 hy with rfl | ⟨i, hi, rfl⟩
        · rw [if_pos rfl, if_pos rfl]; rfl
        · have hn1 : ¬ nI i = (-1 : Int32) := fun e => by have := nneg hi; rw [e] at this; exact this (by decide)
          rw [if_neg hn1, if_neg hn1, if_neg (nneg hi)]
          by_cases hik : 4 ≤ i
          · have le : (4 : Int32) ≤ nI i := (x_le (a := 4) (b := i) (by omega) hi).mpr hik
            have le2 : nI 4 ≤ nI i := le
            rw [if_pos le, if_pos le2]
          · have le : ¬ (4 : Int32) ≤ nI i := by rw [show (4 : Int32) = nI 4 from rfl, x_le (by omega) hi]; exact hik
            have le2 : ¬ nI 4 ≤ nI i := le
            rw [if_neg le, if_neg le2, bnd_ok (by omega) (by decide), nI_cl hi, (h i (by omega)).2]
      · rw [if_neg (by rw [x_eq (by omega) (by omega)]; exact e), if_neg e]
    rw [st]
    by_cases e : (sn w kd cs (nb w R 4)).1 = m
    · rw [if_pos e]
      exact ⟨lowS R 4 y, a, rfl, by rw [frO_of hlt e hno]; exact ⟨R, 4, Nat.le_refl 4, fun x hx => (h x hx).1, rfl, rfl⟩, fun _ _ => rfl⟩
    · rw [if_neg e]
      have hno2 : ∀ s, s < nb w R 4 + 1 → (sn w kd cs s).1 ≠ m := fun s hs => by
        by_cases e9 : s = nb w R 4
        · rw [e9]; exact e
        · exact hno s (by omega)
      rcases goes_ok (nF := nF) hF hw0 hw q h with ⟨a', R', g1, g2, g3, g4⟩ | ⟨a', g1, g2, g3⟩
      · rw [g1, calS]
        obtain ⟨r, a2, k1, k2, k3⟩ := ih n a' R' (by omega) (by omega) (hag.fr (g4 55 (by decide)) (g4 56 (by decide))) g2 (by rw [g3]; exact hno2)
        exact ⟨r, a2, k1, k2, fun k hk => by rw [k3 k hk, g4 k hk]⟩
      · rw [g1, calS]
        obtain ⟨n, rfl⟩ : ∃ m, n = m + 1 := ⟨n - 1, by omega⟩
        refine ⟨-9, a', ?_, by rw [frO_no (by rw [← g2]; exact hno2)]; rfl, g3⟩
        have e126 : (gX8_least nF (n + 1)).2.2 = gX8_least_126 nF (gX8_least nF n).1 (gX8_least nF n).2.1 (gX8_least nF n).2.2 := rfl
        rw [e126]
        unfold gX8_least_126
        rw [if_pos rfl]
theorem ls_95 (hF : 100 ≤ nF) (hT : okT kd cs) (hw : w ≤ 8) {t : sT} (q : t 3207 = nI w) {m : Nat} (hm : m < 256) {y : Int32} (hy : (-1 : Int32) ≤ y) (hno : ∀ s, s < lv w 3 → (sn w kd cs s).1 ≠ m) : ∀ d i n (a : sA), i + d = 4 → 6000 ≤ n + i → AG w kd cs a → (∀ x, x < i → a 651 x = nI 0) → ∃ r a', (gX8_least nF n).2.1 (nI m) y (nI i) t a = some (r, t, a') ∧ lowO4 w (frO w kd cs m) y r ∧ ∀ k, k ≠ 651 → a' k = a k := by
  have h4 := lv_4 hw
  intro d
  induction d with
  | zero =>
    intro i n a hi hn hag h
    obtain ⟨n, rfl⟩ : ∃ m, n = m + 1 := ⟨n - 1, by omega⟩
    have : i = 4 := by omega
    subst this
    have e95 : (gX8_least nF (n + 1)).2.1 = gX8_least_95 nF (gX8_least nF n).1 (gX8_least nF n).2.1 (gX8_least nF n).2.2 := rfl
    rw [e95]
    unfold gX8_least_95
    rw [if_pos (by decide), q]
    by_cases hw0 : w = 0
    · subst hw0
      rw [if_pos (by decide)]
      obtain ⟨n, rfl⟩ : ∃ m, n = m + 1 := ⟨n - 1, by omega⟩
      refine ⟨-9, a, ?_, by rw [frO_no (w := 0) (kd := kd) (cs := cs) hno]; rfl, fun _ _ => rfl⟩
      have e126 : (gX8_least nF (n + 1)).2.2 = gX8_least_126 nF (gX8_least nF n).1 (gX8_least nF n).2.1 (gX8_least nF n).2.2 := rfl
      rw [e126]
      unfold gX8_least_126
      rw [if_pos rfl]
    · rw [if_neg (show ¬ nI w ≤ 0 by rw [show (0 : Int32) = nI 0 from rfl, x_le (by omega) (by omega)]; omega)]
      have eb := nb_bot (w := w) 3
      exact ls_126 hF hT (by omega) hw q hm hy (lv w 4 - lv w 3) n a (fun _ => 0) (by rw [eb]; have m3 : lv w 3 ≤ lv w 4 := lv_mono 3; omega) (by omega) hag (fun x hx => ⟨by show 0 < w; omega, h x hx⟩) (by rw [eb]; exact hno)
  | succ d ih =>
    intro i n a hi hn hag h
    obtain ⟨n, rfl⟩ : ∃ m, n = m + 1 := ⟨n - 1, by omega⟩
    obtain ⟨r, a', k1, k2, k3⟩ := ih (i + 1) n (va_up a 651 (upd (a 651) i 0)) (by omega) (by omega) (hag.fr (up_ne (by decide)) (up_ne (by decide))) (fun x hx => by
      rw [up_same]
      by_cases e : x = i
      · rw [e, upd_same]; rfl
      · rw [upd_ne e]; exact h x (by omega))
    refine ⟨r, a', ?_, k2, fun k hk => by rw [k3 k hk, up_ne hk]⟩
    have e95 : (gX8_least nF (n + 1)).2.1 = gX8_least_95 nF (gX8_least nF n).1 (gX8_least nF n).2.1 (gX8_least nF n).2.2 := rfl
    rw [e95]
    unfold gX8_least_95
    rw [if_neg (by rw [show (4 : Int32) = nI 4 from rfl, x_le (by omega) (by omega)]; omega), bnd_ok (by omega) (by decide), nI_cl (by omega), nI_1]
    exact k1
theorem ls_31 (hF : 100 ≤ nF) (hT : okT kd cs) (hw : w ≤ 8) {t : sT} {a : sA} (q : t 3207 = nI w) {m : Nat} (hm : m < 256) {y : Int32} (hy : (-1 : Int32) ≤ y) (hI : LI w kd cs t a) (hag : AG w kd cs a) : ∀ d i n, i + d = lv w 3 → 6000 + d < n → (∀ s, s < i → (sn w kd cs s).1 ≠ m) → ∃ r a', (gX8_least nF n).1 (nI m) y (nI i) t a = some (r, t, a') ∧ lowO4 w (frO w kd cs m) y r ∧ ∀ k, k ≠ 651 → a' k = a k := by
  have h585 := lv_3 hw
  intro d
  induction d with
  | zero =>
    intro i n hi hn hno
    obtain ⟨n, rfl⟩ : ∃ m, n = m + 1 := ⟨n - 1, by omega⟩
    have : i = lv w 3 := by omega
    subst this
    have e31 : (gX8_least nF (n + 1)).1 = gX8_least_31 nF (gX8_least nF n).1 (gX8_least nF n).2.1 (gX8_least nF n).2.2 := rfl
    rw [e31]
    unfold gX8_least_31
    rw [hI.1, if_pos ((x_le (by omega) (by omega)).mpr (Nat.le_refl _))]
    exact ls_95 hF hT hw q hm hy hno 4 0 n a (by omega) (by omega) hag (fun x hx => absurd hx (Nat.not_lt_zero x))
  | succ d ih =>
    intro i n hi hn hno
    obtain ⟨n, rfl⟩ : ∃ m, n = m + 1 := ⟨n - 1, by omega⟩
    have hil : i < lv w 3 := by omega
    obtain ⟨h5, g1, g2, g3⟩ := hI.g hw hil
    have hmm := (sn_ok (w := w) hT 3 i hil).1
    obtain ⟨R, k, hk, hR, eb, lt⟩ := low_tail (y := y) hw hI hil hy
    have e31 : (gX8_least nF (n + 1)).1 = gX8_least_31 nF (gX8_least nF n).1 (gX8_least nF n).2.1 (gX8_least nF n).2.2 := rfl
    have st : (gX8_least nF (n + 1)).1 (nI m) y (nI i) t a = if (sn w kd cs i).1 = m then some (lowS R k y, t, a) else (gX8_least nF n).1 (nI m) y (nI (i + 1)) t a := by
      rw [e31]
      unfold gX8_least_31
      rw [hI.1, if_neg (by rw [x_le (by omega) (by omega)]; omega), bnd_ok h5 (by decide), nI_cl (by omega), g2, nI_1]
      by_cases e : (sn w kd cs i).1 = m
      · rw [if_pos (by rw [e]), if_pos e, ← lt, nI_cl (by omega)]
      · rw [if_neg (by rw [x_eq (by omega) (by omega)]; exact e), if_neg e]
    rw [st]
    by_cases e : (sn w kd cs i).1 = m
    · rw [if_pos e]
      have m3 : lv w 3 ≤ lv w 4 := lv_mono 3
      exact ⟨lowS R k y, a, rfl, by rw [frO_of (by omega) e hno]; exact ⟨R, k, by omega, hR, eb, rfl⟩, fun _ _ => rfl⟩
    · rw [if_neg e]
      exact ih (i + 1) n (by omega) (by omega) (fun s hs => by
        by_cases e9 : s = i
        · subst e9; exact e
        · exact hno s (by omega))
end L8
theorem stp12 {nF : Nat} (hF : 10000 ≤ nF) : stp_12 nF (Inv SS) := by
  intro x y N u v t a h
  obtain ⟨W, l, tc, q1, q2, hW, hb, hag, haw, l1, l2, hl, c1, c2, htc⟩ := CX_of h.1
  have hw8 := hW.1
  by_cases hx : x < 0 ∨ (255 : Int32) < x
  · refine st_ref SF_SS h 1 (w := -1) ?_ ?_
    · unfold fX7_least; rw [s7_no hx, calS, if_pos rfl, R7_1]; rfl
    · unfold fX8_least; rw [s8_no hx, calS, if_pos rfl, R8_1]; rfl
  obtain ⟨hx0, hx1⟩ := not_or.mp hx
  by_cases hy : (-1 : Int32) ≤ y
  · obtain ⟨m, hm, rfl⟩ := nI_of2 (M := 255) (n := 255) rfl hx0 (Int32.not_lt.mp hx1)
    have ew := wN0 hw8
    have h585 := lv_3 hw8
    have h4 := lv_4 hw8
    obtain ⟨t1, a1, G, F, Z, g1, g2, g3, g4, g5, g6, g7⟩ := ready_ok (P := 19) (more := 0) hF (by decide) (by decide) q1 hW hb h.2.1.1
    rw [ew] at g3 g4 g5
    have f4 := g7 4 (by omega)
    have f5 := g7 5 (by omega)
    obtain ⟨t2, a2, c7, k1, k2, k3, k4⟩ : ∃ t2 a2, fX3_firstThatMeans nF 19 (nI m) t a = some (o1 (frO W (kE W (a 4)) (cE W (a 5)) m), t2, a2) ∧ (∀ q, q ≠ 1232 → t2 q = t1 q) ∧ (∀ k, k ≠ 27 → a2 k = a1 k) ∧ t2 1232 = 1 ∧ ∀ m, m < 256 → a2 27 m = o1 (frO W (kE W (a 4)) (cE W (a 5)) m) := by
      rcases g5 with g5 | ⟨g5, g5'⟩
      · obtain ⟨a2, i1, i2, i3⟩ := firsts_ok (nF := nF) (P := 19) (w := W) (t := t1) (a := a1) hF (by decide) (by rw [g6 196 (by omega)]; exact q1) (by rw [f4, f5]; exact hW) hw8 g3.1 g3.2.1 (by rw [f4, f5]; exact g3.2.2.1)
        rw [f4, f5] at i3
        refine ⟨va_up t1 1232 1, a2, ?_, fun q hq => up_ne hq, i2, up_same _ _ _, i3⟩
        unfold fX3_firstThatMeans
        rw [g1, calS, g5, if_pos rfl, i1, calS, s7_yes hx0 hx1, calS, if_neg one0, bnd_ok (by omega) (by decide), nI_cl (by omega)]
        exact congrArg (fun z => some (z, va_up t1 1232 1, a2)) (i3 m (by omega))
      · refine ⟨t1, a1, ?_, fun _ _ => rfl, fun _ _ => rfl, g5, g5'⟩
        unfold fX3_firstThatMeans
        rw [g1, calS, g5, if_neg one0, s7_yes hx0 hx1, calS, if_neg one0, bnd_ok (by omega) (by decide), nI_cl (by omega)]
        exact congrArg (fun z => some (z, t1, a1)) (g5' m (by omega))
    have hx2 : FX 19 W (kE W (a 4)) (cE W (a 5)) (a 6) G F Z t2 a2 := g3.fr (fun q h1 h2 => k1 q (by omega)) (fun k h1 h2 => k2 k (by omega))
    obtain ⟨s1, s2⟩ := SS_back (P := 19) (more := 0) (t2 := t2) (a2 := a2) (G := G) (F := F) (Z := Z) (Or.inl ⟨rfl, rfl⟩) h.2.1 q1 hW (fun q hq => by rw [k1 q (by omega), g6 q hq]) (fun k hk => by rw [k2 k (by omega), g7 k hk]) (by rw [k1 _ (by omega)]; exact g2) (by rw [ew]; exact hx2) (by rw [ew]; exact g4.fr (k2 _ (by omega)) (k2 _ (by omega)) (k2 _ (by omega))) (by rw [ew]; exact Or.inr ⟨k3, k4⟩)
    obtain ⟨t3, a3, m1, m2⟩ := list_ok (nF := nF) (t0 := t2) (a0 := a2) (by omega) (okE hW) hw8 (hag.fr (s2.2 55 (by omega)) (s2.2 56 (by omega))) (by rw [s2.1 3207 (by omega)]; exact q2) hF
    obtain ⟨r, a4, j1, j2, j3⟩ := ls_31 (nF := nF) (w := W) (kd := kE W (a 4)) (cs := cE W (a 5)) (t := t3) (a := a3) (by omega) (okE hW) hw8 (by rw [m2.ms.1 3207 (by omega), s2.1 3207 (by omega)]; exact q2) (show m < 256 by omega) hy m2.li (hag.fr (by rw [m2.ms.2 55 (by omega), s2.2 55 (by omega)]) (by rw [m2.ms.2 56 (by omega), s2.2 56 (by omega)])) (lv W 3) 0 nF (by omega) (by omega) (fun s hs => absurd hs (Nat.not_lt_zero s))
    refine ⟨r, t2, a2, t3, a4, ?_, ?_, inv_fin h s1 s2 (m2.ms.tr ⟨fun _ _ => rfl, fun k hk => j3 k (by omega)⟩)⟩
    · unfold fX7_least
      rw [s7_yes hx0 hx1, calS, if_neg one0, if_pos hy, c7, calS]
      cases hfo : frO W (kE W (a 4)) (cE W (a 5)) m with
      | none =>
        rw [hfo] at j2
        have j2 : r = -9 := j2
        rw [j2, if_neg (show ¬ (0 : Int32) ≤ o1 none by decide)]
      | some b =>
        rw [hfo] at j2
        obtain ⟨R, k, hk, hR, eb, er⟩ := j2
        have hbl : b < lv W 4 := (pick_lt hfo).1
        have o1s : o1 (some b) = nI b := rfl
        have lo := low_ok (nF := nF) (t := t2) (a := a2) (k := k) (R := R) (by omega) hw8 hx2.1 hk hR y
        rw [← eb] at lo
        rw [o1s, if_pos (Int32.not_lt.mp (nneg (by omega))), lo, calS, er]
    · unfold fX8_least
      rw [s8_yes hx0 hx1, calS, if_neg one0, if_pos hy, m1, calS]
      exact j1
  · refine st_ref SF_SS h 4 (w := -4) ?_ ?_
    · unfold fX7_least; rw [s7_yes hx0 hx1, calS, if_neg one0, if_neg hy, R7_4]; rfl
    · unfold fX8_least; rw [s8_yes hx0 hx1, calS, if_neg one0, if_neg hy, R8_4]; rfl
