theorem stp28 {nF : Nat} (hF : 100 ≤ nF) {S : sT → sA → Prop} (hS : SF S) : stp_28 nF (Inv S) := by
  intro N u v t a h
  obtain ⟨hl, hs, hN, hi, hz, hza⟩ := h
  have hN3 := iN_653 hN
  obtain ⟨t1, a1, e1, ⟨b1, b2, b3, b4⟩, ⟨b5, b6, b7, b8⟩, b9, b10⟩ := copy6_ok (nF := nF) (k0 := 42) (k1 := 3) (by decide) t a
  -- the class's state afterwards
  have e2 : fX7_image nF t a = some (t 196, va_up (va_up (va_up t1 3009 (t1 1089)) 2626 (t 10)) 2627 1, va_up a1 48 (va_cpy (a1 18) (a1 48) 0 0 12)) := by
    unfold fX7_image
    rw [e1, calS]
    unfold fX5_copyFrom
    rw [calS]
    show some (t1 196, va_up (va_up (va_up t1 3009 (t1 1089)) 2626 (t1 10)) 2627 1, _) = _
    rw [b9 196 (by decide), b9 10 (by decide)]
    rfl
  -- frames of the class's half
  have ft : ∀ q, q < 2600 ∨ (3200 ≤ q) → va_up (va_up (va_up t1 3009 (t1 1089)) 2626 (t 10)) 2627 1 q = t q := fun q hq => by
    rw [up_ne (by omega), up_ne (by omega), up_ne (by omega), b9 q (by omega)]
  have fa : ∀ k, k < 42 ∨ 49 ≤ k → va_up a1 48 (va_cpy (a1 18) (a1 48) 0 0 12) k = a k := fun k hk => by
    rw [up_ne (by omega), b10 k (by omega)]
  -- the reference's half: into a model at k, its weights' row being whatever it was
  have core : ∀ k a9, 653 ≤ k → (∀ q, q ≠ k + 7 → a9 q = va_up a1 48 (va_cpy (a1 18) (a1 48) 0 0 12) q) → ∃ t2 a2, fX8_imageT nF k (va_up (va_up (va_up t1 3009 (t1 1089)) 2626 (t 10)) 2627 1) a9 = some (t 196, t2, a2) ∧ Lo t2 a2 ∧ S t2 a2 ∧ iImg (some k) t2 a2 ∧ (∀ q, 64 * k + 64 ≤ q → t2 q = t q) ∧ (∀ q, k + 12 ≤ q → a2 q = a q) := by
    intro k a9 hk h9
    obtain ⟨t2, a2, g1, ⟨c1, c2, c3, c4, c5, c6⟩, ⟨d1, d2, d3, d4, d5, d6, d7⟩, c7, c8, -⟩ := take_ok (nF := nF) (k0 := k) (k1 := 50) hF (by omega) (va_up (va_up (va_up t1 3009 (t1 1089)) 2626 (t 10)) 2627 1) a9
    have T : ∀ q, q < 2600 ∨ (3200 ≤ q ∧ q < 64 * k) → t2 q = t q := fun q hq => by rw [c7 q (by omega), ft q (by omega)]
    have A : ∀ q, q < 42 ∨ (49 ≤ q ∧ q < k + 5) → a2 q = a q := fun q hq => by rw [c8 q (by omega), h9 q (by omega), fa q (by omega)]
    obtain ⟨hl1, hl2, hl3, hl4, hl5, hl6, hl7⟩ := hl
    refine ⟨t2, a2, ?_, ?_, ?_, ?_, fun q hq => by rw [c7 q (by omega), ft q (by omega)], fun q hq => by rw [c8 q (by omega), h9 q (by omega), fa q (by omega)]⟩
    · unfold fX8_imageT
      rw [g1, calS, T 3207 (by omega)]
      obtain ⟨⟨w, hw, w1, w2, -⟩, -⟩ := hl2
      rw [w1, w2]
    · exact Lo.fr (fun q hq => T q (by omega)) (fun q hq => A q (by omega)) ⟨hl1, hl2, hl3, hl4, hl5, hl6, hl7⟩
    · exact hS _ _ _ _ (fun q hq => T q (by unfold tS at hq; omega)) (fun q hq => A q (by unfold tSA at hq; omega)) hs
    · have L : ∀ q, q < 3200 → t2 q = va_up (va_up (va_up t1 3009 (t1 1089)) 2626 (t 10)) 2627 1 q := fun q hq => c7 q (by omega)
      have B : ∀ q, q < 50 → a2 q = va_up a1 48 (va_cpy (a1 18) (a1 48) 0 0 12) q := fun q hq => by rw [c8 q (by omega), h9 q (by omega)]
      refine ⟨?_, ?_, ?_, ?_⟩
      · rw [L 2627 (by omega)]; exact up_same _ _ _
      · have z1 : t2 2692 = t 196 := (L 2692 (by omega)).trans b1
        have z2 : t2 2693 = t 197 := (L 2693 (by omega)).trans b2
        have z3 : t2 2694 = t 198 := (L 2694 (by omega)).trans b3
        have z4 : t2 2695 = t 199 := (L 2695 (by omega)).trans b4
        rw [z1, z2, z3, z4, c1, c2, c3, c4, ft (64 * 50 + 7) (by omega), ft (64 * 50 + 11) (by omega), ft (64 * 50 + 13) (by omega), ft (64 * 50 + 14) (by omega)]
        refine hl2.cp (fun i hi => ?_) (fun i hi => ?_) (fun i hi => ?_) (fun i hi => ?_) (fun i hi => ?_) (fun i hi => ?_) (fun i hi => ?_) (fun i hi => ?_)
        · rw [B 43 (by omega)]; exact b5 i hi
        · rw [B 44 (by omega)]; exact b6 i hi
        · rw [B 45 (by omega)]; exact b7 i hi
        · rw [B 46 (by omega)]; exact b8 i hi
        · rw [d1 i hi, h9 _ (by omega), fa _ (by omega)]
        · rw [d2 i hi, h9 _ (by omega), fa _ (by omega)]
        · rw [d3 i hi, h9 _ (by omega), fa _ (by omega)]
        · rw [d4 i hi, h9 _ (by omega), fa _ (by omega)]
      · have z1 : t2 3009 = t 1089 := (L 3009 (by omega)).trans (b9 1089 (by decide))
        rw [z1, c5, ft (64 * 50 + 15) (by omega)]
        refine hl5.cp (fun i hi => ?_) (fun i hi => ?_) (fun i hi => ?_) (fun i hi => ?_)
        · rw [B 48 (by omega), up_same, cpy_in hi, b10 18 (by decide)]
        · rw [d5 i hi, h9 _ (by omega), fa _ (by omega)]
        · rw [d6 i hi, h9 _ (by omega), fa _ (by omega)]
        · rw [d7 i hi, h9 _ (by omega), fa _ (by omega)]
      · have z1 : t2 2626 = t 10 := (L 2626 (by omega)).trans rfl
        rw [z1, c6, ft (64 * 50 + 19) (by omega)]
        exact hl6
  rcases u with _ | ku
  · obtain ⟨t2, a2, g1, g2, g3, g4, g5, g6⟩ := core N (va_up (va_up a1 48 (va_cpy (a1 18) (a1 48) 0 0 12)) (N + 7) ones8) hN3 (fun q hq => up_ne hq)
    have md : isMd N := by
      unfold isMd
      unfold iN at hN
      rcases hN with ⟨-, -, e⟩ | ⟨e, -⟩ | ⟨-, -, e⟩ | ⟨e, -⟩ | ⟨e, -⟩
      · omega
      · cases e
      · omega
      · cases e
      · cases e
    refine ⟨_, _, _, t2, a2, e2, fun _ => ⟨md, fun q hq => ?_, fun k hk => ?_, g1, g2, g3, ?_, g4, fun q hq => ?_, fun k hk => ?_⟩, fun ku e => absurd e (by simp)⟩
    · rw [ft q (by omega)]; exact hz q hq
    · rw [fa k (by omega)]; exact hza k hk
    · unfold iN at hN ⊢
      rcases hN with ⟨-, e, e'⟩ | ⟨e, -⟩ | ⟨-, e, e'⟩ | ⟨e, -⟩ | ⟨e, -⟩
      · subst e e'; exact Or.inr (Or.inl ⟨rfl, rfl, rfl⟩)
      · cases e
      · subst e e'; exact Or.inr (Or.inr (Or.inr (Or.inr ⟨rfl, rfl, rfl⟩)))
      · cases e
      · cases e
    · rw [g5 q (by omega)]; exact hz q (by omega)
    · rw [g6 k (by omega)]; exact hza k (by omega)
  · obtain ⟨md, hku, hku3⟩ := iN_u hN rfl
    obtain ⟨t2, a2, g1, g2, g3, g4, g5, g6⟩ := core ku _ hku3 (fun q _ => rfl)
    refine ⟨_, _, _, t2, a2, e2, fun e => absurd e (by simp), fun k e => ?_⟩
    have ek : k = ku := by injection e with e; exact e.symm
    subst ek
    refine ⟨md, hku, g1, g2, g3, hN, g4, fun q hq => ?_, fun k hk => ?_⟩
    · rw [g5 q (by omega)]; exact hz q hq
    · rw [g6 k (by omega)]; exact hza k hk
theorem R7_3c {nF : Nat} {t : sT} {a : sA} : cal (fX7_refuse nF (-3) t a) (fun v t a => some (v, t, a)) = some (-3, t, rf7 3 a) := by rw [R7_3]; rfl
theorem stp29 {nF : Nat} (hF : 100 ≤ nF) {S : sT → sA → Prop} (hS : SF S) (hD : SD S) : stp_29 nF (Inv S) := by
  intro N u v t a h
  have h0 := h
  obtain ⟨⟨hl1, hl2, hl3, hl4, hl5, hl6, hl7⟩, hs, hN, hi, hz, hza⟩ := h
  have hN3 := iN_653 hN
  rcases u with _ | ku
  · have hi' : t 2627 = 0 := hi
    refine ⟨-3, t, rf7 3 a, t, rf8 3 (rf7 3 a), ?_, fun _ => ⟨?_, inv_ref hS h0 3⟩, fun ku e => absurd e (by simp)⟩
    · unfold fX7_on
      rw [if_pos hi', R7_3]; rfl
    · unfold fX8_onN
      rw [R8_3]; rfl
  · obtain ⟨md, hku, hku3⟩ := iN_u hN rfl
    obtain ⟨i1, i2, i3, i4⟩ := hi
    obtain ⟨t1, a1, e1, ⟨b1, b2, b3, b4⟩, ⟨b5, b6, b7, b8⟩, b9, b10⟩ := copy6_ok (nF := nF) (k0 := 3) (k1 := 42) (by decide) t a
    have e2 : fX7_on nF t a = some (t 2692, va_up (va_up (va_up (va_up (va_up (va_up t1 1089 (t 3009)) 10 (t 2626)) 833 0) 961 0) 1233 0) 1937 0, va_up a1 18 (va_cpy (a1 48) (a1 18) 0 0 12)) := by
      unfold fX7_on
      rw [i1, if_neg one0, e1, calS]
      unfold fX5_copyFrom
      rw [calS]
      unfold fX7_forgetSayings
      show some (t1 196, va_up (va_up (va_up (va_up (va_up (va_up t1 1089 (t1 3009)) 10 (t1 2626)) 833 0) 961 0) 1233 0) 1937 0, _) = _
      rw [b9 3009 (by decide), b9 2626 (by decide)]
      have : t1 196 = t 2692 := b1
      rw [this]
      rfl
    have ft : ∀ q, q ≠ 10 → (q < 196 ∨ 200 ≤ q) → q ≠ 833 → q ≠ 961 → q ≠ 1089 → q ≠ 1233 → q ≠ 1937 → va_up (va_up (va_up (va_up (va_up (va_up t1 1089 (t 3009)) 10 (t 2626)) 833 0) 961 0) 1233 0) 1937 0 q = t q := fun q h1 h2 h3 h4 h5 h6 h7 => by
      rw [up_ne h7, up_ne h6, up_ne h4, up_ne h3, up_ne h1, up_ne h5, b9 q (by omega)]
    have fa : ∀ k, (k < 4 ∨ 8 ≤ k) → k ≠ 18 → va_up a1 18 (va_cpy (a1 48) (a1 18) 0 0 12) k = a k := fun k h1 h2 => by
      rw [up_ne h2, b10 k (by omega)]
    obtain ⟨t2, a2, g1, ⟨c1, c2, c3, c4, c5, c6⟩, ⟨d1, d2, d3, d4, d5, d6, d7⟩, c7, c8, c9⟩ := take_ok (nF := nF) (k0 := 50) (k1 := ku) hF (by omega) (va_up (va_up (va_up (va_up (va_up (va_up t1 1089 (t 3009)) 10 (t 2626)) 833 0) 961 0) 1233 0) 1937 0) (va_up a1 18 (va_cpy (a1 48) (a1 18) 0 0 12))
    have gt : ∀ q, q < 3200 → va_up (va_up t2 3203 0) 3205 0 q = va_up (va_up (va_up (va_up (va_up (va_up t1 1089 (t 3009)) 10 (t 2626)) 833 0) 961 0) 1233 0) 1937 0 q := fun q hq => by
      rw [up_ne (by omega), up_ne (by omega), c7 q (by omega)]
    have fh : ∀ q, 3264 ≤ q → va_up (va_up t2 3203 0) 3205 0 q = t q := fun q hq => by
      rw [up_ne (by omega), up_ne (by omega), c7 q (by omega), ft q (by omega) (by omega) (by omega) (by omega) (by omega) (by omega) (by omega)]
    have ga : ∀ k, k < 55 ∨ 62 ≤ k → a2 k = va_up a1 18 (va_cpy (a1 48) (a1 18) 0 0 12) k := fun k hk => c8 k (by omega)
    have kuf : ∀ j, 0 < j → j < 64 → va_up (va_up (va_up (va_up (va_up (va_up t1 1089 (t 3009)) 10 (t 2626)) 833 0) 961 0) 1233 0) 1937 0 (64 * ku + j) = t (64 * ku + j) := fun j h1 h2 => ft _ (by omega) (by omega) (by omega) (by omega) (by omega) (by omega) (by omega)
    have hw : t 2692 = t (64 * ku + 7) := by
      obtain ⟨⟨w, hw, w1, w2, -⟩, -⟩ := i2
      rw [w1, w2]
    refine ⟨t 2692, _, _, va_up (va_up t2 3203 0) 3205 0, a2, e2, fun e => absurd e (by simp), fun k e => ?_⟩
    have ek : k = ku := by injection e with e; exact e.symm
    subst ek
    refine ⟨md, hku, ?_, ⟨?_, ?_, ?_, ?_, ?_, ?_, ?_⟩, ?_, ?_⟩
    · unfold fX8_onS
      rw [g1, calS]
      show some (t2 3207, _, _) = _
      have : t2 3207 = t (64 * k + 7) := c1.trans (kuf 7 (by omega) (by omega))
      rw [this, ← hw]
    · have z1 : va_up (va_up t2 3203 0) 3205 0 65 = t 65 := (gt 65 (by omega)).trans (ft 65 (by omega) (by omega) (by omega) (by omega) (by omega) (by omega) (by omega))
      have z2 : va_up (va_up t2 3203 0) 3205 0 3201 = t 3201 := (c9 3201 (by omega) (by omega) (by omega) (by omega) (by omega) (by omega) (by omega) (by omega)).trans (ft 3201 (by omega) (by omega) (by omega) (by omega) (by omega) (by omega) (by omega))
      rw [z1, z2, ga 2 (by omega), ga 51 (by omega), fa 2 (by omega) (by omega), fa 51 (by omega) (by omega)]
      exact hl1
    · have z1 : va_up (va_up t2 3203 0) 3205 0 196 = t 2692 := (gt 196 (by omega)).trans b1
      have z2 : va_up (va_up t2 3203 0) 3205 0 197 = t 2693 := (gt 197 (by omega)).trans b2
      have z3 : va_up (va_up t2 3203 0) 3205 0 198 = t 2694 := (gt 198 (by omega)).trans b3
      have z4 : va_up (va_up t2 3203 0) 3205 0 199 = t 2695 := (gt 199 (by omega)).trans b4
      have y1 : va_up (va_up t2 3203 0) 3205 0 3207 = t (64 * k + 7) := c1.trans (kuf 7 (by omega) (by omega))
      have y2 : va_up (va_up t2 3203 0) 3205 0 3211 = t (64 * k + 11) := c2.trans (kuf 11 (by omega) (by omega))
      have y3 : va_up (va_up t2 3203 0) 3205 0 3213 = t (64 * k + 13) := c3.trans (kuf 13 (by omega) (by omega))
      have y4 : va_up (va_up t2 3203 0) 3205 0 3214 = t (64 * k + 14) := c4.trans (kuf 14 (by omega) (by omega))
      rw [z1, z2, z3, z4, y1, y2, y3, y4]
      refine i2.cp (fun i hi => ?_) (fun i hi => ?_) (fun i hi => ?_) (fun i hi => ?_) (fun i hi => ?_) (fun i hi => ?_) (fun i hi => ?_) (fun i hi => ?_)
      · rw [ga 4 (by omega), up_ne (by decide)]; exact b5 i hi
      · rw [ga 5 (by omega), up_ne (by decide)]; exact b6 i hi
      · rw [ga 6 (by omega), up_ne (by decide)]; exact b7 i hi
      · rw [ga 7 (by omega), up_ne (by decide)]; exact b8 i hi
      · exact (d1 i hi).trans (by rw [fa _ (by omega) (by omega)])
      · exact (d2 i hi).trans (by rw [fa _ (by omega) (by omega)])
      · exact (d3 i hi).trans (by rw [fa _ (by omega) (by omega)])
      · exact (d4 i hi).trans (by rw [fa _ (by omega) (by omega)])
    · obtain ⟨⟨w, hw8, w1, w2, -⟩, -⟩ := i2
      exact ⟨0, w, by omega, hw8, ((gt 196 (by omega)).trans b1).trans w1, gt 833 (by omega), rfl, fun i hi => absurd hi (Nat.not_lt_zero i)⟩
    · obtain ⟨⟨w, hw8, w1, w2, -⟩, -⟩ := i2
      exact ⟨0, w, by omega, hw8, ((gt 196 (by omega)).trans b1).trans w1, gt 961 (by omega), rfl, fun i hi => absurd hi (Nat.not_lt_zero i)⟩
    · have z1 : va_up (va_up t2 3203 0) 3205 0 1089 = t 3009 := (gt 1089 (by omega)).trans rfl
      have z2 : va_up (va_up t2 3203 0) 3205 0 3215 = t (64 * k + 15) := c5.trans (kuf 15 (by omega) (by omega))
      rw [z1, z2]
      refine i3.cp (fun i hi => ?_) (fun i hi => ?_) (fun i hi => ?_) (fun i hi => ?_)
      · rw [ga 18 (by omega), up_same, cpy_in hi, b10 48 (by decide)]
      · exact (d5 i hi).trans (by rw [fa _ (by omega) (by omega)])
      · exact (d6 i hi).trans (by rw [fa _ (by omega) (by omega)])
      · exact (d7 i hi).trans (by rw [fa _ (by omega) (by omega)])
    · have z1 : va_up (va_up t2 3203 0) 3205 0 10 = t 2626 := (gt 10 (by omega)).trans rfl
      have z2 : va_up (va_up t2 3203 0) 3205 0 3219 = t (64 * k + 19) := c6.trans (kuf 19 (by omega) (by omega))
      rw [z1, z2]
      exact i4
    · rw [ga 49 (by omega), ga 54 (by omega), fa 49 (by omega) (by omega), fa 54 (by omega) (by omega)]
      exact hl7
    · refine hD t _ a _ (fun q hq h1 h2 h3 => ?_) (fun q hq h1 => ?_) ((gt 1233 (by omega)).trans rfl) ((gt 1937 (by omega)).trans rfl) hs
      · unfold tS at hq
        rw [gt q (by omega), ft q (by omega) (by omega) (by omega) (by omega) (by omega) h2 h3]
      · unfold tSA at hq
        rw [ga q (by omega), fa q (by omega) (by omega)]
    · refine Hi.fr (fun q hq => ?_) (fun q hq => ?_) ⟨hN, ⟨i1, i2, i3, i4⟩, hz, hza⟩
      · unfold tH at hq
        rcases Nat.lt_or_ge q 3200 with g | g
        · rw [gt q g, ft q (by omega) (by omega) (by omega) (by omega) (by omega) (by omega) (by omega)]
        · exact fh q (by omega)
      · unfold tHA at hq
        rw [ga q (by omega), fa q (by omega) (by omega)]
