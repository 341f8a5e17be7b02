/-! tongue: the whole call -/
theorem inv_let0 {S : sT → sA → Prop} (hS : SF S) {N : Nat} {u v : Option Nat} {t : sT} {a : sA} {x : Int32} (h : Inv S N u v t a) : Inv S N u v (va_up (va_up (va_up t 65 0) 3221 x) 3201 0) a := by
  obtain ⟨⟨h1, h2, h3, h4, h5, h6, h7⟩, hs, hh⟩ := h
  have kt : ∀ q, q ≠ 65 → q ≠ 3221 → q ≠ 3201 → va_up (va_up (va_up t 65 0) 3221 x) 3201 0 q = t q := fun q p r s => by rw [up_ne s, up_ne r, up_ne p]
  exact ⟨⟨⟨0, by omega, rfl, rfl, fun i hi => absurd hi (Nat.not_lt_zero i)⟩, h2, h3, h4, h5, h6, h7⟩, hS _ _ _ _ (fun q hq => kt q (by unfold tS at hq; omega) (by unfold tS at hq; omega) (by unfold tS at hq; omega)) (fun _ _ => rfl) hs, Hi.fr (fun q hq => kt q (by unfold tH at hq; omega) (by unfold tH at hq; omega) (by unfold tH at hq; omega)) (fun _ _ => rfl) hh⟩
theorem neg2000 : ∀ p, p < 64 → (-2000 : Int32) - nI p ≤ 0 := by decide
theorem neg1000 : ∀ p, p < 100 → (-1000 : Int32) - nI p ≤ 0 := by decide
theorem iRow.le {w w2 n : Int32} {s : Nat → Int32} {n' : Int32} {s' : Nat → Int32} (h : iRow w n s n' s') (hw : w ≤ w2) (h2 : ∃ k, k ≤ 8 ∧ w2 = nI k) : iRow w2 n s n' s' := by
  obtain ⟨k, wn, hk, hwn, r1, r2, r3, r4⟩ := h
  obtain ⟨w9, hw9, e⟩ := h2
  subst e
  rw [r1, x_le (by omega) (by omega)] at hw
  exact ⟨k, w9, hk, hw9, rfl, r2, r3, fun i hi => ⟨(r4 i hi).1, by obtain ⟨c, hc, e⟩ := (r4 i hi).2; exact ⟨c, by omega, e⟩⟩⟩
theorem stp1 {nF : Nat} (hF : 1000 ≤ nF) {S : sT → sA → Prop} (hS : SF S) (hD : SD S) : stp_1 nF (Inv S) := by
  intro N u v t a h
  have h0 := h
  obtain ⟨⟨⟨K, hK, l1, l2, l3⟩, hl2, hl3, hl4, hl5, hl6, hl7⟩, hs, hN, hi, hz, hza⟩ := h
  have hN3 := iN_653 hN
  have hs7 : ∀ i, i < K → ∃ c, c ≤ 255 ∧ a 2 i = nI c := fun i hi => (l3 i hi).2
  have hl : ∀ i, i < K → a 2 i = a 51 i := fun i hi => (l3 i hi).1
  have hg : sg K (a 2) = sg K (a 51) := sg_congr hl
  have hv0 : v = none → isMd N ∧ iN (N + 603) u (some N) := by
    intro e
    subst e
    unfold isMd iN at *
    rcases hN with ⟨h1, -, h3⟩ | ⟨h1, -, h3⟩ | ⟨-, h2, -⟩ | ⟨-, h2, -⟩ | ⟨-, h2, -⟩
    · subst h3; exact ⟨Or.inr (Or.inl rfl), Or.inr (Or.inr (Or.inl ⟨h1, rfl, rfl⟩))⟩
    · subst h3; exact ⟨Or.inr (Or.inr rfl), Or.inr (Or.inr (Or.inr (Or.inl ⟨h1, rfl, rfl⟩)))⟩
    · cases h2
    · cases h2
    · cases h2
  have hvS : ∀ kb, v = some kb → isMd kb ∧ kb + 603 ≤ N := fun kb e => ⟨(iN_v hN e).1, (iN_v hN e).2.1⟩
  -- what the class finds
  have e7 : fX1_statements nF t a = some (if K = 0 then (-1000 : Int32) else rsB (scn (sg K (a 2)) K (K + 1) 0 0), t, a) := by
    unfold fX1_statements
    rw [l1]
    by_cases k0 : K = 0
    · subst k0; rfl
    · rw [if_neg (by rw [nI0 (by omega)]; exact k0), if_neg k0]
      exact statements7 (by omega) l1 hK hs7 K 0 0 0 nF (by omega) (by omega) (by omega) (by omega)
  have e8 : ∀ (t1 : sT) (a1 : sA), t1 3201 = t 3201 → a1 51 = a 51 → ∃ pe, fX8_faultOfForm nF t1 a1 = some (if K = 0 then 0 else if (scn (sg K (a 2)) K (K + 1) 0 0).1 then (-9 : Int32) else nI (scn (sg K (a 2)) K (K + 1) 0 0).2, va_up t1 3221 (nI pe), a1) := by
    intro t1 a1 p1 p2
    obtain ⟨pe, g⟩ := faultOf8 (nF := nF) (a := a1) (by omega) (p1.trans l2) hK
    rw [p2, ← hg] at g
    exact ⟨pe, g⟩
  by_cases hok : K ≠ 0 ∧ (scn (sg K (a 2)) K (K + 1) 0 0).1 = true
  · obtain ⟨k0, hsc1⟩ := hok
    obtain ⟨c9, hsc⟩ : ∃ c9, scn (sg K (a 2)) K (K + 1) 0 0 = (true, c9) := ⟨(scn (sg K (a 2)) K (K + 1) 0 0).2, by rw [← hsc1]⟩
    have hc9 : 1 ≤ c9 ∧ c9 ≤ 65 := by
      have e0 : scn (sg K (a 2)) K (K + 1) 0 0 = if (stB (sg K (a 2)) 0).1 then scn (sg K (a 2)) K K (stB (sg K (a 2)) 0).2 (0 + 1) else (false, (stB (sg K (a 2)) 0).2) := by
        show (if K ≤ 0 then _ else _) = _
        rw [if_neg (by omega)]
      by_cases h2 : (stB (sg K (a 2)) 0).1 = true
      · rw [if_pos h2] at e0
        have g := (scn_ok (K := K) (A := a 2) K _ (0 + 1) (stB_K h2)).1 (by rw [← e0]; exact hsc1)
        rw [← e0, hsc] at g
        have g : 0 + 1 ≤ c9 ∧ c9 ≤ 0 + 1 + K := g
        omega
      · rw [if_neg h2] at e0
        rw [e0] at hsc1
        exact absurd hsc1 Bool.false_ne_true
    have n9 : ¬ nI c9 ≤ 0 := by rw [show (0 : Int32) = nI 0 from rfl, x_le (by omega) (by omega)]; omega
    obtain ⟨tA, aA, ecp, ⟨b1, b2, b3, b4⟩, ⟨b5, b6, b7, b8⟩, b9, b10⟩ := copy6_ok (nF := nF) (k0 := 8) (k1 := 3) (by decide) t a
    have b9 : ∀ q, q < 516 ∨ 520 ≤ q → tA q = t q := fun q hq => b9 q (by omega)
    have b10 : ∀ k, k < 9 ∨ 13 ≤ k → aA k = a k := fun k hk => b10 k (by omega)
    have hDR : ∀ (t9 : sT) (a9 : sA), t9 3207 = t 3207 → t9 3211 = t 3211 → t9 3213 = t 3213 → t9 3214 = t 3214 → a9 55 = a 55 → a9 56 = a 56 → a9 57 = a 57 → a9 58 = a 58 → DR tA aA t9 a9 := by
      intro t9 a9 p1 p2 p3 p4 p5 p6 p7 p8
      have z1 : tA 516 = t 196 := b1
      have z2 : tA 517 = t 197 := b2
      have z3 : tA 518 = t 198 := b3
      have z4 : tA 519 = t 199 := b4
      unfold DR
      rw [z1, z2, z3, z4, p1, p2, p3, p4, p5, p6, p7, p8]
      exact hl2.cp (fun i hi => b5 i hi) (fun i hi => b6 i hi) (fun i hi => b7 i hi) (fun i hi => b8 i hi) (fun _ _ => rfl) (fun _ _ => rfl) (fun _ _ => rfl) (fun _ _ => rfl)
    have TA := fun kb (t9 : sT) (a9 : sA) (p0 : t9 3201 = t 3201) (p9 : a9 51 = a 51) (dr : DR tA aA t9 a9) => tell_all (nF := nF) (kb := kb) (c9 := c9) (by omega) hK K 0 0 0 nF nF tA aA t9 a9 (by omega) (by omega) (by omega) (by omega) (by omega) ((b9 65 (by omega)).trans l1) (p0.trans l2) (by rw [b10 2 (by omega), p9]; exact hl) (by rw [b10 2 (by omega)]; exact hs7) (by rw [b10 2 (by omega)]; exact hsc) dr
    obtain ⟨r, t1, a1, t18, a18, m1, m2, m3⟩ := TA 653 t a rfl rfl (hDR t a rfl rfl rfl rfl rfl rfl rfl rfl)
    have m3 : r = nI c9 ∨ ∃ p', p' < 64 ∧ r = (-2000 : Int32) - nI p' := by
      rcases m3 with ⟨t3, j1, -⟩ | ⟨p', j1, j2, -⟩
      · exact Or.inl j1
      · exact Or.inr ⟨p', j1, j2⟩
    have tell7 : fX1_tellTo nF 8 tA aA = some (r, t1, a1) := m1
    have f1 : ∀ q, q < 516 ∨ 520 ≤ q → t1 q = t q := fun q hq => (m2.1 q (by omega)).trans (b9 q hq)
    have f2 : ∀ k, k < 9 ∨ 13 ≤ k → a1 k = a k := fun k hk => (m2.2 k hk).trans (b10 k hk)
    -- the class's outcome
    obtain ⟨tf, af, c1, c2, c3, c4⟩ : ∃ tf af, fX7_tongue nF t a = some (r, tf, af) ∧ (∀ q, q ≠ 65 → (q < 196 ∨ 200 ≤ q) → (q < 516 ∨ 520 ≤ q) → q ≠ 1233 → q ≠ 1937 → tf q = t q) ∧ (∀ k, (k < 4 ∨ 13 ≤ k) → af k = a k) ∧ tf 65 = 0 ∧ ((r = nI c9 ∧ (tf 196 = t1 516 ∧ tf 197 = t1 517 ∧ tf 198 = t1 518 ∧ tf 199 = t1 519) ∧ ((∀ i, i < 8 → af 4 i = a1 9 i) ∧ (∀ i, i < 8 → af 5 i = a1 10 i) ∧ (∀ i, i < 8 → af 6 i = a1 11 i) ∧ (∀ i, i < 4 → af 7 i = a1 12 i)) ∧ tf 1233 = 0 ∧ tf 1937 = 0) ∨ (r ≤ 0 ∧ (∀ q, q ≠ 65 → (q < 516 ∨ 520 ≤ q) → tf q = t q) ∧ ∀ k, (k < 9 ∨ 13 ≤ k) → af k = a k)) := by
      have st : fX7_tongue nF t a = (if r ≤ 0 then (some (r, va_up t1 65 (0 : Int32), a1)) else (cal (fX6_copyFrom nF 3 8 t1 a1) (fun v6 t6 a6 => cal (fX7_forgetSayings nF t6 a6) (fun v7 t7 a7 => some (r, va_up t7 65 (0 : Int32), a7))))) := by
        unfold fX7_tongue
        rw [e7, calS, if_neg k0, hsc]
        show (if nI c9 ≤ 0 then _ else _) = _
        rw [if_neg n9, ecp, calS, tell7, calS]
      rw [st]
      rcases m3 with e | ⟨p', hp', e⟩
      · obtain ⟨tC, aC, ecp2, ⟨d1, d2, d3, d4⟩, ⟨d5, d6, d7, d8⟩, d9, d10⟩ := copy6_ok (nF := nF) (k0 := 3) (k1 := 8) (by decide) t1 a1
        have d9 : ∀ q, q < 196 ∨ 200 ≤ q → tC q = t1 q := fun q hq => d9 q (by omega)
        have d10 : ∀ k, k < 4 ∨ 8 ≤ k → aC k = a1 k := fun k hk => d10 k (by omega)
        refine ⟨va_up (va_up (va_up tC 1233 0) 1937 0) 65 0, aC, ?_, fun q h1 h2 h3 h4 h5 => ?_, fun k hk => ?_, rfl, Or.inl ⟨e, ⟨d1, d2, d3, d4⟩, ⟨fun i hi => d5 i hi, fun i hi => d6 i hi, fun i hi => d7 i hi, fun i hi => d8 i hi⟩, rfl, rfl⟩⟩
        · rw [e, if_neg n9, ecp2, calS]; rfl
        · rw [up_ne h1, up_ne h5, up_ne h4, d9 q h2, f1 q h3]
        · rw [d10 k (by omega), f2 k (by omega)]
      · have hr : r ≤ 0 := by rw [e]; exact neg2000 p' hp'
        refine ⟨va_up t1 65 0, a1, by rw [if_pos hr], fun q h1 h2 h3 h4 h5 => ?_, fun k hk => f2 k (by omega), rfl, Or.inr ⟨hr, fun q h1 h2 => ?_, fun k hk => f2 k hk⟩⟩
        · rw [up_ne h1, f1 q h3]
        · rw [up_ne h1, f1 q h2]
    obtain ⟨c4, c5⟩ := c4
    -- the reference's half, its backup at kb
    have hT : ∀ q, 3200 ≤ q → tf q = t q := fun q hq => c2 q (by omega) (by omega) (by omega) (by omega) (by omega)
    have hA : ∀ k, 13 ≤ k → af k = a k := fun k hk => c3 k (by omega)
    obtain ⟨pe, ef⟩ := e8 tf af (hT 3201 (by omega)) (hA 51 (by omega))
    rw [if_neg k0, hsc] at ef
    have ef : fX8_faultOfForm nF tf af = some (-9, va_up tf 3221 (nI pe), af) := ef
    have core : ∀ kb a9, 653 ≤ kb → (∀ q, q ≠ kb + 7 → a9 q = af q) → ∃ t2 a2, fX8_tongueT nF kb (va_up tf 3221 (nI pe)) a9 = some (r, t2, a2) ∧ Lo t2 a2 ∧ S t2 a2 ∧ (∀ q, q ≠ 65 → (q < 196 ∨ 200 ≤ q) → (q < 516 ∨ 520 ≤ q) → q ≠ 1233 → q ≠ 1937 → (q < 3200 ∨ 3264 ≤ q) → (q < 64 * kb ∨ 64 * kb + 64 ≤ q) → t2 q = t q) ∧ (∀ k, (k < 4 ∨ 13 ≤ k) → (k < 55 ∨ 62 ≤ k) → (k < kb + 5 ∨ kb + 12 ≤ k) → a2 k = a k) := by
      intro kb a9 hkb h9
      obtain ⟨t3, a3, g1, ⟨x1, x2, x3, x4, x5, x6⟩, ⟨y1, y2, y3, y4, y5, y6, y7⟩, x7, x8, -⟩ := take_ok (nF := nF) (k0 := kb) (k1 := 50) (by omega) (by omega) (va_up tf 3221 (nI pe)) a9
      have T3 : ∀ q, 3200 ≤ q → q < 64 * kb → q ≠ 3221 → t3 q = t q := fun q h1 h2 h3 => by rw [x7 q (by omega), up_ne h3, hT q h1]
      have T3l : ∀ q, q < 3200 → t3 q = tf q := fun q h1 => by rw [x7 q (by omega), up_ne (by omega)]
      have A3 : ∀ k, k < kb + 5 → a3 k = af k := fun k hk => by rw [x8 k (by omega), h9 k (by omega)]
      obtain ⟨r9, t19, a19, t2, a2, n1, n2, n3⟩ := TA kb t3 a3 (T3 3201 (by omega) (by omega) (by omega)) (by rw [A3 51 (by omega), hA 51 (by omega)]) (hDR t3 a3 (T3 _ (by omega) (by omega) (by omega)) (T3 _ (by omega) (by omega) (by omega)) (T3 _ (by omega) (by omega) (by omega)) (T3 _ (by omega) (by omega) (by omega)) (by rw [A3 55 (by omega), hA 55 (by omega)]) (by rw [A3 56 (by omega), hA 56 (by omega)]) (by rw [A3 57 (by omega), hA 57 (by omega)]) (by rw [A3 58 (by omega), hA 58 (by omega)]))
      have same : (r9, t19, a19) = (r, t1, a1) := Option.some.inj (n1.symm.trans m1)
      have s1 : r9 = r := congrArg Prod.fst same
      have s2 : t19 = t1 := congrArg (fun q => q.2.1) same
      have s3 : a19 = a1 := congrArg (fun q => q.2.2) same
      subst s1 s2 s3
      have eT : fX8_tongueT nF kb (va_up tf 3221 (nI pe)) a9 = (gX8_tongueT nF kb nF).1 (nI 0) (va_up t3 3221 (nI 0)) a3 := by
        unfold fX8_tongueT
        rw [g1, calS]; rfl
      rw [eT]
      rcases n3 with ⟨t4, j1, j2, j3, j4, j5, j6⟩ | ⟨p', j1, j2, j3, j4⟩
      · -- told
        subst j3
        have hr : ¬ r9 ≤ 0 := by rw [j1]; exact n9
        rcases c5 with ⟨-, ⟨u1, u2, u3, u4⟩, ⟨u5, u6, u7, u8⟩, u9, u10⟩ | ⟨hr2, -⟩
        · have T2 : ∀ q, q ≠ 3201 → q ≠ 3221 → q ≠ 3207 → q ≠ 3211 → q ≠ 3213 → va_up t2 3201 0 q = t3 q := fun q h1 h2 h3 h4 h5 => by rw [up_ne h1, j4.1 q h2 h3 h4 h5]
          have T2l : ∀ q, q < 3200 → va_up t2 3201 0 q = tf q := fun q h1 => by rw [T2 q (by omega) (by omega) (by omega) (by omega) (by omega), T3l q h1]
          have T2k : ∀ q, q < 3200 → q ≠ 65 → (q < 196 ∨ 200 ≤ q) → (q < 516 ∨ 520 ≤ q) → q ≠ 1233 → q ≠ 1937 → va_up t2 3201 0 q = t q := fun q h1 h2 h3 h4 h5 h6 => by rw [T2l q h1, c2 q h2 h3 h4 h5 h6]
          have T2m : ∀ q, 3200 ≤ q → q < 3264 → q ≠ 3201 → q ≠ 3221 → q ≠ 3207 → q ≠ 3211 → q ≠ 3213 → va_up t2 3201 0 q = t q := fun q h1 h2 h3 h4 h5 h6 h7 => by rw [T2 q h3 h4 h5 h6 h7, T3 q h1 (by omega) h4]
          have A2 : ∀ k, (k < 55 ∨ 59 ≤ k) → k < kb + 5 → a2 k = af k := fun k h1 h2 => by rw [j4.2 k h1, A3 k h2]
          have A2k : ∀ k, (k < 4 ∨ 13 ≤ k) → (k < 55 ∨ 59 ≤ k) → k < kb + 5 → a2 k = a k := fun k h1 h2 h3 => by rw [A2 k h2 h3, c3 k h1]
          have ng : iTng (va_up t2 3201 0 196) (a2 4) (a2 5) (a2 6) (va_up t2 3201 0 197) (a2 7) (va_up t2 3201 0 198) (va_up t2 3201 0 199) (va_up t2 3201 0 3207) (a2 55) (a2 56) (a2 57) (va_up t2 3201 0 3211) (a2 58) (va_up t2 3201 0 3213) (va_up t2 3201 0 3214) := by
            rw [T2l 196 (by omega), T2l 197 (by omega), T2l 198 (by omega), T2l 199 (by omega), u1, u2, u3, u4, A2 4 (by omega) (by omega), A2 5 (by omega) (by omega), A2 6 (by omega) (by omega), A2 7 (by omega) (by omega)]
            exact j5.cp u5 u6 u7 u8 (fun _ _ => rfl) (fun _ _ => rfl) (fun _ _ => rfl) (fun _ _ => rfl)
          have wle : t 196 ≤ va_up t2 3201 0 196 := by
            rw [T2l 196 (by omega), u1]
            have : tA 516 = t 196 := b1
            rw [← this]; exact j6
          have w8 : ∃ k, k ≤ 8 ∧ va_up t2 3201 0 196 = nI k := by
            obtain ⟨⟨k, hk, q1, -⟩, -⟩ := ng
            exact ⟨k, hk, q1⟩
          refine ⟨va_up t2 3201 0, a2, j2, ⟨?_, ng, ?_, ?_, ?_, ?_, ?_⟩, ?_, fun q h1 h2 h3 h4 h5 h6 h7 => ?_, fun k h1 h2 h3 => ?_⟩
          · exact ⟨0, by omega, (T2l 65 (by omega)).trans c4, up_same _ _ _, fun i hi => absurd hi (Nat.not_lt_zero i)⟩
          · rw [T2k 833 (by omega) (by omega) (by omega) (by omega) (by omega) (by omega), T2m 3203 (by omega) (by omega) (by omega) (by omega) (by omega) (by omega) (by omega), A2k 14 (by omega) (by omega) (by omega), A2k 52 (by omega) (by omega) (by omega)]
            exact hl3.le wle w8
          · rw [T2k 961 (by omega) (by omega) (by omega) (by omega) (by omega) (by omega), T2m 3205 (by omega) (by omega) (by omega) (by omega) (by omega) (by omega) (by omega), A2k 16 (by omega) (by omega) (by omega), A2k 53 (by omega) (by omega) (by omega)]
            exact hl4.le wle w8
          · rw [T2k 1089 (by omega) (by omega) (by omega) (by omega) (by omega) (by omega), T2m 3215 (by omega) (by omega) (by omega) (by omega) (by omega) (by omega) (by omega), A2k 18 (by omega) (by omega) (by omega), A2k 59 (by omega) (by omega) (by omega), A2k 60 (by omega) (by omega) (by omega), A2k 61 (by omega) (by omega) (by omega)]
            exact hl5
          · rw [T2k 10 (by omega) (by omega) (by omega) (by omega) (by omega) (by omega), T2m 3219 (by omega) (by omega) (by omega) (by omega) (by omega) (by omega) (by omega)]
            exact hl6
          · rw [A2k 49 (by omega) (by omega) (by omega), A2k 54 (by omega) (by omega) (by omega)]
            exact hl7
          · refine hD t _ a _ (fun q hq h1 h2 h3 => ?_) (fun k hk h1 => ?_) ((T2l 1233 (by omega)).trans u9) ((T2l 1937 (by omega)).trans u10) hs
            · unfold tS at hq
              exact T2k q (by omega) (by omega) (by omega) (by omega) h2 h3
            · unfold tSA at hk
              exact A2k k (by omega) (by omega) (by omega)
          · rcases Nat.lt_or_ge q 3200 with g | g
            · exact T2k q g h1 h2 h3 h4 h5
            · rw [T2 q (by omega) (by omega) (by omega) (by omega) (by omega), x7 q (by omega), up_ne (by omega), hT q g]
          · rw [j4.2 k (by omega), x8 k h3, h9 k (by omega), c3 k h1]
        · exact absurd hr2 hr
      · -- not told
        have hr : r9 ≤ 0 := by rw [j2]; exact neg2000 p' j1
        rcases c5 with ⟨e, -⟩ | ⟨-, u1, u2⟩
        · exact absurd hr (by rw [e]; exact n9)
        · obtain ⟨t5, a5, g2, ⟨z1, z2, z3, z4, z5, z6⟩, ⟨w1, w2, w3, w4, w5, w6, w7⟩, z7, z8, z9⟩ := take_ok (nF := nF) (k0 := 50) (k1 := kb) (by omega) (by omega) t2 a2
          have kq : ∀ j, j < 64 → t2 (64 * kb + j) = t3 (64 * kb + j) := fun j hj => j3.1 _ (by omega) (by omega) (by omega) (by omega)
          have ka : ∀ j, j < 20 → a2 (kb + j) = a3 (kb + j) := fun j hj => j3.2 _ (by omega)
          have T5l : ∀ q, q < 3200 → va_up t5 3201 0 q = tf q := fun q hq => by rw [up_ne (by omega), z7 q (by omega), j3.1 q (by omega) (by omega) (by omega) (by omega), T3l q hq]
          have T5k : ∀ q, q < 3200 → q ≠ 65 → (q < 516 ∨ 520 ≤ q) → va_up t5 3201 0 q = t q := fun q h1 h2 h3 => by rw [T5l q h1, u1 q h2 h3]
          have T5m : ∀ q, 3200 ≤ q → q < 3264 → q ≠ 3201 → q ≠ 3221 → q ≠ 3207 → q ≠ 3211 → q ≠ 3213 → q ≠ 3214 → q ≠ 3215 → q ≠ 3219 → va_up t5 3201 0 q = t q := fun q h1 h2 h3 h4 h5 h6 h7 h8 h9 h10 => by rw [up_ne h3, z9 q h1 (by omega) h5 h6 h7 h8 h9 h10, j3.1 q h4 h5 h6 h7, T3 q h1 (by omega) h4]
          have A5 : ∀ k, (k < 55 ∨ 62 ≤ k) → k < kb + 5 → a5 k = af k := fun k h1 h2 => by rw [z8 k (by omega), j3.2 k (by omega), A3 k h2]
          have A5k : ∀ k, (k < 9 ∨ 13 ≤ k) → (k < 55 ∨ 62 ≤ k) → k < kb + 5 → a5 k = a k := fun k h1 h2 h3 => by rw [A5 k h2 h3, u2 k h1]
          have R : ∀ q, 3200 ≤ q → q ≠ 3221 → va_up tf 3221 (nI pe) q = t q := fun q h1 h2 => by rw [up_ne h2, hT q h1]
          have m07 : va_up t5 3201 0 3207 = t 3207 := by rw [up_ne (by decide)]; exact z1.trans ((kq 7 (by omega)).trans (x1.trans (R 3207 (by omega) (by omega))))
          have m11 : va_up t5 3201 0 3211 = t 3211 := by rw [up_ne (by decide)]; exact z2.trans ((kq 11 (by omega)).trans (x2.trans (R 3211 (by omega) (by omega))))
          have m13 : va_up t5 3201 0 3213 = t 3213 := by rw [up_ne (by decide)]; exact z3.trans ((kq 13 (by omega)).trans (x3.trans (R 3213 (by omega) (by omega))))
          have m14 : va_up t5 3201 0 3214 = t 3214 := by rw [up_ne (by decide)]; exact z4.trans ((kq 14 (by omega)).trans (x4.trans (R 3214 (by omega) (by omega))))
          have m15 : va_up t5 3201 0 3215 = t 3215 := by rw [up_ne (by decide)]; exact z5.trans ((kq 15 (by omega)).trans (x5.trans (R 3215 (by omega) (by omega))))
          have m19 : va_up t5 3201 0 3219 = t 3219 := by rw [up_ne (by decide)]; exact z6.trans ((kq 19 (by omega)).trans (x6.trans (R 3219 (by omega) (by omega))))
          have R2 : ∀ k, 50 ≤ k → k < 62 → a9 k = a k := fun k h1 h2 => by rw [h9 k (by omega), hA k (by omega)]
          have n5 : ∀ i, i < 8 → a5 55 i = a 55 i := fun i hi => (w1 i hi).trans (by rw [ka 5 (by omega), y1 i hi, R2 _ (by omega) (by omega)])
          have n6 : ∀ i, i < 8 → a5 56 i = a 56 i := fun i hi => (w2 i hi).trans (by rw [ka 6 (by omega), y2 i hi, R2 _ (by omega) (by omega)])
          have n7 : ∀ i, i < 8 → a5 57 i = a 57 i := fun i hi => (w3 i hi).trans (by rw [ka 7 (by omega), y3 i hi, R2 _ (by omega) (by omega)])
          have n8 : ∀ i, i < 4 → a5 58 i = a 58 i := fun i hi => (w4 i hi).trans (by rw [ka 8 (by omega), y4 i hi, R2 _ (by omega) (by omega)])
          have n9 : ∀ i, i < 12 → a5 59 i = a 59 i := fun i hi => (w5 i hi).trans (by rw [ka 9 (by omega), y5 i hi, R2 _ (by omega) (by omega)])
          have n10 : ∀ i, i < 12 → a5 60 i = a 60 i := fun i hi => (w6 i hi).trans (by rw [ka 10 (by omega), y6 i hi, R2 _ (by omega) (by omega)])
          have n11 : ∀ i, i < 12 → a5 61 i = a 61 i := fun i hi => (w7 i hi).trans (by rw [ka 11 (by omega), y7 i hi, R2 _ (by omega) (by omega)])
          refine ⟨va_up t5 3201 0, a5, ?_, ⟨?_, ?_, ?_, ?_, ?_, ?_, ?_⟩, ?_, fun q h1 h2 h3 h4 h5 h6 h7 => ?_, fun k h1 h2 h3 => ?_⟩
          · rw [j4, g2, calS]
          · exact ⟨0, by omega, (T5l 65 (by omega)).trans c4, up_same _ _ _, fun i hi => absurd hi (Nat.not_lt_zero i)⟩
          · rw [T5k 196 (by omega) (by omega) (by omega), T5k 197 (by omega) (by omega) (by omega), T5k 198 (by omega) (by omega) (by omega), T5k 199 (by omega) (by omega) (by omega), m07, m11, m13, m14, A5k 4 (by omega) (by omega) (by omega), A5k 5 (by omega) (by omega) (by omega), A5k 6 (by omega) (by omega) (by omega), A5k 7 (by omega) (by omega) (by omega)]
            exact hl2.cp (fun _ _ => rfl) (fun _ _ => rfl) (fun _ _ => rfl) (fun _ _ => rfl) n5 n6 n7 n8
          · rw [T5k 196 (by omega) (by omega) (by omega), T5k 833 (by omega) (by omega) (by omega), T5m 3203 (by omega) (by omega) (by omega) (by omega) (by omega) (by omega) (by omega) (by omega) (by omega) (by omega), A5k 14 (by omega) (by omega) (by omega), A5k 52 (by omega) (by omega) (by omega)]
            exact hl3
          · rw [T5k 196 (by omega) (by omega) (by omega), T5k 961 (by omega) (by omega) (by omega), T5m 3205 (by omega) (by omega) (by omega) (by omega) (by omega) (by omega) (by omega) (by omega) (by omega) (by omega), A5k 16 (by omega) (by omega) (by omega), A5k 53 (by omega) (by omega) (by omega)]
            exact hl4
          · rw [T5k 1089 (by omega) (by omega) (by omega), m15, A5k 18 (by omega) (by omega) (by omega)]
            exact hl5.cp (fun _ _ => rfl) n9 n10 n11
          · rw [T5k 10 (by omega) (by omega) (by omega), m19]
            exact hl6
          · rw [A5k 49 (by omega) (by omega) (by omega), A5k 54 (by omega) (by omega) (by omega)]
            exact hl7
          · refine hS _ _ _ _ (fun q hq => ?_) (fun k hk => ?_) hs
            · unfold tS at hq
              exact T5k q (by omega) (by omega) (by omega)
            · unfold tSA at hk
              exact A5k k (by omega) (by omega) (by omega)
          · rcases Nat.lt_or_ge q 3200 with g | g
            · exact T5k q g h1 h3
            · rw [up_ne (by omega), z7 q (by omega), j3.1 q (by omega) (by omega) (by omega) (by omega), x7 q (by omega), up_ne (by omega), hT q g]
          · rw [z8 k (by omega), j3.2 k (by omega), x8 k h3, h9 k (by omega), c3 k h1]
    -- the image stands, where the backup lies elsewhere
    have img : ∀ kb t2 a2, (∀ ku, u = some ku → ku + 603 ≤ kb ∨ kb + 603 ≤ ku) → 653 ≤ kb → (∀ q, q ≠ 65 → (q < 196 ∨ 200 ≤ q) → (q < 516 ∨ 520 ≤ q) → q ≠ 1233 → q ≠ 1937 → (q < 3200 ∨ 3264 ≤ q) → (q < 64 * kb ∨ 64 * kb + 64 ≤ q) → t2 q = t q) → (∀ k, (k < 4 ∨ 13 ≤ k) → (k < 55 ∨ 62 ≤ k) → (k < kb + 5 ∨ kb + 12 ≤ k) → a2 k = a k) → iImg u t2 a2 := by
      intro kb t2 a2 hk hkb ht ha
      rcases u with _ | ku
      · show t2 2627 = 0
        rw [ht 2627 (by omega) (by omega) (by omega) (by omega) (by omega) (by omega) (by omega)]
        exact hi
      · obtain ⟨-, -, hku⟩ := iN_u hN rfl
        have hd := hk ku rfl
        obtain ⟨i1, i2, i3, i4⟩ := hi
        have hq : ∀ q, 2600 ≤ q → q < 3200 → t2 q = t q := fun q h1 h2 => ht q (by omega) (by omega) (by omega) (by omega) (by omega) (by omega) (by omega)
        have hq2 : ∀ j, j < 64 → t2 (64 * ku + j) = t (64 * ku + j) := fun j hj => ht _ (by omega) (by omega) (by omega) (by omega) (by omega) (by omega) (by omega)
        have hq3 : ∀ k, 43 ≤ k → k < 49 → a2 k = a k := fun k h1 h2 => ha k (by omega) (by omega) (by omega)
        have hq4 : ∀ j, j < 20 → a2 (ku + j) = a (ku + j) := fun j hj => ha _ (by omega) (by omega) (by omega)
        refine ⟨?_, ?_, ?_, ?_⟩
        · rw [hq 2627 (by omega) (by omega)]; exact i1
        · rw [hq 2692 (by omega) (by omega), hq 2693 (by omega) (by omega), hq 2694 (by omega) (by omega), hq 2695 (by omega) (by omega), hq2 7 (by omega), hq2 11 (by omega), hq2 13 (by omega), hq2 14 (by omega), hq3 43 (by omega) (by omega), hq3 44 (by omega) (by omega), hq3 45 (by omega) (by omega), hq3 46 (by omega) (by omega), hq4 5 (by omega), hq4 6 (by omega), hq4 7 (by omega), hq4 8 (by omega)]
          exact i2
        · rw [hq 3009 (by omega) (by omega), hq2 15 (by omega), hq3 48 (by omega) (by omega), hq4 9 (by omega), hq4 10 (by omega), hq4 11 (by omega)]
          exact i3
        · rw [hq 2626 (by omega) (by omega), hq2 19 (by omega)]
          exact i4
    have zf : zT (va_up tf 3221 (nI pe)) N ∧ zA af N := ⟨fun q hq => by rw [up_ne (by omega), hT q (by omega)]; exact hz q hq, fun k hk => by rw [hA k (by omega)]; exact hza k hk⟩
    rcases v with _ | kb
    · obtain ⟨md, hN2⟩ := hv0 rfl
      obtain ⟨t2, a2, g1, g2, g3, g4, g5⟩ := core N (va_up af (N + 7) ones8) hN3 (fun q hq => up_ne hq)
      refine ⟨r, tf, af, t2, a2, N + 603, some N, c1, ?_, ⟨g2, g3, hN2, ?_, fun q hq => ?_, fun k hk => ?_⟩, fun _ => ⟨md, fun w1 t3 a3 e => ?_⟩, fun kb e => absurd e (by simp)⟩
      · unfold fX8_tongue
        rw [ef, calS, if_pos rfl]
        show r5 (N + 603) (some N) (fX8_tongueT nF N (va_up tf 3221 (nI pe)) (va_up af (N + 7) ones8)) = _
        rw [g1]; rfl
      · exact img N t2 a2 (fun ku e => Or.inl (iN_u hN e).2.1) hN3 g4 g5
      · rw [g4 q (by omega) (by omega) (by omega) (by omega) (by omega) (by omega) (by omega)]; exact hz q (by omega)
      · rw [g5 k (by omega) (by omega) (by omega)]; exact hza k (by omega)
      · rw [ef] at e
        have e := Option.some.inj e
        have e2 : va_up tf 3221 (nI pe) = t3 := congrArg (fun q => q.2.1) e
        have e3 : af = a3 := congrArg (fun q => q.2.2) e
        subst e2 e3
        exact zf
    · obtain ⟨md, hkb, hkb3, hne⟩ := iN_v hN rfl
      obtain ⟨t2, a2, g1, g2, g3, g4, g5⟩ := core kb af hkb3 (fun q _ => rfl)
      refine ⟨r, tf, af, t2, a2, N, some kb, c1, ?_, ⟨g2, g3, hN, ?_, fun q hq => ?_, fun k hk => ?_⟩, fun e => absurd e (by simp), fun kb' e => ?_⟩
      · unfold fX8_tongue
        rw [ef, calS, if_pos rfl]
        show r5 N (some kb) (fX8_tongueT nF kb (va_up tf 3221 (nI pe)) af) = _
        rw [g1]; rfl
      · refine img kb t2 a2 (fun ku e => ?_) hkb3 g4 g5
        have hu := iN_u hN e
        have : ku ≠ kb := fun e2 => hne (by rw [e, e2])
        unfold isMd at hu md
        omega
      · rw [g4 q (by omega) (by omega) (by omega) (by omega) (by omega) (by omega) (by omega)]; exact hz q hq
      · rw [g5 k (by omega) (by omega) (by omega)]; exact hza k hk
      · exact hvS kb' e
  · -- a fault of form
    obtain ⟨fp, hfp, e7', e8'⟩ : ∃ fp, fp < 100 ∧ fX1_statements nF t a = some ((-1000 : Int32) - nI fp, t, a) ∧ ∀ (t1 : sT) (a1 : sA), t1 3201 = t 3201 → a1 51 = a 51 → ∃ pe, fX8_faultOfForm nF t1 a1 = some (nI fp, va_up t1 3221 (nI pe), a1) := by
      by_cases k0 : K = 0
      · refine ⟨0, by omega, by rw [e7, if_pos k0]; rfl, fun t1 a1 p1 p2 => ?_⟩
        obtain ⟨pe, g⟩ := e8 t1 a1 p1 p2
        rw [if_pos k0] at g
        exact ⟨pe, g⟩
      · have hf : (scn (sg K (a 2)) K (K + 1) 0 0).1 = false := by
          cases e : (scn (sg K (a 2)) K (K + 1) 0 0).1
          · rfl
          · exact absurd ⟨k0, e⟩ hok
        have hb := (scn_ok (K := K) (A := a 2) (K + 1) 0 0 (by omega)).2 hf
        refine ⟨(scn (sg K (a 2)) K (K + 1) 0 0).2, by omega, ?_, fun t1 a1 p1 p2 => ?_⟩
        · rw [e7, if_neg k0]
          unfold rsB
          rw [hf, if_neg Bool.false_ne_true]
        · obtain ⟨pe, g⟩ := e8 t1 a1 p1 p2
          rw [if_neg k0, hf, if_neg Bool.false_ne_true] at g
          exact ⟨pe, g⟩
    have c1 : fX7_tongue nF t a = some ((-1000 : Int32) - nI fp, va_up t 65 0, a) := by
      unfold fX7_tongue
      rw [e7', calS, if_pos (neg1000 fp hfp), if_pos (neg1000 fp hfp)]
    obtain ⟨pe, ef⟩ := e8' (va_up t 65 0) a (up_ne (by decide)) rfl
    have n9 : ¬ nI fp = (-9 : Int32) := by
      have : ∀ i, i < 100 → ¬ nI i = (-9 : Int32) := by decide
      exact this fp hfp
    refine ⟨(-1000 : Int32) - nI fp, va_up t 65 0, a, va_up (va_up (va_up t 65 0) 3221 (nI pe)) 3201 0, a, N, v, c1, ?_, inv_let0 hS h0, fun e => ⟨(hv0 e).1, fun w1 t3 a3 e9 => ?_⟩, hvS⟩
    · unfold fX8_tongue
      rw [ef, calS, if_neg n9]
    · rw [ef] at e9
      have e9 := Option.some.inj e9
      have e2 : va_up (va_up t 65 0) 3221 (nI pe) = t3 := congrArg (fun q => q.2.1) e9
      have e3 : a = a3 := congrArg (fun q => q.2.2) e9
      subst e2 e3
      exact ⟨fun q hq => by rw [up_ne (by omega), up_ne (by omega)]; exact hz q hq, hza⟩
