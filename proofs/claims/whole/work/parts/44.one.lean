/-! tongue: one statement that goes by, told on both sides; all of them -/
section ONE
variable {nF K p e : Nat} {t t' : sT} {a a' : sA}
theorem st_116 {g : Nat → Int32} (h1 : g p = 116) (h : stB g p = (true, e)) : e = dgr g 8 (p + 1) + 1 ∧ g (e - 1) = 59 ∧ ∀ j, p + 1 ≤ j → j < e - 1 → isDg (g j) = true := by
  have sB : stB g p = teB g p (dgr g 8 (p + 1)) := by unfold stB; rw [if_pos h1]; rfl
  obtain ⟨d1, d2, d3⟩ := dgr_spec g 8 (p + 1)
  rw [sB] at h
  unfold teB at h
  by_cases h2 : dgr g 8 (p + 1) = p + 1
  · rw [if_pos h2] at h; exact absurd (congrArg Prod.fst h) Bool.false_ne_true
  · rw [if_neg h2] at h
    by_cases h3 : g (dgr g 8 (p + 1)) = 59
    · rw [if_pos h3] at h
      have h4 : dgr g 8 (p + 1) + 1 = e := congrArg Prod.snd h
      have h5 : e - 1 = dgr g 8 (p + 1) := by omega
      exact ⟨h4.symm, by rw [h5]; exact h3, fun j g1 g2 => d3 j g1 (by omega)⟩
    · rw [if_neg h3] at h; exact absurd (congrArg Prod.fst h) Bool.false_ne_true
theorem fm_t {g : Nat → Int32} {c : Int32} {cs : List Int32} (h : fmB g (c :: cs) p = (true, e)) : ftS c (g p) = true ∧ fmB g cs (p + 1) = (true, e) := by
  rw [fm_cons] at h
  by_cases h1 : ftS c (g p) = true
  · rw [if_pos h1] at h; exact ⟨h1, h⟩
  · rw [if_neg h1] at h; exact absurd (congrArg Prod.fst h) Bool.false_ne_true
theorem tk_of {x : Int32} (h : isTkr x = true) : ∃ j, j < 5 ∧ tkN x = nI j ∧ x = tkL j := by
  unfold isTkr at h
  unfold tkN
  by_cases h1 : x = 104
  · subst h1; exact ⟨0, by decide, by decide, by decide⟩
  · rw [if_neg h1] at h ⊢
    by_cases h2 : x = 111
    · subst h2; exact ⟨1, by decide, by decide, by decide⟩
    · rw [if_neg h2] at h ⊢
      by_cases h3 : x = 98
      · subst h3; exact ⟨2, by decide, by decide, by decide⟩
      · rw [if_neg h3] at h ⊢
        by_cases h4 : x = 103
        · subst h4; exact ⟨3, by decide, by decide, by decide⟩
        · rw [if_neg h4] at h ⊢
          by_cases h5 : x = 102
          · subst h5; exact ⟨4, by decide, by decide, by decide⟩
          · rw [if_neg h5] at h; exact absurd h (by decide)
theorem One.im {o o' : Rs} {x y : Int32 → Prop} (h : One t a t' a' o o' x) (hxy : ∀ z, x z → y z) : One t a t' a' o o' y := by
  obtain ⟨b, t1, a1, t1', a1', h1, h2, h3, h4, h5⟩ := h
  exact ⟨b, t1, a1, t1', a1', h1, h2, h3, h4, fun e => ⟨(h5 e).1, (h5 e).2.1, hxy _ (h5 e).2.2⟩⟩
theorem one_ok (hF : 100 ≤ nF) (hK : K ≤ 64) (q : t 65 = nI K) (q' : t' 3201 = nI K) (hl : ∀ i, i < K → a 2 i = a' 51 i) (hs : ∀ i, i < K → ∃ c, c ≤ 255 ∧ a 2 i = nI c) (hst : stB (sg K (a 2)) p = (true, e)) (h : DR t a t' a') : One t a t' a' (fX1_tellOne nF 8 (nI p) (nI (e - 1)) t a) (fX8_comes nF (va_up t' 3221 (nI p)) a') (fun y => ∃ pe, y = nI pe ∧ p < pe ∧ pe < e) := by
  have hg : sg K (a 2) = sg K (a' 51) := sg_congr hl
  have hst1 : (stB (sg K (a 2)) p).1 = true := by rw [hst]
  have he : e ≤ K := by have := stB_K hst1; rw [hst] at this; exact this
  have hpe : p + 2 ≤ e := by have := (stB_ok.1 hst1).1; rw [hst] at this; exact this
  have sA : ∀ i, i < K → a' 51 i = sg K (a 2) i := fun i hi => by rw [hg]; unfold sg; rw [if_pos hi]
  have S7 : ∀ i, i < 2 ^ 30 → fX1_sign nF (nI i) t a = some (sg K (a 2) i, t, a) := fun i hi => sign7 q hK hi
  have hx : okS (sg K (a 2) (p + 1)) := okS_sg hs _
  have P1 : ∃ pe, nI (p + 1) = nI pe ∧ p < pe ∧ pe < e := ⟨p + 1, rfl, by omega, by omega⟩
  have TR := fun n n' (hn : 66 < n) (hn' : 66 < n') (h1 : sg K (a 2) p = 116) => tell_rel (nF := nF) (p0 := p + 1) (E := e - 1) hK (by omega) q q' hl (st_116 h1 hst).2.2 (st_116 h1 hst).2.1 h (e - 1 - (p + 1)) (p + 1) 0 (-1) n n' (by omega) (Nat.le_refl _) (by omega) (by omega) (by omega)
  rw [comes8 q' hK (by omega), sA p (by omega), sA (p + 1) (by omega)]
  generalize hgg : sg K (a 2) = g at *
  unfold fX1_tellOne
  rw [S7 p (by omega), calS]
  by_cases h1 : g p = 105
  · rw [if_pos h1, if_pos h1]
    exact (One.zz (add_ok (kn := 3) (cn := 0) (by decide) (by decide) h)).im (fun z ez => ez ▸ P1)
  rw [if_neg h1, if_neg h1]
  by_cases h2 : g p = 108
  · rw [if_pos h2, if_pos h2]
    have sC : stB g p = fmB g [48, 59] (p + 1) := by unfold stB; rw [if_neg (by rw [h2]; decide), h2]; rfl
    rw [sC] at hst
    obtain ⟨f1, -⟩ := fm_t hst
    rw [ft48] at f1
    obtain ⟨j, hj, j1, j2⟩ := dg_of f1
    unfold fX1_digit fX6_setLaw
    rw [nI_1, S7 _ (by omega), calS, calS, j2]
    by_cases h5 : j < 5
    · rw [if_pos (show nI j ≤ 4 from (x_le (a := j) (b := 4) (by omega) (by omega)).mpr (by omega)), l7_yes h5]
      obtain ⟨r1, r2, r3, r4, r5⟩ := h
      refine ⟨true, va_up t 518 (nI j), a, va_up (va_up t' 3221 (nI (p + 1))) 3213 (nI j), a', ?_, rfl, ⟨fun q hq => up_ne (by omega), fun _ _ => rfl⟩, ⟨fun q h1 h2 h3 h4 => by rw [up_ne h4, up_ne h1], fun _ _ => rfl⟩, fun _ => ⟨⟨r1, r2, r3, ⟨j, h5, rfl, rfl⟩, r5⟩, Int32.le_refl _, ?_⟩⟩
      · rw [calS, if_neg one0]; rfl
      · rw [up_ne (by decide), up_same]; exact P1
    · rw [if_neg (show ¬ nI j ≤ 4 by rw [show (4 : Int32) = nI 4 from rfl, x_le (by omega) (by omega)]; omega), l7_big (nneg (by omega)) ((x_le (by omega) (by omega)).mpr (by omega)), calS, if_pos rfl]
      exact One.no rfl rfl
  rw [if_neg h2, if_neg h2]
  by_cases h3 : g p = 110
  · rw [if_pos h3, if_pos h3]
    exact (One.zz (add_ok (kn := 1) (cn := 0) (by decide) (by decide) h)).im (fun z ez => ez ▸ P1)
  rw [if_neg h3, if_neg h3]
  by_cases h4 : g p = 111
  · rw [if_pos h4, if_pos h4]
    exact (One.zz (add_ok (kn := 2) (cn := 0) (by decide) (by decide) h)).im (fun z ez => ez ▸ P1)
  rw [if_neg h4, if_neg h4]
  by_cases h5 : g p = 116
  · rw [if_pos h5, if_pos h5]
    unfold fX1_tellWord fX8_tellingComes
    rw [nI_1]
    exact (One.zz (TR nF nF (by omega) (by omega) h5)).im (fun z ez => ⟨e - 1, ez, by omega, by omega⟩)
  rw [if_neg h5, if_neg h5]
  by_cases h6 : g p = 119
  · rw [if_pos h6, if_pos h6]
    have sC : stB g p = fmB g [48, 44, 48, 59] (p + 1) := by unfold stB; rw [if_neg (by rw [h6]; decide), h6]; rfl
    rw [sC] at hst
    obtain ⟨f1, hst⟩ := fm_t hst
    obtain ⟨f2, hst⟩ := fm_t hst
    obtain ⟨f3, hst⟩ := fm_t hst
    rw [fm59] at hst
    rw [ft48] at f1 f3
    have he5 : p + 5 = e := by
      by_cases h59 : g (p + 1 + 1 + 1 + 1) = 59
      · rw [if_pos h59] at hst; have := congrArg Prod.snd hst; exact this
      · rw [if_neg h59] at hst; exact absurd (congrArg Prod.fst hst) Bool.false_ne_true
    obtain ⟨j, hj, j1, j2⟩ := dg_of f1
    obtain ⟨k, hk, k1, k2⟩ := dg_of f3
    unfold fX1_digit fX6_setWeight
    rw [nI_1, show nI p + 3 = nI (p + 1 + 1 + 1) from nI_add p 3, S7 _ (by omega), calS, calS, S7 _ (by omega), calS, calS, j2, k2, show nI (p + 1) + 2 = nI (p + 1 + 1 + 1) from nI_add (p + 1) 2, nI_cl (n := j) (by omega), nI_cl (n := p + 1 + 1 + 1) (by omega), sA (p + 1 + 1 + 1) (by omega), k2]
    by_cases h8 : j < 8
    · rw [if_pos (show nI j ≤ 7 from (x_le (a := j) (b := 7) (by omega) (by omega)).mpr (by omega)), c7_yes h8, calS, if_neg one0, bnd_ok (by omega) (by decide), bnd_ok h8 (by decide), bnd_ok (k := p + 1 + 1 + 1) (by omega) (by decide)]
      obtain ⟨r1, r2, r3, r4, r5⟩ := h
      refine ⟨true, t, va_up a 11 (upd (a 11) j (nI k)), va_up t' 3221 (nI (p + 1)), va_up a' 57 (upd (a' 57) j (nI k)), rfl, rfl, ⟨fun _ _ => rfl, fun k hk => up_ne (by omega)⟩, ⟨fun q h1 _ _ _ => up_ne h1, fun k hk => up_ne (by omega)⟩, fun _ => ⟨⟨r1, fun i hi => ?_, r3, r4, r5⟩, Int32.le_refl _, ?_⟩⟩
      · show upd (a 11) j (nI k) i = upd (a' 57) j (nI k) i ∧ ∃ c, c ≤ 9 ∧ upd (a 11) j (nI k) i = nI c
        by_cases e9 : i = j
        · subst e9
          rw [upd_same, upd_same]
          exact ⟨rfl, k, by omega, rfl⟩
        · rw [upd_ne e9, upd_ne e9]
          exact r2 i hi
      · rw [up_same]; exact P1
    · rw [if_neg (show ¬ nI j ≤ 7 by rw [show (7 : Int32) = nI 7 from rfl, x_le (by omega) (by omega)]; omega), c7_big (nneg (by omega)) ((x_le (by omega) (by omega)).mpr (by omega)), calS, if_pos rfl]
      exact One.no rfl rfl
  rw [if_neg h6, if_neg h6]
  have h7 : g p = 112 := by
    by_cases h7 : g p = 112
    · exact h7
    · exfalso
      have f4 : foI (g p) = 4 := by unfold foI; rw [if_neg h1, if_neg h2, if_neg h3, if_neg h4, if_neg h7, if_neg h6]
      have : stB g p = (false, p) := by unfold stB; rw [if_neg h5, if_pos f4]
      rw [this] at hst
      exact absurd (congrArg Prod.fst hst) Bool.false_ne_true
  have sC : stB g p = fmB g [107, 59] (p + 1) := by unfold stB; rw [if_neg (by rw [h7]; decide), h7]; rfl
  rw [sC] at hst
  obtain ⟨f1, -⟩ := fm_t hst
  rw [ft107] at f1
  obtain ⟨j, hj, j1, j2⟩ := tk_of f1
  obtain ⟨r1, r2, ⟨w, hw, s1, s2, s3⟩, r4, r5⟩ := h
  rw [nI_1, S7 _ (by omega), calS, talker7 hF hx, calS, j1, s2]
  have e6 : fX6_addPerson nF 8 (nI j) t a = if nI w = 4 then some (0, t, a) else some (1, va_up t 517 (nI (w + 1)), va_up a 12 (upd (a 12) w (nI j))) := by
    unfold fX6_addPerson
    show (if (4 : Int32) ≤ t 517 then _ else _) = _
    rw [s1]
    by_cases h4 : w = 4
    · subst h4; rfl
    · rw [if_neg (by rw [show (4 : Int32) = nI 4 from rfl, x_le (by omega) (by omega)]; omega), if_neg (show ¬ nI w = 4 from lit_ne (n := 4) h4 (by omega) (by decide)), if_neg (nneg (by omega)), if_pos (show nI j < 5 from (x_lt (a := j) (b := 5) (by omega) (by omega)).mpr hj)]
      rw [bnd_ok (by omega) (by decide), nI_cl (by omega), nI_1]; rfl
  rw [e6]
  by_cases h4 : w = 4
  · subst h4
    exact One.no (v := nI (p + 1)) rfl rfl
  · have n4 : ¬ nI w = 4 := lit_ne (n := 4) h4 (by omega) (by decide)
    rw [if_neg n4, if_neg n4, bnd_ok (by omega) (by decide), nI_cl (by omega), nI_1]
    refine ⟨true, va_up t 517 (nI (w + 1)), va_up a 12 (upd (a 12) w (nI j)), va_up (va_up t' 3221 (nI (p + 1))) 3211 (nI (w + 1)), va_up a' 58 (upd (a' 58) w (g (p + 1))), rfl, rfl, ⟨fun q hq => up_ne (by omega), fun k hk => up_ne (by omega)⟩, ⟨fun q h1 h2 h3 h4 => by rw [up_ne h3, up_ne h1], fun k hk => up_ne (by omega)⟩, fun _ => ⟨⟨r1, r2, ⟨w + 1, by omega, up_same _ _ _, up_same _ _ _, fun i hi => ?_⟩, r4, r5⟩, Int32.le_refl _, ?_⟩⟩
    · show ∃ j', j' < 5 ∧ upd (a 12) w (nI j) i = nI j' ∧ upd (a' 58) w (g (p + 1)) i = tkL j'
      by_cases e9 : i = w
      · subst e9
        rw [upd_same, upd_same]
        exact ⟨j, hj, rfl, j2⟩
      · rw [upd_ne e9, upd_ne e9]
        exact s3 i (by omega)
    · rw [up_ne (by decide), up_same]; exact P1
end ONE
section ALL
variable {nF kb K E : Nat}
theorem skip8 {t : sT} {a : sA} {x : Int32} (hE : E < 64) : ∀ d j n, j + d = E → (∀ i, j ≤ i → i < E → a 51 i ≠ 59) → a 51 E = 59 → d < n → (gX8_tongueT nF kb n).2 x (va_up t 3221 (nI j)) a = (gX8_tongueT nF kb (n - d - 1)).1 (x + 1) (va_up t 3221 (nI (E + 1))) a := by
  intro d
  induction d with
  | zero =>
    intro j n hj hne h59 hn
    obtain ⟨n, rfl⟩ : ∃ m, n = m + 1 := ⟨n - 1, by omega⟩
    have : j = E := by omega
    subst this
    show gX8_tongueT_97 nF kb (gX8_tongueT nF kb n).1 (gX8_tongueT nF kb n).2 x _ a = _
    unfold gX8_tongueT_97
    rw [up_same, bnd_ok hE (by decide), nI_cl (by omega), if_pos h59, nI_1, up_up]
    rfl
  | succ d ih =>
    intro j n hj hne h59 hn
    obtain ⟨n, rfl⟩ : ∃ m, n = m + 1 := ⟨n - 1, by omega⟩
    show gX8_tongueT_97 nF kb (gX8_tongueT nF kb n).1 (gX8_tongueT nF kb n).2 x _ a = _
    unfold gX8_tongueT_97
    rw [up_same, bnd_ok (by omega) (by decide), nI_cl (by omega), if_neg (hne j (Nat.le_refl j) (by omega)), nI_1, up_up, ih (j + 1) n (by omega) (fun i h1 h2 => hne i (by omega) h2) h59 (by omega), show n + 1 - (d + 1) - 1 = n - d - 1 by omega]
/-- both sides tell all that goes by; or both find the same fault -/
theorem tell_all (hF : 100 ≤ nF) (hK : K ≤ 64) {c9 : Nat} : ∀ d p c tn n n' (t : sT) (a : sA) (t' : sT) (a' : sA), K ≤ p + d → p ≤ K → tn ≤ p → d < n → 3 * (K - p) + 1 ≤ n' → t 65 = nI K → t' 3201 = nI K → (∀ i, i < K → a 2 i = a' 51 i) → (∀ i, i < K → ∃ c, c ≤ 255 ∧ a 2 i = nI c) → scn (sg K (a 2)) K (d + 1) p c = (true, c9) → DR t a t' a' → ∃ r t1 a1 t2 a2, gX1_tellTo nF 8 n (nI c) (nI p) (nI tn) t a = some (r, t1, a1) ∧ cFr t t1 a a1 ∧ ((∃ t3, r = nI c9 ∧ (gX8_tongueT nF kb n').1 (nI c) (va_up t' 3221 (nI p)) a' = some (r, t3, a2) ∧ t3 = va_up t2 3201 0 ∧ mFr t' t2 a' a2 ∧ DR t1 a1 t2 a2 ∧ t 516 ≤ t1 516) ∨ (∃ p', p' < 64 ∧ r = (-2000 : Int32) - nI p' ∧ mFr t' t2 a' a2 ∧ (gX8_tongueT nF kb n').1 (nI c) (va_up t' 3221 (nI p)) a' = cal (fX8_takeFrom nF 50 kb t2 a2) (fun v3 t3 a3 => some (r, va_up t3 3201 (0 : Int32), a3)))) := by
  intro d
  induction d with
  | zero =>
    intro p c tn n n' t a t' a' hd hp ht hn hn' q q' hl hs hsc h
    obtain ⟨n, rfl⟩ : ∃ m, n = m + 1 := ⟨n - 1, by omega⟩
    obtain ⟨n', rfl⟩ : ∃ m, n' = m + 1 := ⟨n' - 1, by omega⟩
    have e0 : scn (sg K (a 2)) K (0 + 1) p c = (true, c) := by
      show (if K ≤ p then (true, c) else _) = _
      rw [if_pos (by omega)]
    rw [e0] at hsc
    have ec : c = c9 := congrArg Prod.snd hsc
    subst ec
    have le : nI K ≤ nI p := (x_le (by omega) (by omega)).mpr (by omega)
    refine ⟨nI c, t, a, va_up t' 3221 (nI p), a', ?_, cFr.rf, Or.inl ⟨_, rfl, ?_, rfl, mFr.pl, h.pl, Int32.le_refl _⟩⟩
    · show gX1_tellTo_7 nF 8 (gX1_tellTo nF 8 n) _ _ _ t a = _
      unfold gX1_tellTo_7
      rw [q, if_pos le]
    · show gX8_tongueT_55 nF kb (gX8_tongueT nF kb n').1 (gX8_tongueT nF kb n').2 _ _ a' = _
      unfold gX8_tongueT_55
      rw [up_ne (by decide), up_same, q', if_pos le]
  | succ d ih =>
    intro p c tn n n' t a t' a' hd hp ht hn hn' q q' hl hs hsc h
    obtain ⟨n, rfl⟩ : ∃ m, n = m + 1 := ⟨n - 1, by omega⟩
    obtain ⟨n', rfl⟩ : ∃ m, n' = m + 1 := ⟨n' - 1, by omega⟩
    have e7 : gX1_tellTo nF 8 (n + 1) (nI c) (nI p) (nI tn) t a = gX1_tellTo_7 nF 8 (gX1_tellTo nF 8 n) (nI c) (nI p) (nI tn) t a := rfl
    have e8 : (gX8_tongueT nF kb (n' + 1)).1 (nI c) (va_up t' 3221 (nI p)) a' = gX8_tongueT_55 nF kb (gX8_tongueT nF kb n').1 (gX8_tongueT nF kb n').2 (nI c) (va_up t' 3221 (nI p)) a' := rfl
    have e0 : scn (sg K (a 2)) K (d + 1 + 1) p c = if K ≤ p then (true, c) else if (stB (sg K (a 2)) p).1 then scn (sg K (a 2)) K (d + 1) (stB (sg K (a 2)) p).2 (c + 1) else (false, (stB (sg K (a 2)) p).2) := rfl
    rw [e0] at hsc
    rw [e7, e8]
    unfold gX1_tellTo_7 gX8_tongueT_55
    rw [q, up_ne (show 3201 ≠ 3221 by decide), up_same, q']
    by_cases h1 : K ≤ p
    · rw [if_pos h1] at hsc
      have ec : c = c9 := congrArg Prod.snd hsc
      subst ec
      have le : nI K ≤ nI p := (x_le (by omega) (by omega)).mpr (by omega)
      rw [if_pos le, if_pos le]
      exact ⟨nI c, t, a, va_up t' 3221 (nI p), a', rfl, cFr.rf, Or.inl ⟨_, rfl, rfl, rfl, mFr.pl, h.pl, Int32.le_refl _⟩⟩
    · rw [if_neg h1] at hsc
      have nle : ¬ nI K ≤ nI p := by rw [x_le (by omega) (by omega)]; exact h1
      by_cases h2 : (stB (sg K (a 2)) p).1 = true
      · rw [if_pos h2] at hsc
        obtain ⟨e, he⟩ : ∃ e, stB (sg K (a 2)) p = (true, e) := ⟨(stB (sg K (a 2)) p).2, by rw [← h2]⟩
        have hk := stB_K h2
        obtain ⟨g1, g2, g3⟩ := stB_ok.1 h2
        rw [he] at hsc hk g1 g2 g3
        have hk : e ≤ K := hk
        have g1 : p + 2 ≤ e := g1
        have g2 : sg K (a 2) (e - 1) = 59 := g2
        have g3 : ∀ j, p ≤ j → j + 1 < e → sg K (a 2) j ≠ 59 := g3
        have hsc : scn (sg K (a 2)) K (d + 1) e (c + 1) = (true, c9) := hsc
        obtain ⟨b, t1, a1, t1', a1', o1, o2, f1, f2, f3⟩ := one_ok hF hK q q' hl hs he h
        have eb : rsB (stB (sg K (a 2)) p) = nI e := by rw [he]; rfl
        rw [if_neg nle, if_neg nle, if_neg (by rw [show (64 : Int32) = nI 64 from rfl, x_le (by omega) (by omega)]; omega), behind7 hF q hK hs (by omega), calS, eb, if_pos (Int32.not_lt.mp (nneg (by omega))), show nI e - 1 = nI (e - 1) from pk_sub (a := e) (b := 1) (by omega), o1, calS, o2, calS]
        cases b with
        | false =>
          rw [b2F, if_pos rfl, if_pos rfl]
          exact ⟨_, t1, a1, t1', a1', rfl, f1, Or.inr ⟨p, by omega, rfl, f2, rfl⟩⟩
        | true =>
          obtain ⟨d1, d2, pe, d3, d4, d5⟩ := f3 rfl
          rw [b2T, if_neg one0, if_neg one0, nI_1, nI_1]
          have a2e : a1 2 = a 2 := f1.2 2 (by omega)
          have a51 : a1' 51 = a' 51 := f2.2 51 (by omega)
          have hlt : ∀ i, i < K → a1' 51 i = sg K (a 2) i := fun i hi => by rw [a51, ← hl i hi]; unfold sg; rw [if_pos hi]
          have sk := skip8 (nF := nF) (kb := kb) (t := t1') (a := a1') (x := nI c) (E := e - 1) (by omega) (e - 1 - pe) pe n' (by omega) (fun i hi hi2 => by rw [hlt i (by omega)]; exact g3 i (by omega) (by omega)) (by rw [hlt _ (by omega)]; exact g2) (by omega)
          have self : va_up t1' 3221 (nI pe) = t1' := by rw [← d3]; exact up_id t1' 3221
          rw [self, nI_1, show e - 1 + 1 = e by omega] at sk
          rw [sk]
          have q1' : t1' 3201 = nI K := (f2.1 3201 (by decide) (by decide) (by decide) (by decide)).trans q'
          obtain ⟨r, t4, a4, t5, a5, i1, i2, i3⟩ := ih e (c + 1) (tn + 1) n (n' - (e - 1 - pe) - 1) t1 a1 t1' a1' (by omega) hk (by omega) (by omega) (by omega) ((f1.1 65 (by omega)).trans q) q1' (by rw [a2e, a51]; exact hl) (by rw [a2e]; exact hs) (by rw [a2e]; exact hsc) d1
          refine ⟨r, t4, a4, t5, a5, i1, f1.tr i2, ?_⟩
          rcases i3 with ⟨t3, j1, j2, j3, j4, j5, j6⟩ | ⟨p', j1, j2, j3, j4⟩
          · exact Or.inl ⟨t3, j1, j2, j3, f2.tr j4, j5, Int32.le_trans d2 j6⟩
          · exact Or.inr ⟨p', j1, j2, f2.tr j3, j4⟩
      · rw [if_neg h2] at hsc
        exact absurd (congrArg Prod.fst hsc) Bool.false_ne_true
end ALL
