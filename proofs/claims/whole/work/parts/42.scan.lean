/-! tongue: the scan of the letters, on both sides -/
def R8 (r : Bool × Nat) (t : sT) (a : sA) : Rs := some (b2I r.1, va_up t 3221 (nI r.2), a)
def teB (g : Nat → Int32) (p e : Nat) : Bool × Nat := if e = p + 1 then (false, p + 1) else if g e = 59 then (true, e + 1) else (false, e)
theorem dgr_spec (g : Nat → Int32) : ∀ n p, p ≤ dgr g n p ∧ dgr g n p ≤ p + n ∧ ∀ j, p ≤ j → j < dgr g n p → isDg (g j) = true := by
  intro n
  induction n with
  | zero => intro p; exact ⟨Nat.le_refl p, Nat.le_refl p, fun j h1 h2 => absurd h2 (by show ¬ j < p; omega)⟩
  | succ n ih =>
    intro p
    show p ≤ (if isDg (g p) then dgr g n (p + 1) else p) ∧ (if isDg (g p) then dgr g n (p + 1) else p) ≤ p + (n + 1) ∧ ∀ j, p ≤ j → j < (if isDg (g p) then dgr g n (p + 1) else p) → isDg (g j) = true
    by_cases h : isDg (g p) = true
    · rw [if_pos h]
      obtain ⟨h1, h2, h3⟩ := ih (p + 1)
      refine ⟨by omega, by omega, fun j h4 h5 => ?_⟩
      by_cases e : j = p
      · subst e; exact h
      · exact h3 j (by omega) h5
    · rw [if_neg h]
      exact ⟨Nat.le_refl p, by omega, fun j h1 h2 => absurd h2 (by omega)⟩
section SC
variable {nF K p : Nat} {t : sT} {a : sA}
theorem rsBt {e : Nat} : rsB (true, e) = nI e := rfl
theorem rsBf {e : Nat} : rsB (false, e) = (-1000 : Int32) - nI e := rfl
theorem fin7 (q : t 65 = nI K) (hK : K ≤ 64) {e : Nat} (hp : p < 1000) (he : e < 2000) : (if nI e = nI p + 1 then some ((-1000 : Int32) - nI e, t, a) else cal (fX1_sign nF (nI e) t a) (fun v1 t1 a1 => if v1 = (59 : Int32) then some (nI e + (1 : Int32), t1, a1) else some ((-1000 : Int32) - nI e, t1, a1))) = some (rsB (teB (sg K (a 2)) p e), t, a) := by
  unfold teB
  rw [nI_1, sign7 q hK (by omega), calS]
  by_cases h : e = p + 1
  · rw [if_pos ((x_eq (by omega) (by omega)).mpr h), if_pos h, rsBf, h]
  · rw [if_neg (fun y => h ((x_eq (by omega) (by omega)).mp y)), if_neg h]
    by_cases g : sg K (a 2) e = 59
    · rw [if_pos g, if_pos g, nI_1, rsBt]
    · rw [if_neg g, if_neg g, rsBf]
theorem tell_loop7 (q : t 65 = nI K) (hK : K ≤ 64) (hp : p < 1000) : ∀ d x e n, x + d = 8 → e ≤ p + 1 + x → d < n → gX1_behindTelling nF n (nI p) (nI e) (nI x) t a = some (rsB (teB (sg K (a 2)) p (dgr (sg K (a 2)) d e)), t, a) := by
  intro d
  induction d with
  | zero =>
    intro x e n hx he hn
    obtain ⟨n, rfl⟩ : ∃ m, n = m + 1 := ⟨n - 1, by omega⟩
    have : x = 8 := by omega
    subst this
    show gX1_behindTelling_6 nF (gX1_behindTelling nF n) _ _ _ t a = _
    unfold gX1_behindTelling_6
    rw [if_pos (by decide)]
    exact fin7 q hK hp (by omega)
  | succ d ih =>
    intro x e n hx he hn
    obtain ⟨n, rfl⟩ : ∃ m, n = m + 1 := ⟨n - 1, by omega⟩
    show gX1_behindTelling_6 nF (gX1_behindTelling nF n) _ _ _ t a = _
    unfold gX1_behindTelling_6
    rw [if_neg (by rw [show (8 : Int32) = nI 8 from rfl, x_le (by omega) (by omega)]; omega), sign7 q hK (by omega), calS, isDg7, calS]
    show _ = some (rsB (teB (sg K (a 2)) p (if isDg (sg K (a 2) e) then dgr (sg K (a 2)) d (e + 1) else e)), t, a)
    cases isDg (sg K (a 2) e)
    · rw [b2F, if_pos rfl]
      exact fin7 q hK hp (by omega)
    · rw [b2T, if_neg one0, nI_1, nI_1]
      exact ih (x + 1) (e + 1) n (by omega) (by omega) (by omega)
theorem foI_lt (x : Int32) : foI x ≤ 4 := by
  unfold foI
  repeat' split
  all_goals decide
theorem formOf7 {x : Int32} : fX1_formOf nF x t a = some (nI (foI x), t, a) := by
  unfold fX1_formOf foI
  by_cases h1 : x = 105
  · rw [if_pos h1, if_pos h1]; rfl
  · rw [if_neg h1, if_neg h1]
    by_cases h2 : x = 108
    · rw [if_pos h2, if_pos h2]; rfl
    · rw [if_neg h2, if_neg h2]
      by_cases h3 : x = 110
      · rw [if_pos h3, if_pos h3]; rfl
      · rw [if_neg h3, if_neg h3]
        by_cases h4 : x = 111
        · rw [if_pos h4, if_pos h4]; rfl
        · rw [if_neg h4, if_neg h4]
          by_cases h5 : x = 112
          · rw [if_pos h5, if_pos h5]; rfl
          · rw [if_neg h5, if_neg h5]
            by_cases h6 : x = 119
            · rw [if_pos h6, if_pos h6]; rfl
            · rw [if_neg h6, if_neg h6]; rfl
theorem behind7 (hF : 100 ≤ nF) (q : t 65 = nI K) (hK : K ≤ 64) (hs : ∀ i, i < K → ∃ c, c ≤ 255 ∧ a 2 i = nI c) (hp : p < 1000) : fX1_behind nF (nI p) t a = some (rsB (stB (sg K (a 2)) p), t, a) := by
  unfold fX1_behind stB
  rw [sign7 q hK (by omega), calS]
  by_cases h1 : sg K (a 2) p = 116
  · rw [if_pos h1, if_pos h1]
    unfold fX1_behindTelling
    rw [nI_1, show (0 : Int32) = nI 0 from rfl, tell_loop7 q hK hp 8 0 (p + 1) nF (by omega) (by omega) (by omega), calS]
    rfl
  · rw [if_neg h1, if_neg h1, formOf7, calS]
    have hf := foI_lt (sg K (a 2) p)
    rw [bnd_ok (by omega) (by decide), nI_cl (by omega)]
    unfold fX1_behindForm fJ0_isEmpty_aae02
    by_cases h4 : foI (sg K (a 2) p) = 4
    · rw [if_pos h4, h4]
      show cal (cal (some ((1 : Int32), t, a)) _) _ = _
      rw [calS, if_neg one0, calS, rsBf]
    · rw [if_neg h4]
      have hlt : foI (sg K (a 2) p) < 4 := by omega
      have hne : ¬ (Int32.ofNat (strN.getD (foI (sg K (a 2) p)) 0)) = 0 := by
        have : ∀ i, i < 4 → ¬ (Int32.ofNat (strN.getD i 0)) = 0 := by decide
        exact this _ hlt
      rw [if_neg hne]
      show cal (cal (some ((0 : Int32), t, a)) _) _ = _
      have := form7 (nF := nF) hF q hK hs hp hlt (strN.getD (foI (sg K (a 2) p)) 0) 0 nF (by omega) (by
        have : ∀ i, i < 4 → strN.getD i 0 ≤ 4 := by decide
        have := this _ hlt
        omega)
      rw [calS, if_pos rfl, show (0 : Int32) = nI 0 from rfl, this, calS]
      rfl
/-! the reference's -/
theorem ft48 {x : Int32} : ftS 48 x = isDg x := if_pos rfl
theorem ft107 {x : Int32} : ftS 107 x = isTkr x := by unfold ftS; rw [if_neg (by decide), if_pos rfl]
theorem ft44 {x : Int32} : ftS 44 x = decide (x = 44) := by unfold ftS; rw [if_neg (by decide), if_neg (by decide)]
theorem ft59 {x : Int32} : ftS 59 x = decide (x = 59) := by unfold ftS; rw [if_neg (by decide), if_neg (by decide)]
theorem fm_cons {g : Nat → Int32} {c : Int32} {cs : List Int32} : fmB g (c :: cs) p = if ftS c (g p) then fmB g cs (p + 1) else (false, p) := rfl
theorem fm59 {g : Nat → Int32} : fmB g [59] p = if g p = 59 then (true, p + 1) else (false, p) := by
  rw [fm_cons, ft59]
  by_cases h : g p = 59
  · rw [if_pos h, if_pos (decide_eq_true h)]; rfl
  · rw [if_neg h, if_neg (by rw [decide_eq_true_iff]; exact h)]
theorem semi8 (q : t 3201 = nI K) (hK : K ≤ 64) (hp : p < 2 ^ 30) : cal (fX8_must nF (59 : Int32) (va_up t 3221 (nI p)) a) (fun v19 t19 a19 => zok v19 (some (v19, t19, a19))) = R8 (fmB (sg K (a 51)) [59] p) t a := by
  rw [must8 (by decide) q hK hp, fm59]
  by_cases h : sg K (a 51) p = 59
  · rw [if_pos h, if_pos h]; rfl
  · rw [if_neg h, if_neg h]; rfl
theorem te_fm {g : Nat → Int32} {e : Nat} (h : ¬ e = p + 1) : teB g p e = fmB g [59] e := by
  unfold teB
  rw [if_neg h, fm59]
theorem goes_loop8 (q : t 3201 = nI K) (hK : K ≤ 64) (hp : p < 1000) : ∀ d x e n, x + d = 8 → e = p + 1 + x → d < n → gX8_goesBy nF n (nI x) (va_up t 3221 (nI e)) a = R8 (teB (sg K (a 51)) p (dgr (sg K (a 51)) d e)) t a := by
  have fin : ∀ x e, x ≤ 8 → e = p + 1 + x → (if nI x = 0 then (zok (0 : Int32) (some ((0 : Int32), va_up t 3221 (nI e), a))) else cal (fX8_must nF (59 : Int32) (va_up t 3221 (nI e)) a) (fun v19 t19 a19 => zok v19 (some (v19, t19, a19)))) = R8 (teB (sg K (a 51)) p e) t a := by
    intro x e hx he
    by_cases h : x = 0
    · subst h
      have : e = p + 1 := by omega
      subst this
      unfold teB
      rw [if_pos z00, if_pos rfl]; rfl
    · rw [if_neg (by rw [nI0 (by omega)]; exact h), semi8 q hK (by omega), te_fm (by omega)]
  intro d
  induction d with
  | zero =>
    intro x e n hx he hn
    obtain ⟨n, rfl⟩ : ∃ m, n = m + 1 := ⟨n - 1, by omega⟩
    have : x = 8 := by omega
    subst this
    show gX8_goesBy_11 nF (gX8_goesBy nF n) _ _ a = _
    unfold gX8_goesBy_11
    rw [if_pos (by decide)]
    exact fin 8 e (by omega) he
  | succ d ih =>
    intro x e n hx he hn
    obtain ⟨n, rfl⟩ : ∃ m, n = m + 1 := ⟨n - 1, by omega⟩
    show gX8_goesBy_11 nF (gX8_goesBy nF n) _ _ a = _
    unfold gX8_goesBy_11
    rw [if_neg (by rw [show (8 : Int32) = nI 8 from rfl, x_le (by omega) (by omega)]; omega), digit8 q hK (by omega)]
    show _ = R8 (teB (sg K (a 51)) p (if isDg (sg K (a 51) e) then dgr (sg K (a 51)) d (e + 1) else e)) t a
    cases isDg (sg K (a 51) e)
    · rw [if_neg (by decide), calS, if_pos rfl]
      exact fin x e (by omega) he
    · rw [if_pos rfl, calS, if_neg one0, nI_1]
      exact ih (x + 1) (e + 1) n (by omega) (by omega) (by omega)
theorem goesBy8 (hF : 100 ≤ nF) (q : t 3201 = nI K) (hK : K ≤ 64) (hp : p < 1000) : fX8_goesBy nF (va_up t 3221 (nI p)) a = R8 (stB (sg K (a 51)) p) t a := by
  have M : ∀ (x : Int32) i, x ≠ -1 → i < 2 ^ 30 → fX8_must nF x (va_up t 3221 (nI i)) a = if sg K (a 51) i = x then some (1, va_up t 3221 (nI (i + 1)), a) else some (0, va_up t 3221 (nI i), a) := fun x i hx hi => must8 hx q hK hi
  have D : ∀ i, i < 2 ^ 30 → fX8_digit nF (va_up t 3221 (nI i)) a = if isDg (sg K (a 51) i) then some (1, va_up t 3221 (nI (i + 1)), a) else some (0, va_up t 3221 (nI i), a) := fun i hi => digit8 q hK hi
  have E : ∀ i, i < 2 ^ 30 → cal (fX8_must nF (59 : Int32) (va_up t 3221 (nI i)) a) (fun v19 t19 a19 => zok v19 (some (v19, t19, a19))) = R8 (fmB (sg K (a 51)) [59] i) t a := fun i hi => semi8 q hK hi
  have T := seesT8 (nF := nF) (i := p + 1) (a := a) q hK (by omega)
  have G := goes_loop8 (nF := nF) (a := a) q hK hp 8 0 (p + 1) nF (by omega) (by omega) (by omega)
  generalize hg : sg K (a 51) = g at M D E T G ⊢
  unfold fX8_goesBy
  rw [M 116 p (by decide) (by omega)]
  by_cases h1 : g p = 116
  · rw [if_pos h1, calS, if_neg one0, show (0 : Int32) = nI 0 from rfl, G]
    unfold stB
    rw [if_pos h1]; rfl
  · have sB : stB g p = if foI (g p) = 4 then (false, p) else fmB g (strB.getD (foI (g p)) []) (p + 1) := by unfold stB; rw [if_neg h1]
    rw [if_neg h1, calS, if_pos rfl, M 119 p (by decide) (by omega)]
    by_cases h2 : g p = 119
    · have sC : stB g p = fmB g [48, 44, 48, 59] (p + 1) := by rw [sB, h2]; rfl
      rw [if_pos h2, calS, if_neg one0, D _ (by omega), sC, fm_cons, ft48]
      cases isDg (g (p + 1))
      · rw [if_neg (by decide), if_neg (by decide), calS, if_pos rfl]; rfl
      · rw [if_pos rfl, if_pos rfl, calS, if_neg one0, M 44 _ (by decide) (by omega), fm_cons, ft44]
        by_cases h3 : g (p + 1 + 1) = 44
        · rw [if_pos h3, if_pos (decide_eq_true h3), calS, if_neg one0, D _ (by omega), fm_cons, ft48]
          cases isDg (g (p + 1 + 1 + 1))
          · rw [if_neg (by decide), if_neg (by decide), calS, if_pos rfl]; rfl
          · rw [if_pos rfl, if_pos rfl, calS, if_neg one0, E _ (by omega)]
        · rw [if_neg h3, if_neg (by rw [decide_eq_true_iff]; exact h3), calS, if_pos rfl]; rfl
    · rw [if_neg h2, calS, if_pos rfl, M 108 p (by decide) (by omega)]
      by_cases h3 : g p = 108
      · have sC : stB g p = fmB g [48, 59] (p + 1) := by rw [sB, h3]; rfl
        rw [if_pos h3, calS, if_neg one0, D _ (by omega), sC, fm_cons, ft48]
        cases isDg (g (p + 1))
        · rw [if_neg (by decide), if_neg (by decide), calS, if_pos rfl]; rfl
        · rw [if_pos rfl, if_pos rfl, calS, if_neg one0, E _ (by omega)]
      · rw [if_neg h3, calS, if_pos rfl, M 112 p (by decide) (by omega)]
        by_cases h4 : g p = 112
        · have sC : stB g p = fmB g [107, 59] (p + 1) := by rw [sB, h4]; rfl
          rw [if_pos h4, calS, if_neg one0, T, calS, sC, fm_cons, ft107]
          cases isTkr (g (p + 1))
          · rw [b2F, if_pos rfl, if_neg (by decide)]; rfl
          · rw [b2T, if_neg one0, if_pos rfl, up_same, up_up, nI_1, E _ (by omega)]
        · rw [if_neg h4, calS, if_pos rfl, M 110 p (by decide) (by omega)]
          by_cases h5 : g p = 110
          · have sC : stB g p = fmB g [59] (p + 1) := by rw [sB, h5]; rfl
            rw [if_pos h5, calS, if_neg one0, E _ (by omega), sC]
          · rw [if_neg h5, calS, if_pos rfl, M 111 p (by decide) (by omega)]
            by_cases h6 : g p = 111
            · have sC : stB g p = fmB g [59] (p + 1) := by rw [sB, h6]; rfl
              rw [if_pos h6, calS, if_neg one0, E _ (by omega), sC]
            · rw [if_neg h6, calS, if_pos rfl, M 105 p (by decide) (by omega)]
              by_cases h7 : g p = 105
              · have sC : stB g p = fmB g [59] (p + 1) := by rw [sB, h7]; rfl
                rw [if_pos h7, calS, if_neg one0, E _ (by omega), sC]
              · have f4 : foI (g p) = 4 := by unfold foI; rw [if_neg h7, if_neg h3, if_neg h5, if_neg h6, if_neg h4, if_neg h2]
                rw [if_neg h7, calS, if_pos rfl, sB, if_pos f4]; rfl
end SC
/-! what a statement that goes by looks like -/
theorem dg59 : isDg 59 = false := by decide
theorem fmB_ok {g : Nat → Int32} : ∀ l p, (∀ c, c ∈ l → c = 48 ∨ c = 107 ∨ c = 44) → ((fmB g (l ++ [59]) p).1 = true → (fmB g (l ++ [59]) p).2 = p + l.length + 1 ∧ g (p + l.length) = 59 ∧ ∀ j, p ≤ j → j < p + l.length → g j ≠ 59) ∧ p ≤ (fmB g (l ++ [59]) p).2 ∧ (fmB g (l ++ [59]) p).2 ≤ p + l.length + 1 := by
  intro l
  induction l with
  | nil =>
    intro p _
    have e0 : fmB g ([] ++ [59]) p = fmB g [59] p := rfl
    rw [e0, fm59]
    by_cases h : g p = 59
    · rw [if_pos h]
      exact ⟨fun _ => ⟨rfl, h, fun j h1 h2 => absurd h2 (by show ¬ j < p + 0; omega)⟩, by show p ≤ p + 1; omega, by show p + 1 ≤ p + 0 + 1; omega⟩
    · rw [if_neg h]
      exact ⟨fun e => absurd e Bool.false_ne_true, Nat.le_refl p, by show p ≤ p + 0 + 1; omega⟩
  | cons c l ih =>
    intro p hc
    obtain ⟨i1, i2, i3⟩ := ih (p + 1) (fun c h => hc c (List.mem_cons_of_mem _ h))
    have e0 : fmB g ((c :: l) ++ [59]) p = if ftS c (g p) then fmB g (l ++ [59]) (p + 1) else (false, p) := rfl
    have el : (c :: l).length = l.length + 1 := rfl
    rw [e0, el]
    by_cases h : ftS c (g p) = true
    · rw [if_pos h]
      refine ⟨fun e => ?_, by omega, by omega⟩
      obtain ⟨j1, j2, j3⟩ := i1 e
      refine ⟨by rw [j1]; show p + 1 + l.length + 1 = p + (l.length + 1) + 1; omega, ?_, fun j h1 h2 => ?_⟩
      · rw [← j2]; exact congrArg g (show p + (l.length + 1) = p + 1 + l.length by omega)
      · have h2 : j < p + (l.length + 1) := h2
        by_cases e : j = p
        · subst e
          intro e9
          rw [e9] at h
          rcases hc c (List.mem_cons_self ..) with rfl | rfl | rfl
          · exact absurd h (by decide)
          · exact absurd h (by decide)
          · exact absurd h (by decide)
        · exact j3 j (by omega) (by omega)
    · rw [if_neg h]
      exact ⟨fun e => absurd e Bool.false_ne_true, Nat.le_refl p, by show p ≤ _; omega⟩
theorem foI_59 : foI 59 = 4 := by decide
theorem stB_ok {g : Nat → Int32} {p : Nat} : ((stB g p).1 = true → p + 2 ≤ (stB g p).2 ∧ g ((stB g p).2 - 1) = 59 ∧ ∀ j, p ≤ j → j + 1 < (stB g p).2 → g j ≠ 59) ∧ (stB g p).2 ≤ p + 10 := by
  by_cases h1 : g p = 116
  · have sB : stB g p = teB g p (dgr g 8 (p + 1)) := by unfold stB; rw [if_pos h1]; rfl
    obtain ⟨d1, d2, d3⟩ := dgr_spec g 8 (p + 1)
    rw [sB]
    unfold teB
    by_cases e : dgr g 8 (p + 1) = p + 1
    · rw [if_pos e]
      exact ⟨fun y => absurd y Bool.false_ne_true, by show p + 1 ≤ p + 10; omega⟩
    · rw [if_neg e]
      by_cases h2 : g (dgr g 8 (p + 1)) = 59
      · rw [if_pos h2]
        refine ⟨fun _ => ⟨by show p + 2 ≤ dgr g 8 (p + 1) + 1; omega, h2, fun j h3 h4 => ?_⟩, by show dgr g 8 (p + 1) + 1 ≤ p + 10; omega⟩
        have h4 : j + 1 < dgr g 8 (p + 1) + 1 := h4
        intro e9
        by_cases e : j = p
        · subst e
          rw [e9] at h1
          exact absurd h1 (by decide)
        · have := d3 j (by omega) (by omega)
          rw [e9, dg59] at this
          exact absurd this (by decide)
      · rw [if_neg h2]
        exact ⟨fun y => absurd y Bool.false_ne_true, by show dgr g 8 (p + 1) ≤ p + 10; omega⟩
  · have sB : stB g p = if foI (g p) = 4 then (false, p) else fmB g (strB.getD (foI (g p)) []) (p + 1) := by unfold stB; rw [if_neg h1]
    by_cases h4 : foI (g p) = 4
    · rw [sB, if_pos h4]
      exact ⟨fun y => absurd y Bool.false_ne_true, by show p ≤ p + 10; omega⟩
    · rw [sB, if_neg h4]
      have hf := foI_lt (g p)
      have key : ∃ l : List Int32, strB.getD (foI (g p)) [] = l ++ [59] ∧ l.length ≤ 3 ∧ ∀ c, c ∈ l → c = 48 ∨ c = 107 ∨ c = 44 := by
        have : foI (g p) = 0 ∨ foI (g p) = 1 ∨ foI (g p) = 2 ∨ foI (g p) = 3 := by omega
        rcases this with e | e | e | e <;> rw [e]
        · exact ⟨[], rfl, by decide, by decide⟩
        · exact ⟨[48, 44, 48], rfl, by decide, by decide⟩
        · exact ⟨[48], rfl, by decide, by decide⟩
        · exact ⟨[107], rfl, by decide, by decide⟩
      obtain ⟨l, e1, e2, e3⟩ := key
      rw [e1]
      obtain ⟨i1, i2, i3⟩ := fmB_ok (g := g) l (p + 1) e3
      refine ⟨fun y => ?_, by omega⟩
      obtain ⟨j1, j2, j3⟩ := i1 y
      rw [j1]
      refine ⟨by omega, ?_, fun j h5 h6 => ?_⟩
      · rw [← j2]; exact congrArg g (by omega)
      · by_cases e : j = p
        · subst e
          intro e9
          rw [e9] at h4
          exact h4 foI_59
        · exact j3 j (by omega) (by omega)
theorem stB_K {K p : Nat} {A : Nat → Int32} (h : (stB (sg K A) p).1 = true) : (stB (sg K A) p).2 ≤ K := by
  obtain ⟨h1, h2, -⟩ := stB_ok.1 h
  rcases Nat.lt_or_ge ((stB (sg K A) p).2 - 1) K with g | g
  · omega
  · exfalso
    have e1 : sg K A ((stB (sg K A) p).2 - 1) = -1 := if_neg (by omega)
    rw [e1] at h2
    exact absurd h2 (by decide)
/-! all statements -/
def scn (g : Nat → Int32) (K : Nat) : Nat → Nat → Nat → Bool × Nat
  | 0, _, c => (true, c)
  | d + 1, p, c => if K ≤ p then (true, c) else if (stB g p).1 then scn g K d (stB g p).2 (c + 1) else (false, (stB g p).2)
theorem scn_ok {K : Nat} {A : Nat → Int32} : ∀ d p c, p ≤ K → ((scn (sg K A) K d p c).1 = true → c ≤ (scn (sg K A) K d p c).2 ∧ (scn (sg K A) K d p c).2 ≤ c + d) ∧ ((scn (sg K A) K d p c).1 = false → (scn (sg K A) K d p c).2 ≤ K + 10) := by
  intro d
  induction d with
  | zero => intro p c hp; exact ⟨fun _ => ⟨Nat.le_refl c, Nat.le_refl c⟩, fun e => absurd (Eq.symm e) Bool.false_ne_true⟩
  | succ d ih =>
    intro p c hp
    have e0 : scn (sg K A) K (d + 1) p c = if K ≤ p then (true, c) else if (stB (sg K A) p).1 then scn (sg K A) K d (stB (sg K A) p).2 (c + 1) else (false, (stB (sg K A) p).2) := rfl
    rw [e0]
    by_cases h1 : K ≤ p
    · rw [if_pos h1]
      exact ⟨fun _ => ⟨Nat.le_refl c, by show c ≤ c + (d + 1); omega⟩, fun e => absurd (Eq.symm e) Bool.false_ne_true⟩
    · rw [if_neg h1]
      by_cases h2 : (stB (sg K A) p).1 = true
      · rw [if_pos h2]
        obtain ⟨i1, i2⟩ := ih (stB (sg K A) p).2 (c + 1) (stB_K h2)
        exact ⟨fun e => ⟨by have := i1 e; omega, by have := i1 e; omega⟩, i2⟩
      · rw [if_neg h2]
        have := (stB_ok (g := sg K A) (p := p)).2
        exact ⟨fun e => absurd e Bool.false_ne_true, fun _ => by show (stB (sg K A) p).2 ≤ _; omega⟩
section ST
variable {nF K : Nat} {t : sT} {a : sA}
theorem nonneg_rsBf {e : Nat} (h : e < 2000) : ¬ (0 : Int32) ≤ (-1000 : Int32) - nI e := by
  have : ∀ e, e < 2000 → ¬ (0 : Int32) ≤ (-1000 : Int32) - nI e := by decide +kernel
  exact this e h
theorem statements7 (hF : 100 ≤ nF) (q : t 65 = nI K) (hK : K ≤ 64) (hs : ∀ i, i < K → ∃ c, c ≤ 255 ∧ a 2 i = nI c) : ∀ d p c tn n, K ≤ p + d → p ≤ K → tn ≤ p → d < n → gX1_statements nF n (nI c) (nI p) (nI tn) t a = some (rsB (scn (sg K (a 2)) K (d + 1) p c), t, a) := by
  intro d
  induction d with
  | zero =>
    intro p c tn n hd hp ht hn
    obtain ⟨n, rfl⟩ : ∃ m, n = m + 1 := ⟨n - 1, by omega⟩
    show gX1_statements_17 nF (gX1_statements nF n) _ _ _ t a = some (rsB (if K ≤ p then (true, c) else _), t, a)
    unfold gX1_statements_17
    rw [q, if_pos ((x_le (by omega) (by omega)).mpr (by omega)), if_pos (by omega)]
    rfl
  | succ d ih =>
    intro p c tn n hd hp ht hn
    obtain ⟨n, rfl⟩ : ∃ m, n = m + 1 := ⟨n - 1, by omega⟩
    show gX1_statements_17 nF (gX1_statements nF n) _ _ _ t a = some (rsB (if K ≤ p then (true, c) else if (stB (sg K (a 2)) p).1 then scn (sg K (a 2)) K (d + 1) (stB (sg K (a 2)) p).2 (c + 1) else (false, (stB (sg K (a 2)) p).2)), t, a)
    unfold gX1_statements_17
    by_cases h1 : K ≤ p
    · rw [q, if_pos ((x_le (by omega) (by omega)).mpr h1), if_pos h1]
      rfl
    · rw [q, if_neg (by rw [x_le (by omega) (by omega)]; exact h1), if_neg h1, if_neg (by rw [show (64 : Int32) = nI 64 from rfl, x_le (by omega) (by omega)]; omega), behind7 hF q hK hs (by omega), calS]
      have hb := (stB_ok (g := sg K (a 2)) (p := p)).2
      by_cases h2 : (stB (sg K (a 2)) p).1 = true
      · have hk := stB_K h2
        obtain ⟨g1, -, -⟩ := stB_ok.1 h2
        have e1 : rsB (stB (sg K (a 2)) p) = nI (stB (sg K (a 2)) p).2 := by unfold rsB; rw [if_pos h2]
        rw [if_pos h2, e1, if_pos (Int32.not_lt.mp (nneg (by omega))), nI_1, nI_1]
        exact ih _ _ _ _ (by omega) hk (by omega) (by omega)
      · have e1 : rsB (stB (sg K (a 2)) p) = (-1000 : Int32) - nI (stB (sg K (a 2)) p).2 := by unfold rsB; rw [if_neg h2]
        rw [if_neg h2, e1, if_neg (nonneg_rsBf (by omega)), rsBf]
theorem fault8 (hF : 100 ≤ nF) (q : t 3201 = nI K) (hK : K ≤ 64) : ∀ d p c n, K ≤ p + d → p ≤ K → d < n → ∃ pe, gX8_faultOfForm nF n (va_up t 3221 (nI p)) a = some (if (scn (sg K (a 51)) K (d + 1) p c).1 then (-9 : Int32) else nI (scn (sg K (a 51)) K (d + 1) p c).2, va_up t 3221 (nI pe), a) := by
  intro d
  induction d with
  | zero =>
    intro p c n hd hp hn
    obtain ⟨n, rfl⟩ : ∃ m, n = m + 1 := ⟨n - 1, by omega⟩
    have e0 : scn (sg K (a 51)) K (0 + 1) p c = (true, c) := by
      show (if K ≤ p then (true, c) else _) = _
      rw [if_pos (by omega)]
    refine ⟨p, ?_⟩
    show gX8_faultOfForm_17 nF (gX8_faultOfForm nF n) _ a = _
    unfold gX8_faultOfForm_17
    rw [up_ne (by decide), up_same, q, if_pos ((x_le (by omega) (by omega)).mpr (by omega)), e0, if_pos rfl]
  | succ d ih =>
    intro p c n hd hp hn
    obtain ⟨n, rfl⟩ : ∃ m, n = m + 1 := ⟨n - 1, by omega⟩
    have e0 : scn (sg K (a 51)) K (d + 1 + 1) p c = if K ≤ p then (true, c) else if (stB (sg K (a 51)) p).1 then scn (sg K (a 51)) K (d + 1) (stB (sg K (a 51)) p).2 (c + 1) else (false, (stB (sg K (a 51)) p).2) := rfl
    have e9 : ∀ t', gX8_faultOfForm nF (n + 1) t' a = gX8_faultOfForm_17 nF (gX8_faultOfForm nF n) t' a := fun _ => rfl
    rw [e9, e0]
    unfold gX8_faultOfForm_17
    rw [up_ne (by decide), up_same, q]
    by_cases h1 : K ≤ p
    · rw [if_pos ((x_le (by omega) (by omega)).mpr h1), if_pos h1]
      exact ⟨p, rfl⟩
    · rw [if_neg (by rw [x_le (by omega) (by omega)]; exact h1), if_neg h1, goesBy8 hF q hK (by omega)]
      unfold R8
      rw [calS]
      by_cases h2 : (stB (sg K (a 51)) p).1 = true
      · have hk := stB_K h2
        obtain ⟨g1, -, -⟩ := stB_ok.1 h2
        obtain ⟨pe, g2⟩ := ih (stB (sg K (a 51)) p).2 (c + 1) n (by omega) hk (by omega)
        refine ⟨pe, ?_⟩
        rw [if_pos h2, h2, b2T, if_neg one0]
        exact g2
      · refine ⟨(stB (sg K (a 51)) p).2, ?_⟩
        have h3 : (stB (sg K (a 51)) p).1 = false := by cases e : (stB (sg K (a 51)) p).1; rfl; exact absurd e h2
        rw [if_neg h2, h3, b2F, if_pos rfl, up_same]
        rfl
theorem up0 {v w : Int32} {k : Nat} : va_up (va_up t k v) k w = va_up t k w := up_up t k v w
theorem faultOf8 (hF : 100 ≤ nF) (q : t 3201 = nI K) (hK : K ≤ 64) : ∃ pe, fX8_faultOfForm nF t a = some (if K = 0 then 0 else if (scn (sg K (a 51)) K (K + 1) 0 0).1 then (-9 : Int32) else nI (scn (sg K (a 51)) K (K + 1) 0 0).2, va_up t 3221 (nI pe), a) := by
  unfold fX8_faultOfForm
  rw [show va_up t 3221 (0 : Int32) = va_up t 3221 (nI 0) from rfl, goesBy8 hF q hK (by omega)]
  unfold R8
  rw [calS]
  by_cases h0 : K = 0
  · subst h0
    have e1 : stB (sg 0 (a 51)) 0 = (false, 0) := rfl
    rw [e1]
    exact ⟨0, rfl⟩
  · have e0 : scn (sg K (a 51)) K (K + 1) 0 0 = if (stB (sg K (a 51)) 0).1 then scn (sg K (a 51)) K K (stB (sg K (a 51)) 0).2 (0 + 1) else (false, (stB (sg K (a 51)) 0).2) := by
      show (if K ≤ 0 then _ else _) = _
      rw [if_neg (by omega)]
    rw [if_neg h0, e0]
    by_cases h2 : (stB (sg K (a 51)) 0).1 = true
    · have hk := stB_K h2
      obtain ⟨g1, -, -⟩ := stB_ok.1 h2
      obtain ⟨pe, g2⟩ := fault8 (a := a) hF q hK (K - 1) (stB (sg K (a 51)) 0).2 (0 + 1) nF (by omega) hk (by omega)
      rw [show K - 1 + 1 = K by omega] at g2
      refine ⟨pe, ?_⟩
      rw [if_pos h2, h2, b2T, if_neg one0]
      exact g2
    · refine ⟨(stB (sg K (a 51)) 0).2, ?_⟩
      have h3 : (stB (sg K (a 51)) 0).1 = false := by cases e : (stB (sg K (a 51)) 0).1; rfl; exact absurd e h2
      rw [if_neg h2, h3, b2F, if_pos rfl, up_same]
      rfl
end ST
