/-! tongue: the telling, on both sides -/
def DR (t : sT) (a : sA) (t' : sT) (a' : sA) : Prop := iTng (t 516) (a 9) (a 10) (a 11) (t 517) (a 12) (t 518) (t 519) (t' 3207) (a' 55) (a' 56) (a' 57) (t' 3211) (a' 58) (t' 3213) (t' 3214)
def cFr (t t1 : sT) (a a1 : sA) : Prop := (∀ q, q < 516 ∨ 519 ≤ q → t1 q = t q) ∧ ∀ k, k < 9 ∨ 13 ≤ k → a1 k = a k
def mFr (t t1 : sT) (a a1 : sA) : Prop := (∀ q, q ≠ 3221 → q ≠ 3207 → q ≠ 3211 → q ≠ 3213 → t1 q = t q) ∧ ∀ k, k < 55 ∨ 59 ≤ k → a1 k = a k
theorem cFr.rf {t : sT} {a : sA} : cFr t t a a := ⟨fun _ _ => rfl, fun _ _ => rfl⟩
theorem mFr.pl {t : sT} {a : sA} {v : Int32} : mFr t (va_up t 3221 v) a a := ⟨fun _ h _ _ _ => up_ne h, fun _ _ => rfl⟩
theorem cFr.tr {t t1 t2 : sT} {a a1 a2 : sA} (h : cFr t t1 a a1) (h2 : cFr t1 t2 a1 a2) : cFr t t2 a a2 := ⟨fun q hq => (h2.1 q hq).trans (h.1 q hq), fun k hk => (h2.2 k hk).trans (h.2 k hk)⟩
theorem mFr.tr {t t1 t2 : sT} {a a1 a2 : sA} (h : mFr t t1 a a1) (h2 : mFr t1 t2 a1 a2) : mFr t t2 a a2 := ⟨fun q h3 h4 h5 h6 => (h2.1 q h3 h4 h5 h6).trans (h.1 q h3 h4 h5 h6), fun k hk => (h2.2 k hk).trans (h.2 k hk)⟩
theorem DR.pl {t t' : sT} {a a' : sA} {v : Int32} (h : DR t a t' a') : DR t a (va_up t' 3221 v) a' := by
  unfold DR at h ⊢
  rw [up_ne (by decide), up_ne (by decide), up_ne (by decide), up_ne (by decide)]
  exact h
section TL
variable {nF K p : Nat} {t t' : sT} {a a' : sA}
/-- both sides' outcome of one statement, the reference's place being x behind it -/
def One (t : sT) (a : sA) (t' : sT) (a' : sA) (o o' : Rs) (x : Int32 → Prop) : Prop := ∃ b t1 a1 t1' a1', o = some (b2I b, t1, a1) ∧ o' = some (b2I b, t1', a1') ∧ cFr t t1 a a1 ∧ mFr t' t1' a' a1' ∧ (b = true → DR t1 a1 t1' a1' ∧ t 516 ≤ t1 516 ∧ x (t1' 3221))
theorem One.no {o o' : Rs} {v : Int32} {x : Int32 → Prop} (h1 : o = some (0, t, a)) (h2 : o' = some (0, va_up t' 3221 v, a')) : One t a t' a' o o' x :=
  ⟨false, t, a, va_up t' 3221 v, a', h1, h2, cFr.rf, mFr.pl, fun e => absurd e (by decide)⟩
theorem zz_of {o : Rs} {b : Bool} {t1 : sT} {a1 : sA} (h : o = some (b2I b, t1, a1)) : cal o (fun v t a => zok v (some (v, t, a))) = some (b2I b, t1, a1) := by
  rw [h, calS]
  cases b <;> rfl
theorem One.zz {o o' : Rs} {x : Int32 → Prop} (h : One t a t' a' o o' x) : One t a t' a' (cal o (fun v t a => zok v (some (v, t, a)))) (cal o' (fun v t a => zok v (some (v, t, a)))) x := by
  obtain ⟨b, t1, a1, t1', a1', h1, h2, h3⟩ := h
  exact ⟨b, t1, a1, t1', a1', zz_of h1, zz_of h2, h3⟩
theorem add_ok {kn cn : Nat} {x : Int32} (hk : kn ≤ 3) (hc : cn ≤ 255) (h : DR t a t' a') : One t a t' a' (fX6_addWord nF 8 (nI kn) (nI cn) t a) (fX8_addWord nF (nI kn) (nI cn) (va_up t' 3221 x) a') (fun y => y = x) := by
  obtain ⟨⟨w, hw, q1, q2, q3⟩, r2, r3, r4, r5⟩ := h
  have n1 : (va_up t' 3221 x) 3207 = nI w := (up_ne (by decide)).trans q2
  by_cases h8 : w = 8
  · subst h8
    refine One.no (v := x) ?_ ?_
    · unfold fX6_addWord
      show (if t 516 < 8 then _ else _) = _
      rw [q1, if_neg (by decide)]; rfl
    · unfold fX8_addWord
      rw [n1, if_pos (by decide)]; rfl
  · have hlt : w < 8 := by omega
    refine ⟨true, va_up t 516 (nI (w + 1)), va_up (va_up a 9 (upd (a 9) w (nI kn))) 10 (upd (a 10) w (nI cn)), va_up (va_up t' 3221 x) 3207 (nI (w + 1)), va_up (va_up a' 55 (upd (a' 55) w (nI kn))) 56 (upd (a' 56) w (nI cn)), ?_, ?_, ?_, ?_, fun _ => ⟨?_, ?_, ?_⟩⟩
    · unfold fX6_addWord
      show (if t 516 < 8 then _ else _) = _
      rw [q1, if_pos (show nI w < 8 from (x_lt (a := w) (b := 8) (by omega) (by omega)).mpr hlt)]
      rw [bnd_ok hlt (by decide), bnd_ok hlt (by decide), nI_cl (by omega), nI_1]; rfl
    · unfold fX8_addWord
      rw [n1, if_neg (show ¬ nI w = 8 from lit_ne (n := 8) h8 (by omega) (by decide)), bnd_ok hlt (by decide), bnd_ok hlt (by decide), nI_cl (by omega), nI_1]; rfl
    · exact ⟨fun q hq => up_ne (by omega), fun k hk => by rw [up_ne (by omega), up_ne (by omega)]⟩
    · exact ⟨fun q h1 h2 h3 h4 => by rw [up_ne h2, up_ne h1], fun k hk => by rw [up_ne (by omega), up_ne (by omega)]⟩
    · refine ⟨⟨w + 1, by omega, up_same _ _ _, up_same _ _ _, fun i hi => ?_⟩, r2, r3, r4, r5⟩
      show upd (a 9) w (nI kn) i = upd (a' 55) w (nI kn) i ∧ upd (a 10) w (nI cn) i = upd (a' 56) w (nI cn) i ∧ (∃ c, c ≤ 3 ∧ upd (a 9) w (nI kn) i = nI c) ∧ ∃ c, c ≤ 255 ∧ upd (a 10) w (nI cn) i = nI c
      by_cases e : i = w
      · subst e
        rw [upd_same, upd_same, upd_same, upd_same]
        exact ⟨rfl, rfl, ⟨kn, hk, rfl⟩, ⟨cn, hc, rfl⟩⟩
      · rw [upd_ne e, upd_ne e, upd_ne e, upd_ne e]
        exact q3 i (by omega)
    · rw [up_same, q1]
      exact (x_le (by omega) (by omega)).mpr (by omega)
    · exact (up_ne (by decide)).trans (up_same _ _ _)
theorem sg_congr {A B : Nat → Int32} (h : ∀ i, i < K → A i = B i) : sg K A = sg K B := by
  funext i
  unfold sg
  by_cases g : i < K
  · rw [if_pos g, if_pos g, h i g]
  · rw [if_neg g, if_neg g]
theorem dg_of {x : Int32} (h : isDg x = true) : ∃ j, j < 10 ∧ x = nI (48 + j) ∧ x - 48 = nI j := by
  unfold isDg at h
  by_cases h1 : x < 48
  · rw [if_pos h1] at h; exact absurd h (by decide)
  · rw [if_neg h1] at h
    by_cases h2 : (57 : Int32) < x
    · rw [if_pos h2] at h; exact absurd h (by decide)
    · have x0 : ¬ x < 0 := fun y => h1 (Int32.lt_trans y (by decide))
      obtain ⟨k, hk, rfl⟩ := nI_of2 (M := 57) (n := 57) rfl x0 (Int32.not_lt.mp h2)
      have h48 : 48 ≤ k := by
        rcases Nat.lt_or_ge k 48 with g | g
        · exact absurd ((x_lt (a := k) (b := 48) (by omega) (by omega)).mpr g) h1
        · exact g
      exact ⟨k - 48, by omega, congrArg nI (by omega), pk_sub (a := k) (b := 48) h48⟩
theorem shl8 : ∀ j, j < 8 → (1 : Int32) <<< (nI j &&& 31) = nI (2 ^ j) := by decide
theorem tell_rel {E p0 : Nat} (hK : K ≤ 64) (hE : E < K) (q : t 65 = nI K) (q' : t' 3201 = nI K) (hl : ∀ i, i < K → a 2 i = a' 51 i) (hdg : ∀ j, p0 ≤ j → j < E → isDg (sg K (a 2) j) = true) (h59 : sg K (a 2) E = 59) (h : DR t a t' a') : ∀ d pl cs (bf : Int32) n n', pl + d = E → p0 ≤ pl → cs ≤ 255 → d < n → d < n' → One t a t' a' (gX1_tellWord nF 8 n (nI E) (nI cs) bf (nI pl) t a) (gX8_tellingComes nF n' (nI cs) bf (va_up t' 3221 (nI pl)) a') (fun y => y = nI E) := by
  have hg : sg K (a 2) = sg K (a' 51) := sg_congr hl
  intro d
  induction d with
  | zero =>
    intro pl cs bf n n' hd hp hc hn hn'
    obtain ⟨n, rfl⟩ : ∃ m, n = m + 1 := ⟨n - 1, by omega⟩
    obtain ⟨n', rfl⟩ : ∃ m, n' = m + 1 := ⟨n' - 1, by omega⟩
    have : pl = E := by omega
    subst this
    have e1 : gX1_tellWord nF 8 (n + 1) (nI pl) (nI cs) bf (nI pl) t a = cal (fX6_addWord nF 8 (nI 0) (nI cs) t a) (fun v t a => zok v (some (v, t, a))) := by
      show (if nI pl ≤ nI pl then _ else _) = _
      rw [if_pos ((x_le (by omega) (by omega)).mpr (Nat.le_refl pl))]; rfl
    have e2 : gX8_tellingComes nF (n' + 1) (nI cs) bf (va_up t' 3221 (nI pl)) a' = cal (fX8_addWord nF (nI 0) (nI cs) (va_up t' 3221 (nI pl)) a') (fun v t a => zok v (some (v, t, a))) := by
      show gX8_tellingComes_4 nF (gX8_tellingComes nF n') _ _ _ a' = _
      unfold gX8_tellingComes_4
      rw [seesD8 q' hK (by omega), calS, ← hg, h59, dg59, b2F, if_pos rfl]; rfl
    rw [e1, e2]
    exact One.zz (add_ok (by decide) hc h)
  | succ d ih =>
    intro pl cs bf n n' hd hp hc hn hn'
    obtain ⟨n, rfl⟩ : ∃ m, n = m + 1 := ⟨n - 1, by omega⟩
    obtain ⟨n', rfl⟩ : ∃ m, n' = m + 1 := ⟨n' - 1, by omega⟩
    have hd1 := hdg pl hp (by omega)
    obtain ⟨j, hj, j1, j2⟩ := dg_of hd1
    have s1 : a' 51 pl = nI (48 + j) := by
      rw [← j1, hg]; unfold sg; rw [if_pos (by omega)]
    have s2 : a' 51 pl - 48 = nI j := by
      rw [← j2, hg]; unfold sg; rw [if_pos (by omega)]
    have e1 : gX1_tellWord nF 8 (n + 1) (nI E) (nI cs) bf (nI pl) t a = if nI j ≤ bf then some (0, t, a) else cal (fX7_isCase nF (nI j) t a) (fun v3 t3 a3 => if v3 = 0 then (zok (0 : Int32) (some ((0 : Int32), t3, a3))) else (gX1_tellWord nF 8 n (nI E) (nI cs ||| ((1 : Int32) <<< (nI j &&& 31))) (nI j) (nI (pl + 1)) t3 a3)) := by
      show (if nI E ≤ nI pl then _ else cal (fX1_digit nF (nI pl) t a) _) = _
      rw [if_neg (by rw [x_le (by omega) (by omega)]; omega)]
      unfold fX1_digit
      rw [sign7 q hK (by omega), calS, calS, j2, nI_1]; rfl
    have e2 : gX8_tellingComes nF (n' + 1) (nI cs) bf (va_up t' 3221 (nI pl)) a' = if (7 : Int32) < nI j then some (0, va_up t' 3221 (nI pl), a') else if bf < nI j then gX8_tellingComes nF n' (nI cs ||| ((1 : Int32) <<< (nI j &&& 31))) (nI j) (va_up t' 3221 (nI (pl + 1))) a' else some (0, va_up t' 3221 (nI pl), a') := by
      show gX8_tellingComes_4 nF (gX8_tellingComes nF n') _ _ _ a' = _
      unfold gX8_tellingComes_4
      rw [seesD8 q' hK (by omega), calS, ← hg, hd1, b2T, if_neg one0, up_same, bnd_ok (by omega) (by decide), nI_cl (by omega), s2, nI_1, up_up]; rfl
    rw [e1, e2]
    by_cases h8 : j < 8
    · have n7 : ¬ (7 : Int32) < nI j := by rw [show (7 : Int32) = nI 7 from rfl, x_lt (by omega) (by omega)]; omega
      rw [if_neg n7, c7_yes h8, calS, if_neg one0]
      by_cases hb : nI j ≤ bf
      · rw [if_pos hb, if_neg (Int32.not_lt.mpr hb)]
        exact One.no rfl rfl
      · rw [if_neg hb, if_pos (Int32.not_le.mp hb), shl8 j h8, b_or (by omega) (by have : 2 ^ j < 2 ^ 8 := Nat.pow_lt_pow_right (by decide) h8; omega)]
        have hor : cs ||| 2 ^ j < 256 := Nat.or_lt_two_pow (n := 8) (by omega) (Nat.pow_lt_pow_right (by decide) h8)
        exact ih (pl + 1) (cs ||| 2 ^ j) (nI j) n n' (by omega) (by omega) (by omega) (by omega) (by omega)
    · have p7 : (7 : Int32) < nI j := by rw [show (7 : Int32) = nI 7 from rfl, x_lt (by omega) (by omega)]; omega
      rw [if_pos p7, c7_big (nneg (by omega)) ((x_le (by omega) (by omega)).mpr (by omega)), calS, if_pos rfl]
      split
      · exact One.no rfl rfl
      · exact One.no rfl rfl
/-- the reference's telling of one statement, cut short -/
theorem comes8 (q' : t' 3201 = nI K) (hK : K ≤ 64) (hp : p + 1 < K) : fX8_comes nF (va_up t' 3221 (nI p)) a' = (if a' 51 p = 105 then cal (fX8_addWord nF 3 0 (va_up t' 3221 (nI (p + 1))) a') (fun v t a => zok v (some (v, t, a))) else if a' 51 p = 108 then (if a' 51 (p + 1) - 48 ≤ 4 then some (1, va_up (va_up t' 3221 (nI (p + 1))) 3213 (a' 51 (p + 1) - 48), a') else some (0, va_up t' 3221 (nI (p + 1)), a')) else if a' 51 p = 110 then cal (fX8_addWord nF 1 0 (va_up t' 3221 (nI (p + 1))) a') (fun v t a => zok v (some (v, t, a))) else if a' 51 p = 111 then cal (fX8_addWord nF 2 0 (va_up t' 3221 (nI (p + 1))) a') (fun v t a => zok v (some (v, t, a))) else if a' 51 p = 116 then cal (fX8_tellingComes nF (va_up t' 3221 (nI (p + 1))) a') (fun v t a => zok v (some (v, t, a))) else if a' 51 p = 119 then (if a' 51 (p + 1) - 48 ≤ 7 then bnd (nI (p + 1) + 2) 64 (bnd (a' 51 (p + 1) - 48) 8 (some (1, va_up t' 3221 (nI (p + 1)), va_up a' 57 (upd (a' 57) (a' 51 (p + 1) - 48).toNatClampNeg (a' 51 (nI (p + 1) + 2).toNatClampNeg - 48))))) else some (0, va_up t' 3221 (nI (p + 1)), a')) else if t' 3211 = 4 then some (0, va_up t' 3221 (nI (p + 1)), a') else bnd (t' 3211) 4 (some (1, va_up (va_up t' 3221 (nI (p + 1))) 3211 (t' 3211 + 1), va_up a' 58 (upd (a' 58) (t' 3211).toNatClampNeg (a' 51 (p + 1)))))) := by
  have n1 : ∀ (f : sT) (v : Int32), va_up f 3221 v 3201 = f 3201 := fun f v => up_ne (by decide)
  have n2 : ∀ (f : sT) (v : Int32), va_up f 3221 v 3211 = f 3211 := fun f v => up_ne (by decide)
  have n3 : ∀ (f : sT) (v : Int32), va_up f 3211 v 3221 = f 3221 := fun f v => up_ne (by decide)
  unfold fX8_comes
  rw [up_same, nI_1, up_up, up_same, n1, q', bnd_ok (by omega) (by decide), if_neg (by rw [x_le (by omega) (by omega)]; omega), bnd_ok (by omega) (by decide), nI_cl (by omega), nI_cl (by omega), n2, n3, up_same, nI_cl (by omega), bnd_ok (by omega) (by decide)]
  rfl
end TL
