/-! a saying's sense: the class's packed number against the reference's meaning and idleOf -/
theorem b_and {a b : Nat} (ha : a < 2 ^ 32) (hb : b < 2 ^ 32) : nI a &&& nI b = nI (a &&& b) := by
  apply Int32.toBitVec_inj.mp
  apply BitVec.eq_of_toNat_eq
  rw [Int32.toBitVec_and, BitVec.toNat_and, pk_tn ha, pk_tn hb, pk_tn (Nat.lt_of_le_of_lt Nat.and_le_left ha)]
theorem b_or {a b : Nat} (ha : a < 2 ^ 32) (hb : b < 2 ^ 32) : nI a ||| nI b = nI (a ||| b) := by
  apply Int32.toBitVec_inj.mp
  apply BitVec.eq_of_toNat_eq
  rw [Int32.toBitVec_or, BitVec.toNat_or, pk_tn ha, pk_tn hb, pk_tn (Nat.or_lt_two_pow ha hb)]
theorem b_xor {a b : Nat} (ha : a < 2 ^ 32) (hb : b < 2 ^ 32) : nI a ^^^ nI b = nI (a ^^^ b) := by
  apply Int32.toBitVec_inj.mp
  apply BitVec.eq_of_toNat_eq
  rw [Int32.toBitVec_xor, BitVec.toNat_xor, pk_tn ha, pk_tn hb, pk_tn (Nat.xor_lt_two_pow ha hb)]
theorem sp_and (i g m h n : Nat) (hm : m < 2 ^ i) (hn : n < 2 ^ i) : (2 ^ i * g + m) &&& (2 ^ i * h + n) = 2 ^ i * (g &&& h) + (m &&& n) := by
  apply Nat.eq_of_testBit_eq
  intro j
  rw [Nat.testBit_and, Nat.testBit_two_pow_mul_add _ hm, Nat.testBit_two_pow_mul_add _ hn, Nat.testBit_two_pow_mul_add _ (Nat.lt_of_le_of_lt Nat.and_le_left hm), Nat.testBit_and, Nat.testBit_and]
  split <;> rfl
theorem sp_or (i g m h n : Nat) (hm : m < 2 ^ i) (hn : n < 2 ^ i) : (2 ^ i * g + m) ||| (2 ^ i * h + n) = 2 ^ i * (g ||| h) + (m ||| n) := by
  apply Nat.eq_of_testBit_eq
  intro j
  rw [Nat.testBit_or, Nat.testBit_two_pow_mul_add _ hm, Nat.testBit_two_pow_mul_add _ hn, Nat.testBit_two_pow_mul_add _ (Nat.or_lt_two_pow hm hn), Nat.testBit_or, Nat.testBit_or]
  split <;> rfl
theorem sp_xor (i g m h n : Nat) (hm : m < 2 ^ i) (hn : n < 2 ^ i) : (2 ^ i * g + m) ^^^ (2 ^ i * h + n) = 2 ^ i * (g ^^^ h) + (m ^^^ n) := by
  apply Nat.eq_of_testBit_eq
  intro j
  rw [Nat.testBit_xor, Nat.testBit_two_pow_mul_add _ hm, Nat.testBit_two_pow_mul_add _ hn, Nat.testBit_two_pow_mul_add _ (Nat.xor_lt_two_pow hm hn), Nat.testBit_xor, Nat.testBit_xor]
  split <;> rfl
/-- three fields: cases (8 bits), flags (3 bits), lengths -/
def p3 (m f e : Nat) : Nat := 2 ^ 8 * (2 ^ 3 * e + f) + m
theorem p3_and {m f e m' f' e' : Nat} (h1 : m < 256) (h2 : f < 8) (h3 : m' < 256) (h4 : f' < 8) : p3 m f e &&& p3 m' f' e' = p3 (m &&& m') (f &&& f') (e &&& e') := by
  unfold p3
  rw [sp_and 8 _ _ _ _ h1 h3, sp_and 3 _ _ _ _ h2 h4]
theorem p3_or {m f e m' f' e' : Nat} (h1 : m < 256) (h2 : f < 8) (h3 : m' < 256) (h4 : f' < 8) : p3 m f e ||| p3 m' f' e' = p3 (m ||| m') (f ||| f') (e ||| e') := by
  unfold p3
  rw [sp_or 8 _ _ _ _ h1 h3, sp_or 3 _ _ _ _ h2 h4]
theorem p3_xor {m f e m' f' e' : Nat} (h1 : m < 256) (h2 : f < 8) (h3 : m' < 256) (h4 : f' < 8) : p3 m f e ^^^ p3 m' f' e' = p3 (m ^^^ m') (f ^^^ f') (e ^^^ e') := by
  unfold p3
  rw [sp_xor 8 _ _ _ _ h1 h3, sp_xor 3 _ _ _ _ h2 h4]
theorem pk_p3 (m f id ln : Nat) : pk m f id ln = p3 m f (id + 8 * ln) := by unfold pk p3; omega
theorem p3_lt {m f e : Nat} (h1 : m < 256) (h2 : f < 8) (h3 : e < 64) : p3 m f e < 131072 := by unfold p3; omega
theorem e63 {e : Nat} (h : e < 64) : e &&& 63 = e := by rw [show 63 = 2 ^ 6 - 1 from rfl, Nat.and_two_pow_sub_one_eq_mod]; omega
def gm (m f kd cs : Nat) : Nat := if kd = 0 then (if f &&& 2 = 0 then m &&& (if f &&& 1 = 0 then cs else 255 - cs) else m ||| (if f &&& 1 = 0 then cs else 255 - cs)) else m
def gf (f kd : Nat) : Nat := if kd = 0 then 4 else if kd = 1 then f ^^^ 1 else if kd = 2 then (if f &&& 4 = 0 then f else f ||| 2) else f
def gi (id kd : Nat) : Nat := if kd = 3 then id + 1 else id
theorem gf_lt {f kd : Nat} (hf : f < 8) (hk : kd ≤ 3) : gf f kd < 8 := by
  have : ∀ f, f < 8 → ∀ kd, kd < 4 → gf f kd < 8 := by decide
  exact this f hf kd (by omega)
theorem gm_lt {m f kd cs : Nat} (hm : m < 256) (hc : cs ≤ 255) : gm m f kd cs < 256 := by
  unfold gm
  have h2 : (if f &&& 1 = 0 then cs else 255 - cs) < 256 := by split <;> omega
  split
  · split
    · exact Nat.lt_of_le_of_lt Nat.and_le_left hm
    · exact Nat.or_lt_two_pow (n := 8) hm h2
  · exact hm
set_option maxRecDepth 100000 in
theorem comp_ok {c : Nat} (hc : c ≤ 255) : (255 : Int32) &&& (nI c ^^^ (-1 : Int32)) = nI (255 - c) := by
  rw [show (-1 : Int32) = nI 4294967295 from rfl, b_xor (by omega) (by omega), show (255 : Int32) = nI 255 from rfl, b_and (by omega) (Nat.xor_lt_two_pow (n := 32) (by omega) (by omega))]
  have : ∀ c, c < 256 → 255 &&& (c ^^^ 4294967295) = 255 - c := by decide
  rw [this c (by omega)]
theorem nI0 {n : Nat} (h : n < 2 ^ 31) : nI n = 0 ↔ n = 0 := x_eq (a := n) (b := 0) h (by decide)
theorem p3_0 {m f e : Nat} : p3 m f e = 0 ↔ m = 0 ∧ f = 0 ∧ e = 0 := by unfold p3; omega
section GR
variable {nF : Nat} {t : sT} {a : sA} {m f e cs : Nat}
theorem tell_ok (hm : m < 256) (hf : f < 8) (he : e < 64) (hc : cs ≤ 255) : fX4_withTelling nF (nI (p3 m f e)) (nI cs) t a = some (nI (p3 (gm m f 0 cs) 4 e), t, a) := by
  have hp := p3_lt hm hf he
  have c1 : nI (p3 m f e) &&& (256 : Int32) = nI (p3 0 (f &&& 1) 0) := by
    rw [show (256 : Int32) = nI (p3 0 1 0) from rfl, b_and (by omega) (by decide), p3_and hm hf (by decide) (by decide), Nat.and_zero, Nat.and_zero]
  have c2 : nI (p3 m f e) &&& (512 : Int32) = nI (p3 0 (f &&& 2) 0) := by
    rw [show (512 : Int32) = nI (p3 0 2 0) from rfl, b_and (by omega) (by decide), p3_and hm hf (by decide) (by decide), Nat.and_zero, Nat.and_zero]
  have c3 : nI (p3 m f e) &&& (129024 : Int32) = nI (p3 0 0 e) := by
    rw [show (129024 : Int32) = nI (p3 0 0 63) from rfl, b_and (by omega) (by decide), p3_and hm hf (by decide) (by decide), Nat.and_zero, Nat.and_zero, e63 he]
  have c4 : nI (p3 m f e) &&& (255 : Int32) = nI m := by
    rw [show (255 : Int32) = nI (p3 255 0 0) from rfl, b_and (by omega) (by decide), p3_and hm hf (by decide) (by decide), Nat.and_zero, Nat.and_zero, show 255 = 2 ^ 8 - 1 from rfl, Nat.and_two_pow_sub_one_eq_mod, Nat.mod_eq_of_lt hm]
    exact congrArg nI (by unfold p3; omega)
  have z : ∀ k, k ≤ 7 → (nI (p3 0 k 0) = 0 ↔ k = 0) := fun k hk => by
    rw [nI0 (Nat.lt_trans (p3_lt (by decide) (by omega) (by decide)) (by decide)), p3_0]; omega
  have f1 : f &&& 1 ≤ 7 := Nat.le_trans Nat.and_le_left (by omega)
  have f2 : f &&& 2 ≤ 7 := Nat.le_trans Nat.and_le_left (by omega)
  have c5 : nI (p3 0 0 e) ||| (1024 : Int32) = nI (p3 0 4 e) := by
    rw [show (1024 : Int32) = nI (p3 0 4 0) from rfl, b_or (Nat.lt_trans (p3_lt (by decide) (by decide) he) (by decide)) (by decide), p3_or (by decide) (by decide) (by decide) (by decide), Nat.or_zero, Nat.zero_or, Nat.or_zero]
  have c6 : ∀ x, x < 256 → nI (p3 0 4 e) ||| nI x = nI (p3 x 4 e) := fun x hx => by
    rw [show nI x = nI (p3 x 0 0) from congrArg nI (by unfold p3; omega), b_or (Nat.lt_trans (p3_lt (by decide) (by decide) he) (by decide)) (Nat.lt_trans (p3_lt hx (by decide) (by decide)) (by decide)), p3_or (by decide) (by decide) hx (by decide), Nat.or_zero, Nat.zero_or, Nat.or_zero]
  unfold fX4_withTelling
  rw [c1, c2, c3, c4, c5, comp_ok hc]
  have hg := gm_lt (m := m) (f := f) (kd := 0) (cs := cs) hm hc
  by_cases g1 : f &&& 1 = 0
  · rw [if_pos ((z _ f1).mpr g1)]
    by_cases g2 : f &&& 2 = 0
    · have q : gm m f 0 cs = m &&& cs := by unfold gm; rw [if_pos rfl, if_pos g2, if_pos g1]
      rw [if_pos ((z _ f2).mpr g2), b_and (by omega) (by omega), ← q, c6 _ hg]
    · have q : gm m f 0 cs = m ||| cs := by unfold gm; rw [if_pos rfl, if_neg g2, if_pos g1]
      rw [if_neg (fun y => g2 ((z _ f2).mp y)), b_or (by omega) (by omega), ← q, c6 _ hg]
  · rw [if_neg (fun y => g1 ((z _ f1).mp y))]
    by_cases g2 : f &&& 2 = 0
    · have q : gm m f 0 cs = m &&& (255 - cs) := by unfold gm; rw [if_pos rfl, if_pos g2, if_neg g1]
      rw [if_pos ((z _ f2).mpr g2), b_and (by omega) (by omega), ← q, c6 _ hg]
    · have q : gm m f 0 cs = m ||| (255 - cs) := by unfold gm; rw [if_pos rfl, if_neg g2, if_neg g1]
      rw [if_neg (fun y => g2 ((z _ f2).mp y)), b_or (by omega) (by omega), ← q, c6 _ hg]
theorem grown_ok {id ln kd : Nat} (hm : m < 256) (hf : f < 8) (hid : id < 7) (hl : ln < 6) (hk : kd ≤ 3) (hc : cs ≤ 255) : fX4_grown nF (nI (pk m f id ln)) (nI kd) (nI cs) t a = some (nI (pk (gm m f kd cs) (gf f kd) (gi id kd) (ln + 1)), t, a) := by
  have e1 : nI (pk m f id ln) + 16384 = nI (pk m f id (ln + 1)) := by
    rw [show (16384 : Int32) = nI 16384 from rfl, nI_add]; exact congrArg nI (by unfold pk; omega)
  have he : id + 8 * (ln + 1) < 64 := by omega
  have hp := p3_lt hm hf he
  unfold fX4_grown
  rw [e1]
  have hk4 : kd = 0 ∨ kd = 1 ∨ kd = 2 ∨ kd = 3 := by omega
  rcases hk4 with rfl | rfl | rfl | rfl
  · rw [if_neg (by decide), if_neg (by decide), if_neg (by decide), pk_p3, cal_of (tell_ok hm hf he hc), pk_p3]; rfl
  · rw [if_pos (by decide), pk_p3, show (256 : Int32) = nI (p3 0 1 0) from rfl, b_xor (by omega) (by decide), p3_xor hm hf (by decide) (by decide), Nat.xor_zero, Nat.xor_zero, pk_p3]; rfl
  · rw [if_neg (by decide), if_pos (by decide), pk_p3, show (1024 : Int32) = nI (p3 0 4 0) from rfl, b_and (by omega) (by decide), p3_and hm hf (by decide) (by decide), Nat.and_zero, Nat.and_zero]
    have f4 : f &&& 4 ≤ 7 := Nat.le_trans Nat.and_le_left (by omega)
    by_cases g : f &&& 4 = 0
    · rw [g, if_pos (by decide), pk_p3]
      unfold gf gm gi
      rw [if_neg (by decide), if_neg (by decide), if_neg (by decide), if_pos (by decide), if_pos g, if_neg (by decide)]
    · rw [if_neg (fun y => g (by rw [nI0 (Nat.lt_trans (p3_lt (by decide) (by omega) (by decide)) (by decide)), p3_0] at y; omega)), show (512 : Int32) = nI (p3 0 2 0) from rfl, b_or (by omega) (by decide), p3_or hm hf (by decide) (by decide), Nat.or_zero, Nat.or_zero, pk_p3]
      unfold gf gm gi
      rw [if_neg (by decide), if_neg (by decide), if_neg (by decide), if_pos (by decide), if_neg g, if_neg (by decide)]
  · rw [if_neg (by decide), if_neg (by decide), if_pos (by decide), show (2048 : Int32) = nI 2048 from rfl, nI_add]
    have : pk m f id (ln + 1) + 2048 = pk (gm m f 3 cs) (gf f 3) (gi id 3) (ln + 1) := by
      show pk m f id (ln + 1) + 2048 = pk m f (id + 1) (ln + 1)
      unfold pk; omega
    rw [this]
end GR
/-- the sense of the first k words of a row: cases, flags, idle words -/
def snS (kd cs row : Nat → Int32) : Nat → Nat × Nat × Nat
  | 0 => (255, 0, 0)
  | k + 1 => (gm (snS kd cs row k).1 (snS kd cs row k).2.1 (kd (row k).toNatClampNeg).toNatClampNeg (cs (row k).toNatClampNeg).toNatClampNeg, gf (snS kd cs row k).2.1 (kd (row k).toNatClampNeg).toNatClampNeg, gi (snS kd cs row k).2.2 (kd (row k).toNatClampNeg).toNatClampNeg)
/-- a row's words are words -/
def okR (wn : Nat) (row : Nat → Int32) (k : Nat) : Prop := ∀ i, i < k → ∃ c, c < wn ∧ row i = nI c
def okW (wn : Nat) (kd cs : Nat → Int32) : Prop := wn ≤ 8 ∧ ∀ i, i < wn → (∃ c, c ≤ 3 ∧ kd i = nI c) ∧ ∃ c, c ≤ 255 ∧ cs i = nI c
theorem snS_ok {wn : Nat} {kd cs row : Nat → Int32} (hw : okW wn kd cs) {k : Nat} (hr : okR wn row k) : (snS kd cs row k).1 < 256 ∧ (snS kd cs row k).2.1 < 8 ∧ (snS kd cs row k).2.2 ≤ k := by
  induction k with
  | zero => exact ⟨(by decide : 255 < 256), (by decide : 0 < 8), Nat.le_refl 0⟩
  | succ k ih =>
    obtain ⟨i1, i2, i3⟩ := ih (fun i hi => hr i (by omega))
    obtain ⟨c, hc, e⟩ := hr k (by omega)
    obtain ⟨⟨kn, hk, e1⟩, cn, hcn, e2⟩ := hw.2 c hc
    have hw8 := hw.1
    show gm _ _ _ _ < 256 ∧ gf _ _ < 8 ∧ gi _ _ ≤ k + 1
    rw [e, nI_cl (by omega), e1, e2, nI_cl (by omega), nI_cl (by omega)]
    refine ⟨gm_lt i1 hcn, gf_lt i2 hk, ?_⟩
    unfold gi
    split <;> omega
theorem snS_congr {wn : Nat} {kd cs row kd' cs' row' : Nat → Int32} {k : Nat} (hw8 : wn ≤ 8) (hr : okR wn row k) (h1 : ∀ i, i < k → row' i = row i) (h2 : ∀ i, i < wn → kd' i = kd i ∧ cs' i = cs i) : snS kd' cs' row' k = snS kd cs row k := by
  induction k with
  | zero => rfl
  | succ k ih =>
    have ih := ih (fun i hi => hr i (by omega)) (fun i hi => h1 i (by omega))
    obtain ⟨c, hc, e⟩ := hr k (by omega)
    show (_, _, _) = (_, _, _)
    rw [h1 k (by omega), e, nI_cl (by omega), (h2 c hc).1, (h2 c hc).2, ih]
theorem calS {ρ : Type} {v : Int32} {t : sT} {a : sA} {K : Int32 → sT → sA → Option ρ} : cal (some (v, t, a)) K = K v t a := rfl
theorem grownW {nF wn m f id ln c kn cn : Nat} {t : sT} {a : sA} (q : t 196 = nI wn) (hw8 : wn ≤ 8) (hc : c < wn) (e1 : a 4 c = nI kn) (e2 : a 5 c = nI cn) (hk : kn ≤ 3) (hcn : cn ≤ 255) (hm : m < 256) (hf : f < 8) (hid : id < 7) (hl : ln < 6) : fX6_grown nF 3 (nI (pk m f id ln)) (nI c) t a = some (nI (pk (gm m f kn cn) (gf f kn) (gi id kn) (ln + 1)), t, a) := by
  unfold fX6_grown
  rw [cal_of (h7_yes q (by omega) hc), if_neg one0, bnd_ok (by omega) (by decide), bnd_ok (by omega) (by decide), nI_cl (by omega)]
  show cal (fX4_grown nF _ (a 4 c) (a 5 c) t a) _ = _
  rw [e1, e2, grown_ok hm hf hid hl hk hcn, calS]
/-- the class's sense of a row -/
theorem sense7 {nF wn k : Nat} (hF : 100 ≤ nF) (p : Nat) {t : sT} {a : sA} (q : t 196 = nI wn) (hw : okW wn (a 4) (a 5)) (hk : k ≤ 6) (qs : t (64 * p + 1) = nI k) (hr : okR wn (a (p + 1)) k) : fX2_sense nF p 3 t a = some (nI (pk (snS (a 4) (a 5) (a (p + 1)) k).1 (snS (a 4) (a 5) (a (p + 1)) k).2.1 (snS (a 4) (a 5) (a (p + 1)) k).2.2 k), t, a) := by
  have go : ∀ d i n, i + d = k → d < n → gX2_sense nF p 3 n (nI (pk (snS (a 4) (a 5) (a (p + 1)) i).1 (snS (a 4) (a 5) (a (p + 1)) i).2.1 (snS (a 4) (a 5) (a (p + 1)) i).2.2 i)) (nI i) t a = some (nI (pk (snS (a 4) (a 5) (a (p + 1)) k).1 (snS (a 4) (a 5) (a (p + 1)) k).2.1 (snS (a 4) (a 5) (a (p + 1)) k).2.2 k), t, a) := by
    intro d
    induction d with
    | zero =>
      intro i n hi hn
      obtain ⟨n, rfl⟩ : ∃ n', n = n' + 1 := ⟨n - 1, by omega⟩
      have : i = k := by omega
      subst this
      show gX2_sense_6 nF p 3 _ _ _ t a = _
      unfold gX2_sense_6
      rw [qs, if_pos ((x_le (by omega) (by omega)).mpr (Nat.le_refl i))]
    | succ d ih =>
      intro i n hi hn
      obtain ⟨n, rfl⟩ : ∃ n', n = n' + 1 := ⟨n - 1, by omega⟩
      obtain ⟨c, hc, e⟩ := hr i (by omega)
      obtain ⟨⟨kn, hkn, e1⟩, cn, hcn, e2⟩ := hw.2 c hc
      have hw8 := hw.1
      obtain ⟨i1, i2, i3⟩ := snS_ok (k := i) hw (fun j hj => hr j (by omega))
      have ih := ih (i + 1) n (by omega) (by omega)
      have hs : snS (a 4) (a 5) (a (p + 1)) (i + 1) = (gm (snS (a 4) (a 5) (a (p + 1)) i).1 (snS (a 4) (a 5) (a (p + 1)) i).2.1 kn cn, gf (snS (a 4) (a 5) (a (p + 1)) i).2.1 kn, gi (snS (a 4) (a 5) (a (p + 1)) i).2.2 kn) := by
        show (_, _, _) = _
        rw [e, nI_cl (by omega), e1, e2, nI_cl (by omega), nI_cl (by omega)]
      rw [hs] at ih
      show gX2_sense_6 nF p 3 _ _ _ t a = _
      unfold gX2_sense_6
      rw [qs, if_neg (by rw [x_le (by omega) (by omega)]; omega), if_neg (by rw [show (6 : Int32) = nI 6 from rfl, x_le (by omega) (by omega)]; omega), bnd_ok (by omega) (by decide), nI_cl (by omega), e, grownW q hw8 hc e1 e2 hkn hcn i1 i2 (by omega) (by omega), calS, nI_1]
      exact ih
  exact go k 0 nF (by omega) (by omega)
/-- the reference's idle words of a row -/
theorem idle8 {nF wn k n1 p : Nat} (hF : 100 ≤ nF) {t : sT} {a : sA} (hw : okW wn (a 55) (a 56)) (hk : k ≤ 6) (hn1 : k ≤ n1) (hn2 : n1 < 2 ^ 31) (hr : okR wn (a p) k) : fX8_idleOf nF p n1 (nI k) t a = some (nI (snS (a 55) (a 56) (a p) k).2.2, t, a) := by
  have go : ∀ d i n, i + d = k → d < n → gX8_idleOf nF p n1 n (nI k) (nI (snS (a 55) (a 56) (a p) i).2.2) (nI i) t a = some (nI (snS (a 55) (a 56) (a p) k).2.2, t, a) := by
    intro d
    induction d with
    | zero =>
      intro i n hi hn
      obtain ⟨n, rfl⟩ : ∃ n', n = n' + 1 := ⟨n - 1, by omega⟩
      have : i = k := by omega
      subst this
      show gX8_idleOf_5 nF p n1 _ _ _ _ t a = _
      unfold gX8_idleOf_5
      rw [if_pos ((x_le (by omega) (by omega)).mpr (Nat.le_refl i))]
    | succ d ih =>
      intro i n hi hn
      obtain ⟨n, rfl⟩ : ∃ n', n = n' + 1 := ⟨n - 1, by omega⟩
      obtain ⟨c, hc, e⟩ := hr i (by omega)
      obtain ⟨⟨kn, hkn, e1⟩, cn, hcn, e2⟩ := hw.2 c hc
      have hw8 := hw.1
      have ih := ih (i + 1) n (by omega) (by omega)
      have hs : (snS (a 55) (a 56) (a p) (i + 1)).2.2 = gi (snS (a 55) (a 56) (a p) i).2.2 kn := by
        show gi _ _ = _
        rw [e, nI_cl (by omega), e1, nI_cl (by omega)]
      rw [hs] at ih
      show gX8_idleOf_5 nF p n1 _ _ _ _ t a = _
      unfold gX8_idleOf_5
      rw [if_neg (by rw [x_le (by omega) (by omega)]; omega), bnd_ok (by omega) hn2, nI_cl (by omega), e, bnd_ok (by omega) (by decide), nI_cl (by omega), e1, nI_1]
      by_cases g : kn = 3
      · subst g
        rw [if_pos (by decide), nI_1]
        exact ih
      · rw [if_neg (by rw [show (3 : Int32) = nI 3 from rfl, x_eq (by omega) (by omega)]; exact g), Int32.add_zero, nI_1]
        have e3 : gi (snS (a 55) (a 56) (a p) i).2.2 kn = (snS (a 55) (a 56) (a p) i).2.2 := if_neg g
        rw [e3] at ih
        exact ih
  exact go k 0 nF (by omega) (by omega)
theorem z00 : nI 0 = (0 : Int32) := rfl
/-- the reference's 'joined' against the class's flags -/
def jR (f j : Nat) : Bool := decide ((f &&& 4 = 0 → f &&& 2 = 0) ∧ (¬ f &&& 4 = 0 → (j = 0 ↔ f &&& 2 = 0)))
def nB (b : Prop) [Decidable b] : Nat := if b then 1 else 0
theorem jR_1 : ∀ f, f < 8 → ∀ j, j < 2 → jR f j → (gf f 1 &&& 1 = (f &&& 1) ^^^ 1) ∧ nB (gf f 1 &&& 4 = 0) = nB (f &&& 4 = 0) ∧ jR (gf f 1) j := by decide
theorem jR_2 : ∀ f, f < 8 → ∀ j, j < 2 → jR f j → (gf f 2 &&& 1 = f &&& 1) ∧ nB (gf f 2 &&& 4 = 0) = nB (f &&& 4 = 0) ∧ jR (gf f 2) (j ||| 1) := by decide
theorem jR_0 : ∀ f, f < 8 → ∀ j, j < 2 → jR f j → (f &&& 2 = 0 ↔ (j = 0 ∨ nB (f &&& 4 = 0) = 1)) := by decide
/-- the reference's meaning of a row -/
theorem mean8 {nF wn k n1 p : Nat} (hF : 100 ≤ nF) {t : sT} {a : sA} (hw : okW wn (a 55) (a 56)) (hk : k ≤ 6) (hn1 : k ≤ n1) (hn2 : n1 < 2 ^ 31) (hr : okR wn (a p) k) : fX8_meaning nF p n1 (nI k) t a = some (nI (snS (a 55) (a 56) (a p) k).1, t, a) := by
  have go : ∀ d i n j, i + d = k → 4 * d < n → j < 2 → jR (snS (a 55) (a 56) (a p) i).2.1 j → (gX8_meaning nF p n1 n).1 (nI k) (nI (snS (a 55) (a 56) (a p) i).1) (nI ((snS (a 55) (a 56) (a p) i).2.1 &&& 1)) (nI j) (nI (nB ((snS (a 55) (a 56) (a p) i).2.1 &&& 4 = 0))) (nI i) t a = some (nI (snS (a 55) (a 56) (a p) k).1, t, a) := by
    intro d
    induction d with
    | zero =>
      intro i n j hi hn hj hJ
      obtain ⟨n, rfl⟩ : ∃ n', n = n' + 1 := ⟨n - 1, by omega⟩
      have : i = k := by omega
      subst this
      show gX8_meaning_16 nF p n1 ((gX8_meaning nF p n1 n).1) ((gX8_meaning nF p n1 n).2.1) ((gX8_meaning nF p n1 n).2.2.1) ((gX8_meaning nF p n1 n).2.2.2) _ _ _ _ _ _ t a = _
      unfold gX8_meaning_16
      rw [if_pos ((x_le (by omega) (by omega)).mpr (Nat.le_refl i))]
    | succ d ih =>
      intro i n j hi hn hj hJ
      obtain ⟨n, rfl⟩ : ∃ n', n = n' + 4 := ⟨n - 4, by omega⟩
      obtain ⟨c, hc, e⟩ := hr i (by omega)
      obtain ⟨⟨kn, hkn, e1⟩, cn, hcn, e2⟩ := hw.2 c hc
      have hw8 := hw.1
      obtain ⟨i1, i2, i3⟩ := snS_ok (k := i) hw (fun j hj => hr j (by omega))
      have hs : snS (a 55) (a 56) (a p) (i + 1) = (gm (snS (a 55) (a 56) (a p) i).1 (snS (a 55) (a 56) (a p) i).2.1 kn cn, gf (snS (a 55) (a 56) (a p) i).2.1 kn, gi (snS (a 55) (a 56) (a p) i).2.2 kn) := by
        show (_, _, _) = _
        rw [e, nI_cl (by omega), e1, e2, nI_cl (by omega), nI_cl (by omega)]
      have ih := fun (n j : Nat) => ih (i + 1) n j (by omega)
      rw [hs] at ih
      generalize snS (a 55) (a 56) (a p) i = s at *
      obtain ⟨m, f, id⟩ := s
      dsimp only at *
      have lt1 : f &&& 1 < 2 ^ 31 := Nat.lt_of_le_of_lt Nat.and_le_left (by omega)
      show gX8_meaning_16 nF p n1 ((gX8_meaning nF p n1 (n + 3)).1) ((gX8_meaning nF p n1 (n + 3)).2.1) ((gX8_meaning nF p n1 (n + 3)).2.2.1) ((gX8_meaning nF p n1 (n + 3)).2.2.2) _ _ _ _ _ _ t a = _
      unfold gX8_meaning_16
      rw [if_neg (by rw [x_le (by omega) (by omega)]; omega), bnd_ok (by omega) hn2, nI_cl (by omega), e, bnd_ok (by omega) (by decide), nI_cl (by omega), e1]
      have hk4 : kn = 0 ∨ kn = 1 ∨ kn = 2 ∨ kn = 3 := by omega
      have B : ∀ x4, gX8_meaning_49 nF p n1 ((gX8_meaning nF p n1 (n + 2)).1) ((gX8_meaning nF p n1 (n + 2)).2.1) ((gX8_meaning nF p n1 (n + 2)).2.2.1) ((gX8_meaning nF p n1 (n + 2)).2.2.2) (nI k) (nI m) x4 (nI j) (nI (nB (f &&& 4 = 0))) (nI i) (nI c) t a = if kn = 0 then (if x4 = 0 then gX8_meaning_110 nF p n1 ((gX8_meaning nF p n1 n).1) ((gX8_meaning nF p n1 n).2.1) ((gX8_meaning nF p n1 n).2.2.1) ((gX8_meaning nF p n1 n).2.2.2) (nI k) (nI m) (nI j) (nI (nB (f &&& 4 = 0))) (nI i) (nI cn) t a else gX8_meaning_110 nF p n1 ((gX8_meaning nF p n1 n).1) ((gX8_meaning nF p n1 n).2.1) ((gX8_meaning nF p n1 n).2.2.1) ((gX8_meaning nF p n1 n).2.2.2) (nI k) (nI m) (nI j) (nI (nB (f &&& 4 = 0))) (nI i) (nI (255 - cn)) t a) else if kn = 2 then (gX8_meaning nF p n1 (n + 1)).1 (nI k) (nI m) x4 (nI (j ||| 1)) (nI (nB (f &&& 4 = 0))) (nI (i + 1)) t a else (gX8_meaning nF p n1 (n + 1)).1 (nI k) (nI m) x4 (nI j) (nI (nB (f &&& 4 = 0))) (nI (i + 1)) t a := by
        intro x4
        have C : ∀ x5, gX8_meaning_70 nF p n1 ((gX8_meaning nF p n1 (n + 1)).1) ((gX8_meaning nF p n1 (n + 1)).2.1) ((gX8_meaning nF p n1 (n + 1)).2.2.1) ((gX8_meaning nF p n1 (n + 1)).2.2.2) (nI k) (nI m) x4 x5 (nI (nB (f &&& 4 = 0))) (nI i) (nI c) t a = if kn = 0 then (if x4 = 0 then gX8_meaning_110 nF p n1 ((gX8_meaning nF p n1 n).1) ((gX8_meaning nF p n1 n).2.1) ((gX8_meaning nF p n1 n).2.2.1) ((gX8_meaning nF p n1 n).2.2.2) (nI k) (nI m) x5 (nI (nB (f &&& 4 = 0))) (nI i) (nI cn) t a else gX8_meaning_110 nF p n1 ((gX8_meaning nF p n1 n).1) ((gX8_meaning nF p n1 n).2.1) ((gX8_meaning nF p n1 n).2.2.1) ((gX8_meaning nF p n1 n).2.2.2) (nI k) (nI m) x5 (nI (nB (f &&& 4 = 0))) (nI i) (nI (255 - cn)) t a) else (gX8_meaning nF p n1 (n + 1)).1 (nI k) (nI m) x4 x5 (nI (nB (f &&& 4 = 0))) (nI (i + 1)) t a := by
          intro x5
          unfold gX8_meaning_70
          rw [bnd_ok (by omega) (by decide), nI_cl (by omega), e1, bnd_ok (by omega) (by decide), bnd_ok (by omega) (by decide), e2, comp_ok hcn, nI_1]
          by_cases g : kn = 0
          · subst g
            rw [if_pos z00, if_pos rfl]
            rfl
          · rw [if_neg g, if_neg (by rw [nI0 (by omega)]; exact g)]
        unfold gX8_meaning_49
        rw [bnd_ok (by omega) (by decide), nI_cl (by omega), e1]
        by_cases g : kn = 2
        · subst g
          rw [if_pos (by decide), if_neg (by decide), if_pos rfl, show (1 : Int32) = nI 1 from rfl, b_or (by omega) (by decide)]
          exact (C (nI (j ||| 1))).trans (if_neg (by decide))
        · rw [if_neg (by rw [show (2 : Int32) = nI 2 from rfl, x_eq (by omega) (by omega)]; exact g), if_neg g, Int32.or_zero]
          exact C (nI j)
      rcases hk4 with rfl | rfl | rfl | rfl
      · rw [if_neg (by decide), Int32.xor_zero]
        refine (B _).trans ?_
        rw [if_pos rfl]
        have T : ∀ x, x ≤ 255 → gX8_meaning_110 nF p n1 ((gX8_meaning nF p n1 n).1) ((gX8_meaning nF p n1 n).2.1) ((gX8_meaning nF p n1 n).2.2.1) ((gX8_meaning nF p n1 n).2.2.2) (nI k) (nI m) (nI j) (nI (nB (f &&& 4 = 0))) (nI i) (nI x) t a = (gX8_meaning nF p n1 n).1 (nI k) (nI (if f &&& 2 = 0 then m &&& x else m ||| x)) (nI 0) (nI 0) (nI 0) (nI (i + 1)) t a := by
          intro x hx
          have h0 := jR_0 f i2 j hj hJ
          have hb : nB (f &&& 4 = 0) = 0 ∨ nB (f &&& 4 = 0) = 1 := by unfold nB; split <;> simp
          unfold gX8_meaning_110
          rw [nI_1, b_and (by omega) (by omega), b_or (by omega) (by omega)]
          by_cases g : j = 0
          · subst g
            rw [if_pos z00, if_pos (h0.mpr (Or.inl rfl))]; rfl
          · rw [if_neg (by rw [nI0 (by omega)]; exact g)]
            rcases hb with hb | hb
            · rw [hb, if_pos z00, if_neg (by rw [h0, hb]; omega)]; rfl
            · rw [hb, if_neg (by decide), if_pos (h0.mpr (Or.inr hb))]; rfl
        have ih := ih n 0 (by omega) (by decide)
        have g4 : gf f 0 = 4 := rfl
        rw [g4] at ih
        have ih := ih (by decide)
        rw [show 4 &&& 1 = 0 from rfl, show nB (4 &&& 4 = 0) = 0 from rfl] at ih
        by_cases g : f &&& 1 = 0
        · have gmE : gm m f 0 cn = if f &&& 2 = 0 then m &&& cn else m ||| cn := by unfold gm; rw [if_pos rfl, if_pos g]
          rw [g, if_pos z00, T cn hcn, ← gmE]
          exact ih
        · have gmE : gm m f 0 cn = if f &&& 2 = 0 then m &&& (255 - cn) else m ||| (255 - cn) := by unfold gm; rw [if_pos rfl, if_neg g]
          rw [if_neg (by rw [nI0 lt1]; exact g), T (255 - cn) (by omega), ← gmE]
          exact ih
      · rw [if_pos (by decide), show (1 : Int32) = nI 1 from rfl, b_xor (by omega) (by decide)]
        refine (B _).trans ?_
        obtain ⟨j1, j2, j3⟩ := jR_1 f i2 j hj hJ
        rw [if_neg (by decide), if_neg (by decide), ← j1, ← j2]
        exact ih (n + 1) j (by omega) hj j3
      · rw [if_neg (by decide), Int32.xor_zero]
        refine (B _).trans ?_
        obtain ⟨j1, j2, j3⟩ := jR_2 f i2 j hj hJ
        rw [if_neg (by decide), if_pos rfl, ← j1, ← j2]
        exact ih (n + 1) (j ||| 1) (by omega) (Nat.or_lt_two_pow (n := 1) hj (by decide)) j3
      · rw [if_neg (by decide), Int32.xor_zero]
        refine (B _).trans ?_
        rw [if_neg (by decide), if_neg (by decide)]
        exact ih (n + 1) j (by omega) hj hJ
  have h0 := go k 0 nF 0 (by omega) (by omega) (by decide) (by show jR 0 0; decide)
  have z0 : snS (a 55) (a 56) (a p) 0 = (255, 0, 0) := rfl
  rw [z0] at h0
  have z1 : nI (nB ((255, 0, 0).2.1 &&& 4 = 0)) = 1 := rfl
  have z2 : nI ((255, 0, 0).2.1 &&& 1) = 0 := rfl
  rw [z1, z2] at h0
  unfold fX8_meaning
  exact h0
