/-! easy calls: means, follows, settles, say, saying -/
section PKA
variable {nF : Nat} {t : sT} {a : sA} {m f id ln : Nat}
theorem pk17 (hm : m < 256) (hf : f < 8) (hid : id < 8) (hl : ln < 8) : pk m f id ln < 131072 := by unfold pk; omega
theorem a_mean (hm : m < 256) (hf : f < 8) (hid : id < 8) (hl : ln < 8) : fX4_meaning nF (nI (pk m f id ln)) t a = some (nI m, t, a) := by
  have hp := pk17 hm hf hid hl
  unfold fX4_meaning
  rw [pk_andN (by omega) 8 (by decide), show pk m f id ln % 2 ^ 8 = m from by unfold pk; omega]
theorem a_idle (hm : m < 256) (hf : f < 8) (hid : id < 8) (hl : ln < 8) : fX4_idles nF (nI (pk m f id ln)) t a = some (nI id, t, a) := by
  have hp := pk17 hm hf hid hl
  unfold fX4_idles
  rw [pk_shrN (by omega) _ 11 (by decide), pk_andN (by omega) 3 (by decide), show pk m f id ln / 2 ^ 11 % 2 ^ 3 = id from by unfold pk; omega]
theorem a_len (hm : m < 256) (hf : f < 8) (hid : id < 8) (hl : ln < 8) : fX4_length nF (nI (pk m f id ln)) t a = some (nI ln, t, a) := by
  have hp := pk17 hm hf hid hl
  unfold fX4_length
  rw [pk_shrN (by omega) _ 14 (by decide), pk_andN (by omega) 3 (by decide), show pk m f id ln / 2 ^ 14 % 2 ^ 3 = ln from by unfold pk; omega]
theorem a_ofLen (hid : id < 8) (hl : ln < 8) : fX4_ofLength nF (nI ln) (nI id) t a = some (nI (pk 255 0 id ln), t, a) := by
  unfold fX4_ofLength
  rw [pk_shlN _ 11 (by decide) (by omega), pk_shlN _ 14 (by decide) (by omega), show (255 : Int32) = nI (p3 255 0 0) from rfl, show id * 2 ^ 11 = p3 0 0 id from by unfold p3; omega, show ln * 2 ^ 14 = p3 0 0 (8 * ln) from by unfold p3; omega, b_or (by decide) (Nat.lt_trans (p3_lt (by decide) (by decide) (by omega)) (by decide)), p3_or (by decide) (by decide) (by decide) (by decide), b_or (Nat.lt_trans (p3_lt (by decide) (by decide) (by rw [Nat.zero_or]; omega)) (by decide)) (Nat.lt_trans (p3_lt (by decide) (by decide) (by omega)) (by decide)), p3_or (by decide) (by decide) (by decide) (by decide), Nat.or_zero, Nat.or_zero, Nat.or_zero, Nat.or_zero, Nat.zero_or, pk_p3]
  have : id ||| 8 * ln = id + 8 * ln := by
    have := sp_or 3 0 id ln 0 hid (by decide)
    rw [Nat.zero_or, Nat.or_zero] at this
    have e1 : 2 ^ 3 * 0 + id = id := by omega
    have e2 : 2 ^ 3 * ln + 0 = 8 * ln := by omega
    rw [e1, e2] at this
    omega
  rw [this]
theorem mf78 {m' f' id' ln' : Nat} {L : Int32} (hm : m < 256) (hf : f < 8) (hid : id < 8) (hl : ln < 8) (hm' : m' < 256) (hf' : f' < 8) (hid' : id' < 8) (hl' : ln' < 8) : fX7_mayFollow nF L (nI (pk m f id ln)) (nI (pk m' f' id' ln')) t a = fX8_mayFollow nF L (nI ln) (nI id) (nI ln') (nI id') t a := by
  unfold fX7_mayFollow fX8_mayFollow
  rw [cal_of (a_len hm hf hid hl), cal_of (a_len hm' hf' hid' hl'), cal_of (a_idle hm hf hid hl), cal_of (a_idle hm' hf' hid' hl')]
theorem mf8 {L x1 x2 x3 x4 : Int32} : ∃ b : Int32, (b = 0 ∨ b = 1) ∧ ∀ t a, fX8_mayFollow nF L x1 x2 x3 x4 t a = some (b, t, a) := by
  unfold fX8_mayFollow
  by_cases g0 : L = 0
  · by_cases g : x3 ≤ x1
    · exact ⟨0, Or.inl rfl, fun t a => by rw [if_pos g0, if_pos g]; rfl⟩
    · exact ⟨1, Or.inr rfl, fun t a => by rw [if_pos g0, if_neg g]; rfl⟩
  · by_cases g1 : L = 1
    · by_cases g : x3 < x1
      · exact ⟨0, Or.inl rfl, fun t a => by rw [if_neg g0, if_pos g1, if_pos g]; rfl⟩
      · exact ⟨1, Or.inr rfl, fun t a => by rw [if_neg g0, if_pos g1, if_neg g]; rfl⟩
    · by_cases g2 : L = 2
      · by_cases g : x3 - x4 ≤ x1 - x2
        · exact ⟨0, Or.inl rfl, fun t a => by rw [if_neg g0, if_neg g1, if_pos g2, if_pos g]; rfl⟩
        · exact ⟨1, Or.inr rfl, fun t a => by rw [if_neg g0, if_neg g1, if_pos g2, if_neg g]; rfl⟩
      · by_cases g3 : L = 3
        · by_cases g : x1 = x3 + 1
          · exact ⟨1, Or.inr rfl, fun t a => by rw [if_neg g0, if_neg g1, if_neg g2, if_pos g3, if_pos g]; rfl⟩
          · exact ⟨0, Or.inl rfl, fun t a => by rw [if_neg g0, if_neg g1, if_neg g2, if_pos g3, if_neg g]; rfl⟩
        · exact ⟨1, Or.inr rfl, fun t a => by rw [if_neg g0, if_neg g1, if_neg g2, if_neg g3]; rfl⟩
theorem bit7 {b : Int32} (h : b = 0 ∨ b = 1) : fX7_asBit nF b t a = some (b, t, a) := by
  unfold fX7_asBit
  rcases h with rfl | rfl
  · rw [if_pos rfl]
  · rw [if_neg one0]
end PKA
/-- the row told so far, on both sides -/
theorem row_ok {t : sT} {a : sA} (h : Lo t a) : ∃ k wn m f id, k ≤ 6 ∧ wn ≤ 8 ∧ t 196 = nI wn ∧ t 3207 = nI wn ∧ t 833 = nI k ∧ t 3203 = nI k ∧ m < 256 ∧ f < 8 ∧ id ≤ k ∧ (∀ nF, 100 ≤ nF → fX2_sense nF 13 3 t a = some (nI (pk m f id k), t, a)) ∧ (∀ nF (t' : sT) (a' : sA), 100 ≤ nF → a' 55 = a 55 → a' 56 = a 56 → a' 52 = a 52 → fX8_meaning nF 52 6 (nI k) t' a' = some (nI m, t', a')) ∧ (∀ nF (t' : sT) (a' : sA), 100 ≤ nF → a' 55 = a 55 → a' 56 = a 56 → a' 52 = a 52 → fX8_idleOf nF 52 6 (nI k) t' a' = some (nI id, t', a')) := by
  obtain ⟨-, ⟨⟨w, hw, q1, q2, q3⟩, -⟩, ⟨k, wn, hk, hwn, r1, r2, r3, r4⟩, -⟩ := h
  have ew : wn = w := by have := r1.symm.trans q1; rw [x_eq (by omega) (by omega)] at this; exact this
  subst ew
  have hW : okW wn (a 4) (a 5) := ⟨hw, fun i hi => ⟨(q3 i hi).2.2.1, (q3 i hi).2.2.2⟩⟩
  have hW' : okW wn (a 55) (a 56) := ⟨hw, fun i hi => ⟨by rw [← (q3 i hi).1]; exact (q3 i hi).2.2.1, by rw [← (q3 i hi).2.1]; exact (q3 i hi).2.2.2⟩⟩
  have hR : okR wn (a 14) k := fun i hi => (r4 i hi).2
  have hR' : okR wn (a 52) k := fun i hi => by rw [← (r4 i hi).1]; exact (r4 i hi).2
  have hc : snS (a 55) (a 56) (a 52) k = snS (a 4) (a 5) (a 14) k := snS_congr hw hR (fun i hi => (r4 i hi).1.symm) (fun i hi => ⟨(q3 i hi).1.symm, (q3 i hi).2.1.symm⟩)
  obtain ⟨i1, i2, i3⟩ := snS_ok hW hR
  refine ⟨k, wn, _, _, _, hk, hwn, q1, q2, r2, r3, i1, i2, i3, fun nF hF => sense7 hF 13 q1 hW hk r2 hR, fun nF t' a' hF p1 p2 p3 => ?_, fun nF t' a' hF p1 p2 p3 => ?_⟩
  · rw [← p1, ← p2] at hW'
    rw [← p3] at hR'
    rw [mean8 hF hW' hk (by omega) (by decide) hR', p1, p2, p3, hc]
  · rw [← p1, ← p2] at hW'
    rw [← p3] at hR'
    rw [idle8 hF hW' hk (by omega) (by decide) hR', p1, p2, p3, hc]
/-- both rows taken -/
theorem inv_row0 {S : sT → sA → Prop} (hS : SF S) {N : Nat} {u v : Option Nat} {t : sT} {a : sA} (h : Inv S N u v t a) : Inv S N u v (va_up (va_up t 833 0) 3203 0) a := by
  obtain ⟨⟨h1, h2, h3, h4, h5, h6, h7⟩, hs, hh⟩ := h
  have kt : ∀ q, q ≠ 833 → q ≠ 3203 → va_up (va_up t 833 0) 3203 0 q = t q := fun q p r => by rw [up_ne r, up_ne p]
  obtain ⟨k, wn, hk, hwn, r1, -⟩ := h3
  exact ⟨⟨h1, h2, ⟨0, wn, by omega, hwn, r1, rfl, rfl, fun i hi => absurd hi (Nat.not_lt_zero i)⟩, h4, h5, h6, h7⟩, hS _ _ _ _ (fun q hq => kt q (by unfold tS at hq; omega) (by unfold tS at hq; omega)) (fun _ _ => rfl) hs, Hi.fr (fun q hq => kt q (by unfold tH at hq; omega) (by unfold tH at hq; omega)) (fun _ _ => rfl) hh⟩
theorem stp7 {nF : Nat} (hF : 100 ≤ nF) {S : sT → sA → Prop} (hS : SF S) : stp_7 nF (Inv S) := by
  intro N u v t a h
  obtain ⟨k, wn, m, f, id, hk, hwn, q1, q2, r2, r3, i1, i2, i3, e1, e2, e3⟩ := row_ok h.1
  refine ⟨nI m, va_up t 833 0, a, va_up (va_up t 833 0) 3203 0, a, ?_, ?_, inv_row0 hS h⟩
  · unfold fX7_means fX7_takeRow
    rw [e1 nF hF, calS, calS, a_mean i1 i2 (by omega) (by omega), calS]
  · unfold fX8_means
    rw [up_ne (by decide), r3, e2 nF _ _ hF rfl rfl rfl, calS]
theorem le6 {x : Int32} (h0 : ¬ x < 0) (h : ¬ (6 : Int32) < x) : ∃ j, j ≤ 6 ∧ x = nI j := nI_of2 (M := 6) (n := 6) rfl h0 (Int32.not_lt.mp h)
theorem stp8 {nF : Nat} (hF : 100 ≤ nF) {S : sT → sA → Prop} (hS : SF S) : stp_8 nF (Inv S) := by
  intro x y N u v t a h
  by_cases c0 : x < 0
  · refine st_ref hS h 4 (w := -4) ?_ ?_
    · unfold fX7_follows; rw [if_pos c0, R7_4]; rfl
    · unfold fX8_follows; rw [if_pos c0, R8_4]; rfl
  · by_cases c1 : 0 ≤ y
    · by_cases c2 : (6 : Int32) < x
      · refine st_ref hS h 6 (w := -6) ?_ ?_
        · unfold fX7_follows; rw [if_neg c0, if_pos c1, if_pos c2, R7_6]; rfl
        · unfold fX8_follows; rw [if_neg c0, if_pos c1, if_pos c2, R8_6]; rfl
      · by_cases c3 : y ≤ x
        · obtain ⟨ln', hl', rfl⟩ := le6 c0 c2
          obtain ⟨id', hi', rfl⟩ := nI_of (Int32.not_lt.mpr c1)
          have hid' : id' ≤ ln' := (x_le hi' (by omega)).mp c3
          obtain ⟨k, wn, m, f, id, hk, hwn, q1, q2, r2, r3, i1, i2, i3, e1, e2, e3⟩ := row_ok h.1
          obtain ⟨lw, hlw, l1, l2⟩ := h.1.2.1.2.2.2.1
          obtain ⟨b, hb, mb⟩ := mf8 (nF := nF) (L := nI lw) (x1 := nI k) (x2 := nI id) (x3 := nI ln') (x4 := nI id')
          refine ⟨b, va_up t 833 0, a, va_up (va_up t 833 0) 3203 0, a, ?_, ?_, inv_row0 hS h⟩
          · unfold fX7_follows fX7_takeRow
            rw [if_neg c0, if_pos c1, if_neg c2, if_pos c3, e1 nF hF, calS, calS, a_ofLen (by omega) (by omega), calS, l1, mf78 i1 i2 (by omega) (by omega) (by decide) (by decide) (by omega) (by omega), mb, calS, bit7 hb, calS]
          · unfold fX8_follows
            rw [if_neg c0, if_pos c1, if_neg c2, if_pos c3, up_ne (by decide), r3, e3 nF _ _ hF rfl rfl rfl, calS, up_ne (by decide), l2, mb, calS]
            rcases hb with rfl | rfl
            · rw [if_pos rfl]
            · rw [if_neg one0]
        · refine st_ref hS h 6 (w := -6) ?_ ?_
          · unfold fX7_follows; rw [if_neg c0, if_pos c1, if_neg c2, if_neg c3, R7_6]; rfl
          · unfold fX8_follows; rw [if_neg c0, if_pos c1, if_neg c2, if_neg c3, R8_6]; rfl
    · refine st_ref hS h 4 (w := -4) ?_ ?_
      · unfold fX7_follows; rw [if_neg c0, if_neg c1, R7_4]; rfl
      · unfold fX8_follows; rw [if_neg c0, if_neg c1, R8_4]; rfl
section SET
variable {nF : Nat} {t : sT} {a : sA} {x m : Int32}
theorem s7_yes (h0 : ¬ x < 0) (h : ¬ (255 : Int32) < x) : fX7_isSet nF x t a = some (1, t, a) := by unfold fX7_isSet; rw [if_neg h0, if_neg h]; rfl
theorem s7_no (h : x < 0 ∨ (255 : Int32) < x) : fX7_isSet nF x t a = some (0, t, a) := by
  unfold fX7_isSet
  by_cases g : x < 0
  · rw [if_pos g]; rfl
  · rw [if_neg g, if_pos (h.resolve_left g)]; rfl
theorem s8_yes (h0 : ¬ x < 0) (h : ¬ (255 : Int32) < x) : fX8_isSet nF x t a = some (1, t, a) := by unfold fX8_isSet; rw [in8_1 h0 h, calS]; rfl
theorem s8_no (h : x < 0 ∨ (255 : Int32) < x) : fX8_isSet nF x t a = some (0, t, a) := by unfold fX8_isSet; rw [in8_0 h, calS]; rfl
/-- does the meaning m settle the question x -/
theorem set_b (nF : Nat) (x m : Int32) : ∃ b : Int32, (b = 0 ∨ b = 1) ∧ (∀ t a, fX7_isSettled nF x m t a = some (b, t, a)) ∧ ∀ t a, fX8_doesSettle nF x m t a = some (b, t, a) := by
  unfold fX7_isSettled fX8_doesSettle fX7_isOnOneSide
  by_cases g0 : m = 0
  · exact ⟨0, Or.inl rfl, fun t a => by rw [if_pos g0]; rfl, fun t a => by rw [if_pos g0]; rfl⟩
  · by_cases g1 : m &&& (x ^^^ (-1 : Int32)) = 0
    · exact ⟨1, Or.inr rfl, fun t a => by rw [if_neg g0, if_pos g1]; rfl, fun t a => by rw [if_neg g0, if_pos g1]; rfl⟩
    · by_cases g2 : m &&& x = 0
      · exact ⟨1, Or.inr rfl, fun t a => by rw [if_neg g0, if_neg g1, if_pos g2]; rfl, fun t a => by rw [if_neg g0, if_neg g1, if_pos g2]; rfl⟩
      · exact ⟨0, Or.inl rfl, fun t a => by rw [if_neg g0, if_neg g1, if_neg g2]; rfl, fun t a => by rw [if_neg g0, if_neg g1, if_neg g2]; rfl⟩
end SET
theorem stp9 {nF : Nat} (hF : 100 ≤ nF) {S : sT → sA → Prop} (hS : SF S) : stp_9 nF (Inv S) := by
  intro x N u v t a h
  by_cases c : x < 0 ∨ (255 : Int32) < x
  · refine st_ref hS h 1 (w := -1) ?_ ?_
    · unfold fX7_settles; rw [s7_no c, calS, if_pos rfl, R7_1]; rfl
    · unfold fX8_settles; rw [s8_no c, calS, if_pos rfl, R8_1]; rfl
  · obtain ⟨c0, c1⟩ := not_or.mp c
    obtain ⟨k, wn, m, f, id, hk, hwn, q1, q2, r2, r3, i1, i2, i3, e1, e2, e3⟩ := row_ok h.1
    obtain ⟨b, hb, b1, b2⟩ := set_b nF x (nI m)
    refine ⟨b, va_up t 833 0, a, va_up (va_up t 833 0) 3203 0, a, ?_, ?_, inv_row0 hS h⟩
    · unfold fX7_settles fX7_takeRow
      rw [s7_yes c0 c1, calS, if_neg one0, e1 nF hF, calS, calS, a_mean i1 i2 (by omega) (by omega), calS, b1, calS, bit7 hb, calS]
    · unfold fX8_settles
      rw [s8_yes c0 c1, calS, if_neg one0, up_ne (by decide), r3, e2 nF _ _ hF rfl rfl rfl, calS, b2, calS]
      rcases hb with rfl | rfl
      · rw [if_pos rfl]
      · rw [if_neg one0]
theorem stp20 {nF : Nat} {S : sT → sA → Prop} (hS : SF S) : stp_20 nF (Inv S) := by
  intro x y N u v t a h
  obtain ⟨k, hk, q1, q2, q3⟩ := h.1.2.2.2.2.1
  rcases tri x (n := k) (by omega) with g | ⟨j, hj, rfl⟩ | ⟨g0, g⟩
  · refine st_ref hS h 1 (w := -1) ?_ ?_
    · unfold fX7_saying; rw [if_pos g, R7_1]; rfl
    · unfold fX8_saying; rw [in8_0 (Or.inl g), calS, if_pos rfl, R8_1]; rfl
  · obtain ⟨m, f, id, ln, hm, hf, hid, hl, e0, e1, e2, e3⟩ := q3 j hj
    have n0 : ¬ nI j < 0 := nneg (by omega)
    have n1 : nI j < nI k := (x_lt (by omega) (by omega)).mpr hj
    have a1 : fX8_in nF (nI j) 0 (t 3215 - 1) t a = some (1, t, a) := in8_1 n0 (by rw [q2, sub1_lt (by omega) (by omega)]; omega)
    have a2 : fX8_in nF (nI j) 0 (t 3215 - 1) t (rf7 2 a) = some (1, t, rf7 2 a) := in8_1 n0 (by rw [q2, sub1_lt (by omega) (by omega)]; omega)
    rcases tri y (n := 3) (by omega) with g | ⟨i, hi, rfl⟩ | ⟨g0, g⟩
    · have d0 : ¬ y = 0 := fun z => by rw [z] at g; exact absurd g (by decide)
      have d1 : ¬ y = 1 := fun z => by rw [z] at g; exact absurd g (by decide)
      have d2 : ¬ y = 2 := fun z => by rw [z] at g; exact absurd g (by decide)
      refine st_ref hS h 2 (w := -2) ?_ ?_
      · unfold fX7_saying; rw [if_neg n0, q1, if_pos n1, bnd_ok (by omega) (by decide), if_neg d0, if_neg d1, if_neg d2, R7_2]; rfl
      · unfold fX8_saying; rw [a2, calS, if_neg one0, in8_0 (Or.inl g), calS, if_pos rfl, R8_2]; rfl
    · have hi3 : i = 0 ∨ i = 1 ∨ i = 2 := by omega
      rcases hi3 with rfl | rfl | rfl
      · refine st_same h (w := nI ln) ?_ ?_
        · unfold fX7_saying; rw [if_neg n0, q1, if_pos n1, bnd_ok (by omega) (by decide), if_pos (by decide), nI_cl (by omega), e0, a_len hm hf (by omega) (by omega), calS]
        · unfold fX8_saying; rw [a1, calS, if_neg one0, in8_1 (by decide) (by decide), calS, if_neg one0, if_pos (by decide), bnd_ok (by omega) (by decide), nI_cl (by omega), e1]
      · refine st_same h (w := nI m) ?_ ?_
        · unfold fX7_saying; rw [if_neg n0, q1, if_pos n1, bnd_ok (by omega) (by decide), if_neg (by decide), if_pos (by decide), nI_cl (by omega), e0, a_mean hm hf (by omega) (by omega), calS]
        · unfold fX8_saying; rw [a1, calS, if_neg one0, in8_1 (by decide) (by decide), calS, if_neg one0, if_neg (by decide), if_pos (by decide), bnd_ok (by omega) (by decide), nI_cl (by omega), e2]
      · refine st_same h (w := nI id) ?_ ?_
        · unfold fX7_saying; rw [if_neg n0, q1, if_pos n1, bnd_ok (by omega) (by decide), if_neg (by decide), if_neg (by decide), if_pos (by decide), nI_cl (by omega), e0, a_idle hm hf (by omega) (by omega), calS]
        · unfold fX8_saying; rw [a1, calS, if_neg one0, in8_1 (by decide) (by decide), calS, if_neg one0, if_neg (by decide), if_neg (by decide), bnd_ok (by omega) (by decide), nI_cl (by omega), e3]
    · have d0 : ¬ y = 0 := fun z => by rw [z] at g; exact absurd g (by decide)
      have d1 : ¬ y = 1 := fun z => by rw [z] at g; exact absurd g (by decide)
      have d2 : ¬ y = 2 := fun z => by rw [z] at g; exact absurd g (by decide)
      refine st_ref hS h 2 (w := -2) ?_ ?_
      · unfold fX7_saying; rw [if_neg n0, q1, if_pos n1, bnd_ok (by omega) (by decide), if_neg d0, if_neg d1, if_neg d2, R7_2]; rfl
      · unfold fX8_saying; rw [a2, calS, if_neg one0, in8_0 (Or.inr (show (2 : Int32) < y from big_lt (n := 2) (by decide) g0 g)), calS, if_pos rfl, R8_2]; rfl
  · refine st_ref hS h 1 (w := -1) ?_ ?_
    · unfold fX7_saying; rw [if_neg g0, q1, if_neg (Int32.not_lt.mpr g), R7_1]; rfl
    · unfold fX8_saying; rw [in8_0 (Or.inr (by rw [q2]; exact big_sub1 (by omega) g0 g)), calS, if_pos rfl, R8_1]; rfl
