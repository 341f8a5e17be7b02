/-! easy calls: say, known, count, chance -/
theorem inv_say {S : sT → sA → Prop} (hS : SF S) {N : Nat} {u v : Option Nat} {t : sT} {a : sA} (h : Inv S N u v t a) {k m f id ln : Nat} (hk : k < 12) (e1 : t 1089 = nI k) (hm : m < 256) (hf : f < 8) (hid : id ≤ ln) (hl : ln ≤ 6) : Inv S N u v (va_up (va_up (va_up (va_up t 833 0) 1089 (nI (k + 1))) 3215 (nI (k + 1))) 3203 0) (va_up (va_up (va_up (va_up a 18 (upd (a 18) k (nI (pk m f id ln)))) 59 (upd (a 59) k (nI ln))) 60 (upd (a 60) k (nI m))) 61 (upd (a 61) k (nI id))) := by
  obtain ⟨⟨h1, h2, h3, h4, h5, h6, h7⟩, hs, hh⟩ := h
  have kt : ∀ q, q ≠ 833 → q ≠ 1089 → q ≠ 3215 → q ≠ 3203 → va_up (va_up (va_up (va_up t 833 0) 1089 (nI (k + 1))) 3215 (nI (k + 1))) 3203 0 q = t q := fun q p r s w => by rw [up_ne w, up_ne s, up_ne r, up_ne p]
  have ka : ∀ q, q ≠ 18 → q ≠ 59 → q ≠ 60 → q ≠ 61 → va_up (va_up (va_up (va_up a 18 (upd (a 18) k (nI (pk m f id ln)))) 59 (upd (a 59) k (nI ln))) 60 (upd (a 60) k (nI m))) 61 (upd (a 61) k (nI id)) q = a q := fun q p r s w => by rw [up_ne w, up_ne s, up_ne r, up_ne p]
  obtain ⟨k0, wn, hk0, hwn, r1, -⟩ := h3
  obtain ⟨k', hk', p1, p2, p3⟩ := h5
  have ek : k' = k := by have := p1.symm.trans e1; rw [x_eq (by omega) (by omega)] at this; exact this
  subst ek
  refine ⟨⟨h1, h2, ⟨0, wn, by omega, hwn, r1, rfl, rfl, fun i hi => absurd hi (Nat.not_lt_zero i)⟩, h4, ⟨k' + 1, by omega, rfl, rfl, fun i hi => ?_⟩, h6, h7⟩, hS _ _ _ _ (fun q hq => kt q (by unfold tS at hq; omega) (by unfold tS at hq; omega) (by unfold tS at hq; omega) (by unfold tS at hq; omega)) (fun q hq => ka q (by unfold tSA at hq; omega) (by unfold tSA at hq; omega) (by unfold tSA at hq; omega) (by unfold tSA at hq; omega)) hs, Hi.fr (fun q hq => kt q (by unfold tH at hq; omega) (by unfold tH at hq; omega) (by unfold tH at hq; omega) (by unfold tH at hq; omega)) (fun q hq => ka q (by unfold tHA at hq; omega) (by unfold tHA at hq; omega) (by unfold tHA at hq; omega) (by unfold tHA at hq; omega)) hh⟩
  show ∃ m0 f0 id0 ln0, m0 < 256 ∧ f0 < 8 ∧ id0 ≤ ln0 ∧ ln0 ≤ 6 ∧ upd (a 18) k' (nI (pk m f id ln)) i = nI (pk m0 f0 id0 ln0) ∧ upd (a 59) k' (nI ln) i = nI ln0 ∧ upd (a 60) k' (nI m) i = nI m0 ∧ upd (a 61) k' (nI id) i = nI id0
  by_cases e : i = k'
  · subst e
    rw [upd_same, upd_same, upd_same, upd_same]
    exact ⟨m, f, id, ln, hm, hf, hid, hl, rfl, rfl, rfl, rfl⟩
  · rw [upd_ne e, upd_ne e, upd_ne e, upd_ne e]
    exact p3 i (by omega)
theorem stp19 {nF : Nat} (hF : 100 ≤ nF) {S : sT → sA → Prop} (hS : SF S) : stp_19 nF (Inv S) := by
  intro N u v t a h
  obtain ⟨k, wn, m, f, id, hk, hwn, q1, q2, r2, r3, i1, i2, i3, e1, e2, e3⟩ := row_ok h.1
  obtain ⟨lw, hlw, l1, l2⟩ := h.1.2.1.2.2.2.1
  obtain ⟨n, hn, t1, t2, t3⟩ := h.1.2.2.2.2.1
  have add7 : n < 12 → fX5_add nF 17 (nI (pk m f id k)) (va_up t 833 0) a = some (0, va_up (va_up t 833 0) 1089 (nI (n + 1)), va_up a 18 (upd (a 18) n (nI (pk m f id k)))) := by
    intro hlt
    unfold fX5_add
    show (if (12 : Int32) ≤ t 1089 then _ else bnd (t 1089) 12 (some (0, va_up (va_up t 833 0) 1089 (t 1089 + 1), va_up a 18 (upd (a 18) (t 1089).toNatClampNeg (nI (pk m f id k)))))) = _
    rw [t1, if_neg (by rw [show (12 : Int32) = nI 12 from rfl, x_le (by omega) (by omega)]; omega), bnd_ok hlt (by decide), nI_cl (by omega), nI_1]
  rcases Nat.eq_zero_or_pos n with e0 | hp
  · subst e0
    refine ⟨nI 1, va_up (va_up t 833 0) 1089 (nI (0 + 1)), va_up a 18 (upd (a 18) 0 (nI (pk m f id k))), _, _, ?_, ?_, inv_say hS h (by omega) t1 i1 i2 i3 hk⟩
    · unfold fX7_say
      rw [e1 nF hF, calS, t1, if_pos (by decide), if_pos (by decide), add7 (by omega), calS]; rfl
    · have S8 : ∀ (t' : sT) (a' : sA), t' 3203 = nI k → t' 3215 = nI 0 → a' 52 = a 52 → a' 55 = a 55 → a' 56 = a 56 → fX8_say nF t' a' = some (nI 1, va_up (va_up t' 3215 (nI 1)) 3203 0, va_up (va_up (va_up a' 59 (upd (a' 59) 0 (nI k))) 60 (upd (a' 60) 0 (nI m))) 61 (upd (a' 61) 0 (nI id))) := by
        intro t' a' p1 p2 p4 p5 p6
        unfold fX8_say
        rw [p1, e3 nF _ _ hF p5 p6 p4, calS, p2, if_pos (by decide), if_neg (by decide), bnd_ok (by omega) (by decide), p1, e2 nF _ _ hF (by rw [up_ne (by decide), p5]) (by rw [up_ne (by decide), p6]) (by rw [up_ne (by decide), p4]), calS, bnd_ok (by omega) (by decide), p2, bnd_ok (by omega) (by decide), nI_cl (by omega), nI_1]
        rfl
      exact S8 (va_up (va_up t 833 0) 1089 (nI (0 + 1))) (va_up a 18 (upd (a 18) 0 (nI (pk m f id k)))) r3 t2 rfl rfl rfl
  · have np : nI n ≤ 0 ↔ n ≤ 0 := x_le (a := n) (b := 0) (by omega) (by omega)
    obtain ⟨m', f', id', ln', hm', hf', hid', hl', c1, c2, c3, c4⟩ := t3 (n - 1) (by omega)
    obtain ⟨b, hb, mb⟩ := mf8 (nF := nF) (L := nI lw) (x1 := nI k) (x2 := nI id) (x3 := nI ln') (x4 := nI id')
    have ns : nI n - 1 = nI (n - 1) := pk_sub (a := n) (b := 1) hp
    have lat : fX5_latest nF 17 t a = some (nI (pk m' f' id' ln'), t, a) := by
      unfold fX5_latest
      show (if t 1089 ≤ 0 then _ else if (12 : Int32) < t 1089 then _ else bnd (t 1089 - 1) 12 (some (a 18 (t 1089 - 1).toNatClampNeg, t, a))) = _
      rw [t1, if_neg (by rw [np]; omega), if_neg (by rw [show (12 : Int32) = nI 12 from rfl, x_lt (by omega) (by omega)]; omega), ns, bnd_ok (by omega) (by decide), nI_cl (by omega), c1]
    have S7 : fX7_say nF t a = if b = 0 then (cal (fX7_refuse nF (-3) t a) (fun v8 t8 a8 => some (v8, t8, a8))) else (if nI n < (12 : Int32) then (cal (fX5_add nF 17 (nI (pk m f id k)) (va_up t 833 0) a) (fun v6 t6 a6 => some (t6 1089, t6, a6))) else (cal (fX7_refuse nF (-6) t a) (fun v7 t7 a7 => some (v7, t7, a7)))) := by
      unfold fX7_say
      rw [e1 nF hF, calS, t1, if_neg (by rw [np]; omega), lat, calS, l1, mf78 i1 i2 (by omega) (by omega) hm' hf' (by omega) (by omega), mb, calS, t1]
    have S8 : ∀ (t' : sT) (a' : sA), t' 3203 = nI k → t' 3215 = nI n → t' 3213 = nI lw → a' 52 = a 52 → a' 55 = a 55 → a' 56 = a 56 → a' 59 = a 59 → a' 61 = a 61 → fX8_say nF t' a' = if b = 0 then (cal (fX8_refuse nF (-3) t' a') (fun v8 t8 a8 => some (v8, t8, a8))) else (if nI n = (12 : Int32) then (cal (fX8_refuse nF (-6) t' a') (fun v7 t7 a7 => some (v7, t7, a7))) else (if n < 12 then some (nI (n + 1), va_up (va_up t' 3215 (nI (n + 1))) 3203 0, va_up (va_up (va_up a' 59 (upd (a' 59) n (nI k))) 60 (upd (a' 60) n (nI m))) 61 (upd (a' 61) n (nI id))) else none)) := by
      intro t' a' p1 p2 p3 p4 p5 p6 p7 p8
      unfold fX8_say
      rw [p1, e3 nF _ _ hF p5 p6 p4, calS, p2, if_neg (by rw [np]; omega), ns, bnd_ok (by omega) (by decide), bnd_ok (by omega) (by decide), nI_cl (by omega), p7, p8, c2, c4, p3, p1, mb, calS, p2, p1]
      by_cases b0 : b = 0
      · rw [if_pos b0, if_pos b0]
      · rw [if_neg b0, if_neg b0]
        by_cases n12 : nI n = 12
        · rw [if_pos n12, if_pos n12]
        · have hlt : n < 12 := by
            rw [show (12 : Int32) = nI 12 from rfl, x_eq (by omega) (by omega)] at n12
            omega
          rw [if_neg n12, if_neg n12, if_pos hlt, bnd_ok hlt (by decide), nI_cl (by omega), e2 nF _ _ hF (by rw [up_ne (by decide), p5]) (by rw [up_ne (by decide), p6]) (by rw [up_ne (by decide), p4]), calS, bnd_ok hlt (by decide), p2, bnd_ok hlt (by decide), nI_cl (by omega), nI_1, p7]
          have w1 : (va_up (va_up t' 3215 (nI (n + 1))) 3203 0) 3215 = nI (n + 1) := rfl
          rw [w1]
          have w2 : (va_up a' 59 (upd (a 59) n (nI k))) 60 = a' 60 := rfl
          have w3 : (va_up (va_up a' 59 (upd (a 59) n (nI k))) 60 (upd (a' 60) n (nI m))) 61 = a' 61 := rfl
          rw [w2, w3, p8]
    rcases hb with rfl | rfl
    · refine st_ref hS h 3 (w := -3) ?_ ?_
      · rw [S7, if_pos rfl, R7_3]; rfl
      · rw [S8 t (rf7 3 a) r3 t2 l2 rfl rfl rfl rfl rfl, if_pos rfl, R8_3]; rfl
    · rcases Nat.lt_or_ge n 12 with hlt | hge
      · refine ⟨nI (n + 1), va_up (va_up t 833 0) 1089 (nI (n + 1)), va_up a 18 (upd (a 18) n (nI (pk m f id k))), _, _, ?_, ?_, inv_say hS h hlt t1 i1 i2 i3 hk⟩
        · rw [S7, if_neg one0, if_pos (show nI n < 12 from (x_lt (a := n) (b := 12) (by omega) (by omega)).mpr hlt), add7 hlt, calS]; rfl
        · rw [S8 (va_up (va_up t 833 0) 1089 (nI (n + 1))) (va_up a 18 (upd (a 18) n (nI (pk m f id k)))) r3 t2 l2 rfl rfl rfl rfl rfl, if_neg one0, if_neg (by rw [show (12 : Int32) = nI 12 from rfl, x_eq (by omega) (by omega)]; omega), if_pos hlt]; rfl
      · have e : n = 12 := by omega
        subst e
        refine st_ref hS h 6 (w := -6) ?_ ?_
        · rw [S7, if_neg one0, if_neg (by decide), R7_6]; rfl
        · rw [S8 t (rf7 6 a) r3 t2 l2 rfl rfl rfl rfl rfl, if_neg one0, if_pos (by decide), R8_6]; rfl
theorem stp21 {nF : Nat} (hF : 100 ≤ nF) {S : sT → sA → Prop} (hS : SF S) : stp_21 nF (Inv S) := by
  intro N u v t a h
  obtain ⟨n, hn, t1, t2, t3⟩ := h.1.2.2.2.2.1
  have go : ∀ d i m1 m2 x, n ≤ i + d → i < 100 → d < m1 → d < m2 → ∃ w, gX5_meaningOfAnswers nF 17 m1 x (nI i) t a = some (w, t, a) ∧ gX8_known nF m2 x (nI i) t a = some (w, t, a) := by
    intro d
    induction d with
    | zero =>
      intro i m1 m2 x hi hi2 h1 h2
      obtain ⟨m1, rfl⟩ : ∃ n', m1 = n' + 1 := ⟨m1 - 1, by omega⟩
      obtain ⟨m2, rfl⟩ : ∃ n', m2 = n' + 1 := ⟨m2 - 1, by omega⟩
      refine ⟨x, ?_, ?_⟩
      · show (if t 1089 ≤ nI i then _ else _) = _
        rw [t1, if_pos ((x_le (by omega) (by omega)).mpr (by omega))]
      · show (if t 3215 ≤ nI i then _ else _) = _
        rw [t2, if_pos ((x_le (by omega) (by omega)).mpr (by omega))]
    | succ d ih =>
      intro i m1 m2 x hi hi2 h1 h2
      obtain ⟨m1, rfl⟩ : ∃ n', m1 = n' + 1 := ⟨m1 - 1, by omega⟩
      obtain ⟨m2, rfl⟩ : ∃ n', m2 = n' + 1 := ⟨m2 - 1, by omega⟩
      rcases Nat.lt_or_ge i n with hlt | hge
      · obtain ⟨m, f, id, ln, hm, hf, hid, hl, c1, c2, c3, c4⟩ := t3 i hlt
        obtain ⟨w, g1, g2⟩ := ih (i + 2) m1 m2 (x &&& nI m) (by omega) (by omega) (by omega) (by omega)
        refine ⟨w, ?_, ?_⟩
        · show (if t 1089 ≤ nI i then _ else if (12 : Int32) ≤ nI i then _ else bnd (nI i) 12 (cal (fX4_meaning nF (a 18 (nI i).toNatClampNeg) t a) (fun v1 t1 a1 => gX5_meaningOfAnswers nF 17 m1 (x &&& v1) (nI i + nI 2) t1 a1))) = _
          rw [t1, if_neg (by rw [x_le (by omega) (by omega)]; omega), if_neg (by rw [show (12 : Int32) = nI 12 from rfl, x_le (by omega) (by omega)]; omega), bnd_ok (by omega) (by decide), nI_cl (by omega), c1, a_mean hm hf (by omega) (by omega), calS, nI_add]
          exact g1
        · show (if t 3215 ≤ nI i then _ else bnd (nI i) 12 (gX8_known nF m2 (x &&& (a 60 (nI i).toNatClampNeg)) (nI i + nI 2) t a)) = _
          rw [t2, if_neg (by rw [x_le (by omega) (by omega)]; omega), bnd_ok (by omega) (by decide), nI_cl (by omega), c3, nI_add]
          exact g2
      · refine ⟨x, ?_, ?_⟩
        · show (if t 1089 ≤ nI i then _ else _) = _
          rw [t1, if_pos ((x_le (by omega) (by omega)).mpr (by omega))]
        · show (if t 3215 ≤ nI i then _ else _) = _
          rw [t2, if_pos ((x_le (by omega) (by omega)).mpr (by omega))]
  obtain ⟨w, g1, g2⟩ := go 12 1 nF nF 255 (by omega) (by decide) (by omega) (by omega)
  refine st_same h (w := w) ?_ ?_
  · unfold fX7_known fX5_meaningOfAnswers
    rw [show (1 : Int32) = nI 1 from rfl, g1, calS]
  · unfold fX8_known
    exact g2
/-- the weights of the cases in x, up to the case i -/
def wS (ws : Nat → Int32) (x : Int32) : Nat → Nat
  | 0 => 0
  | i + 1 => wS ws x i + (if (x >>> (nI i &&& 31)) &&& (1 : Int32) = 0 then 0 else (ws i).toNatClampNeg)
def okB (ws : Nat → Int32) : Prop := ∀ i, i < 8 → ∃ c, c ≤ 9 ∧ ws i = nI c
theorem wS_le {ws : Nat → Int32} (hb : okB ws) (x : Int32) {i : Nat} (hi : i ≤ 8) : wS ws x i ≤ 9 * i := by
  induction i with
  | zero => exact Nat.le_refl 0
  | succ i ih =>
    obtain ⟨c, hc, e⟩ := hb i (by omega)
    have ih := ih (by omega)
    show wS ws x i + (if _ then 0 else (ws i).toNatClampNeg) ≤ _
    rw [e, nI_cl (by omega)]
    split <;> omega
theorem wS_congr {ws ws' : Nat → Int32} (x : Int32) {i : Nat} (h : ∀ j, j < i → ws' j = ws j) : wS ws' x i = wS ws x i := by
  induction i with
  | zero => rfl
  | succ i ih =>
    show wS ws' x i + (if _ then 0 else (ws' i).toNatClampNeg) = wS ws x i + (if _ then 0 else (ws i).toNatClampNeg)
    rw [ih (fun j hj => h j (by omega)), h i (by omega)]
theorem weight7 {nF : Nat} (hF : 100 ≤ nF) {t : sT} {a : sA} (hb : okB (a 6)) (x : Int32) : fX6_weightOf nF 3 x t a = some (nI (wS (a 6) x 8), t, a) := by
  have go : ∀ d i n, i + d = 8 → d < n → gX6_weightOf nF 3 n x (nI (wS (a 6) x i)) (nI i) t a = some (nI (wS (a 6) x 8), t, a) := by
    intro d
    induction d with
    | zero =>
      intro i n hi hn
      obtain ⟨n, rfl⟩ : ∃ n', n = n' + 1 := ⟨n - 1, by omega⟩
      have : i = 8 := by omega
      subst this
      rfl
    | succ d ih =>
      intro i n hi hn
      obtain ⟨n, rfl⟩ : ∃ n', n = n' + 1 := ⟨n - 1, by omega⟩
      obtain ⟨c, hc, e⟩ := hb i (by omega)
      have ih := ih (i + 1) n (by omega) (by omega)
      have hs : wS (a 6) x (i + 1) = wS (a 6) x i + (if (x >>> (nI i &&& 31)) &&& (1 : Int32) = 0 then 0 else c) := by
        show _ + (if _ then 0 else (a 6 i).toNatClampNeg) = _
        rw [e, nI_cl (by omega)]
      rw [hs] at ih
      show (if (8 : Int32) ≤ nI i then _ else if (x >>> (nI i &&& 31)) &&& (1 : Int32) = 0 then gX6_weightOf nF 3 n x (nI (wS (a 6) x i)) (nI i + 1) t a else bnd (nI i) 8 (gX6_weightOf nF 3 n x (nI (wS (a 6) x i) + a 6 (nI i).toNatClampNeg) (nI i + 1) t a)) = _
      rw [if_neg (by rw [show (8 : Int32) = nI 8 from rfl, x_le (by omega) (by omega)]; omega), bnd_ok (by omega) (by decide), nI_cl (by omega), e, nI_1, nI_add]
      by_cases g : (x >>> (nI i &&& 31)) &&& (1 : Int32) = 0
      · rw [if_pos g] at ih ⊢
        exact ih
      · rw [if_neg g] at ih ⊢
        exact ih
  exact go 8 0 nF (by omega) (by omega)
theorem weight8 {nF : Nat} (hF : 100 ≤ nF) {t : sT} {a : sA} (hb : okB (a 57)) (x : Int32) : fX8_weightOf nF x t a = some (nI (wS (a 57) x 8), t, a) := by
  have go : ∀ d i n, i + d = 8 → d < n → gX8_weightOf nF n x (nI (wS (a 57) x i)) (nI i) t a = some (nI (wS (a 57) x 8), t, a) := by
    intro d
    induction d with
    | zero =>
      intro i n hi hn
      obtain ⟨n, rfl⟩ : ∃ n', n = n' + 1 := ⟨n - 1, by omega⟩
      have : i = 8 := by omega
      subst this
      rfl
    | succ d ih =>
      intro i n hi hn
      obtain ⟨n, rfl⟩ : ∃ n', n = n' + 1 := ⟨n - 1, by omega⟩
      obtain ⟨c, hc, e⟩ := hb i (by omega)
      have ih := ih (i + 1) n (by omega) (by omega)
      have hs : wS (a 57) x (i + 1) = wS (a 57) x i + (if (x >>> (nI i &&& 31)) &&& (1 : Int32) = 0 then 0 else c) := by
        show _ + (if _ then 0 else (a 57 i).toNatClampNeg) = _
        rw [e, nI_cl (by omega)]
      rw [hs] at ih
      show (if (8 : Int32) ≤ nI i then _ else if (x >>> (nI i &&& 31)) &&& (1 : Int32) = 0 then gX8_weightOf nF n x (nI (wS (a 57) x i) + 0) (nI i + 1) t a else bnd (nI i) 8 (gX8_weightOf nF n x (nI (wS (a 57) x i) + a 57 (nI i).toNatClampNeg) (nI i + 1) t a)) = _
      rw [if_neg (by rw [show (8 : Int32) = nI 8 from rfl, x_le (by omega) (by omega)]; omega), bnd_ok (by omega) (by decide), nI_cl (by omega), e, nI_1, nI_add, Int32.add_zero]
      by_cases g : (x >>> (nI i &&& 31)) &&& (1 : Int32) = 0
      · rw [if_pos g] at ih ⊢
        exact ih
      · rw [if_neg g] at ih ⊢
        exact ih
  exact go 8 0 nF (by omega) (by omega)
/-- weights of cases, both sides -/
theorem wt_ok {t : sT} {a : sA} (h : Lo t a) : okB (a 6) ∧ okB (a 57) ∧ ∀ x, wS (a 57) x 8 = wS (a 6) x 8 := by
  obtain ⟨-, ⟨-, q, -⟩, -⟩ := h
  exact ⟨fun i hi => (q i hi).2, fun i hi => by rw [← (q i hi).1]; exact (q i hi).2, fun x => wS_congr x (fun j hj => (q j hj).1.symm)⟩
/-- the greatest common divisor, both sides -/
theorem gcd_ok {nF : Nat} {t : sT} {a : sA} : ∀ b A c n n', c + b < 100 → b < n → b < n' → (0 < A ∨ 0 < b) → A < 1000 → ∃ g, 0 < g ∧ g < 1000 ∧ gX7_commonDivisor nF n (nI A) (nI b) (nI c) t a = some (nI g, t, a) ∧ gX8_common nF n' (nI A) (nI b) t a = some (nI g, t, a) := by
  intro b
  induction b using Nat.strongRecOn with
  | _ b ih =>
    intro A c n n' hc hn hn' hp hA
    obtain ⟨n, rfl⟩ : ∃ m, n = m + 1 := ⟨n - 1, by omega⟩
    obtain ⟨n', rfl⟩ : ∃ m, n' = m + 1 := ⟨n' - 1, by omega⟩
    show ∃ g, 0 < g ∧ g < 1000 ∧ (if nI b = 0 then _ else if (100 : Int32) ≤ nI c then _ else dvz (nI b) (gX7_commonDivisor nF n (nI b) (nI A - nI A / nI b * nI b) (nI c + 1) t a)) = _ ∧ (if nI b = 0 then _ else dvz (nI b) (gX8_common nF n' (nI b) (nI A - nI A / nI b * nI b) t a)) = _
    rcases Nat.eq_zero_or_pos b with rfl | hb
    · exact ⟨A, by omega, hA, by rw [if_pos z00], by rw [if_pos z00]⟩
    · have hlt := Nat.mod_lt A hb
      have nb : ¬ nI b = 0 := by rw [nI0 (by omega)]; omega
      obtain ⟨g, g0, g1, g2, g3⟩ := ih (A % b) hlt b (c + 1) n n' (by omega) (by omega) (by omega) (Or.inl hb) (by omega)
      refine ⟨g, g0, g1, ?_, ?_⟩
      · rw [if_neg nb, if_neg (by rw [show (100 : Int32) = nI 100 from rfl, x_le (by omega) (by omega)]; omega), pk_rem (by omega) hb (by omega), nI_1]
        unfold dvz
        rw [if_neg nb]
        exact g2
      · rw [if_neg nb, pk_rem (by omega) hb (by omega)]
        unfold dvz
        rw [if_neg nb]
        exact g3
