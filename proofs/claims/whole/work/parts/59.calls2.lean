/-! a saying's words by its number; answer, left -/
def lowS (R : Nat → Nat) (k : Nat) (x : Int32) : Int32 := if x = -1 then nI k else if x < 0 then -9 else if nI k ≤ x then -9 else nI (R x.toNatClampNeg)
theorem lv_le4 {w : Nat} (hw : w ≤ 8) {d : Nat} (hd : d ≤ 4) : lv w d ≤ 4681 := by
  have m0 : lv w 0 ≤ lv w 1 := lv_mono 0
  have m1 : lv w 1 ≤ lv w 2 := lv_mono 1
  have m2 : lv w 2 ≤ lv w 3 := lv_mono 2
  have m3 : lv w 3 ≤ lv w 4 := lv_mono 3
  have := lv_4 hw
  have h5 : d = 0 ∨ d = 1 ∨ d = 2 ∨ d = 3 ∨ d = 4 := by omega
  rcases h5 with rfl | rfl | rfl | rfl | rfl <;> omega
section DE
variable {nF P w k : Nat} {R : Nat → Nat} {t : sT} {a : sA}
theorem nb_dm (hw : w ≤ 8) {d : Nat} (hd : d + 1 ≤ 4) (hR : ∀ j, j < d + 1 → R j < w) : 0 < w ∧ 0 < nb w R (d + 1) ∧ nb w R (d + 1) < 5000 ∧ (nb w R (d + 1) - 1) / w = nb w R d ∧ (nb w R (d + 1) - 1) % w = R d := by
  have h1 := hR d (by omega)
  have h2 := nb_lt (d + 1) hR
  have h3 := lv_le4 hw hd
  have e : nb w R (d + 1) = nb w R d * w + 1 + R d := rfl
  obtain ⟨d1, d2⟩ := dm_step (s := nb w R d) h1
  exact ⟨by omega, by omega, by omega, by rw [e]; exact d1, by rw [e]; exact d2⟩
theorem len7 (hF : 100 ≤ nF) (hw : w ≤ 8) (q : t (64 * P + 12) = nI w) (hk : k ≤ 4) (hR : ∀ j, j < k → R j < w) : fX3_lengthOf nF P (nI (nb w R k)) t a = some (nI k, t, a) := by
  have go : ∀ d j n, j + d = k → d < n → gX3_lengthOf nF P n (nI j) (nI (nb w R d)) (nI j) t a = some (nI k, t, a) := by
    intro d
    induction d with
    | zero =>
      intro j n hj hn
      obtain ⟨n, rfl⟩ : ∃ m, n = m + 1 := ⟨n - 1, by omega⟩
      have : j = k := by omega
      subst this
      show gX3_lengthOf_7 nF P (gX3_lengthOf nF P n) _ _ _ t a = _
      unfold gX3_lengthOf_7
      rw [if_neg (by rw [show (6 : Int32) = nI 6 from rfl, x_le (by omega) (by omega)]; omega), if_pos (show nI (nb w R 0) ≤ 0 from Int32.le_refl _)]
    | succ d ih =>
      intro j n hj hn
      obtain ⟨n, rfl⟩ : ∃ m, n = m + 1 := ⟨n - 1, by omega⟩
      obtain ⟨w0, b0, b1, b2, -⟩ := nb_dm (R := R) hw (show d + 1 ≤ 4 by omega) (fun i hi => hR i (by omega))
      show gX3_lengthOf_7 nF P (gX3_lengthOf nF P n) _ _ _ t a = _
      unfold gX3_lengthOf_7
      rw [if_neg (by rw [show (6 : Int32) = nI 6 from rfl, x_le (by omega) (by omega)]; omega), if_neg (by rw [show (0 : Int32) = nI 0 from rfl, x_le (by omega) (by omega)]; omega), q, if_neg (by rw [show (0 : Int32) = nI 0 from rfl, x_le (by omega) (by omega)]; omega), dvz_ok w0 (by omega), show nI (nb w R (d + 1)) - 1 = nI (nb w R (d + 1) - 1) from pk_sub (b := 1) (by omega), pk_div (by omega) w0 (by omega), b2, nI_1]
      exact ih (j + 1) n (by omega) (by omega)
  exact go k 0 nF (by omega) (by omega)
theorem word7 (hF : 100 ≤ nF) (hw : w ≤ 8) (q : t (64 * P + 12) = nI w) (hk : k ≤ 4) (hR : ∀ j, j < k → R j < w) {i : Nat} : ∀ d m n, i + d = m → m < k → d < n → gX3_wordOf nF P n (nI i) (nI (nb w R (m + 1))) (nI m) t a = some (nI (R i), t, a) := by
  intro d
  induction d with
  | zero =>
    intro m n hm hmk hn
    obtain ⟨n, rfl⟩ : ∃ m, n = m + 1 := ⟨n - 1, by omega⟩
    have : m = i := by omega
    subst this
    obtain ⟨w0, b0, b1, b2, b3⟩ := nb_dm (R := R) hw (show m + 1 ≤ 4 by omega) (fun i hi => hR i (by omega))
    show gX3_wordOf_33 nF P (gX3_wordOf nF P n) _ _ _ t a = _
    unfold gX3_wordOf_33
    rw [if_pos ((x_le (by omega) (by omega)).mpr (Nat.le_refl _)), q, dvz_ok w0 (by omega), show nI (nb w R (m + 1)) - 1 = nI (nb w R (m + 1) - 1) from pk_sub (b := 1) (by omega), pk_rem (by omega) w0 (by omega), b3]
  | succ d ih =>
    intro m n hm hmk hn
    obtain ⟨n, rfl⟩ : ∃ m, n = m + 1 := ⟨n - 1, by omega⟩
    obtain ⟨m, rfl⟩ : ∃ m', m = m' + 1 := ⟨m - 1, by omega⟩
    obtain ⟨w0, b0, b1, b2, b3⟩ := nb_dm (R := R) hw (show m + 1 + 1 ≤ 4 by omega) (fun i hi => hR i (by omega))
    show gX3_wordOf_33 nF P (gX3_wordOf nF P n) _ _ _ t a = _
    unfold gX3_wordOf_33
    rw [if_neg (by rw [x_le (by omega) (by omega)]; omega), q, dvz_ok w0 (by omega), show nI (nb w R (m + 1 + 1)) - 1 = nI (nb w R (m + 1 + 1) - 1) from pk_sub (b := 1) (by omega), pk_div (by omega) w0 (by omega), b2, ← Int32.sub_eq_add_neg, show nI (m + 1) - 1 = nI m from pk_sub (a := m + 1) (b := 1) (by omega)]
    exact ih m n (by omega) (by omega) (by omega)
theorem low_ok (hF : 100 ≤ nF) (hw : w ≤ 8) (q : t 1228 = nI w) (hk : k ≤ 4) (hR : ∀ j, j < k → R j < w) (x : Int32) : fX7_lengthOrWord nF (nI (nb w R k)) x t a = some (lowS R k x, t, a) := by
  have hl := len7 (nF := nF) (P := 19) (a := a) hF hw q hk hR
  unfold fX7_lengthOrWord lowS
  by_cases h1 : x = -1
  · rw [if_pos h1, if_pos h1, hl, calS]
  · rw [if_neg h1, if_neg h1]
    unfold fX3_wordOf
    rw [hl, calS]
    by_cases h2 : x < 0
    · rw [if_pos h2, if_pos h2, calS]
    · rw [if_neg h2, if_neg h2]
      by_cases h3 : nI k ≤ x
      · rw [if_pos h3, if_pos h3, calS]
      · rw [if_neg h3, if_neg h3]
        obtain ⟨i, hi, rfl⟩ := nI_of h2
        have hik : i < k := by rw [x_le (by omega) hi] at h3; omega
        obtain ⟨k, rfl⟩ : ∃ k', k = k' + 1 := ⟨k - 1, by omega⟩
        have w0 := (nb_dm (R := R) hw (show k + 1 ≤ 4 by omega) (fun i hi => hR i (by omega))).1
        have qq : t (64 * 19 + 12) = nI w := q
        rw [qq, if_pos (show (0 : Int32) < nI w from (x_lt (a := 0) (b := w) (by omega) (by omega)).mpr w0), show nI (k + 1) - 1 = nI k from pk_sub (a := k + 1) (b := 1) (by omega), nI_cl hi]
        have := word7 (nF := nF) (P := 19) (a := a) (i := i) hF hw q hk hR (k - i) k nF (by omega) (by omega) (by omega)
        rw [this, calS]
end DE
theorem ge_m1 {y : Int32} (h : (-1 : Int32) ≤ y) : y = -1 ∨ ∃ i, i < 2 ^ 31 ∧ y = nI i := by
  by_cases h0 : y < 0
  · left
    rw [Int32.le_iff_toInt_le] at h
    rw [Int32.lt_iff_toInt_lt] at h0
    have e1 : (-1 : Int32).toInt = -1 := rfl
    have e0 : (0 : Int32).toInt = 0 := rfl
    rw [← Int32.toInt_inj]
    omega
  · exact Or.inr (nI_of h0)
/-- the reference's reading of a listed saying -/
theorem low8 {w : Nat} {kd cs : Nat → Nat} {t : sT} {a : sA} (hw : w ≤ 8) (h : LI w kd cs t a) {b : Nat} (hb : b < lv w 3) : ∃ R k, k ≤ 3 ∧ (∀ j, j < k → R j < w) ∧ b = nb w R k ∧ a 62 b = nI k ∧ ∀ i, i < k → a (64 + b) i = nI (R i) := by
  obtain ⟨R, k, h1, h2, h3, h4, h5, -⟩ := h.2 b hb
  exact ⟨R, k, h1, h2, h3, h4, h5⟩
theorem nm1 : ¬ (-1 : Int32) < 0 → False := fun h => h (by decide)
theorem stp10 {nF : Nat} (hF : 10000 ≤ nF) : stp_10 nF (Inv SS) := by
  intro x y N u v t a h
  obtain ⟨W, l, tc, q1, q2, hW, hb, hag, haw, l1, l2, hl, c1, c2, htc⟩ := CX_of h.1
  have hw8 := hW.1
  rcases per_ok (nF := nF) h.1 x with ⟨p1, p2⟩ | ⟨p, j, hp, hj, rfl, j1, j2, p1, p2⟩
  · refine st_ref SF_SS h 1 (w := -1) ?_ ?_
    · unfold fX7_answer; rw [p1, calS, if_pos rfl, R7_1]; rfl
    · unfold fX8_answer; rw [p2 _ _ rfl, calS, if_pos rfl, R8_1]; rfl
  by_cases hy : (-1 : Int32) ≤ y
  · obtain ⟨qs, ok, sen, ask⟩ := ask_ok h.1 l2
    obtain ⟨t2, a2, G, F, Z, f, fit, r1, r2, r3, r4, r5⟩ := rg_ok hF h.2.1 q1 hW hb l1 ok
    obtain ⟨vc, v1, v2⟩ := chosen_ok (nF := nF) (by omega) (okE hW) hw8 hb r2 r3 hj htc
    obtain ⟨t3, a3, m1, m2⟩ := list_ok (nF := nF) (t0 := t2) (a0 := a2) (by omega) (okE hW) hw8 (hag.fr (r5.2 55 (by omega)) (r5.2 56 (by omega))) (by rw [r5.1 3207 (by omega)]; exact q2) hF
    have e4 := ask nF t3 a3 (by omega) (by rw [m2.ms.1 _ (by omega), r5.1 _ (by omega)]) (by rw [m2.ms.1 _ (by omega), r5.1 _ (by omega)]) (by rw [m2.ms.2 _ (by omega), r5.2 _ (by omega)]) (by rw [m2.ms.2 _ (by omega), r5.2 _ (by omega)]) (by rw [m2.ms.2 _ (by omega), r5.2 _ (by omega)])
    have hLI : LI W (kE W (a 4)) (cE W (a 5)) (tq t3 qs l) a3 := m2.li.fr (tq_ne (by omega)) (fun _ _ _ => rfl) hw8
    have e5 := answerOf_ok (nF := nF) (A := a 6) (by omega) (okE hW) hb hw8 (haw.fr (a' := a3) (by rw [m2.ms.2 _ (by omega), r5.2 _ (by omega)])) hLI (tq_q (q := qs) (l := l)) hj htc
    have e58 : a3 58 p = tkL j := by rw [m2.ms.2 58 (by omega), r5.2 58 (by omega)]; exact j2
    have e14 : tq t3 qs l 3214 = nI tc := by rw [tq_ne (by omega), m2.ms.1 _ (by omega), r5.1 _ (by omega)]; exact c2
    have inv := inv_fin h r4 r5 (m2.ms.tr (mS.tq (q := qs) (l := l)))
    have c7 : ∀ (K : Int32 → sT → sA → Rs), fX7_answer nF (nI p) y t a = (if 0 ≤ vc then bnd vc 585 (cal (fX7_lengthOrWord nF (a2 22 vc.toNatClampNeg) y t2 a2) (fun v4 t4 a4 => some (v4, t4, a4))) else some (-9, t2, a2)) ∨ (0 ≤ vc ∧ ¬ 0 ≤ a2 22 vc.toNatClampNeg) := by
      intro K
      by_cases h1 : 0 ≤ vc
      · by_cases h2 : 0 ≤ a2 22 vc.toNatClampNeg
        · left
          unfold fX7_answer fX3_answerTo
          rw [p1, calS, if_neg one0, if_pos hy, sen nF (by omega), calS, bnd_ok (by omega) (by decide), nI_cl (by omega), j1, c1, r1, v1, calS, if_pos h1, if_pos h1]
          unfold bnd
          split
          · rfl
          · rw [calS]
            show (if 0 ≤ a2 22 vc.toNatClampNeg then _ else _) = _
            rw [if_pos h2]
        · exact Or.inr ⟨h1, h2⟩
      · left
        unfold fX7_answer fX3_answerTo
        rw [p1, calS, if_neg one0, if_pos hy, sen nF (by omega), calS, bnd_ok (by omega) (by decide), nI_cl (by omega), j1, c1, r1, v1, calS, if_neg h1, if_neg h1, calS, if_neg (by decide)]
    have c8 : fX8_answer nF (nI p) y t2 a2 = (if o9 (pkO W (kE W (a 4)) (cE W (a 5)) (a 6) j (nI l) qs tc) = (-9 : Int32) then some (-9, tq t3 qs l, a3) else (bnd (o9 (pkO W (kE W (a 4)) (cE W (a 5)) (a 6) j (nI l) qs tc)) 585 (if y < (a3 62 (o9 (pkO W (kE W (a 4)) (cE W (a 5)) (a 6) j (nI l) qs tc)).toNatClampNeg) then (if y = (-1 : Int32) then (bnd (o9 (pkO W (kE W (a 4)) (cE W (a 5)) (a 6) j (nI l) qs tc)) 585 (some (a3 62 (o9 (pkO W (kE W (a 4)) (cE W (a 5)) (a 6) j (nI l) qs tc)).toNatClampNeg, tq t3 qs l, a3))) else (bnd (o9 (pkO W (kE W (a 4)) (cE W (a 5)) (a 6) j (nI l) qs tc)) 585 (bnd y 3 (some (a3 (64 + (o9 (pkO W (kE W (a 4)) (cE W (a 5)) (a 6) j (nI l) qs tc)).toNatClampNeg) y.toNatClampNeg, tq t3 qs l, a3))))) else (some ((-9 : Int32), tq t3 qs l, a3))))) := by
      unfold fX8_answer
      rw [p2 _ _ (r5.1 _ (by omega)), calS, if_neg one0, if_pos hy, m1, calS, e4, calS, bnd_ok (by omega) (by decide), nI_cl (by omega), e58, e14, e5, calS]
    cases hpk : pkO W (kE W (a 4)) (cE W (a 5)) (a 6) j (nI l) qs tc with
    | none =>
      rw [hpk] at v2 c8
      have v2 : vc = -1 := v2
      subst v2
      rcases c7 (fun _ _ _ => none) with c7 | ⟨c7, -⟩
      · rw [if_neg (by decide)] at c7
        rw [if_pos (show o9 none = (-9 : Int32) from rfl)] at c8
        exact ⟨-9, t2, a2, tq t3 qs l, a3, c7, c8, inv⟩
      · exact absurd c7 (by decide)
    | some b =>
      rw [hpk] at v2 c8
      obtain ⟨g, hg, rfl, hFb⟩ := v2
      have hbl : b < lv W 3 := (pick_lt hpk).1
      have h585 := lv_3 hw8
      have hG := (r2.b hw8).1
      obtain ⟨R, k, hk, hR, eb, k1, k2⟩ := low8 hw8 hLI hbl
      have ga : a2 22 g = nI b := by
        have := (r2.2.2.2.2.2.1 g hg).2.2.2.1
        rw [hFb] at this
        exact this
      have o9s : o9 (some b) = nI b := rfl
      rw [o9s, if_neg (n9_nI (by omega)), nI_cl (by omega), k1, bnd_ok (by omega) (by decide), bnd_ok (by omega) (by decide), bnd_ok (by omega) (by decide)] at c8
      rw [nI_cl (by omega), ga] at c7
      rcases c7 (fun _ _ _ => none) with c7 | ⟨-, c7⟩
      · rw [if_pos (Int32.not_lt.mp (nneg (by omega))), bnd_ok (by omega) (by decide)] at c7
        have lo := low_ok (nF := nF) (t := t2) (a := a2) (k := k) (R := R) (by omega) hw8 r2.1 (by omega) hR y
        rw [← eb] at lo
        rw [lo, calS] at c7
        refine ⟨lowS R k y, t2, a2, tq t3 qs l, a3, c7, ?_, inv⟩
        rw [c8]
        unfold lowS
        rcases ge_m1 hy with rfl | ⟨i, hi, rfl⟩
        · rw [if_pos (show (-1 : Int32) < nI k from Int32.lt_of_lt_of_le (show (-1 : Int32) < 0 by decide) (Int32.not_lt.mp (nneg (by omega)))), if_pos rfl, if_pos rfl]
        · have hn1 : ¬ nI i = (-1 : Int32) := fun e => by have := nneg hi; rw [e] at this; exact this (by decide)
          rw [if_neg hn1, if_neg hn1, if_neg (nneg hi)]
          by_cases hik : i < k
          · rw [if_pos ((x_lt hi (by omega)).mpr hik), bnd_ok (show i < 3 by omega) (by decide), nI_cl hi, k2 i hik, if_neg (by rw [x_le (by omega) hi]; omega)]
          · rw [if_neg (by rw [x_lt hi (by omega)]; exact hik), if_pos ((x_le (by omega) hi).mpr (by omega))]
      · exact absurd (Int32.not_lt.mp (nneg (by omega))) c7
  · refine st_ref SF_SS h 4 (w := -4) ?_ ?_
    · unfold fX7_answer; rw [p1, calS, if_neg one0, if_neg hy, R7_4]; rfl
    · unfold fX8_answer; rw [p2 _ _ rfl, calS, if_neg one0, if_neg hy, R8_4]; rfl
/-- refresh, then what a question leaves -/
theorem rlu_ok {nF W l j : Nat} (hF : 10000 ≤ nF) {t : sT} {a : sA} (hs : SS t a) (q : t 196 = nI W) (hW : okW W (a 4) (a 5)) (hb : okB (a 6)) (ql : t 198 = nI l) {x : Sn} (hx : okX x 6) (hj : j < 5) : ∃ t2 a2, fX3_leftBy nF 19 (nI (pkS x)) (nI j) t a = some (nI (LF W (kE W (a 4)) (cE W (a 5)) (a 6) j (nI l) x), t2, a2) ∧ SS t2 a2 ∧ cS t t2 a a2 := by
  have hw8 := hW.1
  obtain ⟨t1, a1, G, F, Z, g1, g2, g3, g4, g5, g6, g7⟩ := ready_ok (P := 19) (more := 0) hF (by decide) (by decide) q hW hb hs.1
  have ew := wN0 hw8
  obtain ⟨t2, a2, i1, i2, i4, i5⟩ := left_ok (nF := nF) (by omega) (okE hW) wN_le hb (g7 6 (by omega)) (by decide) g3 hx (nI l) hj
  obtain ⟨s1, s2⟩ := SS_back (P := 19) (more := 0) (Or.inl ⟨rfl, rfl⟩) hs q hW (fun q hq => by rw [i4 q (by omega), g6 q hq]) (fun k hk => by rw [i5 k (by omega), g7 k hk]) (by rw [i4 _ (by omega)]; exact g2) i2 (g4.fr (i5 _ (by omega)) (i5 _ (by omega)) (i5 _ (by omega))) (g5.fr (i4 _ (by omega)) (i5 _ (by omega)))
  rw [ew] at i1
  refine ⟨t2, a2, ?_, s1, s2⟩
  unfold fX3_leftBy
  rw [g1, calS, g6 198 (by omega), ql, i1, calS]
theorem stp13 {nF : Nat} (hF : 10000 ≤ nF) : stp_13 nF (Inv SS) := by
  intro x N u v t a h
  obtain ⟨W, l, tc, q1, q2, hW, hb, hag, haw, l1, l2, hl, c1, c2, htc⟩ := CX_of h.1
  have hw8 := hW.1
  rcases per_ok (nF := nF) h.1 x with ⟨p1, p2⟩ | ⟨p, j, hp, hj, rfl, j1, j2, p1, p2⟩
  · refine st_ref SF_SS h 1 (w := -1) ?_ ?_
    · unfold fX7_left; rw [p1, calS, if_pos rfl, R7_1]; rfl
    · unfold fX8_left; rw [p2 _ _ rfl, calS, if_pos rfl, R8_1]; rfl
  obtain ⟨qs, ok, sen, ask⟩ := ask_ok h.1 l2
  have hs1 : SS (va_up t 833 0) a := SF_SS _ _ _ _ (fun q hq => up_ne (by unfold tS at hq; omega)) (fun _ _ => rfl) h.2.1
  obtain ⟨t2, a2, r1, r4, r5⟩ := rlu_ok hF hs1 (by rw [up_ne (by decide)]; exact q1) hW hb (by rw [up_ne (by decide)]; exact l1) ok hj
  have f5 : ∀ q, (q < 1216 ∨ (1280 ≤ q ∧ q < 1920) ∨ 1984 ≤ q) → q ≠ 833 → t2 q = t q := fun q hq h9 => by rw [r5.1 q hq, up_ne h9]
  obtain ⟨t3, a3, m1, m2⟩ := list_ok (nF := nF) (t0 := t2) (a0 := a2) (by omega) (okE hW) hw8 (hag.fr (r5.2 55 (by omega)) (r5.2 56 (by omega))) (by rw [f5 3207 (by omega) (by omega)]; exact q2) hF
  have e4 := ask nF t3 a3 (by omega) (by rw [m2.ms.1 _ (by omega), f5 _ (by omega) (by omega)]) (by rw [m2.ms.1 _ (by omega), f5 _ (by omega) (by omega)]) (by rw [m2.ms.2 _ (by omega), r5.2 _ (by omega)]) (by rw [m2.ms.2 _ (by omega), r5.2 _ (by omega)]) (by rw [m2.ms.2 _ (by omega), r5.2 _ (by omega)])
  have hLI : LI W (kE W (a 4)) (cE W (a 5)) (va_up (tq t3 qs l) 3203 0) a3 := m2.li.fr (by rw [up_ne (by decide), tq_ne (by omega)]) (fun _ _ _ => rfl) hw8
  have e5 := leftOf_ok (nF := nF) (A := a 6) (by omega) (okE hW) hb hw8 (haw.fr (a' := a3) (by rw [m2.ms.2 _ (by omega), r5.2 _ (by omega)])) hLI (q := qs) (L := nI l) ⟨rfl, rfl, rfl, rfl⟩ hj
  have e58 : a3 58 p = tkL j := by rw [m2.ms.2 58 (by omega), r5.2 58 (by omega)]; exact j2
  refine ⟨nI (LF W (kE W (a 4)) (cE W (a 5)) (a 6) j (nI l) qs), t2, a2, va_up (tq t3 qs l) 3203 0, a3, ?_, ?_, ?_⟩
  · unfold fX7_left fX7_takeRow
    rw [p1, calS, if_neg one0, sen nF (by omega), calS, calS, bnd_ok (by omega) (by decide), nI_cl (by omega), j1, r1, calS]
  · unfold fX8_left
    rw [p2 _ _ (f5 _ (by omega) (by omega)), calS, if_neg one0, m1, calS, e4, calS, bnd_ok (by omega) (by decide), nI_cl (by omega), e58, e5, calS]
  · have mm := m2.ms.tr (mS.tq (q := qs) (l := l))
    have hm3 : SS (va_up (tq t3 qs l) 3203 0) a3 := SF_SS _ _ _ _ (fun q hq => up_ne (by unfold tS at hq; omega)) (fun _ _ => rfl) (mm.ss r4)
    refine inv_scr (inv_row0 SF_SS h) hm3 (fun q hq => ?_) (fun k hk => ?_)
    · unfold scT at hq
      by_cases e : q = 3203
      · subst e; rw [up_same, up_same]
      · rw [up_ne e, up_ne e, mm.1 q (by omega), r5.1 q (by omega)]
    · unfold scA at hk
      rw [mm.2 k (by omega), r5.2 k (by omega)]
