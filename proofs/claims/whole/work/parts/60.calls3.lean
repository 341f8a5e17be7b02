/-! best, under, idle -/
theorem fb_fresh {nF P : Nat} {t t1 : sT} {a a1 : sA} {x y : Int32} (h : fX3_refresh nF P t a = some (0, t1, a1)) (h17 : t1 (64 * P + 17) = 1) : fX3_findBest nF P x y t a = fX3_findBest nF P x y t1 a1 := by
  have : fX3_refresh nF P t1 a1 = some (0, t1, a1) := by
    unfold fX3_refresh
    rw [h17, if_neg one0]
  unfold fX3_findBest
  rw [h, this]
/-- the best question, by the class -/
theorem fbest_ok {nF P more W l j : Nat} (hF : 10000 ≤ nF) (hP : (P = 19 ∧ more = 0) ∨ (P = 30 ∧ more = 1)) {t : sT} {a : sA} (hs : SS t a) (q : t 196 = nI W) (hW : okW W (a 4) (a 5)) (hb : okB (a 6)) (hw0 : 0 < wN W more) (hl : l < 5) (hj : j < 5) : ∃ t2 a2 b, fX3_leftOfBest nF P (nI j) (nI l) t a = some (nI (LF (wN W more) (kE W (a 4)) (cE W (a 5)) (a 6) j (nI l) (sn (wN W more) (kE W (a 4)) (cE W (a 5)) b)), t2, a2) ∧ fX3_bestQuestion nF P (nI j) (nI l) t a = some (nI b, t2, a2) ∧ bestO (wN W more) (kE W (a 4)) (cE W (a 5)) (a 6) j (nI l) = some b ∧ SS t2 a2 ∧ cS t t2 a a2 ∧ t2 (64 * P + 12) = nI (wN W more) := by
  have hP9 : 19 ≤ P := by omega
  obtain ⟨t1, a1, G, F, Z, g1, g2, g3, g4, g5, g6, g7⟩ := ready_ok (P := P) (more := more) hF hP9 (by omega) q hW hb (SS_sc hP hs)
  obtain ⟨t2, a2, i1, i2, i3, i4, i5, i6⟩ := findBest_ok (nF := nF) (by omega) (okE hW) wN_le hw0 hb (g7 6 (by omega)) hP9 g2 g3 g4 hl hj
  obtain ⟨s1, s2⟩ := SS_back hP hs q hW (fun q hq => by rw [i5 q (by omega), g6 q hq]) (fun k hk => by rw [i6 k (by omega) (by omega) (by omega), g7 k hk]) (by rw [i5 _ (by omega)]; exact g2) i2 i3 (g5.fr (i5 _ (by omega)) (i6 _ (by omega) (by omega) (by omega)))
  obtain ⟨b, g, k1, k2, k3, k4, k5⟩ := i4
  have hfb : fX3_findBest nF P (nI j) (nI l) t a = some (nI (l * 5 + j), t2, a2) := (fb_fresh g1 g2).trans i1
  refine ⟨t2, a2, b, ?_, ?_, k2, s1, s2, i2.1⟩
  · unfold fX3_leftOfBest
    rw [hfb, calS, if_pos (Int32.not_lt.mp (nneg (by omega))), bnd_ok (by omega) (by decide), nI_cl (by omega), k5]
  · unfold fX3_bestQuestion
    rw [hfb, calS, if_pos (Int32.not_lt.mp (nneg (by omega))), bnd_ok (by omega) (by decide), nI_cl (by omega), k3, bnd_ok k1 (by decide), nI_cl (by omega), k4]
/-- .. and by the reference -/
theorem bestOf_ok {nF w j : Nat} {kd cs : Nat → Nat} {A : Nat → Int32} {L : Int32} {t : sT} {a : sA} (hF : 10000 ≤ nF) (hT : okT kd cs) (hA : okB A) (hw : w ≤ 8) (hag : AG w kd cs a) (hAW : AW A a) (q : t 3207 = nI w) (hj : j < 5) : ∃ t3 a3, fX8_bestOf nF (tkL j) L t a = some (o9 (bestO w kd cs A j L), t3, a3) ∧ (∀ b, bestO w kd cs A j L = some b → t3 3233 = nI (LF w kd cs A j L (sn w kd cs b))) ∧ LI w kd cs t3 a3 ∧ mS t t3 a a3 := by
  obtain ⟨t2, a2, m1, m2⟩ := list_ok (nF := nF) (t0 := t) (a0 := a) (by omega) hT hw hag q hF
  have hAW2 : AW A a2 := hAW.fr (m2.ms.2 57 (by omega))
  have h585 := lv_3 hw
  have hp := lv_pos (w := w) 3
  obtain ⟨t3, i1, i2, i3⟩ := bestOf_loop (nF := nF) (a := a2) (L := L) (by omega) hT hA hw hAW2 hj (lv w 3 - 1) 1 nF t2 (Nat.le_refl 1) (by omega) (by omega) m2.li (fun b hb => by
    have e : pick (fun i => decide (1 ≤ i)) (fun i => 6000 - LF w kd cs A j L (sn w kd cs i)) 1 = none := rfl
    rw [e] at hb
    exact absurd hb (by simp))
  refine ⟨t3, a2, ?_, i2, m2.li.fr (i3 _ (by omega)) (fun _ _ _ => rfl) hw, m2.ms.tr ⟨fun q hq => i3 q (by omega), fun _ _ => rfl⟩⟩
  unfold fX8_bestOf
  rw [m1, calS]
  exact i1
theorem bestO_0 {kd cs : Nat → Nat} {A : Nat → Int32} {j : Nat} {L : Int32} : bestO 0 kd cs A j L = none := rfl
theorem stp14 {nF : Nat} (hF : 10000 ≤ nF) : stp_14 nF (Inv SS) := by
  intro x y N u v t a h
  obtain ⟨W, l, tc, q1, q2, hW, hb, hag, haw, l1, l2, hl, c1, c2, htc⟩ := CX_of h.1
  have hw8 := hW.1
  rcases per_ok (nF := nF) h.1 x with ⟨p1, p2⟩ | ⟨p, j, hp, hj, rfl, j1, j2, p1, p2⟩
  · refine st_ref SF_SS h 1 (w := -1) ?_ ?_
    · unfold fX7_best; rw [p1, calS, if_pos rfl, R7_1]; rfl
    · unfold fX8_best; rw [p2 _ _ rfl, calS, if_pos rfl, R8_1]; rfl
  by_cases hy : (-1 : Int32) ≤ y
  · by_cases hW0 : W = 0
    · subst hW0
      obtain ⟨t3, a3, m1, m2, m3, m4⟩ := bestOf_ok (nF := nF) (A := a 6) (L := nI l) hF (okE hW) hb hw8 hag haw q2 hj
      rw [bestO_0] at m1
      refine ⟨-9, t, a, t3, a3, ?_, ?_, inv_fin h h.2.1 cS.rf m4⟩
      · unfold fX7_best
        rw [p1, calS, if_neg one0, if_pos hy, q1, if_pos z00]
      · unfold fX8_best
        rw [p2 _ _ rfl, calS, if_neg one0, if_pos hy, bnd_ok (by omega) (by decide), nI_cl (by omega), j2, l2, m1, calS, if_pos (show o9 none = (-9 : Int32) from rfl)]
    · have ew := wN0 hw8
      obtain ⟨t2, a2, b, b1, b2, b3, b4, b5, b6⟩ := fbest_ok (P := 19) (more := 0) hF (Or.inl ⟨rfl, rfl⟩) h.2.1 q1 hW hb (by rw [ew]; omega) hl hj
      rw [ew] at b1 b3 b6
      obtain ⟨t3, a3, m1, m2, m3, m4⟩ := bestOf_ok (nF := nF) (A := a 6) (L := nI l) (t := t2) (a := a2) hF (okE hW) hb hw8 (hag.fr (b5.2 55 (by omega)) (b5.2 56 (by omega))) (haw.fr (b5.2 57 (by omega))) (by rw [b5.1 3207 (by omega)]; exact q2) hj
      rw [b3] at m1
      have m2 := m2 b b3
      have hbl : b < lv W 3 := (pick_lt b3).1
      have h585 := lv_3 hw8
      obtain ⟨R, k, hk, hR, eb, k1, k2⟩ := low8 hw8 m3 hbl
      have n0 : ¬ nI W = 0 := by rw [nI0 (by omega)]; exact hW0
      have o9s : o9 (some b) = nI b := rfl
      have c8 : fX8_best nF (nI p) y t2 a2 = (if y ≤ nI k then (if y = (-1 : Int32) then (some (t3 3233, t3, a3)) else (if y = 0 then (some (nI k, t3, a3)) else (bnd (y - (1 : Int32)) 3 (some (a3 (64 + b) (y - (1 : Int32)).toNatClampNeg, t3, a3))))) else (some ((-9 : Int32), t3, a3))) := by
        unfold fX8_best
        rw [p2 _ _ (b5.1 _ (by omega)), calS, if_neg one0, if_pos hy, bnd_ok (by omega) (by decide), nI_cl (by omega), b5.2 58 (by omega), j2, b5.1 3213 (by omega), l2, m1, calS, o9s, if_neg (n9_nI (by omega)), bnd_ok (by omega) (by decide), nI_cl (by omega), k1, bnd_ok (by omega) (by decide), bnd_ok (by omega) (by decide)]
      rcases ge_m1 hy with rfl | ⟨i, hi, rfl⟩
      · refine ⟨nI (LF W (kE W (a 4)) (cE W (a 5)) (a 6) j (nI l) (sn W (kE W (a 4)) (cE W (a 5)) b)), t2, a2, t3, a3, ?_, ?_, inv_fin h b4 b5 m4⟩
        · unfold fX7_best
          rw [p1, calS, if_neg one0, if_pos hy, q1, if_neg n0, bnd_ok (by omega) (by decide), if_pos rfl, nI_cl (by omega), j1, l1, b1, calS]
        · rw [c8, if_pos (Int32.le_of_lt (Int32.lt_of_lt_of_le (show (-1 : Int32) < 0 by decide) (Int32.not_lt.mp (nneg (by omega))))), if_pos rfl, m2]
      · have hn1 : ¬ nI i = (-1 : Int32) := fun e => by have := nneg hi; rw [e] at this; exact this (by decide)
        have lo := low_ok (nF := nF) (t := t2) (a := a2) (k := k) (R := R) (by omega) hw8 b6 (by omega) hR (nI i - 1)
        rw [← eb] at lo
        refine ⟨lowS R k (nI i - 1), t2, a2, t3, a3, ?_, ?_, inv_fin h b4 b5 m4⟩
        · unfold fX7_best
          rw [p1, calS, if_neg one0, if_pos hy, q1, if_neg n0, bnd_ok (by omega) (by decide), if_neg hn1, nI_cl (by omega), j1, l1, b2, calS, lo, calS]
        · rw [c8, if_neg hn1]
          unfold lowS
          rcases Nat.eq_zero_or_pos i with e | e
          · subst e
            rw [if_pos ((x_le (by omega) (by omega)).mpr (Nat.zero_le k)), if_pos z00, if_pos (show nI 0 - 1 = -1 from rfl)]
          · have ei : nI i - 1 = nI (i - 1) := pk_sub (a := i) (b := 1) e
            have hn2 : ¬ nI (i - 1) = (-1 : Int32) := fun e => by have := nneg (show i - 1 < 2 ^ 31 by omega); rw [e] at this; exact this (by decide)
            rw [ei, if_neg hn2, if_neg (nneg (by omega)), if_neg (show ¬ nI i = 0 by rw [nI0 hi]; omega)]
            by_cases hik : i ≤ k
            · rw [if_pos ((x_le hi (by omega)).mpr hik), bnd_ok (show i - 1 < 3 by omega) (by decide), nI_cl (by omega), k2 _ (by omega), if_neg (by rw [x_le (by omega) (by omega)]; omega)]
            · rw [if_neg (by rw [x_le hi (by omega)]; exact hik), if_pos ((x_le (by omega) (by omega)).mpr (by omega))]
  · refine st_ref SF_SS h 4 (w := -4) ?_ ?_
    · unfold fX7_best; rw [p1, calS, if_neg one0, if_neg hy, R7_4]; rfl
    · unfold fX8_best; rw [p2 _ _ rfl, calS, if_neg one0, if_neg hy, R8_4]; rfl
theorem stp26 {nF : Nat} (hF : 10000 ≤ nF) : stp_26 nF (Inv SS) := by
  intro x y N u v t a h
  obtain ⟨W, l, tc, q1, q2, hW, hb, hag, haw, l1, l2, hl, c1, c2, htc⟩ := CX_of h.1
  have hw8 := hW.1
  rcases per_ok (nF := nF) h.1 x with ⟨p1, p2⟩ | ⟨p, j, hp, hj, rfl, j1, j2, p1, p2⟩
  · refine st_ref SF_SS h 1 (w := -1) ?_ ?_
    · unfold fX7_under; rw [p1, calS, if_pos rfl, R7_1]; rfl
    · unfold fX8_under; rw [p2 _ _ rfl, calS, if_pos rfl, R8_1]; rfl
  have no : (fX7_isLaw nF y t a = some (0, t, a)) → (∀ b, fX8_in nF y 0 4 t b = some (0, t, b)) → ∃ r t1 a1 t2 a2, fX7_under nF (nI p) y t a = some (r, t1, a1) ∧ fX8_under nF (nI p) y t1 a1 = some (r, t2, a2) ∧ Inv SS N u v t2 a2 := by
    intro g1 g2
    refine st_ref SF_SS h 2 (w := -2) ?_ ?_
    · unfold fX7_under; rw [p1, calS, if_neg one0, g1, calS, if_pos rfl, R7_2]; rfl
    · unfold fX8_under; rw [p2 _ _ rfl, calS, if_neg one0, g2, calS, if_pos rfl, R8_2]; rfl
  rcases tri y (n := 5) (by omega) with g | ⟨m, hm, rfl⟩ | ⟨g0, g⟩
  · exact no (l7_neg g) (fun b => in8_0 (Or.inl g))
  · by_cases hW0 : W = 0
    · subst hW0
      obtain ⟨t3, a3, m1, m2, m3, m4⟩ := bestOf_ok (nF := nF) (A := a 6) (L := nI m) hF (okE hW) hb hw8 hag haw q2 hj
      rw [bestO_0] at m1
      refine ⟨-9, t, a, t3, a3, ?_, ?_, inv_fin h h.2.1 cS.rf m4⟩
      · unfold fX7_under
        rw [p1, calS, if_neg one0, l7_yes hm, calS, if_neg one0, q1, if_pos z00]
      · unfold fX8_under
        rw [p2 _ _ rfl, calS, if_neg one0, l8_yes hm, calS, if_neg one0, bnd_ok (by omega) (by decide), nI_cl (by omega), j2, m1, calS, if_pos (show o9 none = (-9 : Int32) from rfl)]
    · have ew := wN0 hw8
      obtain ⟨t2, a2, b, b1, b2, b3, b4, b5, b6⟩ := fbest_ok (P := 19) (more := 0) hF (Or.inl ⟨rfl, rfl⟩) h.2.1 q1 hW hb (by rw [ew]; omega) hm hj
      rw [ew] at b1 b3 b6
      obtain ⟨t3, a3, m1, m2, m3, m4⟩ := bestOf_ok (nF := nF) (A := a 6) (L := nI m) (t := t2) (a := a2) hF (okE hW) hb hw8 (hag.fr (b5.2 55 (by omega)) (b5.2 56 (by omega))) (haw.fr (b5.2 57 (by omega))) (by rw [b5.1 3207 (by omega)]; exact q2) hj
      rw [b3] at m1
      have m2 := m2 b b3
      have hbl : b < lv W 3 := (pick_lt b3).1
      have h585 := lv_3 hw8
      have n0 : ¬ nI W = 0 := by rw [nI0 (by omega)]; exact hW0
      have o9s : o9 (some b) = nI b := rfl
      refine ⟨nI (LF W (kE W (a 4)) (cE W (a 5)) (a 6) j (nI m) (sn W (kE W (a 4)) (cE W (a 5)) b)), t2, a2, t3, a3, ?_, ?_, inv_fin h b4 b5 m4⟩
      · unfold fX7_under
        rw [p1, calS, if_neg one0, l7_yes hm, calS, if_neg one0, q1, if_neg n0, bnd_ok (by omega) (by decide), nI_cl (by omega), j1, b1, calS]
      · unfold fX8_under
        rw [p2 _ _ (b5.1 _ (by omega)), calS, if_neg one0, l8_yes hm, calS, if_neg one0, bnd_ok (by omega) (by decide), nI_cl (by omega), b5.2 58 (by omega), j2, m1, calS, o9s, if_neg (n9_nI (by omega)), m2]
  · exact no (l7_big g0 g) (fun b => l8_big g0 g)
/-- what lies behind the reference's words is free -/
theorem inv_w {N : Nat} {u v : Option Nat} {t : sT} {a : sA} (h : Inv SS N u v t a) {W : Nat} (hW : W < 2 ^ 31) (q : t 3207 = nI W) (x y : Int32) : Inv SS N u v t (va_up (va_up a 55 (upd (a 55) W x)) 56 (upd (a 56) W y)) := by
  obtain ⟨⟨h1, ⟨⟨w, hw, q1, q2, q3⟩, p2, p3, p4, p5⟩, h3, h4, h5, h6, h7⟩, hs, hh⟩ := h
  have ew : w = W := by rw [q2] at q; exact (x_eq (by omega) hW).mp q
  subst ew
  have ka : ∀ k, k ≠ 55 → k ≠ 56 → va_up (va_up a 55 (upd (a 55) w x)) 56 (upd (a 56) w y) k = a k := fun k g1 g2 => by rw [up_ne g2, up_ne g1]
  refine ⟨⟨h1, ⟨⟨w, hw, q1, q2, fun i hi => ?_⟩, p2, p3, p4, p5⟩, h3, h4, h5, h6, h7⟩, SF_SS _ _ _ _ (fun _ _ => rfl) (fun k hk => ka k (by unfold tSA at hk; omega) (by unfold tSA at hk; omega)) hs, Hi.fr (fun _ _ => rfl) (fun k hk => ka k (by unfold tHA at hk; omega) (by unfold tHA at hk; omega)) hh⟩
  show a 4 i = upd (a 55) w x i ∧ a 5 i = upd (a 56) w y i ∧ (∃ c, c ≤ 3 ∧ a 4 i = nI c) ∧ ∃ c, c ≤ 255 ∧ a 5 i = nI c
  rw [upd_ne (by omega), upd_ne (by omega)]
  exact q3 i hi
theorem stp25 {nF : Nat} (hF : 10000 ≤ nF) : stp_25 nF (Inv SS) := by
  intro x N u v t a h
  obtain ⟨W, l, tc, q1, q2, hW, hb, hag, haw, l1, l2, hl, c1, c2, htc⟩ := CX_of h.1
  have hw8 := hW.1
  rcases per_ok (nF := nF) h.1 x with ⟨p1, p2⟩ | ⟨p, j, hp, hj, rfl, j1, j2, p1, p2⟩
  · refine st_ref SF_SS h 1 (w := (1000000000 : Int32) - (-1)) ?_ ?_
    · unfold fX7_idle; rw [p1, calS, if_pos rfl, R7_1]; rfl
    · unfold fX8_idle; rw [p2 _ _ rfl, calS, if_pos rfl, R8_1]; rfl
  by_cases hW0 : W = 0
  · subst hW0
    refine st_ref SF_SS h 3 (w := (1000000000 : Int32) - (-3)) ?_ ?_
    · unfold fX7_idle; rw [p1, calS, if_neg one0, q1, if_pos z00, R7_3]; rfl
    · unfold fX8_idle; rw [p2 _ _ rfl, calS, if_neg one0, q2, if_neg (by decide), if_pos z00, R8_3]; rfl
  have n0 : ¬ nI W = 0 := by rw [nI0 (by omega)]; exact hW0
  by_cases hW8 : W = 8
  · subst hW8
    refine st_ref SF_SS h 3 (w := (1000000000 : Int32) - (-3)) ?_ ?_
    · unfold fX7_idle; rw [p1, calS, if_neg one0, q1, if_neg n0, if_neg (by decide), R7_3]; rfl
    · unfold fX8_idle; rw [p2 _ _ rfl, calS, if_neg one0, q2, if_pos (by decide), R8_3]; rfl
  have hlt : W < 8 := by omega
  have n8 : ¬ nI W = 8 := lit_ne (n := 8) hW8 (by omega) (by decide)
  have e0 := wN0 hw8
  have e1 := wN1 hlt
  obtain ⟨t1, a1, b, b1, b2, b3, b4, b5, -⟩ := fbest_ok (P := 19) (more := 0) hF (Or.inl ⟨rfl, rfl⟩) h.2.1 q1 hW hb (by rw [e0]; omega) hl hj
  have f4 := b5.2 4 (by omega)
  have f5 := b5.2 5 (by omega)
  have f6 := b5.2 6 (by omega)
  obtain ⟨t2, a2, b', b1', b2', b3', b4', b5', -⟩ := fbest_ok (P := 30) (more := 1) (t := t1) (a := a1) (W := W) hF (Or.inr ⟨rfl, rfl⟩) b4 (by rw [b5.1 196 (by omega)]; exact q1) (by rw [f4, f5]; exact hW) (by rw [f6]; exact hb) (by rw [e1]; omega) hl hj
  rw [f4, f5, f6, e1] at b1' b3'
  rw [e0] at b1 b3
  have cc := b5.tr b5'
  -- the reference
  obtain ⟨t3, a3, m1, m2, m3, m4⟩ := bestOf_ok (nF := nF) (A := a 6) (L := nI l) (t := t2) (a := a2) hF (okE hW) hb hw8 (hag.fr (cc.2 55 (by omega)) (cc.2 56 (by omega))) (haw.fr (cc.2 57 (by omega))) (by rw [cc.1 3207 (by omega)]; exact q2) hj
  rw [b3] at m1
  have m2 := m2 b b3
  have q3 : t3 3207 = nI W := by rw [m4.1 3207 (by omega), cc.1 3207 (by omega)]; exact q2
  have ad : fX8_addWord nF 3 0 t3 a3 = some (1, va_up t3 3207 (nI (W + 1)), va_up (va_up a3 55 (upd (a3 55) W 3)) 56 (upd (a3 56) W 0)) := by
    unfold fX8_addWord
    rw [q3, if_neg n8, bnd_ok hlt (by decide), bnd_ok hlt (by decide), nI_cl (by omega), nI_1, zok1, up_ne (show 56 ≠ 55 by decide)]
  have g55 : a3 55 = a 55 := by rw [m4.2 55 (by omega), cc.2 55 (by omega)]
  have g56 : a3 56 = a 56 := by rw [m4.2 56 (by omega), cc.2 56 (by omega)]
  obtain ⟨t5, a5, n1, n2, n3, n4⟩ := bestOf_ok (nF := nF) (w := W + 1) (kd := kE W (a 4)) (cs := cE W (a 5)) (A := a 6) (L := nI l) (t := va_up t3 3207 (nI (W + 1))) (a := va_up (va_up a3 55 (upd (a3 55) W 3)) 56 (upd (a3 56) W 0)) hF (okE hW) hb (by omega) (fun c hc => by
    rw [up_ne (show 55 ≠ 56 by decide), up_same, up_same]
    by_cases e : c = W
    · subst e
      rw [upd_same, upd_same]
      unfold kE cE
      rw [if_neg (by omega), if_neg (by omega)]
      exact ⟨rfl, rfl⟩
    · rw [upd_ne e, upd_ne e, g55, g56]
      exact hag c (by omega)) (haw.fr (by rw [up_ne (by decide), up_ne (by decide), m4.2 57 (by omega), cc.2 57 (by omega)])) (up_same _ _ _) hj
  rw [b3'] at n1
  have n2 := n2 b' b3'
  have q5 : t5 3207 = nI (W + 1) := by rw [n4.1 3207 (by omega), up_same]
  refine ⟨nI (LF W (kE W (a 4)) (cE W (a 5)) (a 6) j (nI l) (sn W (kE W (a 4)) (cE W (a 5)) b)) - nI (LF (W + 1) (kE W (a 4)) (cE W (a 5)) (a 6) j (nI l) (sn (W + 1) (kE W (a 4)) (cE W (a 5)) b')), t2, a2, va_up t5 3207 (nI W), a5, ?_, ?_, ?_⟩
  · unfold fX7_idle
    rw [p1, calS, if_neg one0, q1, if_neg n0, if_pos (show nI W < 8 from (x_lt (a := W) (b := 8) (by omega) (by omega)).mpr hlt), bnd_ok (by omega) (by decide), nI_cl (by omega), j1, l1, b1, calS, b5.1 198 (by omega), l1, b1', calS]
  · unfold fX8_idle
    rw [p2 _ _ (cc.1 _ (by omega)), calS, if_neg one0, cc.1 3207 (by omega), q2, if_neg n8, if_neg n0, bnd_ok (by omega) (by decide), nI_cl (by omega), cc.2 58 (by omega), j2, cc.1 3213 (by omega), l2, m1, calS, ad, calS, bnd_ok (by omega) (by decide), up_ne (show 58 ≠ 56 by decide), up_ne (show 58 ≠ 55 by decide), m4.2 58 (by omega), cc.2 58 (by omega), j2, up_ne (show 3213 ≠ 3207 by decide), m4.1 3213 (by omega), cc.1 3213 (by omega), l2, n1, calS, q5, show nI (W + 1) - 1 = nI W from pk_sub (a := W + 1) (b := 1) (by omega), up_ne (show 3233 ≠ 3207 by decide), m2, n2]
  · have inv3 := inv_w (inv_fin h b4' cc m4) (by omega) q3 3 0
    have hs5 : SS (va_up t5 3207 (nI W)) a5 := SF_SS _ _ _ _ (fun q hq => by unfold tS at hq; rw [up_ne (by omega), n4.1 q (by omega), up_ne (by omega)]) (fun k hk => by unfold tSA at hk; exact n4.2 k (by omega)) inv3.2.1
    refine inv_scr inv3 hs5 (fun q hq => ?_) (fun k hk => ?_)
    · unfold scT at hq
      by_cases e : q = 3207
      · subst e; rw [up_same, q3]
      · rw [up_ne e, n4.1 q (by omega), up_ne e]
    · unfold scA at hk
      exact n4.2 k (by omega)
