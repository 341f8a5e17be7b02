/-! easy calls: row, told -/
theorem stp6 {nF : Nat} {S : sT → sA → Prop} (hS : SF S) : stp_6 nF (Inv S) := by
  intro e1 N u v t a h
  have h9 := h
  obtain ⟨⟨h1, ⟨p1, p2, p3, p4, p5⟩, h3, h4, h5, h6, h7⟩, hs, hh⟩ := h9
  have p1' := p1
  obtain ⟨w, hw, q1, q2, q3⟩ := p1
  have h3' := h3
  obtain ⟨k, wn, hk, hwn, r1, r2, r3, r4⟩ := h3
  have ew : wn = w := by have := r1.symm.trans q1; rw [x_eq (by omega) (by omega)] at this; exact this
  subst ew
  have no : (fX6_hasWord nF 3 e1 t a = some (0, t, a)) → (∀ b, fX8_isWord nF e1 t b = some (0, t, b)) → ∃ r t1 a1 t2 a2, fX7_row nF e1 t a = some (r, t1, a1) ∧ fX8_row nF e1 t1 a1 = some (r, t2, a2) ∧ Inv S N u v t2 a2 := by
    intro g1 g2
    refine st_ref hS h 1 (w := -1) ?_ ?_
    · unfold fX7_row fX7_addTo; rw [cal_of g1, if_pos rfl, R7_1]; rfl
    · unfold fX8_row; rw [cal_of (g2 _), if_pos rfl, R8_1]; rfl
  rcases tri e1 (n := wn) (by omega) with g | ⟨j, hj, rfl⟩ | ⟨g0, g⟩
  · exact no (h7_neg g) (fun b => w8_neg g)
  · rcases Nat.lt_or_ge k 6 with hlt | hge
    · have e6 : nI k < 6 := (x_lt (a := k) (b := 6) (by omega) (by omega)).mpr hlt
      have n6 : ¬ (6 : Int32) ≤ nI k := by rw [show (6 : Int32) = nI 6 from rfl, x_le (by omega) (by omega)]; omega
      have d6 : ¬ nI k = 6 := by rw [show (6 : Int32) = nI 6 from rfl, x_eq (by omega) (by omega)]; omega
      refine ⟨nI (k + 1), va_up t 833 (nI (k + 1)), va_up a 14 (upd (a 14) k (nI j)), va_up (va_up t 833 (nI (k + 1))) 3203 (nI (k + 1)), va_up (va_up a 14 (upd (a 14) k (nI j))) 52 (upd (a 52) k (nI j)), ?_, ?_, ?_⟩
      · unfold fX7_row
        rw [fst3]
        unfold fX7_addTo
        rw [cal_of (h7_yes q1 (by omega) hj), if_neg one0]
        show (if t 833 < 6 then _ else _) = _
        rw [r2, if_pos e6]
        have : fX2_add nF 13 (nI j) t a = some (0, va_up t 833 (nI (k + 1)), va_up a 14 (upd (a 14) k (nI j))) := by
          unfold fX2_add
          show (if (6 : Int32) ≤ t 833 then _ else bnd (t 833) 6 (some (0, va_up t 833 (t 833 + 1), va_up a 14 (upd (a 14) (t 833).toNatClampNeg (nI j))))) = _
          rw [r2, if_neg n6, bnd_ok hlt (by decide), nI_cl (by omega), nI_1]
        rw [cal_of this]
        rfl
      · unfold fX8_row
        rw [cal_of (w8_yes (t := va_up t 833 (nI (k + 1))) (w := wn) q2 (by omega) hj), if_neg one0, up_ne (by decide), r3, if_neg d6, bnd_ok hlt (by decide), nI_cl (by omega), nI_1, up_same, up_ne (by decide)]
      · have kt : ∀ q, q ≠ 833 → q ≠ 3203 → va_up (va_up t 833 (nI (k + 1))) 3203 (nI (k + 1)) q = t q := fun q p r => by rw [up_ne r, up_ne p]
        have ka : ∀ q, q ≠ 14 → q ≠ 52 → va_up (va_up a 14 (upd (a 14) k (nI j))) 52 (upd (a 52) k (nI j)) q = a q := fun q p r => by rw [up_ne r, up_ne p]
        refine ⟨⟨h1, ⟨p1', p2, p3, p4, p5⟩, ?_, h4, h5, h6, h7⟩, hS _ _ _ _ (fun q hq => kt q (by unfold tS at hq; omega) (by unfold tS at hq; omega)) (fun q hq => ka q (by unfold tSA at hq; omega) (by unfold tSA at hq; omega)) hs, Hi.fr (fun q hq => kt q (by unfold tH at hq; omega) (by unfold tH at hq; omega)) (fun q hq => ka q (by unfold tHA at hq; omega) (by unfold tHA at hq; omega)) hh⟩
        refine ⟨k + 1, wn, by omega, hwn, r1, rfl, rfl, fun i hi => ?_⟩
        show upd (a 14) k (nI j) i = upd (a 52) k (nI j) i ∧ ∃ c, c < wn ∧ upd (a 14) k (nI j) i = nI c
        by_cases e : i = k
        · subst e
          rw [upd_same, upd_same]
          exact ⟨rfl, j, hj, rfl⟩
        · rw [upd_ne e, upd_ne e]
          exact r4 i (by omega)
    · have e : k = 6 := by omega
      subst e
      refine st_ref hS h 6 (w := -6) ?_ ?_
      · unfold fX7_row
        rw [fst3]
        unfold fX7_addTo
        rw [cal_of (h7_yes q1 (by omega) hj), if_neg one0]
        show (if t 833 < 6 then _ else _) = _
        rw [r2, if_neg (by decide), R7_6]; rfl
      · unfold fX8_row; rw [cal_of (w8_yes (w := wn) q2 (by omega) hj), if_neg one0, r3, if_pos (by decide), R8_6]; rfl
  · exact no (h7_big q1 g0 g) (fun b => w8_big q2 (by omega) g0 g)
theorem stp16 {nF : Nat} {S : sT → sA → Prop} (hS : SF S) : stp_16 nF (Inv S) := by
  intro e1 N u v t a h
  have h9 := h
  obtain ⟨⟨h1, ⟨p1, p2, p3, p4, p5⟩, h3, h4, h5, h6, h7⟩, hs, hh⟩ := h9
  have p1' := p1
  obtain ⟨w, hw, q1, q2, q3⟩ := p1
  obtain ⟨k, wn, hk, hwn, r1, r2, r3, r4⟩ := h4
  have ew : wn = w := by have := r1.symm.trans q1; rw [x_eq (by omega) (by omega)] at this; exact this
  subst ew
  have no : (fX6_hasWord nF 3 e1 t a = some (0, t, a)) → (∀ b, fX8_isWord nF e1 t b = some (0, t, b)) → ∃ r t1 a1 t2 a2, fX7_told nF e1 t a = some (r, t1, a1) ∧ fX8_told nF e1 t1 a1 = some (r, t2, a2) ∧ Inv S N u v t2 a2 := by
    intro g1 g2
    refine st_ref hS h 1 (w := -1) ?_ ?_
    · unfold fX7_told fX7_addTo; rw [cal_of g1, if_pos rfl, R7_1]; rfl
    · unfold fX8_told; rw [cal_of (g2 _), if_pos rfl, R8_1]; rfl
  rcases tri e1 (n := wn) (by omega) with g | ⟨j, hj, rfl⟩ | ⟨g0, g⟩
  · exact no (h7_neg g) (fun b => w8_neg g)
  · rcases Nat.lt_or_ge k 6 with hlt | hge
    · have e6 : nI k < 6 := (x_lt (a := k) (b := 6) (by omega) (by omega)).mpr hlt
      have n6 : ¬ (6 : Int32) ≤ nI k := by rw [show (6 : Int32) = nI 6 from rfl, x_le (by omega) (by omega)]; omega
      have d6 : ¬ nI k = 6 := by rw [show (6 : Int32) = nI 6 from rfl, x_eq (by omega) (by omega)]; omega
      refine ⟨nI (k + 1), va_up t 961 (nI (k + 1)), va_up a 16 (upd (a 16) k (nI j)), va_up (va_up t 961 (nI (k + 1))) 3205 (nI (k + 1)), va_up (va_up a 16 (upd (a 16) k (nI j))) 53 (upd (a 53) k (nI j)), ?_, ?_, ?_⟩
      · unfold fX7_told
        rw [fst3]
        unfold fX7_addTo
        rw [cal_of (h7_yes q1 (by omega) hj), if_neg one0]
        show (if t 961 < 6 then _ else _) = _
        rw [r2, if_pos e6]
        have : fX2_add nF 15 (nI j) t a = some (0, va_up t 961 (nI (k + 1)), va_up a 16 (upd (a 16) k (nI j))) := by
          unfold fX2_add
          show (if (6 : Int32) ≤ t 961 then _ else bnd (t 961) 6 (some (0, va_up t 961 (t 961 + 1), va_up a 16 (upd (a 16) (t 961).toNatClampNeg (nI j))))) = _
          rw [r2, if_neg n6, bnd_ok hlt (by decide), nI_cl (by omega), nI_1]
        rw [cal_of this]
        rfl
      · unfold fX8_told
        rw [cal_of (w8_yes (t := va_up t 961 (nI (k + 1))) (w := wn) q2 (by omega) hj), if_neg one0, up_ne (by decide), r3, if_neg d6, bnd_ok hlt (by decide), nI_cl (by omega), nI_1, up_same, up_ne (by decide)]
      · have kt : ∀ q, q ≠ 961 → q ≠ 3205 → va_up (va_up t 961 (nI (k + 1))) 3205 (nI (k + 1)) q = t q := fun q p r => by rw [up_ne r, up_ne p]
        have ka : ∀ q, q ≠ 16 → q ≠ 53 → va_up (va_up a 16 (upd (a 16) k (nI j))) 53 (upd (a 53) k (nI j)) q = a q := fun q p r => by rw [up_ne r, up_ne p]
        refine ⟨⟨h1, ⟨p1', p2, p3, p4, p5⟩, h3, ?_, h5, h6, h7⟩, hS _ _ _ _ (fun q hq => kt q (by unfold tS at hq; omega) (by unfold tS at hq; omega)) (fun q hq => ka q (by unfold tSA at hq; omega) (by unfold tSA at hq; omega)) hs, Hi.fr (fun q hq => kt q (by unfold tH at hq; omega) (by unfold tH at hq; omega)) (fun q hq => ka q (by unfold tHA at hq; omega) (by unfold tHA at hq; omega)) hh⟩
        refine ⟨k + 1, wn, by omega, hwn, r1, rfl, rfl, fun i hi => ?_⟩
        show upd (a 16) k (nI j) i = upd (a 53) k (nI j) i ∧ ∃ c, c < wn ∧ upd (a 16) k (nI j) i = nI c
        by_cases e : i = k
        · subst e
          rw [upd_same, upd_same]
          exact ⟨rfl, j, hj, rfl⟩
        · rw [upd_ne e, upd_ne e]
          exact r4 i (by omega)
    · have e : k = 6 := by omega
      subst e
      refine st_ref hS h 6 (w := -6) ?_ ?_
      · unfold fX7_told
        rw [fst3]
        unfold fX7_addTo
        rw [cal_of (h7_yes q1 (by omega) hj), if_neg one0]
        show (if t 961 < 6 then _ else _) = _
        rw [r2, if_neg (by decide), R7_6]; rfl
      · unfold fX8_told; rw [cal_of (w8_yes (w := wn) q2 (by omega) hj), if_neg one0, r3, if_pos (by decide), R8_6]; rfl
  · exact no (h7_big q1 g0 g) (fun b => w8_big q2 (by omega) g0 g)
