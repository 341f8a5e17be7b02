/-! easy calls: refusals, letter, word, weight, truth, law, row, told -/
def rf7 (c : Nat) (a : sA) : sA := va_up a 49 (upd (a 49) c (a 49 c + 1))
def rf8 (c : Nat) (a : sA) : sA := va_up a 54 (upd (a 54) c (a 54 c + 1))
section RF
variable {nF : Nat} {t : sT} {a : sA}
theorem R7_1 : fX7_refuse nF (-1) t a = some (-1, t, rf7 1 a) := by unfold fX7_refuse bnd; rw [if_neg (by decide), if_neg (by decide), if_neg (by decide), if_neg (by decide)]; rfl
theorem R7_2 : fX7_refuse nF (-2) t a = some (-2, t, rf7 2 a) := by unfold fX7_refuse bnd; rw [if_neg (by decide), if_neg (by decide), if_neg (by decide), if_neg (by decide)]; rfl
theorem R7_3 : fX7_refuse nF (-3) t a = some (-3, t, rf7 3 a) := by unfold fX7_refuse bnd; rw [if_neg (by decide), if_neg (by decide), if_neg (by decide), if_neg (by decide)]; rfl
theorem R7_4 : fX7_refuse nF (-4) t a = some (-4, t, rf7 4 a) := by unfold fX7_refuse bnd; rw [if_neg (by decide), if_neg (by decide), if_neg (by decide), if_neg (by decide)]; rfl
theorem R7_6 : fX7_refuse nF (-6) t a = some (-6, t, rf7 6 a) := by unfold fX7_refuse bnd; rw [if_neg (by decide), if_neg (by decide), if_neg (by decide), if_neg (by decide)]; rfl
theorem R8_1 : fX8_refuse nF (-1) t a = some (-1, t, rf8 1 a) := by unfold fX8_refuse bnd; rw [if_neg (by decide), if_neg (by decide)]; rfl
theorem R8_2 : fX8_refuse nF (-2) t a = some (-2, t, rf8 2 a) := by unfold fX8_refuse bnd; rw [if_neg (by decide), if_neg (by decide)]; rfl
theorem R8_3 : fX8_refuse nF (-3) t a = some (-3, t, rf8 3 a) := by unfold fX8_refuse bnd; rw [if_neg (by decide), if_neg (by decide)]; rfl
theorem R8_4 : fX8_refuse nF (-4) t a = some (-4, t, rf8 4 a) := by unfold fX8_refuse bnd; rw [if_neg (by decide), if_neg (by decide)]; rfl
theorem R8_6 : fX8_refuse nF (-6) t a = some (-6, t, rf8 6 a) := by unfold fX8_refuse bnd; rw [if_neg (by decide), if_neg (by decide)]; rfl
end RF
theorem fst3 (o : Rs) : cal o (fun v t a => some (v, t, a)) = o := by cases o <;> rfl
theorem up_same {α : Type} (f : Nat → α) (k : Nat) (v : α) : va_up f k v k = v := if_pos rfl
theorem up_ne {α : Type} {f : Nat → α} {k j : Nat} {v : α} (h : j ≠ k) : va_up f k v j = f j := if_neg h
theorem upd_same (f : Nat → Int32) (k : Nat) (v : Int32) : upd f k v k = v := pk_us
theorem upd_ne {f : Nat → Int32} {k j : Nat} {v : Int32} (h : j ≠ k) : upd f k v j = f j := pk_un h
theorem inv_ref {S : sT → sA → Prop} (hS : SF S) {N : Nat} {u v : Option Nat} {t : sT} {a : sA} (h : Inv S N u v t a) (c : Nat) : Inv S N u v t (rf8 c (rf7 c a)) := by
  obtain ⟨⟨h1, h2, h3, h4, h5, h6, h7⟩, hs, hh⟩ := h
  have ke : ∀ k, k ≠ 49 → k ≠ 54 → rf8 c (rf7 c a) k = a k := fun k p q => by unfold rf8 rf7; rw [up_ne q, up_ne p]
  refine ⟨⟨?_, ?_, ?_, ?_, ?_, h6, ?_⟩, hS _ _ _ _ (fun _ _ => rfl) (fun k hk => ke k (by unfold tSA at hk; omega) (by unfold tSA at hk; omega)) hs, Hi.fr (fun _ _ => rfl) (fun k hk => ke k (by unfold tHA at hk; omega) (by unfold tHA at hk; omega)) hh⟩
  · rw [ke 2 (by decide) (by decide), ke 51 (by decide) (by decide)]; exact h1
  · rw [ke 4 (by decide) (by decide), ke 5 (by decide) (by decide), ke 6 (by decide) (by decide), ke 7 (by decide) (by decide), ke 55 (by decide) (by decide), ke 56 (by decide) (by decide), ke 57 (by decide) (by decide), ke 58 (by decide) (by decide)]; exact h2
  · rw [ke 14 (by decide) (by decide), ke 52 (by decide) (by decide)]; exact h3
  · rw [ke 16 (by decide) (by decide), ke 53 (by decide) (by decide)]; exact h4
  · rw [ke 18 (by decide) (by decide), ke 59 (by decide) (by decide), ke 60 (by decide) (by decide), ke 61 (by decide) (by decide)]; exact h5
  · intro i hi
    unfold rf8 rf7
    rw [up_ne (by decide : 49 ≠ 54), up_same, up_same, up_ne (by decide : 54 ≠ 49)]
    by_cases hc : i = c
    · subst hc
      rw [upd_same, upd_same, h7 i hi]
    · rw [upd_ne hc, upd_ne hc]
      exact h7 i hi
/-- both sides refuse -/
theorem st_ref {S : sT → sA → Prop} (hS : SF S) {N : Nat} {u v : Option Nat} {t : sT} {a : sA} (h : Inv S N u v t a) {fc fm : sT → sA → Rs} {w : Int32} (c : Nat) (hc : fc t a = some (w, t, rf7 c a)) (hm : fm t (rf7 c a) = some (w, t, rf8 c (rf7 c a))) : ∃ r t1 a1 t2 a2, fc t a = some (r, t1, a1) ∧ fm t1 a1 = some (r, t2, a2) ∧ Inv S N u v t2 a2 :=
  ⟨w, t, rf7 c a, t, rf8 c (rf7 c a), hc, hm, inv_ref hS h c⟩
/-- both sides answer, nothing changes -/
theorem st_same {S : sT → sA → Prop} {N : Nat} {u v : Option Nat} {t : sT} {a : sA} (h : Inv S N u v t a) {fc fm : sT → sA → Rs} {w : Int32} (hc : fc t a = some (w, t, a)) (hm : fm t a = some (w, t, a)) : ∃ r t1 a1 t2 a2, fc t a = some (r, t1, a1) ∧ fm t1 a1 = some (r, t2, a2) ∧ Inv S N u v t2 a2 :=
  ⟨w, t, a, t, a, hc, hm, h⟩
theorem rf7_ne {c k : Nat} {a : sA} (h : k ≠ 49) : rf7 c a k = a k := up_ne h
theorem in255 {x : Int32} (h0 : 0 ≤ x) (h1 : ¬ 255 < x) : ∃ c, c ≤ 255 ∧ x = nI c := nI_of2 (M := 255) (n := 255) rfl (Int32.not_lt.mpr h0) (Int32.not_lt.mp h1)
theorem stp0 {nF : Nat} {S : sT → sA → Prop} (hS : SF S) : stp_0 nF (Inv S) := by
  intro e1 N u v t a h
  have h9 := h
  obtain ⟨⟨h1, h2, h3, h4, h5, h6, h7⟩, hs, hh⟩ := h9
  obtain ⟨k, hk, q1, q2, q3⟩ := h1
  by_cases c0 : 0 ≤ e1
  · by_cases c1 : 255 < e1
    · refine st_ref hS h 6 (w := -6) ?_ ?_
      · unfold fX7_letter; rw [if_pos c0, if_pos c1, R7_6]; rfl
      · unfold fX8_letter; rw [if_pos c0, if_pos c1, R8_6]; rfl
    · rcases Nat.lt_or_ge k 64 with hlt | hge
      · obtain ⟨c, hc, rfl⟩ := in255 c0 c1
        have e64 : nI k < 64 := (x_lt (a := k) (b := 64) (by omega) (by omega)).mpr hlt
        have n64 : ¬ (64 : Int32) ≤ nI k := by rw [show (64 : Int32) = nI 64 from rfl, x_le (by omega) (by omega)]; omega
        have d64 : ¬ nI k = 64 := by rw [show (64 : Int32) = nI 64 from rfl, x_eq (by omega) (by omega)]; omega
        refine ⟨nI (k + 1), va_up t 65 (nI (k + 1)), va_up a 2 (upd (a 2) k (nI c)), va_up (va_up t 65 (nI (k + 1))) 3201 (nI (k + 1)), va_up (va_up a 2 (upd (a 2) k (nI c))) 51 (upd (a 51) k (nI c)), ?_, ?_, ?_⟩
        · unfold fX7_letter
          rw [if_pos c0, if_neg c1, q1, if_pos e64]
          have : fX1_add nF (nI c) t a = some (0, va_up t 65 (nI (k + 1)), va_up a 2 (upd (a 2) k (nI c))) := by
            unfold fX1_add
            rw [q1, if_neg n64, bnd_ok hlt (by decide), nI_cl (by omega), nI_1]
          rw [cal_of this, up_same]
        · unfold fX8_letter
          rw [if_pos c0, if_neg c1, up_ne (by decide), q2, if_neg d64, bnd_ok hlt (by decide), nI_cl (by omega), nI_1, up_same, up_ne (by decide)]
        · have kt : ∀ q, q ≠ 65 → q ≠ 3201 → va_up (va_up t 65 (nI (k + 1))) 3201 (nI (k + 1)) q = t q := fun q p r => by rw [up_ne r, up_ne p]
          have ka : ∀ q, q ≠ 2 → q ≠ 51 → va_up (va_up a 2 (upd (a 2) k (nI c))) 51 (upd (a 51) k (nI c)) q = a q := fun q p r => by rw [up_ne r, up_ne p]
          refine ⟨⟨?_, h2, h3, h4, h5, h6, h7⟩, hS _ _ _ _ (fun q hq => kt q (by unfold tS at hq; omega) (by unfold tS at hq; omega)) (fun q hq => ka q (by unfold tSA at hq; omega) (by unfold tSA at hq; omega)) hs, Hi.fr (fun q hq => kt q (by unfold tH at hq; omega) (by unfold tH at hq; omega)) (fun q hq => ka q (by unfold tHA at hq; omega) (by unfold tHA at hq; omega)) hh⟩
          refine ⟨k + 1, by omega, up_ne (by decide), up_same _ _ _, fun i hi => ?_⟩
          rw [up_ne (by decide : 2 ≠ 51), up_same, up_same]
          by_cases e : i = k
          · subst e
            rw [upd_same, upd_same]
            exact ⟨rfl, c, hc, rfl⟩
          · rw [upd_ne e, upd_ne e]
            exact q3 i (by omega)
      · have e : k = 64 := by omega
        subst e
        refine st_ref hS h 6 (w := -6) ?_ ?_
        · unfold fX7_letter; rw [if_pos c0, if_neg c1, q1, if_neg (by decide), R7_6]; rfl
        · unfold fX8_letter; rw [if_pos c0, if_neg c1, q2, if_pos (by decide), R8_6]; rfl
  · refine st_ref hS h 4 (w := -4) ?_ ?_
    · unfold fX7_letter; rw [if_neg c0, R7_4]; rfl
    · unfold fX8_letter; rw [if_neg c0, R8_4]; rfl
