/-! the invariant at the start; every call keeps it -/
theorem z0_ne {q : Nat} (h1 : q ≠ 1217) (h2 : q ≠ 1921) : t0 q = 0 := by
  unfold t0
  rw [up_ne (show q ≠ 64 * 30 + 1 from h2), up_ne (show q ≠ 64 * 19 + 1 from h1)]
theorem y0_ne {k : Nat} (h1 : k ≠ 6) (h2 : k ≠ 11) (h3 : k ≠ 45) (h4 : k ≠ 57) : a0 k = fun _ => 0 := by
  unfold a0
  rw [up_ne (show k ≠ 50 + 7 from h4), up_ne h3, up_ne (show k ≠ 8 + 3 from h2), up_ne (show k ≠ 3 + 3 from h1)]
theorem no_i {P : Nat → Prop} : ∀ i, i < 0 → P i := fun i hi => absurd hi (Nat.not_lt_zero i)
theorem inv_0 : Inv SS 653 none none t0 a0 := by
  have e6 : a0 6 = ones8 := by unfold a0; rw [up_ne (by decide), up_ne (by decide), up_ne (by decide), up_same]
  have e57 : a0 57 = ones8 := by unfold a0; rw [up_same]
  have o8 : ∀ i, i < 8 → ones8 i = nI 1 := by decide
  have sc : ∀ P more, (P = 19 ∧ more = 0) ∨ (P = 30 ∧ more = 1) → SC P more t0 a0 := by
    intro P more hP
    refine ⟨?_, ⟨0, by decide, ?_, no_i, fun k hk => Or.inl ?_⟩, Or.inl ?_⟩
    · rcases hP with ⟨rfl, rfl⟩ | ⟨rfl, rfl⟩ <;> rfl
    · rw [z0_ne (by omega) (by omega)]; rfl
    · rw [y0_ne (by omega) (by omega) (by omega) (by omega)]
    · rw [z0_ne (by omega) (by omega)]
  refine ⟨⟨?_, ⟨?_, ?_, ?_, ?_, ?_⟩, ?_, ?_, ?_, ?_, ?_⟩, ⟨sc 19 0 (Or.inl ⟨rfl, rfl⟩), sc 30 1 (Or.inr ⟨rfl, rfl⟩)⟩, Or.inl ⟨rfl, rfl, rfl⟩, z0_ne (by decide) (by decide), fun q hq => z0_ne (by omega) (by omega), fun k hk => y0_ne (by omega) (by omega) (by omega) (by omega)⟩
  · exact ⟨0, by decide, z0_ne (by decide) (by decide), z0_ne (by decide) (by decide), no_i⟩
  · exact ⟨0, by decide, z0_ne (by decide) (by decide), z0_ne (by decide) (by decide), no_i⟩
  · intro i hi
    rw [e6, e57]
    exact ⟨rfl, 1, by decide, o8 i hi⟩
  · exact ⟨0, by decide, z0_ne (by decide) (by decide), z0_ne (by decide) (by decide), no_i⟩
  · exact ⟨0, by decide, z0_ne (by decide) (by decide), z0_ne (by decide) (by decide)⟩
  · exact ⟨0, by decide, z0_ne (by decide) (by decide), z0_ne (by decide) (by decide)⟩
  · exact ⟨0, 0, by decide, by decide, z0_ne (by decide) (by decide), z0_ne (by decide) (by decide), z0_ne (by decide) (by decide), no_i⟩
  · exact ⟨0, 0, by decide, by decide, z0_ne (by decide) (by decide), z0_ne (by decide) (by decide), z0_ne (by decide) (by decide), no_i⟩
  · exact ⟨0, by decide, z0_ne (by decide) (by decide), z0_ne (by decide) (by decide), no_i⟩
  · exact ⟨0, by decide, z0_ne (by decide) (by decide), z0_ne (by decide) (by decide)⟩
  · intro i _
    rw [y0_ne (k := 49) (by decide) (by decide) (by decide) (by decide), y0_ne (k := 54) (by decide) (by decide) (by decide) (by decide)]
theorem all_steps {nF : Nat} (hF : 10000 ≤ nF) : AllSteps nF (Inv SS) :=
  have h1 : 100 ≤ nF := Nat.le_trans (by decide) hF
  have h2 : 1000 ≤ nF := Nat.le_trans (by decide) hF
  ⟨fun _ _ _ _ _ h => iN_653 h.2.2.1, stp0 SF_SS, stp1 h2 SF_SS SD_SS, stp2 SF_SS, stp3 SF_SS, stp4 SF_SS, stp5 SF_SS, stp6 SF_SS, stp7 h1 SF_SS, stp8 h1 SF_SS, stp9 h1 SF_SS, stp10 hF, stp11 hF, stp12 hF, stp13 hF, stp14 hF, stp15 hF, stp16 SF_SS, stp17 hF, stp18 h1 SF_SS, stp19 h1 SF_SS, stp20 SF_SS, stp21 h1 SF_SS, stp22 SF_SS, stp23 h1 SF_SS, stp24 h1 SF_SS, stp25 hF, stp26 hF, stp27 hF, stp28 h1 SF_SS, stp29 h1 SF_SS SD_SS, stp30 h1 SF_SS⟩
theorem steps_ok : ∃ (nF : Nat) (I : Iv), AllSteps nF I ∧ I 653 none none t0 a0 := ⟨10000, Inv SS, all_steps (Nat.le_refl _), inv_0⟩
