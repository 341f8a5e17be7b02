/-! the law's start: what the Statement gives, the two objects made, the loop -/
/-- the scalars and rows behind the two constructors -/
def t0 : sT := va_up (va_up (fun _ => 0) (64 * 19 + 1) 0) (64 * 30 + 1) 1
def a0 : sA := va_up (va_up (va_up (va_up (fun _ _ => 0) (3 + 3) ones8) (8 + 3) ones8) 45 ones8) (50 + 7) ones8
def strI : List Nat := [63, 65, 67, 69, 71, 100]
def strT (i : Nat) : Term := .string "AnswerShorter$Letters" (strI.getD i 0)
theorem six {P : Nat → Prop} (h0 : P 0) (h1 : P 1) (h2 : P 2) (h3 : P 3) (h4 : P 4) (h5 : P 5) : ∀ i, i < 6 → P i := by
  intro i hi
  have : i = 0 ∨ i = 1 ∨ i = 2 ∨ i = 3 ∨ i = 4 ∨ i = 5 := by omega
  rcases this with rfl | rfl | rfl | rfl | rfl | rfl <;> assumption
set_option maxRecDepth 100000 in
set_option maxHeartbeats 4000000 in
theorem start_texts {s : State} {b : Nat} {A : Nat → Prop} (hts : ∀ w ∈ lw_tbl, w.before #[Value.ref b] s = true) (hgv : (Jvm.Cond.and given_1 narrow_1).before #[Value.ref b] s = true) (hA : ∀ q : Nat, q < s.heap.size → ¬ A q) : ∃ adK adV : Nat → Nat, vk_S 6 strN strB adK adV A s s.heap ∧ ∀ i, i < 6 → (strT i).eval #[Value.ref b] s none [] s = some (.ref (adK i)) := by
  have hs := flat_of_before _ hgv
  refine vk_Sof (tm := strT) (by decide) ?_ ?_ ?_ ?_ ?_ ?_ hA
  · exact six (hs _ (by decide +kernel)) (hs _ (by decide +kernel)) (hs _ (by decide +kernel)) (hs _ (by decide +kernel)) (hs _ (by decide +kernel)) (hs _ (by decide +kernel))
  · exact six (hs _ (by decide +kernel)) (hs _ (by decide +kernel)) (hs _ (by decide +kernel)) (hs _ (by decide +kernel)) (hs _ (by decide +kernel)) (hs _ (by decide +kernel))
  · exact six (hs _ (by decide +kernel)) (hs _ (by decide +kernel)) (hs _ (by decide +kernel)) (hs _ (by decide +kernel)) (hs _ (by decide +kernel)) (hs _ (by decide +kernel))
  · exact six (hs _ (by decide +kernel)) (hs _ (by decide +kernel)) (hs _ (by decide +kernel)) (hs _ (by decide +kernel)) (hs _ (by decide +kernel)) (hs _ (by decide +kernel))
  · refine six ?_ ?_ ?_ ?_ ?_ ?_
    · intro j hj
      have hj : j < 1 := hj
      have hj : j = 0 := by omega
      rcases hj with rfl <;> exact hs _ (by decide +kernel)
    · intro j hj
      have hj : j < 4 := hj
      have hj : j = 0 ∨ j = 1 ∨ j = 2 ∨ j = 3 := by omega
      rcases hj with rfl | rfl | rfl | rfl <;> exact hs _ (by decide +kernel)
    · intro j hj
      have hj : j < 2 := hj
      have hj : j = 0 ∨ j = 1 := by omega
      rcases hj with rfl | rfl <;> exact hs _ (by decide +kernel)
    · intro j hj
      have hj : j < 2 := hj
      have hj : j = 0 ∨ j = 1 := by omega
      rcases hj with rfl | rfl <;> exact hs _ (by decide +kernel)
    · intro j hj
      exact absurd hj (Nat.not_lt_zero j)
    · intro j hj
      have hj : j < 5 := hj
      have hj : j = 0 ∨ j = 1 ∨ j = 2 ∨ j = 3 ∨ j = 4 := by omega
      rcases hj with rfl | rfl | rfl | rfl | rfl <;> exact hs _ (by decide +kernel)
  · intro i j hi hj hne
    have key : ∀ i, i < 6 → ∀ j, j < 6 → i < j → (Cond.not (Cond.eq (strT i) (strT j))).before #[Value.ref b] s = true := by
      have k2 : ∀ i j : Nat, i < 6 → j < 6 → i < j → (Cond.not (Cond.eq (strT i) (strT j))) ∈ flatC (Jvm.Cond.and given_1 narrow_1) := by
        intro i j hi hj hij
        have hi : i = 0 ∨ i = 1 ∨ i = 2 ∨ i = 3 ∨ i = 4 := by omega
        have hj : j = 1 ∨ j = 2 ∨ j = 3 ∨ j = 4 ∨ j = 5 := by omega
        rcases hi with rfl | rfl | rfl | rfl | rfl <;> rcases hj with rfl | rfl | rfl | rfl | rfl <;> first | (exact absurd hij (by decide)) | decide +kernel
      intro i hi j hj hij
      exact hs _ (k2 i j hi hj hij)
    rcases Nat.lt_or_ge i j with h | h
    · exact Or.inl (key i hi j hj h)
    · exact Or.inr (key j hj i hi (by omega))
set_option maxRecDepth 100000 in
set_option maxHeartbeats 4000000 in
theorem law_start {p : Program} {e : Env} {s : State} {m : MethodId} {below : List Frame} {meth : Method} {c : Code} (l : Launch) {b L : Nat} {xs : Nat → Int32} (hL : L ≤ 256) (C0 : lw_At p s m meth c b L xs) {nF : Nat} {I : Iv} (hA : AllSteps nF I) (hI0 : I 653 none none t0 a0) : W p l e room_1 s m #[Value.ref b] below meth c s.heap [] 0 0 (lw_Z below #[Value.ref b] s) (entryFrame m ([Value.ref b] : List Value).toArray 4) := by
  obtain ⟨hx, hb, hr, hml, hown, hts, hX, hbl, hlocks, hgv⟩ := C0
  have hs := flat_of_before _ hgv
  have hts2 : ∀ w ∈ lw_t, w.before #[Value.ref b] s = true := fun w hw => hts w (List.mem_filter.mp hw).1
  have hAq : ∀ q : Nat, q < s.heap.size → ¬ (fun q : Nat => s.heap.size ≤ q) q := fun q hq => Nat.not_le.mpr hq
  obtain ⟨adK, adV, hS6, htm⟩ := start_texts hts hgv hAq
  obtain ⟨cc0, ii0, kk0⟩ := u_known (C := RX0) (T := TX0) (N := 4) (n := 4) hts2 clX0.2.2.1 (hts2 _ qt_X0)
  obtain ⟨cc1, ii1, kk1⟩ := u_known (C := RX1) (T := TX1) (N := 2) (n := 2) hts2 clX1.2.2.1 (hts2 _ qt_X1)
  obtain ⟨cc2, ii2, kk2⟩ := u_known (C := RX2) (T := TX2) (N := 2) (n := 2) hts2 clX2.2.2.1 (hts2 _ qt_X2)
  obtain ⟨cc3, ii3, kk3⟩ := u_known (C := RX3) (T := TX3) (N := 18) (n := 18) hts2 clX3.2.2.1 (hts2 _ qt_X3)
  obtain ⟨cc4, ii4, kk4⟩ := u_known (C := RX5) (T := TX5) (N := 2) (n := 2) hts2 clX5.2.2.1 (hts2 _ qt_X5)
  obtain ⟨cc5, ii5, kk5⟩ := u_known (C := RX6) (T := TX6) (N := 8) (n := 8) hts2 clX6.2.2.1 (hts2 _ qt_X6)
  obtain ⟨cc6, ii6, kk6⟩ := u_known (C := RX7) (T := TX7) (N := 11) (n := 11) hts2 clX7.2.2.1 (hts2 _ qt_X7)
  obtain ⟨cc7, ii7, kk7⟩ := u_known (C := RX8) (T := TX8) (N := 36) (n := 36) hts2 clX8.2.2.1 (hts2 _ qt_X8)
  obtain ⟨dC, dI, hKc⟩ : ∃ (dC : Nat → ClassId) (dI : Nat → Nat → Nat), ∀ (k : Nat) (q : vw_C), vwCl[k]? = some q → u_Kn s q.1 q.2.1 q.2.2 (dC k) (dI k) := by
    refine ⟨fun k => match k with | 0 => cc0 | 1 => cc1 | 2 => cc2 | 3 => cc3 | 4 => cc4 | 5 => cc5 | 6 => cc6 | _ => cc7, fun k => match k with | 0 => ii0 | 1 => ii1 | 2 => ii2 | 3 => ii3 | 4 => ii4 | 5 => ii5 | 6 => ii6 | _ => ii7, ?_⟩
    intro k q hq
    match k, hq with
    | 0, hq => cases hq; exact kk0
    | 1, hq => cases hq; exact kk1
    | 2, hq => cases hq; exact kk2
    | 3, hq => cases hq; exact kk3
    | 4, hq => cases hq; exact kk4
    | 5, hq => cases hq; exact kk5
    | 6, hq => cases hq; exact kk6
    | 7, hq => cases hq; exact kk7
    | k + 8, hq => simp [vwCl] at hq
  obtain ⟨cB, kA, comp, hfind, hkA, hkind⟩ := Cond.arrayClass_spec (hts2 _ qarI)
  have hov : (Cond.arrayOver (.array .int)).before #[Value.ref b] s = true := hts _ (List.mem_append_right _ (List.mem_append_right _ (List.mem_append_right _ (List.mem_append_right _ (List.mem_append_left _ (List.mem_of_getElem? (i := 89) rfl))))))
  obtain ⟨comp2, c2, k2, hc2, hi2, hk2, hkind2, hn2⟩ := arrayOverA_spec hov
  obtain ⟨x, ex⟩ : ∃ x : Cx, x = ((dC, dI), cB, c2, s.heap.size, adK, adV) := ⟨_, rfl⟩
  have hKb : Kb x s := by
    subst ex
    refine ⟨lw_move (State.WarmedH.refl s) hts2, hKc, fun k q hq => ?_⟩
    match k, hq with
    | 0, hq => cases hq; exact ⟨fun n z => ⟨fun k h => (by cases h), kA, hkA, comp, hkind⟩, hfind⟩
    | 1, hq => cases hq; exact ⟨fun n z => ⟨fun k h => (by cases h), k2, hk2, comp2, hkind2⟩, hn2⟩
    | k + 2, hq => simp at hq
  have hKs : Ks x s s.heap := by
    subst ex
    exact ⟨hS6, va_Zof (hts _ (List.mem_append_right _ (List.mem_append_right _ (List.mem_append_left _ (List.mem_of_getElem? (i := 55) rfl))))) (hts2 _ qi_J0) (va_eqi (hs _ (by decide +kernel))) hAq, va_Zqof (hts _ (List.mem_append_right _ (List.mem_append_right _ (List.mem_append_left _ (List.mem_of_getElem? (i := 71) rfl))))) (hts2 _ qi_J3) (hs _ (by decide +kernel)) hAq, vk_R.of (hts _ (List.mem_append_right _ (List.mem_append_right _ (List.mem_append_left _ (List.mem_of_getElem? (i := 33) rfl))))) (htm 0 (by decide)), vk_R.of (hts _ (List.mem_append_right _ (List.mem_append_right _ (List.mem_append_left _ (List.mem_of_getElem? (i := 34) rfl))))) (htm 1 (by decide)), vk_R.of (hts _ (List.mem_append_right _ (List.mem_append_right _ (List.mem_append_left _ (List.mem_of_getElem? (i := 35) rfl))))) (htm 2 (by decide)), vk_R.of (hts _ (List.mem_append_right _ (List.mem_append_right _ (List.mem_append_left _ (List.mem_of_getElem? (i := 36) rfl))))) (htm 3 (by decide)), vk_R.of (hts _ (List.mem_append_right _ (List.mem_append_right _ (List.mem_append_left _ (List.mem_of_getElem? (i := 37) rfl))))) (htm 4 (by decide)), vk_R.of (hts _ (List.mem_append_right _ (List.mem_append_right _ (List.mem_append_left _ (List.mem_of_getElem? (i := 100) rfl))))) (htm 5 (by decide)), over_moved (Vm.Alike.refl s.vm) hov⟩
  have hz : cz x = s.heap.size := by subst ex; rfl
  have hbA : ¬ cA x b := by show ¬ cz x ≤ b; rw [hz]; exact Nat.not_le.mpr hbl
  have F : Fx p s m meth c cL_law 4 RL (some .boolean) x := ⟨hx, hb, hml, hown, hr, hlocks, hKb, hKs⟩
  have hl := lv_entry ([.ref b]) (n := 4) (Nat.le_of_ble_eq_true rfl)
  rw [lg_entry_eq]
  generalize (lg_sl ([.ref b]) ++ List.replicate (4 - (lg_sl ([.ref b])).length) Slot.unset).toArray = ls at hl ⊢
  have hl : lv_has ls 4 [(0, .ref b)] := hl
  have main : J p l e room_1 s m #[Value.ref b] below meth c x 0 (rQ [] none none) 4 0 0 (lw_Z below #[Value.ref b] s) 0 [(0, .ref b)] [] (fun _ => 0) (fun _ _ => 0) := by
    have hzt : zT (fun _ => 0) 0 := fun _ _ => rfl
    have hza : zA (fun _ _ => 0) 0 := fun _ _ => rfl
    refine j_cr wl_begin ?_
    refine j_newO F clX7 ly0 (hdf_of hzt dvX7) qk_L_7 qt_X7 qi_X7 dL_law_0 (Nat.le_of_ble_eq_true rfl) (Nat.le_of_ble_eq_true rfl) ?_
    refine j_dup F dL_law_3 rfl ?_
    refine j_callIP F (k := 0) mwX7_init ql_L_9 [] rfl ⟨rfl, rfl, (Nat.le_of_ble_eq_true rfl), (Nat.le_of_ble_eq_true rfl)⟩ ⟨(Nat.le_of_ble_eq_true rfl), (Nat.le_of_ble_eq_true rfl)⟩ rfl (Nat.le_of_ble_eq_true rfl) dL_law_4 (kX7_init l (hza.le (by decide)) (hzt.le (by decide))) ?_
    refine j_astore_n F (lv' := [(1, .ref (cz x + 0)), (0, .ref b)]) dL_law_7 rfl (Nat.le_of_ble_eq_true rfl) rfl ?_
    have hzt : zT (va_up (va_up (fun _ => 0) (64 * 19 + 1) 0) (64 * 30 + 1) 1) 50 := zT.up (zT.up (hzt.le (by decide)) (by decide)) (by decide)
    have hza : zA (va_up (va_up (va_up (fun _ _ => 0) (3 + 3) ones8) (8 + 3) ones8) 45 ones8) 50 := zA.up (zA.up (zA.up (hza.le (by decide)) (by decide)) (by decide)) (by decide)
    refine j_cr wl_begin ?_
    refine j_newO F clX8 ly50 (hdf_of hzt dvX8) qk_L_10 qt_X8 qi_X8 dL_law_8 (Nat.le_of_ble_eq_true rfl) (Nat.le_of_ble_eq_true rfl) ?_
    refine j_dup F dL_law_11 rfl ?_
    refine j_callIP F (k := 50) mwX8_init ql_L_12 [] rfl ⟨rfl, rfl, (Nat.le_of_ble_eq_true rfl), (Nat.le_of_ble_eq_true rfl)⟩ ⟨(Nat.le_of_ble_eq_true rfl), (Nat.le_of_ble_eq_true rfl)⟩ rfl (Nat.le_of_ble_eq_true rfl) dL_law_12 (kX8_init l md50 (hza.le (by decide)) (fun _ => ⟨rfl, rfl⟩)) ?_
    rw [rQ_nil]
    refine j_astore_n F (lv' := [(2, .ref (cz x + 50)), (1, .ref (cz x + 0)), (0, .ref b)]) dL_law_15 rfl (Nat.le_of_ble_eq_true rfl) rfl ?_
    refine j_iconst F dL_law_16 eI_0 ?_
    refine j_istore_n F (lv' := [(3, .int 0), (2, .ref (cz x + 50)), (1, .ref (cz x + 0)), (0, .ref b)]) dL_law_17 rfl (Nat.le_of_ble_eq_true rfl) rfl ?_
    exact law_loop F hX hbl hbA hL hz hA 65 0 653 none none t0 a0 (by omega) (by omega) hI0
  exact main s.heap [] ls ⟨⟨hz.symm, fun k q h => by simp [wl] at h⟩, va_S.rf⟩ hl
