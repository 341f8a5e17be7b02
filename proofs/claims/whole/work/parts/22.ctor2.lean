/-! the constructors' contracts -/
theorem eB_6 : (Int8.ofInt 6).toInt32 = 6 := by decide
theorem eB_7 : (Int8.ofInt 7).toInt32 = 7 := by decide
theorem eB_8 : (Int8.ofInt 8).toInt32 = 8 := by decide
theorem eB_12 : (Int8.ofInt 12).toInt32 = 12 := by decide
theorem eB_25 : (Int8.ofInt 25).toInt32 = 25 := by decide
theorem eB_64 : (Int8.ofInt 64).toInt32 = 64 := by decide
theorem eI_0 : Int32.ofInt 0 = 0 := by decide
theorem eI_1 : Int32.ofInt 1 = 1 := by decide
theorem eI_2 : Int32.ofInt 2 = 2 := by decide
theorem eI_3 : Int32.ofInt 3 = 3 := by decide
theorem eI_4 : Int32.ofInt 4 = 4 := by decide
theorem eI_5 : Int32.ofInt 5 = 5 := by decide
theorem eS_256 : (Int16.ofInt 256).toInt32 = 256 := by decide
theorem eS_585 : (Int16.ofInt 585).toInt32 = 585 := by decide
theorem eS_2560 : (Int16.ofInt 2560).toInt32 = 2560 := by decide
theorem hU_ne {U : List (Nat × List Nat)} {k : Nat} (h : ∀ q ∈ U, q.1 < k) : ∀ q ∈ U, q.1 ≠ k := fun q hq => Nat.ne_of_lt (h q hq)
theorem hU_cons {U : List (Nat × List Nat)} {k k2 : Nat} {L : List Nat} (h : ∀ q ∈ U, q.1 < k) (hk : k < k2) : ∀ q ∈ (k, L) :: U, q.1 < k2 := by
  intro q hq
  rcases List.mem_cons.mp hq with rfl | h1
  · exact hk
  · exact Nat.lt_trans (h q h1) hk
theorem hU_nil {k : Nat} : ∀ q ∈ ([] : List (Nat × List Nat)), q.1 < k := fun q hq => absurd hq List.not_mem_nil
theorem rQ_none {U : List (Nat × List Nat)} {u v : Option Nat} {k j : Nat} (h : rho u v k j = none) : rQ U u v k j = none := by
  unfold rQ
  rw [h]
  split <;> rfl
theorem wl_done2 {x : Cx} {N k0 ci : Nat} {L : List Nat} {U : List (Nat × List Nat)} {u v : Option Nat} {t : sT} {a : sA} (hl : lay k0 = (0, ci)) (hL : ∀ j, j < nf ci → isR ci j = true → j ∈ L ∨ rho u v k0 j = none) : wl x N (rQ ((k0, L) :: U) u v) t a = wl x N (rQ U u v) t a := by
  apply Wo_r
  · intro k hk ci2 h0 j hj hr
    by_cases e : k = k0
    · subst e
      have e2 : ci2 = ci := by rw [hl] at h0; exact (Prod.mk.inj h0).2.symm
      subst e2
      rcases hL j hj hr with h | h
      · exact rQ_in h
      · rw [rQ_none h, rQ_none h]
    · exact rQ_ne e
  · intro k hk n h2 j
    by_cases e : k = k0
    · subst e
      rw [hl] at h2
      exact absurd (Prod.mk.inj h2).1 (by decide)
    · exact rQ_ne e
theorem md_L : ∀ j, j < nf 7 → isR 7 j = true → j ∈ [35, 32, 26, 25, 24, 23, 18, 17, 16, 12, 10, 9, 8, 6, 4, 2, 0] ∨ j = 20 ∨ j = 22 := by decide
theorem md_hL {k0 : Nat} {u v : Option Nat} (hk0 : isMd k0) (huv : k0 = 50 → u = none ∧ v = none) : ∀ j, j < nf 7 → isR 7 j = true → j ∈ [35, 32, 26, 25, 24, 23, 18, 17, 16, 12, 10, 9, 8, 6, 4, 2, 0] ∨ rho u v k0 j = none := by
  intro j hj hr
  rcases md_L j hj hr with h | rfl | rfl
  · exact Or.inl h
  · right
    rcases hk0 with rfl | rfl | rfl
    · exact (huv rfl).1
    · rfl
    · rfl
  · right
    rcases hk0 with rfl | rfl | rfl
    · exact (huv rfl).2
    · rfl
    · rfl
theorem dvX1 : ∀ j, j < 2 → (isR 1 j = true → defaultValue (tyX1 j) = .null) ∧ (isR 1 j = false → defaultValue (tyX1 j) = .int 0) := by decide
theorem dvX2 : ∀ j, j < 2 → (isR 2 j = true → defaultValue (tyX2 j) = .null) ∧ (isR 2 j = false → defaultValue (tyX2 j) = .int 0) := by decide
theorem dvX5 : ∀ j, j < 2 → (isR 4 j = true → defaultValue (tyX5 j) = .null) ∧ (isR 4 j = false → defaultValue (tyX5 j) = .int 0) := by decide
theorem dvX6 : ∀ j, j < 8 → (isR 5 j = true → defaultValue (tyX6 j) = .null) ∧ (isR 5 j = false → defaultValue (tyX6 j) = .int 0) := by decide
theorem dvX3 : ∀ j, j < 18 → (isR 3 j = true → defaultValue (tyX3 j) = .null) ∧ (isR 3 j = false → defaultValue (tyX3 j) = .int 0) := by decide
theorem dvX0 : ∀ j, j < 4 → (isR 0 j = true → defaultValue (tyX0 j) = .null) ∧ (isR 0 j = false → defaultValue (tyX0 j) = .int 0) := by decide
theorem dvX7 : ∀ j, j < 11 → (isR 6 j = true → defaultValue (tyX7 j) = .null) ∧ (isR 6 j = false → defaultValue (tyX7 j) = .int 0) := by decide
theorem dvX8 : ∀ j, j < 36 → (isR 7 j = true → defaultValue (tyX8 j) = .null) ∧ (isR 7 j = false → defaultValue (tyX8 j) = .int 0) := by decide
set_option maxRecDepth 100000 in
set_option maxHeartbeats 4000000 in
theorem kX1_init (l : Launch) {x : Cx} {u0 v0 : Option Nat} {U : List (Nat × List Nat)} {t : sT} {a : sA} (hU : ∀ q ∈ U, q.1 < 1) (hza : zA a 2) : Met l yX1_init [.code yX1_init cX1_init 1 none] { frames := 1, cells := 1, slots := 64, locals := 12 } (Pre x 2 (rQ ((1, []) :: U) u0 v0) t a [.ref (cz x + 1)]) (PostV x 3 (rQ U u0 v0) (t) (a)) 1 64 (cA x) := by
  refine j_entry (by decide) rfl (Nat.le_of_ble_eq_true rfl) ?_
  intro p e s m below meth c F hsz hnm
  have F : Fx p s m meth c cX1_init 1 RX1 none x := F
  show J p l e _ s m _ below meth c x 2 _ 1 0 0 _ 0 [(0, .ref (cz x + 1))] [] t a
  refine j_aload_n F 0 dX1_init_0 rfl rfl ?_
  refine j_oinit F ql_X1_3 dX1_init_1 (Nat.le_of_ble_eq_true rfl) (Nat.le_of_ble_eq_true rfl) ?_
  refine j_aload_n F 0 dX1_init_4 rfl rfl ?_
  refine j_bipush F dX1_init_5 eB_64 ?_
  refine j_newA F ly2 (hza _ (by omega)) (by decide) (by decide) (Nat.le_of_ble_eq_true rfl) dX1_init_7 (Nat.le_of_ble_eq_true rfl) (Nat.le_of_ble_eq_true rfl) ?_
  refine j_putR F clX1 (j := 0) (k := 1) (g := 2) (by omega) ly1 (Nat.le_of_ble_eq_true rfl) rfl qf_X1_9 (Or.inr ⟨rfl, hnm, rfl⟩) ⟨rfl, rfl⟩ (rQ_put rfl (hU_ne hU)) dX1_init_9 ?_
  refine j_cr (wl_done ly1 (by decide)) ?_
  exact j_vreturn F rfl dX1_init_12 (rv := 0) rfl
set_option maxRecDepth 100000 in
set_option maxHeartbeats 4000000 in
theorem kX2_init (l : Launch) {x : Cx} {u0 v0 : Option Nat} {U : List (Nat × List Nat)} {k0 : Nat} {t : sT} {a : sA} (hk0 : isRw k0) (hU : ∀ q ∈ U, q.1 < k0) (hza : zA a (k0 + 1)) : Met l yX2_init [.code yX2_init cX2_init 1 none] { frames := 1, cells := 1, slots := 6, locals := 12 } (Pre x (k0 + 1) (rQ ((k0, []) :: U) u0 v0) t a [.ref (cz x + k0)]) (PostV x (k0 + 2) (rQ U u0 v0) (t) (a)) 1 6 (cA x) := by
  refine j_entry (by decide) rfl (Nat.le_of_ble_eq_true rfl) ?_
  intro p e s m below meth c F hsz hnm
  have F : Fx p s m meth c cX2_init 1 RX2 none x := F
  show J p l e _ s m _ below meth c x (k0 + 1) _ 1 0 0 _ 0 [(0, .ref (cz x + k0))] [] t a
  refine j_aload_n F 0 dX2_init_0 rfl rfl ?_
  refine j_oinit F ql_X2_3 dX2_init_1 (Nat.le_of_ble_eq_true rfl) (Nat.le_of_ble_eq_true rfl) ?_
  refine j_aload_n F 0 dX2_init_4 rfl rfl ?_
  refine j_bipush F dX2_init_5 eB_6 ?_
  refine j_newA F (Rw_l1 hk0) (hza _ (by omega)) (by decide) (by decide) (Nat.le_of_ble_eq_true rfl) dX2_init_7 (Nat.le_of_ble_eq_true rfl) (Nat.le_of_ble_eq_true rfl) ?_
  refine j_putR F clX2 (j := 0) (k := k0) (g := k0 + 1) (by omega) (Rw_l hk0) (Nat.le_of_ble_eq_true rfl) rfl qf_X2_9 (Or.inr ⟨rfl, hnm, rfl⟩) ⟨rfl, rfl⟩ (rQ_put (Rw_r0 hk0) (hU_ne hU)) dX2_init_9 ?_
  refine j_cr (wl_done (Rw_l hk0) (by decide)) ?_
  exact j_vreturn F rfl dX2_init_12 (rv := 0) rfl
set_option maxRecDepth 100000 in
set_option maxHeartbeats 4000000 in
theorem kX5_init (l : Launch) {x : Cx} {u0 v0 : Option Nat} {U : List (Nat × List Nat)} {k0 : Nat} {t : sT} {a : sA} (hk0 : isTk k0) (hU : ∀ q ∈ U, q.1 < k0) (hza : zA a (k0 + 1)) : Met l yX5_init [.code yX5_init cX5_init 1 none] { frames := 1, cells := 1, slots := 12, locals := 12 } (Pre x (k0 + 1) (rQ ((k0, []) :: U) u0 v0) t a [.ref (cz x + k0)]) (PostV x (k0 + 2) (rQ U u0 v0) (t) (a)) 1 12 (cA x) := by
  refine j_entry (by decide) rfl (Nat.le_of_ble_eq_true rfl) ?_
  intro p e s m below meth c F hsz hnm
  have F : Fx p s m meth c cX5_init 1 RX5 none x := F
  show J p l e _ s m _ below meth c x (k0 + 1) _ 1 0 0 _ 0 [(0, .ref (cz x + k0))] [] t a
  refine j_aload_n F 0 dX5_init_0 rfl rfl ?_
  refine j_oinit F ql_X5_3 dX5_init_1 (Nat.le_of_ble_eq_true rfl) (Nat.le_of_ble_eq_true rfl) ?_
  refine j_aload_n F 0 dX5_init_4 rfl rfl ?_
  refine j_bipush F dX5_init_5 eB_12 ?_
  refine j_newA F (Tk_l1 hk0) (hza _ (by omega)) (by decide) (by decide) (Nat.le_of_ble_eq_true rfl) dX5_init_7 (Nat.le_of_ble_eq_true rfl) (Nat.le_of_ble_eq_true rfl) ?_
  refine j_putR F clX5 (j := 0) (k := k0) (g := k0 + 1) (by omega) (Tk_l hk0) (Nat.le_of_ble_eq_true rfl) rfl qf_X5_9 (Or.inr ⟨rfl, hnm, rfl⟩) ⟨rfl, rfl⟩ (rQ_put (Tk_r0 hk0) (hU_ne hU)) dX5_init_9 ?_
  refine j_cr (wl_done (Tk_l hk0) (by decide)) ?_
  exact j_vreturn F rfl dX5_init_12 (rv := 0) rfl
set_option maxRecDepth 100000 in
set_option maxHeartbeats 4000000 in
theorem kX6_init (l : Launch) {x : Cx} {u0 v0 : Option Nat} {U : List (Nat × List Nat)} {k0 : Nat} {t : sT} {a : sA} (hk0 : isTg k0) (hU : ∀ q ∈ U, q.1 < k0) (hza : zA a (k0 + 1)) : Met l yX6_init [.code yX6_init cX6_init 1 none] { frames := 1, cells := 4, slots := 28, locals := 12 } (Pre x (k0 + 1) (rQ ((k0, []) :: U) u0 v0) t a [.ref (cz x + k0)]) (PostV x (k0 + 5) (rQ U u0 v0) (t) (va_up a (k0 + 3) ones8)) 4 28 (cA x) := by
  refine j_entry (by decide) rfl (Nat.le_of_ble_eq_true rfl) ?_
  intro p e s m below meth c F hsz hnm
  have F : Fx p s m meth c cX6_init 1 RX6 none x := F
  show J p l e _ s m _ below meth c x (k0 + 1) _ 1 0 0 _ 0 [(0, .ref (cz x + k0))] [] t a
  refine j_aload_n F 0 dX6_init_0 rfl rfl ?_
  refine j_oinit F ql_X6_3 dX6_init_1 (Nat.le_of_ble_eq_true rfl) (Nat.le_of_ble_eq_true rfl) ?_
  refine j_aload_n F 0 dX6_init_4 rfl rfl ?_
  refine j_bipush F dX6_init_5 eB_8 ?_
  refine j_newA F (Tg_l1 hk0) (hza _ (by omega)) (by decide) (by decide) (Nat.le_of_ble_eq_true rfl) dX6_init_7 (Nat.le_of_ble_eq_true rfl) (Nat.le_of_ble_eq_true rfl) ?_
  refine j_putR F clX6 (j := 0) (k := k0) (g := k0 + 1) (by omega) (Tg_l hk0) (Nat.le_of_ble_eq_true rfl) rfl qf_X6_9 (Or.inr ⟨rfl, hnm, rfl⟩) ⟨rfl, rfl⟩ (rQ_put (Tg_r0 hk0) (hU_ne hU)) dX6_init_9 ?_
  refine j_aload_n F 0 dX6_init_12 rfl rfl ?_
  refine j_bipush F dX6_init_13 eB_8 ?_
  refine j_newA F (Tg_l2 hk0) (hza _ (by omega)) (by decide) (by decide) (Nat.le_of_ble_eq_true rfl) dX6_init_15 (Nat.le_of_ble_eq_true rfl) (Nat.le_of_ble_eq_true rfl) ?_
  refine j_putR F clX6 (j := 1) (k := k0) (g := k0 + 1 + 1) (by omega) (Tg_l hk0) (Nat.le_of_ble_eq_true rfl) rfl qf_X6_15 (Or.inr ⟨rfl, hnm, rfl⟩) ⟨rfl, rfl⟩ (rQ_put (Tg_r1 hk0) (hU_ne hU)) dX6_init_17 ?_
  refine j_aload_n F 0 dX6_init_20 rfl rfl ?_
  refine j_bipush F dX6_init_21 eB_8 ?_
  refine j_newA F (Tg_l3 hk0) (hza _ (by omega)) (by decide) (by decide) (Nat.le_of_ble_eq_true rfl) dX6_init_23 (Nat.le_of_ble_eq_true rfl) (Nat.le_of_ble_eq_true rfl) ?_
  refine j_dup F dX6_init_25 rfl ?_
  refine j_iconst F dX6_init_26 eI_0 ?_
  refine j_iconst F dX6_init_27 eI_1 ?_
  refine j_iast F (k := k0 + 1 + 1 + 1) (n := 8) (A := some ()) (v9 := ()) (by omega) (Tg_l3 hk0) dX6_init_28 rfl (fun _ => ?_)
  refine j_dup F dX6_init_29 rfl ?_
  refine j_iconst F dX6_init_30 eI_1 ?_
  refine j_iconst F dX6_init_31 eI_1 ?_
  refine j_iast F (k := k0 + 1 + 1 + 1) (n := 8) (A := some ()) (v9 := ()) (by omega) (Tg_l3 hk0) dX6_init_32 rfl (fun _ => ?_)
  refine j_dup F dX6_init_33 rfl ?_
  refine j_iconst F dX6_init_34 eI_2 ?_
  refine j_iconst F dX6_init_35 eI_1 ?_
  refine j_iast F (k := k0 + 1 + 1 + 1) (n := 8) (A := some ()) (v9 := ()) (by omega) (Tg_l3 hk0) dX6_init_36 rfl (fun _ => ?_)
  refine j_dup F dX6_init_37 rfl ?_
  refine j_iconst F dX6_init_38 eI_3 ?_
  refine j_iconst F dX6_init_39 eI_1 ?_
  refine j_iast F (k := k0 + 1 + 1 + 1) (n := 8) (A := some ()) (v9 := ()) (by omega) (Tg_l3 hk0) dX6_init_40 rfl (fun _ => ?_)
  refine j_dup F dX6_init_41 rfl ?_
  refine j_iconst F dX6_init_42 eI_4 ?_
  refine j_iconst F dX6_init_43 eI_1 ?_
  refine j_iast F (k := k0 + 1 + 1 + 1) (n := 8) (A := some ()) (v9 := ()) (by omega) (Tg_l3 hk0) dX6_init_44 rfl (fun _ => ?_)
  refine j_dup F dX6_init_45 rfl ?_
  refine j_iconst F dX6_init_46 eI_5 ?_
  refine j_iconst F dX6_init_47 eI_1 ?_
  refine j_iast F (k := k0 + 1 + 1 + 1) (n := 8) (A := some ()) (v9 := ()) (by omega) (Tg_l3 hk0) dX6_init_48 rfl (fun _ => ?_)
  refine j_dup F dX6_init_49 rfl ?_
  refine j_bipush F dX6_init_50 eB_6 ?_
  refine j_iconst F dX6_init_52 eI_1 ?_
  refine j_iast F (k := k0 + 1 + 1 + 1) (n := 8) (A := some ()) (v9 := ()) (by omega) (Tg_l3 hk0) dX6_init_53 rfl (fun _ => ?_)
  refine j_dup F dX6_init_54 rfl ?_
  refine j_bipush F dX6_init_55 eB_7 ?_
  refine j_iconst F dX6_init_57 eI_1 ?_
  refine j_iast F (k := k0 + 1 + 1 + 1) (n := 8) (A := some ()) (v9 := ()) (by omega) (Tg_l3 hk0) dX6_init_58 rfl (fun _ => ?_)
  refine j_eqa (a2 := va_up a (k0 + 3) ones8) (by have hz9 : a (k0 + 3) = fun _ => 0 := hza _ (by omega); funext k; by_cases hk : k = k0 + 3; (subst hk; simp [va_up, ones8, hz9]); (simp [va_up, hk])) ?_
  refine j_putR F clX6 (j := 2) (k := k0) (g := k0 + 1 + 1 + 1) (by omega) (Tg_l hk0) (Nat.le_of_ble_eq_true rfl) rfl qf_X6_18 (Or.inr ⟨rfl, hnm, rfl⟩) ⟨rfl, rfl⟩ (rQ_put (Tg_r2 hk0) (hU_ne hU)) dX6_init_59 ?_
  refine j_aload_n F 0 dX6_init_62 rfl rfl ?_
  refine j_iconst F dX6_init_63 eI_4 ?_
  refine j_newA F (Tg_l4 hk0) (by rw [va_up_ne _ _ (by omega)]; exact hza _ (by omega)) (by decide) (by decide) (Nat.le_of_ble_eq_true rfl) dX6_init_64 (Nat.le_of_ble_eq_true rfl) (Nat.le_of_ble_eq_true rfl) ?_
  refine j_putR F clX6 (j := 3) (k := k0) (g := k0 + 1 + 1 + 1 + 1) (by omega) (Tg_l hk0) (Nat.le_of_ble_eq_true rfl) rfl qf_X6_21 (Or.inr ⟨rfl, hnm, rfl⟩) ⟨rfl, rfl⟩ (rQ_put (Tg_r3 hk0) (hU_ne hU)) dX6_init_66 ?_
  refine j_cr (wl_done (Tg_l hk0) (by decide)) ?_
  exact j_vreturn F rfl dX6_init_69 (rv := 0) rfl
set_option maxRecDepth 100000 in
set_option maxHeartbeats 4000000 in
theorem kX3_init (l : Launch) {x : Cx} {u0 v0 : Option Nat} {U : List (Nat × List Nat)} {k0 : Nat} {x2 : Int32} {t : sT} {a : sA} (hk0 : isSy k0) (hU : ∀ q ∈ U, q.1 < k0) (hza : zA a (k0 + 1)) : Met l yX3_init [.code yX3_init cX3_init 3 none] { frames := 1, cells := 10, slots := 6376, locals := 12 } (Pre x (k0 + 1) (rQ ((k0, []) :: U) u0 v0) t a [.ref (cz x + k0), .ref (cz x + 3), .int x2]) (PostV x (k0 + 11) (rQ U u0 v0) (va_up t (64 * k0 + 1) x2) (a)) 10 6376 (cA x) := by
  refine j_entry (by decide) rfl (Nat.le_of_ble_eq_true rfl) ?_
  intro p e s m below meth c F hsz hnm
  have F : Fx p s m meth c cX3_init 3 RX3 none x := F
  show J p l e _ s m _ below meth c x (k0 + 1) _ 3 0 0 _ 0 [(0, .ref (cz x + k0)), (1, .ref (cz x + 3)), (2, .int x2)] [] t a
  refine j_aload_n F 0 dX3_init_0 rfl rfl ?_
  refine j_oinit F ql_X3_3 dX3_init_1 (Nat.le_of_ble_eq_true rfl) (Nat.le_of_ble_eq_true rfl) ?_
  refine j_aload_n F 0 dX3_init_4 rfl rfl ?_
  refine j_sipush F dX3_init_5 eS_585 ?_
  refine j_newA F (Sy_l1 hk0) (hza _ (by omega)) (by decide) (by decide) (Nat.le_of_ble_eq_true rfl) dX3_init_8 (Nat.le_of_ble_eq_true rfl) (Nat.le_of_ble_eq_true rfl) ?_
  refine j_putR F clX3 (j := 2) (k := k0) (g := k0 + 1) (by omega) (Sy_l hk0) (Nat.le_of_ble_eq_true rfl) rfl qf_X3_11 (Or.inr ⟨rfl, hnm, rfl⟩) ⟨rfl, rfl⟩ (rQ_put (Sy_r2 hk0) (hU_ne hU)) dX3_init_10 ?_
  refine j_aload_n F 0 dX3_init_13 rfl rfl ?_
  refine j_sipush F dX3_init_14 eS_585 ?_
  refine j_newA F (Sy_l2 hk0) (hza _ (by omega)) (by decide) (by decide) (Nat.le_of_ble_eq_true rfl) dX3_init_17 (Nat.le_of_ble_eq_true rfl) (Nat.le_of_ble_eq_true rfl) ?_
  refine j_putR F clX3 (j := 3) (k := k0) (g := k0 + 1 + 1) (by omega) (Sy_l hk0) (Nat.le_of_ble_eq_true rfl) rfl qf_X3_15 (Or.inr ⟨rfl, hnm, rfl⟩) ⟨rfl, rfl⟩ (rQ_put (Sy_r3 hk0) (hU_ne hU)) dX3_init_19 ?_
  refine j_aload_n F 0 dX3_init_22 rfl rfl ?_
  refine j_sipush F dX3_init_23 eS_585 ?_
  refine j_newA F (Sy_l3 hk0) (hza _ (by omega)) (by decide) (by decide) (Nat.le_of_ble_eq_true rfl) dX3_init_26 (Nat.le_of_ble_eq_true rfl) (Nat.le_of_ble_eq_true rfl) ?_
  refine j_putR F clX3 (j := 4) (k := k0) (g := k0 + 1 + 1 + 1) (by omega) (Sy_l hk0) (Nat.le_of_ble_eq_true rfl) rfl qf_X3_18 (Or.inr ⟨rfl, hnm, rfl⟩) ⟨rfl, rfl⟩ (rQ_put (Sy_r4 hk0) (hU_ne hU)) dX3_init_28 ?_
  refine j_aload_n F 0 dX3_init_31 rfl rfl ?_
  refine j_sipush F dX3_init_32 eS_585 ?_
  refine j_newA F (Sy_l4 hk0) (hza _ (by omega)) (by decide) (by decide) (Nat.le_of_ble_eq_true rfl) dX3_init_35 (Nat.le_of_ble_eq_true rfl) (Nat.le_of_ble_eq_true rfl) ?_
  refine j_putR F clX3 (j := 5) (k := k0) (g := k0 + 1 + 1 + 1 + 1) (by omega) (Sy_l hk0) (Nat.le_of_ble_eq_true rfl) rfl qf_X3_21 (Or.inr ⟨rfl, hnm, rfl⟩) ⟨rfl, rfl⟩ (rQ_put (Sy_r5 hk0) (hU_ne hU)) dX3_init_37 ?_
  refine j_aload_n F 0 dX3_init_40 rfl rfl ?_
  refine j_sipush F dX3_init_41 eS_585 ?_
  refine j_newA F (Sy_l5 hk0) (hza _ (by omega)) (by decide) (by decide) (Nat.le_of_ble_eq_true rfl) dX3_init_44 (Nat.le_of_ble_eq_true rfl) (Nat.le_of_ble_eq_true rfl) ?_
  refine j_putR F clX3 (j := 6) (k := k0) (g := k0 + 1 + 1 + 1 + 1 + 1) (by omega) (Sy_l hk0) (Nat.le_of_ble_eq_true rfl) rfl qf_X3_24 (Or.inr ⟨rfl, hnm, rfl⟩) ⟨rfl, rfl⟩ (rQ_put (Sy_r6 hk0) (hU_ne hU)) dX3_init_46 ?_
  refine j_aload_n F 0 dX3_init_49 rfl rfl ?_
  refine j_sipush F dX3_init_50 eS_2560 ?_
  refine j_newA F (Sy_l6 hk0) (hza _ (by omega)) (by decide) (by decide) (Nat.le_of_ble_eq_true rfl) dX3_init_53 (Nat.le_of_ble_eq_true rfl) (Nat.le_of_ble_eq_true rfl) ?_
  refine j_putR F clX3 (j := 7) (k := k0) (g := k0 + 1 + 1 + 1 + 1 + 1 + 1) (by omega) (Sy_l hk0) (Nat.le_of_ble_eq_true rfl) rfl qf_X3_27 (Or.inr ⟨rfl, hnm, rfl⟩) ⟨rfl, rfl⟩ (rQ_put (Sy_r7 hk0) (hU_ne hU)) dX3_init_55 ?_
  refine j_aload_n F 0 dX3_init_58 rfl rfl ?_
  refine j_sipush F dX3_init_59 eS_585 ?_
  refine j_newA F (Sy_l7 hk0) (hza _ (by omega)) (by decide) (by decide) (Nat.le_of_ble_eq_true rfl) dX3_init_62 (Nat.le_of_ble_eq_true rfl) (Nat.le_of_ble_eq_true rfl) ?_
  refine j_putR F clX3 (j := 8) (k := k0) (g := k0 + 1 + 1 + 1 + 1 + 1 + 1 + 1) (by omega) (Sy_l hk0) (Nat.le_of_ble_eq_true rfl) rfl qf_X3_30 (Or.inr ⟨rfl, hnm, rfl⟩) ⟨rfl, rfl⟩ (rQ_put (Sy_r8 hk0) (hU_ne hU)) dX3_init_64 ?_
  refine j_aload_n F 0 dX3_init_67 rfl rfl ?_
  refine j_sipush F dX3_init_68 eS_256 ?_
  refine j_newA F (Sy_l8 hk0) (hza _ (by omega)) (by decide) (by decide) (Nat.le_of_ble_eq_true rfl) dX3_init_71 (Nat.le_of_ble_eq_true rfl) (Nat.le_of_ble_eq_true rfl) ?_
  refine j_putR F clX3 (j := 9) (k := k0) (g := k0 + 1 + 1 + 1 + 1 + 1 + 1 + 1 + 1) (by omega) (Sy_l hk0) (Nat.le_of_ble_eq_true rfl) rfl qf_X3_33 (Or.inr ⟨rfl, hnm, rfl⟩) ⟨rfl, rfl⟩ (rQ_put (Sy_r9 hk0) (hU_ne hU)) dX3_init_73 ?_
  refine j_aload_n F 0 dX3_init_76 rfl rfl ?_
  refine j_bipush F dX3_init_77 eB_25 ?_
  refine j_newA F (Sy_l9 hk0) (hza _ (by omega)) (by decide) (by decide) (Nat.le_of_ble_eq_true rfl) dX3_init_79 (Nat.le_of_ble_eq_true rfl) (Nat.le_of_ble_eq_true rfl) ?_
  refine j_putR F clX3 (j := 10) (k := k0) (g := k0 + 1 + 1 + 1 + 1 + 1 + 1 + 1 + 1 + 1) (by omega) (Sy_l hk0) (Nat.le_of_ble_eq_true rfl) rfl qf_X3_36 (Or.inr ⟨rfl, hnm, rfl⟩) ⟨rfl, rfl⟩ (rQ_put (Sy_r10 hk0) (hU_ne hU)) dX3_init_81 ?_
  refine j_aload_n F 0 dX3_init_84 rfl rfl ?_
  refine j_bipush F dX3_init_85 eB_25 ?_
  refine j_newA F (Sy_l10 hk0) (hza _ (by omega)) (by decide) (by decide) (Nat.le_of_ble_eq_true rfl) dX3_init_87 (Nat.le_of_ble_eq_true rfl) (Nat.le_of_ble_eq_true rfl) ?_
  refine j_putR F clX3 (j := 11) (k := k0) (g := k0 + 1 + 1 + 1 + 1 + 1 + 1 + 1 + 1 + 1 + 1) (by omega) (Sy_l hk0) (Nat.le_of_ble_eq_true rfl) rfl qf_X3_39 (Or.inr ⟨rfl, hnm, rfl⟩) ⟨rfl, rfl⟩ (rQ_put (Sy_r11 hk0) (hU_ne hU)) dX3_init_89 ?_
  refine j_aload_n F 0 dX3_init_92 rfl rfl ?_
  refine j_aload_n F 1 dX3_init_93 rfl rfl ?_
  refine j_putR F clX3 (j := 0) (k := k0) (g := 3) (by omega) (Sy_l hk0) (Nat.le_of_ble_eq_true rfl) rfl qf_X3_42 (Or.inr ⟨rfl, hnm, rfl⟩) ⟨rfl, rfl⟩ (rQ_put (Sy_r0 hk0) (hU_ne hU)) dX3_init_94 ?_
  refine j_aload_n F 0 dX3_init_97 rfl rfl ?_
  refine j_iload_n F 2 dX3_init_98 rfl rfl ?_
  refine j_putIF F clX3 (j := 1) (k := k0) (tt := 64 * k0 + 1) (by omega) (Sy_l hk0) (Nat.le_of_ble_eq_true rfl) rfl qf_X3_46 rfl hnm rfl rfl rfl dX3_init_99 ?_
  refine j_cr (wl_done (Sy_l hk0) (by decide)) ?_
  exact j_vreturn F rfl dX3_init_102 (rv := 0) rfl
set_option maxRecDepth 100000 in
set_option maxHeartbeats 4000000 in
theorem kX0_init (l : Launch) {x : Cx} {u0 v0 : Option Nat} {U : List (Nat × List Nat)} {t : sT} {a : sA} (hU : ∀ q ∈ U, q.1 < 41) (hza : zA a 42) (hzt : zT t 42) : Met l yX0_init [.code yX0_init cX0_init 1 none] { frames := 2, cells := 7, slots := 50, locals := 32 } (Pre x 42 (rQ ((41, []) :: U) u0 v0) t a [.ref (cz x + 41)]) (PostV x 49 (rQ U u0 v0) (t) (va_up a (42 + 3) ones8)) 7 50 (cA x) := by
  refine j_entry (by decide) rfl (Nat.le_of_ble_eq_true rfl) ?_
  intro p e s m below meth c F hsz hnm
  have F : Fx p s m meth c cX0_init 1 RX0 none x := F
  show J p l e _ s m _ below meth c x 42 _ 1 0 0 _ 0 [(0, .ref (cz x + 41))] [] t a
  refine j_aload_n F 0 dX0_init_0 rfl rfl ?_
  refine j_oinit F ql_X0_1 dX0_init_1 (Nat.le_of_ble_eq_true rfl) (Nat.le_of_ble_eq_true rfl) ?_
  refine j_aload_n F 0 dX0_init_4 rfl rfl ?_
  refine j_cr wl_begin ?_
  refine j_newO F clX6 ly42 (hdf_of (zT.le hzt (by decide)) dvX6) qk_X0_7 qt_X6 qi_X6 dX0_init_5 (Nat.le_of_ble_eq_true rfl) (Nat.le_of_ble_eq_true rfl) ?_
  refine j_dup F dX0_init_8 rfl ?_
  have hZa := zA.le (M := 43) hza (by decide)
  refine j_callIN F (k := 42) mwX6_init qn_X0_9 [] rfl ⟨rfl, rfl, (Nat.le_of_ble_eq_true rfl), (Nat.le_of_ble_eq_true rfl)⟩ ⟨(Nat.le_of_ble_eq_true rfl), (Nat.le_of_ble_eq_true rfl)⟩ rfl (Nat.le_of_ble_eq_true rfl) dX0_init_9 (kX6_init l tg42 (hU_cons hU (by decide)) hZa) ?_
  have hza : zA (va_up a (42 + 3) ones8) 47 := zA.up (zA.le hza (by decide)) (by decide)
  refine j_putR F clX0 (j := 0) (k := 41) (g := 42) (by omega) ly41 (Nat.le_of_ble_eq_true rfl) rfl qf_X0_10 (Or.inr ⟨rfl, hnm, rfl⟩) ⟨rfl, rfl⟩ (rQ_put rfl (hU_ne hU)) dX0_init_12 ?_
  refine j_aload_n F 0 dX0_init_15 rfl rfl ?_
  refine j_cr wl_begin ?_
  refine j_newO F clX5 ly47 (hdf_of (zT.le hzt (by decide)) dvX5) qk_X0_16 qt_X5 qi_X5 dX0_init_16 (Nat.le_of_ble_eq_true rfl) (Nat.le_of_ble_eq_true rfl) ?_
  refine j_dup F dX0_init_19 rfl ?_
  have hZa := zA.le (M := 48) hza (by decide)
  refine j_callIN F (k := 47) mwX5_init qn_X0_18 [] rfl ⟨rfl, rfl, (Nat.le_of_ble_eq_true rfl), (Nat.le_of_ble_eq_true rfl)⟩ ⟨(Nat.le_of_ble_eq_true rfl), (Nat.le_of_ble_eq_true rfl)⟩ rfl (Nat.le_of_ble_eq_true rfl) dX0_init_20 (kX5_init l tk47 (hU_cons hU (by decide)) hZa) ?_
  refine j_putR F clX0 (j := 1) (k := 41) (g := 47) (by omega) ly41 (Nat.le_of_ble_eq_true rfl) rfl qf_X0_19 (Or.inr ⟨rfl, hnm, rfl⟩) ⟨rfl, rfl⟩ (rQ_put rfl (hU_ne hU)) dX0_init_23 ?_
  refine j_cr (wl_done ly41 (by decide)) ?_
  exact j_vreturn F rfl dX0_init_26 (rv := 0) rfl
set_option maxRecDepth 100000 in
set_option maxHeartbeats 4000000 in
theorem kX7_init (l : Launch) {x : Cx} {u0 v0 : Option Nat} {t : sT} {a : sA} (hza : zA a 1) (hzt : zT t 1) : Met l yX7_init [.code yX7_init cX7_init 1 none] { frames := 3, cells := 49, slots := 13017, locals := 52 } (Pre x 1 (rQ ((0, []) :: []) u0 v0) t a [.ref (cz x + 0)]) (PostV x 50 (rQ [] u0 v0) (va_up (va_up t (64 * 19 + 1) 0) (64 * 30 + 1) 1) (va_up (va_up (va_up a (3 + 3) ones8) (8 + 3) ones8) 45 ones8)) 49 13017 (cA x) := by
  refine j_entry (by decide) rfl (Nat.le_of_ble_eq_true rfl) ?_
  intro p e s m below meth c F hsz hnm
  have F : Fx p s m meth c cX7_init 1 RX7 none x := F
  show J p l e _ s m _ below meth c x 1 _ 1 0 0 _ 0 [(0, .ref (cz x + 0))] [] t a
  refine j_aload_n F 0 dX7_init_0 rfl rfl ?_
  refine j_oinit F ql_X7_1 dX7_init_1 (Nat.le_of_ble_eq_true rfl) (Nat.le_of_ble_eq_true rfl) ?_
  refine j_aload_n F 0 dX7_init_4 rfl rfl ?_
  refine j_cr wl_begin ?_
  refine j_newO F clX1 ly1 (hdf_of (zT.le hzt (by decide)) dvX1) qk_X7_7 qt_X1 qi_X1 dX7_init_5 (Nat.le_of_ble_eq_true rfl) (Nat.le_of_ble_eq_true rfl) ?_
  refine j_dup F dX7_init_8 rfl ?_
  have hZa := zA.le (M := 2) hza (by decide)
  refine j_callIN F (k := 1) mwX1_init qn_X7_9 [] rfl ⟨rfl, rfl, (Nat.le_of_ble_eq_true rfl), (Nat.le_of_ble_eq_true rfl)⟩ ⟨(Nat.le_of_ble_eq_true rfl), (Nat.le_of_ble_eq_true rfl)⟩ rfl (Nat.le_of_ble_eq_true rfl) dX7_init_9 (kX1_init l  (hU_cons hU_nil (by decide)) hZa) ?_
  refine j_putR F clX7 (j := 0) (k := 0) (g := 1) (by omega) ly0 (Nat.le_of_ble_eq_true rfl) rfl qf_X7_10 (Or.inr ⟨rfl, hnm, rfl⟩) ⟨rfl, rfl⟩ (rQ_put rfl (hU_ne hU_nil)) dX7_init_12 ?_
  refine j_aload_n F 0 dX7_init_15 rfl rfl ?_
  refine j_cr wl_begin ?_
  refine j_newO F clX6 ly3 (hdf_of (zT.le hzt (by decide)) dvX6) qk_X7_16 qt_X6 qi_X6 dX7_init_16 (Nat.le_of_ble_eq_true rfl) (Nat.le_of_ble_eq_true rfl) ?_
  refine j_dup F dX7_init_19 rfl ?_
  have hZa := zA.le (M := 4) hza (by decide)
  refine j_callIN F (k := 3) mwX6_init qn_X7_18 [] rfl ⟨rfl, rfl, (Nat.le_of_ble_eq_true rfl), (Nat.le_of_ble_eq_true rfl)⟩ ⟨(Nat.le_of_ble_eq_true rfl), (Nat.le_of_ble_eq_true rfl)⟩ rfl (Nat.le_of_ble_eq_true rfl) dX7_init_20 (kX6_init l tg3 (hU_cons hU_nil (by decide)) hZa) ?_
  have hza : zA (va_up a (3 + 3) ones8) 8 := zA.up (zA.le hza (by decide)) (by decide)
  refine j_putR F clX7 (j := 1) (k := 0) (g := 3) (by omega) ly0 (Nat.le_of_ble_eq_true rfl) rfl qf_X7_19 (Or.inr ⟨rfl, hnm, rfl⟩) ⟨rfl, rfl⟩ (rQ_put rfl (hU_ne hU_nil)) dX7_init_23 ?_
  refine j_aload_n F 0 dX7_init_26 rfl rfl ?_
  refine j_cr wl_begin ?_
  refine j_newO F clX6 ly8 (hdf_of (zT.le hzt (by decide)) dvX6) qk_X7_16 qt_X6 qi_X6 dX7_init_27 (Nat.le_of_ble_eq_true rfl) (Nat.le_of_ble_eq_true rfl) ?_
  refine j_dup F dX7_init_30 rfl ?_
  have hZa := zA.le (M := 9) hza (by decide)
  refine j_callIN F (k := 8) mwX6_init qn_X7_18 [] rfl ⟨rfl, rfl, (Nat.le_of_ble_eq_true rfl), (Nat.le_of_ble_eq_true rfl)⟩ ⟨(Nat.le_of_ble_eq_true rfl), (Nat.le_of_ble_eq_true rfl)⟩ rfl (Nat.le_of_ble_eq_true rfl) dX7_init_31 (kX6_init l tg8 (hU_cons hU_nil (by decide)) hZa) ?_
  have hza : zA (va_up (va_up a (3 + 3) ones8) (8 + 3) ones8) 13 := zA.up (zA.le hza (by decide)) (by decide)
  refine j_putR F clX7 (j := 2) (k := 0) (g := 8) (by omega) ly0 (Nat.le_of_ble_eq_true rfl) rfl qf_X7_23 (Or.inr ⟨rfl, hnm, rfl⟩) ⟨rfl, rfl⟩ (rQ_put rfl (hU_ne hU_nil)) dX7_init_34 ?_
  refine j_aload_n F 0 dX7_init_37 rfl rfl ?_
  refine j_cr wl_begin ?_
  refine j_newO F clX2 ly13 (hdf_of (zT.le hzt (by decide)) dvX2) qk_X7_26 qt_X2 qi_X2 dX7_init_38 (Nat.le_of_ble_eq_true rfl) (Nat.le_of_ble_eq_true rfl) ?_
  refine j_dup F dX7_init_41 rfl ?_
  have hZa := zA.le (M := 14) hza (by decide)
  refine j_callIN F (k := 13) mwX2_init qn_X7_28 [] rfl ⟨rfl, rfl, (Nat.le_of_ble_eq_true rfl), (Nat.le_of_ble_eq_true rfl)⟩ ⟨(Nat.le_of_ble_eq_true rfl), (Nat.le_of_ble_eq_true rfl)⟩ rfl (Nat.le_of_ble_eq_true rfl) dX7_init_42 (kX2_init l rw13 (hU_cons hU_nil (by decide)) hZa) ?_
  refine j_putR F clX7 (j := 3) (k := 0) (g := 13) (by omega) ly0 (Nat.le_of_ble_eq_true rfl) rfl qf_X7_29 (Or.inr ⟨rfl, hnm, rfl⟩) ⟨rfl, rfl⟩ (rQ_put rfl (hU_ne hU_nil)) dX7_init_45 ?_
  refine j_aload_n F 0 dX7_init_48 rfl rfl ?_
  refine j_cr wl_begin ?_
  refine j_newO F clX2 ly15 (hdf_of (zT.le hzt (by decide)) dvX2) qk_X7_26 qt_X2 qi_X2 dX7_init_49 (Nat.le_of_ble_eq_true rfl) (Nat.le_of_ble_eq_true rfl) ?_
  refine j_dup F dX7_init_52 rfl ?_
  have hZa := zA.le (M := 16) hza (by decide)
  refine j_callIN F (k := 15) mwX2_init qn_X7_28 [] rfl ⟨rfl, rfl, (Nat.le_of_ble_eq_true rfl), (Nat.le_of_ble_eq_true rfl)⟩ ⟨(Nat.le_of_ble_eq_true rfl), (Nat.le_of_ble_eq_true rfl)⟩ rfl (Nat.le_of_ble_eq_true rfl) dX7_init_53 (kX2_init l rw15 (hU_cons hU_nil (by decide)) hZa) ?_
  refine j_putR F clX7 (j := 4) (k := 0) (g := 15) (by omega) ly0 (Nat.le_of_ble_eq_true rfl) rfl qf_X7_33 (Or.inr ⟨rfl, hnm, rfl⟩) ⟨rfl, rfl⟩ (rQ_put rfl (hU_ne hU_nil)) dX7_init_56 ?_
  refine j_aload_n F 0 dX7_init_59 rfl rfl ?_
  refine j_cr wl_begin ?_
  refine j_newO F clX5 ly17 (hdf_of (zT.le hzt (by decide)) dvX5) qk_X7_36 qt_X5 qi_X5 dX7_init_60 (Nat.le_of_ble_eq_true rfl) (Nat.le_of_ble_eq_true rfl) ?_
  refine j_dup F dX7_init_63 rfl ?_
  have hZa := zA.le (M := 18) hza (by decide)
  refine j_callIN F (k := 17) mwX5_init qn_X7_38 [] rfl ⟨rfl, rfl, (Nat.le_of_ble_eq_true rfl), (Nat.le_of_ble_eq_true rfl)⟩ ⟨(Nat.le_of_ble_eq_true rfl), (Nat.le_of_ble_eq_true rfl)⟩ rfl (Nat.le_of_ble_eq_true rfl) dX7_init_64 (kX5_init l tk17 (hU_cons hU_nil (by decide)) hZa) ?_
  refine j_putR F clX7 (j := 5) (k := 0) (g := 17) (by omega) ly0 (Nat.le_of_ble_eq_true rfl) rfl qf_X7_39 (Or.inr ⟨rfl, hnm, rfl⟩) ⟨rfl, rfl⟩ (rQ_put rfl (hU_ne hU_nil)) dX7_init_67 ?_
  refine j_aload_n F 0 dX7_init_70 rfl rfl ?_
  refine j_cr wl_begin ?_
  refine j_newO F clX3 ly19 (hdf_of (zT.le hzt (by decide)) dvX3) qk_X7_43 qt_X3 qi_X3 dX7_init_71 (Nat.le_of_ble_eq_true rfl) (Nat.le_of_ble_eq_true rfl) ?_
  refine j_dup F dX7_init_74 rfl ?_
  refine j_aload_n F 0 dX7_init_75 rfl rfl ?_
  refine j_getR F clX7 (j := 1) (k := 0) (g := 3) (by omega) ly0 (Nat.le_of_ble_eq_true rfl) rfl qf_X7_19 rfl dX7_init_76 ?_
  refine j_iconst F dX7_init_79 eI_0 ?_
  have hZa := zA.le (M := 20) hza (by decide)
  refine j_callIP F (k := 19) mwX3_init ql_X7_45 [.ref (cz x + 3), .int 0] rfl ⟨rfl, rfl, (Nat.le_of_ble_eq_true rfl), (Nat.le_of_ble_eq_true rfl)⟩ ⟨(Nat.le_of_ble_eq_true rfl), (Nat.le_of_ble_eq_true rfl)⟩ rfl (Nat.le_of_ble_eq_true rfl) dX7_init_80 (kX3_init l sy19 (hU_cons hU_nil (by decide)) hZa) ?_
  have hzt : zT (va_up t (64 * 19 + 1) 0) 20 := zT.up (zT.le hzt (by decide)) (by decide)
  refine j_putR F clX7 (j := 6) (k := 0) (g := 19) (by omega) ly0 (Nat.le_of_ble_eq_true rfl) rfl qf_X7_48 (Or.inr ⟨rfl, hnm, rfl⟩) ⟨rfl, rfl⟩ (rQ_put rfl (hU_ne hU_nil)) dX7_init_83 ?_
  refine j_aload_n F 0 dX7_init_86 rfl rfl ?_
  refine j_cr wl_begin ?_
  refine j_newO F clX3 ly30 (hdf_of (zT.le hzt (by decide)) dvX3) qk_X7_43 qt_X3 qi_X3 dX7_init_87 (Nat.le_of_ble_eq_true rfl) (Nat.le_of_ble_eq_true rfl) ?_
  refine j_dup F dX7_init_90 rfl ?_
  refine j_aload_n F 0 dX7_init_91 rfl rfl ?_
  refine j_getR F clX7 (j := 1) (k := 0) (g := 3) (by omega) ly0 (Nat.le_of_ble_eq_true rfl) rfl qf_X7_19 rfl dX7_init_92 ?_
  refine j_iconst F dX7_init_95 eI_1 ?_
  have hZa := zA.le (M := 31) hza (by decide)
  refine j_callIP F (k := 30) mwX3_init ql_X7_45 [.ref (cz x + 3), .int 1] rfl ⟨rfl, rfl, (Nat.le_of_ble_eq_true rfl), (Nat.le_of_ble_eq_true rfl)⟩ ⟨(Nat.le_of_ble_eq_true rfl), (Nat.le_of_ble_eq_true rfl)⟩ rfl (Nat.le_of_ble_eq_true rfl) dX7_init_96 (kX3_init l sy30 (hU_cons hU_nil (by decide)) hZa) ?_
  have hzt : zT (va_up (va_up t (64 * 19 + 1) 0) (64 * 30 + 1) 1) 31 := zT.up (zT.le hzt (by decide)) (by decide)
  refine j_putR F clX7 (j := 7) (k := 0) (g := 30) (by omega) ly0 (Nat.le_of_ble_eq_true rfl) rfl qf_X7_52 (Or.inr ⟨rfl, hnm, rfl⟩) ⟨rfl, rfl⟩ (rQ_put rfl (hU_ne hU_nil)) dX7_init_99 ?_
  refine j_aload_n F 0 dX7_init_102 rfl rfl ?_
  refine j_cr wl_begin ?_
  refine j_newO F clX0 ly41 (hdf_of (zT.le hzt (by decide)) dvX0) qk_X7_55 qt_X0 qi_X0 dX7_init_103 (Nat.le_of_ble_eq_true rfl) (Nat.le_of_ble_eq_true rfl) ?_
  refine j_dup F dX7_init_106 rfl ?_
  have hZa := zA.le (M := 42) hza (by decide)
  refine j_callIN F (k := 41) mwX0_init qn_X7_57 [] rfl ⟨rfl, rfl, (Nat.le_of_ble_eq_true rfl), (Nat.le_of_ble_eq_true rfl)⟩ ⟨(Nat.le_of_ble_eq_true rfl), (Nat.le_of_ble_eq_true rfl)⟩ rfl (Nat.le_of_ble_eq_true rfl) dX7_init_107 (kX0_init l  (hU_cons hU_nil (by decide)) hZa (zT.le hzt (by decide))) ?_
  have hza : zA (va_up (va_up (va_up a (3 + 3) ones8) (8 + 3) ones8) 45 ones8) 49 := zA.up (zA.le hza (by decide)) (by decide)
  refine j_putR F clX7 (j := 8) (k := 0) (g := 41) (by omega) ly0 (Nat.le_of_ble_eq_true rfl) rfl qf_X7_58 (Or.inr ⟨rfl, hnm, rfl⟩) ⟨rfl, rfl⟩ (rQ_put rfl (hU_ne hU_nil)) dX7_init_110 ?_
  refine j_aload_n F 0 dX7_init_113 rfl rfl ?_
  refine j_bipush F dX7_init_114 eB_7 ?_
  refine j_newA F ly49 (hza _ (by omega)) (by decide) (by decide) (Nat.le_of_ble_eq_true rfl) dX7_init_116 (Nat.le_of_ble_eq_true rfl) (Nat.le_of_ble_eq_true rfl) ?_
  refine j_putR F clX7 (j := 9) (k := 0) (g := 49) (by omega) ly0 (Nat.le_of_ble_eq_true rfl) rfl qf_X7_62 (Or.inr ⟨rfl, hnm, rfl⟩) ⟨rfl, rfl⟩ (rQ_put rfl (hU_ne hU_nil)) dX7_init_118 ?_
  refine j_cr (wl_done ly0 (by decide)) ?_
  exact j_vreturn F rfl dX7_init_121 (rv := 0) rfl
set_option maxRecDepth 100000 in
set_option maxHeartbeats 4000000 in
theorem kX8_init (l : Launch) {x : Cx} {u0 v0 : Option Nat} {k0 : Nat} {t : sT} {a : sA} (hk0 : isMd k0) (hza : zA a (k0 + 1)) (huv : k0 = 50 → u0 = none ∧ v0 = none) : Met l yX8_init [.code yX8_init cX8_init 2 none] { frames := 1, cells := 602, slots := 4250, locals := 12 } (Pre x (k0 + 1) (rQ ((k0, []) :: []) u0 v0) t a [.ref (cz x + k0)]) (PostV x (k0 + 603) (rQ [] u0 v0) (t) (va_up a (k0 + 7) ones8)) 602 4250 (cA x) := by
  refine j_entry (by decide) rfl (Nat.le_of_ble_eq_true rfl) ?_
  intro p e s m below meth c F hsz hnm
  have F : Fx p s m meth c cX8_init 2 RX8 none x := F
  show J p l e _ s m _ below meth c x (k0 + 1) _ 2 0 0 _ 0 [(0, .ref (cz x + k0))] [] t a
  refine j_aload_n F 0 dX8_init_0 rfl rfl ?_
  refine j_oinit F ql_X8_1 dX8_init_1 (Nat.le_of_ble_eq_true rfl) (Nat.le_of_ble_eq_true rfl) ?_
  refine j_aload_n F 0 dX8_init_4 rfl rfl ?_
  refine j_bipush F dX8_init_5 eB_64 ?_
  refine j_newA F (Md_l1 hk0) (hza _ (by omega)) (by decide) (by decide) (Nat.le_of_ble_eq_true rfl) dX8_init_7 (Nat.le_of_ble_eq_true rfl) (Nat.le_of_ble_eq_true rfl) ?_
  refine j_putR F clX8 (j := 0) (k := k0) (g := k0 + 1) (by omega) (Md_l hk0) (Nat.le_of_ble_eq_true rfl) rfl qf_X8_9 (Or.inr ⟨rfl, hnm, rfl⟩) ⟨rfl, rfl⟩ (rQ_put (Md_r0 hk0) (hU_ne hU_nil)) dX8_init_9 ?_
  refine j_aload_n F 0 dX8_init_12 rfl rfl ?_
  refine j_bipush F dX8_init_13 eB_6 ?_
  refine j_newA F (Md_l2 hk0) (hza _ (by omega)) (by decide) (by decide) (Nat.le_of_ble_eq_true rfl) dX8_init_15 (Nat.le_of_ble_eq_true rfl) (Nat.le_of_ble_eq_true rfl) ?_
  refine j_putR F clX8 (j := 2) (k := k0) (g := k0 + 1 + 1) (by omega) (Md_l hk0) (Nat.le_of_ble_eq_true rfl) rfl qf_X8_13 (Or.inr ⟨rfl, hnm, rfl⟩) ⟨rfl, rfl⟩ (rQ_put (Md_r2 hk0) (hU_ne hU_nil)) dX8_init_17 ?_
  refine j_aload_n F 0 dX8_init_20 rfl rfl ?_
  refine j_bipush F dX8_init_21 eB_6 ?_
  refine j_newA F (Md_l3 hk0) (hza _ (by omega)) (by decide) (by decide) (Nat.le_of_ble_eq_true rfl) dX8_init_23 (Nat.le_of_ble_eq_true rfl) (Nat.le_of_ble_eq_true rfl) ?_
  refine j_putR F clX8 (j := 4) (k := k0) (g := k0 + 1 + 1 + 1) (by omega) (Md_l hk0) (Nat.le_of_ble_eq_true rfl) rfl qf_X8_16 (Or.inr ⟨rfl, hnm, rfl⟩) ⟨rfl, rfl⟩ (rQ_put (Md_r4 hk0) (hU_ne hU_nil)) dX8_init_25 ?_
  refine j_aload_n F 0 dX8_init_28 rfl rfl ?_
  refine j_bipush F dX8_init_29 eB_8 ?_
  refine j_newA F (Md_l4 hk0) (hza _ (by omega)) (by decide) (by decide) (Nat.le_of_ble_eq_true rfl) dX8_init_31 (Nat.le_of_ble_eq_true rfl) (Nat.le_of_ble_eq_true rfl) ?_
  refine j_putR F clX8 (j := 6) (k := k0) (g := k0 + 1 + 1 + 1 + 1) (by omega) (Md_l hk0) (Nat.le_of_ble_eq_true rfl) rfl qf_X8_19 (Or.inr ⟨rfl, hnm, rfl⟩) ⟨rfl, rfl⟩ (rQ_put (Md_r6 hk0) (hU_ne hU_nil)) dX8_init_33 ?_
  refine j_aload_n F 0 dX8_init_36 rfl rfl ?_
  refine j_bipush F dX8_init_37 eB_8 ?_
  refine j_newA F (Md_l5 hk0) (hza _ (by omega)) (by decide) (by decide) (Nat.le_of_ble_eq_true rfl) dX8_init_39 (Nat.le_of_ble_eq_true rfl) (Nat.le_of_ble_eq_true rfl) ?_
  refine j_putR F clX8 (j := 8) (k := k0) (g := k0 + 1 + 1 + 1 + 1 + 1) (by omega) (Md_l hk0) (Nat.le_of_ble_eq_true rfl) rfl qf_X8_22 (Or.inr ⟨rfl, hnm, rfl⟩) ⟨rfl, rfl⟩ (rQ_put (Md_r8 hk0) (hU_ne hU_nil)) dX8_init_41 ?_
  refine j_aload_n F 0 dX8_init_44 rfl rfl ?_
  refine j_bipush F dX8_init_45 eB_8 ?_
  refine j_newA F (Md_l6 hk0) (hza _ (by omega)) (by decide) (by decide) (Nat.le_of_ble_eq_true rfl) dX8_init_47 (Nat.le_of_ble_eq_true rfl) (Nat.le_of_ble_eq_true rfl) ?_
  refine j_putR F clX8 (j := 9) (k := k0) (g := k0 + 1 + 1 + 1 + 1 + 1 + 1) (by omega) (Md_l hk0) (Nat.le_of_ble_eq_true rfl) rfl qf_X8_25 (Or.inr ⟨rfl, hnm, rfl⟩) ⟨rfl, rfl⟩ (rQ_put (Md_r9 hk0) (hU_ne hU_nil)) dX8_init_49 ?_
  refine j_aload_n F 0 dX8_init_52 rfl rfl ?_
  refine j_bipush F dX8_init_53 eB_8 ?_
  refine j_newA F (Md_l7 hk0) (hza _ (by omega)) (by decide) (by decide) (Nat.le_of_ble_eq_true rfl) dX8_init_55 (Nat.le_of_ble_eq_true rfl) (Nat.le_of_ble_eq_true rfl) ?_
  refine j_putR F clX8 (j := 10) (k := k0) (g := k0 + 1 + 1 + 1 + 1 + 1 + 1 + 1) (by omega) (Md_l hk0) (Nat.le_of_ble_eq_true rfl) rfl qf_X8_28 (Or.inr ⟨rfl, hnm, rfl⟩) ⟨rfl, rfl⟩ (rQ_put (Md_r10 hk0) (hU_ne hU_nil)) dX8_init_57 ?_
  refine j_aload_n F 0 dX8_init_60 rfl rfl ?_
  refine j_iconst F dX8_init_61 eI_4 ?_
  refine j_newA F (Md_l8 hk0) (hza _ (by omega)) (by decide) (by decide) (Nat.le_of_ble_eq_true rfl) dX8_init_62 (Nat.le_of_ble_eq_true rfl) (Nat.le_of_ble_eq_true rfl) ?_
  refine j_putR F clX8 (j := 12) (k := k0) (g := k0 + 1 + 1 + 1 + 1 + 1 + 1 + 1 + 1) (by omega) (Md_l hk0) (Nat.le_of_ble_eq_true rfl) rfl qf_X8_31 (Or.inr ⟨rfl, hnm, rfl⟩) ⟨rfl, rfl⟩ (rQ_put (Md_r12 hk0) (hU_ne hU_nil)) dX8_init_64 ?_
  refine j_aload_n F 0 dX8_init_67 rfl rfl ?_
  refine j_bipush F dX8_init_68 eB_12 ?_
  refine j_newA F (Md_l9 hk0) (hza _ (by omega)) (by decide) (by decide) (Nat.le_of_ble_eq_true rfl) dX8_init_70 (Nat.le_of_ble_eq_true rfl) (Nat.le_of_ble_eq_true rfl) ?_
  refine j_putR F clX8 (j := 16) (k := k0) (g := k0 + 1 + 1 + 1 + 1 + 1 + 1 + 1 + 1 + 1) (by omega) (Md_l hk0) (Nat.le_of_ble_eq_true rfl) rfl qf_X8_34 (Or.inr ⟨rfl, hnm, rfl⟩) ⟨rfl, rfl⟩ (rQ_put (Md_r16 hk0) (hU_ne hU_nil)) dX8_init_72 ?_
  refine j_aload_n F 0 dX8_init_75 rfl rfl ?_
  refine j_bipush F dX8_init_76 eB_12 ?_
  refine j_newA F (Md_l10 hk0) (hza _ (by omega)) (by decide) (by decide) (Nat.le_of_ble_eq_true rfl) dX8_init_78 (Nat.le_of_ble_eq_true rfl) (Nat.le_of_ble_eq_true rfl) ?_
  refine j_putR F clX8 (j := 17) (k := k0) (g := k0 + 1 + 1 + 1 + 1 + 1 + 1 + 1 + 1 + 1 + 1) (by omega) (Md_l hk0) (Nat.le_of_ble_eq_true rfl) rfl qf_X8_37 (Or.inr ⟨rfl, hnm, rfl⟩) ⟨rfl, rfl⟩ (rQ_put (Md_r17 hk0) (hU_ne hU_nil)) dX8_init_80 ?_
  refine j_aload_n F 0 dX8_init_83 rfl rfl ?_
  refine j_bipush F dX8_init_84 eB_12 ?_
  refine j_newA F (Md_l11 hk0) (hza _ (by omega)) (by decide) (by decide) (Nat.le_of_ble_eq_true rfl) dX8_init_86 (Nat.le_of_ble_eq_true rfl) (Nat.le_of_ble_eq_true rfl) ?_
  refine j_putR F clX8 (j := 18) (k := k0) (g := k0 + 1 + 1 + 1 + 1 + 1 + 1 + 1 + 1 + 1 + 1 + 1) (by omega) (Md_l hk0) (Nat.le_of_ble_eq_true rfl) rfl qf_X8_40 (Or.inr ⟨rfl, hnm, rfl⟩) ⟨rfl, rfl⟩ (rQ_put (Md_r18 hk0) (hU_ne hU_nil)) dX8_init_88 ?_
  refine j_aload_n F 0 dX8_init_91 rfl rfl ?_
  refine j_sipush F dX8_init_92 eS_585 ?_
  refine j_newA F (Md_l12 hk0) (hza _ (by omega)) (by decide) (by decide) (Nat.le_of_ble_eq_true rfl) dX8_init_95 (Nat.le_of_ble_eq_true rfl) (Nat.le_of_ble_eq_true rfl) ?_
  refine j_putR F clX8 (j := 23) (k := k0) (g := k0 + 1 + 1 + 1 + 1 + 1 + 1 + 1 + 1 + 1 + 1 + 1 + 1) (by omega) (Md_l hk0) (Nat.le_of_ble_eq_true rfl) rfl qf_X8_43 (Or.inr ⟨rfl, hnm, rfl⟩) ⟨rfl, rfl⟩ (rQ_put (Md_r23 hk0) (hU_ne hU_nil)) dX8_init_97 ?_
  refine j_aload_n F 0 dX8_init_100 rfl rfl ?_
  refine j_sipush F dX8_init_101 eS_585 ?_
  refine j_iconst F dX8_init_104 eI_3 ?_
  refine j_mna F qclRows (Md_l13 hk0) (fun i hi => Md_rows hk0 hi) (fun j _ => (rQ_ne (by omega)).trans (by rw [rQ_nil]; exact Md_rr hk0 j)) (fun i hi => hza _ (by omega)) dX8_init_105 (Nat.le_of_ble_eq_true rfl) (Nat.le_of_ble_eq_true rfl) ?_
  refine j_putR F clX8 (j := 24) (k := k0) (g := k0 + 1 + 1 + 1 + 1 + 1 + 1 + 1 + 1 + 1 + 1 + 1 + 1 + 1) (by omega) (Md_l hk0) (Nat.le_of_ble_eq_true rfl) rfl qf_X8_48 (Or.inr ⟨rfl, hnm, rfl⟩) ⟨rfl, rfl⟩ (rQ_put (Md_r24 hk0) (hU_ne hU_nil)) dX8_init_109 ?_
  refine j_aload_n F 0 dX8_init_112 rfl rfl ?_
  refine j_sipush F dX8_init_113 eS_585 ?_
  refine j_newA F (Md_l599 hk0) (hza _ (by omega)) (by decide) (by decide) (Nat.le_of_ble_eq_true rfl) dX8_init_116 (Nat.le_of_ble_eq_true rfl) (Nat.le_of_ble_eq_true rfl) ?_
  refine j_putR F clX8 (j := 25) (k := k0) (g := k0 + 1 + 1 + 1 + 1 + 1 + 1 + 1 + 1 + 1 + 1 + 1 + 1 + 1 + 586) (by omega) (Md_l hk0) (Nat.le_of_ble_eq_true rfl) rfl qf_X8_51 (Or.inr ⟨rfl, hnm, rfl⟩) ⟨rfl, rfl⟩ (rQ_put (Md_r25 hk0) (hU_ne hU_nil)) dX8_init_118 ?_
  refine j_aload_n F 0 dX8_init_121 rfl rfl ?_
  refine j_sipush F dX8_init_122 eS_585 ?_
  refine j_newA F (Md_l600 hk0) (hza _ (by omega)) (by decide) (by decide) (Nat.le_of_ble_eq_true rfl) dX8_init_125 (Nat.le_of_ble_eq_true rfl) (Nat.le_of_ble_eq_true rfl) ?_
  refine j_putR F clX8 (j := 26) (k := k0) (g := k0 + 1 + 1 + 1 + 1 + 1 + 1 + 1 + 1 + 1 + 1 + 1 + 1 + 1 + 586 + 1) (by omega) (Md_l hk0) (Nat.le_of_ble_eq_true rfl) rfl qf_X8_54 (Or.inr ⟨rfl, hnm, rfl⟩) ⟨rfl, rfl⟩ (rQ_put (Md_r26 hk0) (hU_ne hU_nil)) dX8_init_127 ?_
  refine j_aload_n F 0 dX8_init_130 rfl rfl ?_
  refine j_iconst F dX8_init_131 eI_4 ?_
  refine j_newA F (Md_l601 hk0) (hza _ (by omega)) (by decide) (by decide) (Nat.le_of_ble_eq_true rfl) dX8_init_132 (Nat.le_of_ble_eq_true rfl) (Nat.le_of_ble_eq_true rfl) ?_
  refine j_putR F clX8 (j := 32) (k := k0) (g := k0 + 1 + 1 + 1 + 1 + 1 + 1 + 1 + 1 + 1 + 1 + 1 + 1 + 1 + 586 + 1 + 1) (by omega) (Md_l hk0) (Nat.le_of_ble_eq_true rfl) rfl qf_X8_57 (Or.inr ⟨rfl, hnm, rfl⟩) ⟨rfl, rfl⟩ (rQ_put (Md_r32 hk0) (hU_ne hU_nil)) dX8_init_134 ?_
  refine j_aload_n F 0 dX8_init_137 rfl rfl ?_
  refine j_iconst F dX8_init_138 eI_3 ?_
  refine j_newA F (Md_l602 hk0) (hza _ (by omega)) (by decide) (by decide) (Nat.le_of_ble_eq_true rfl) dX8_init_139 (Nat.le_of_ble_eq_true rfl) (Nat.le_of_ble_eq_true rfl) ?_
  refine j_putR F clX8 (j := 35) (k := k0) (g := k0 + 1 + 1 + 1 + 1 + 1 + 1 + 1 + 1 + 1 + 1 + 1 + 1 + 1 + 586 + 1 + 1 + 1) (by omega) (Md_l hk0) (Nat.le_of_ble_eq_true rfl) rfl qf_X8_60 (Or.inr ⟨rfl, hnm, rfl⟩) ⟨rfl, rfl⟩ (rQ_put (Md_r35 hk0) (hU_ne hU_nil)) dX8_init_141 ?_
  refine j_iconst F dX8_init_144 eI_0 ?_
  refine j_istore_n F (lv' := [(1, .int 0), (0, .ref (cz x + k0))]) dX8_init_145 rfl (Nat.le_of_ble_eq_true rfl) rfl ?_
  refine j_iload_n F 0 dX8_init_146 rfl rfl ?_
  refine j_bipush F dX8_init_147 eB_8 ?_
  refine j_icmp_ge F 165 (A := none) (B := some ()) (v9 := ()) dX8_init_149 rfl rfl (fun h => by cases h) (fun _ => ?_)
  refine j_aload_n F 1 dX8_init_152 rfl rfl ?_
  refine j_getR F clX8 (j := 10) (k := k0) (g := k0 + 7) (by omega) (Md_l hk0) (Nat.le_of_ble_eq_true rfl) rfl qf_X8_28 ((rQ_in (by decide)).trans (by rw [rQ_nil]; exact Md_r10 hk0)) dX8_init_153 ?_
  refine j_iload_n F 0 dX8_init_156 rfl rfl ?_
  refine j_iconst F dX8_init_157 eI_1 ?_
  refine j_iast F (k := k0 + 7) (n := 8) (A := some ()) (v9 := ()) (by omega) (Md_l7 hk0) dX8_init_158 rfl (fun _ => ?_)
  refine j_iinc F (v := 1) (lv' := [(1, .int 1), (0, .ref (cz x + k0))]) dX8_init_159 0 rfl (by decide) (Nat.le_of_ble_eq_true rfl) rfl ?_
  refine j_goto F 146 dX8_init_162 rfl ?_
  refine j_iload_n F 0 dX8_init_146 rfl rfl ?_
  refine j_bipush F dX8_init_147 eB_8 ?_
  refine j_icmp_ge F 165 (A := none) (B := some ()) (v9 := ()) dX8_init_149 rfl rfl (fun h => by cases h) (fun _ => ?_)
  refine j_aload_n F 1 dX8_init_152 rfl rfl ?_
  refine j_getR F clX8 (j := 10) (k := k0) (g := k0 + 7) (by omega) (Md_l hk0) (Nat.le_of_ble_eq_true rfl) rfl qf_X8_28 ((rQ_in (by decide)).trans (by rw [rQ_nil]; exact Md_r10 hk0)) dX8_init_153 ?_
  refine j_iload_n F 0 dX8_init_156 rfl rfl ?_
  refine j_iconst F dX8_init_157 eI_1 ?_
  refine j_iast F (k := k0 + 7) (n := 8) (A := some ()) (v9 := ()) (by omega) (Md_l7 hk0) dX8_init_158 rfl (fun _ => ?_)
  refine j_iinc F (v := 2) (lv' := [(1, .int 2), (0, .ref (cz x + k0))]) dX8_init_159 0 rfl (by decide) (Nat.le_of_ble_eq_true rfl) rfl ?_
  refine j_goto F 146 dX8_init_162 rfl ?_
  refine j_iload_n F 0 dX8_init_146 rfl rfl ?_
  refine j_bipush F dX8_init_147 eB_8 ?_
  refine j_icmp_ge F 165 (A := none) (B := some ()) (v9 := ()) dX8_init_149 rfl rfl (fun h => by cases h) (fun _ => ?_)
  refine j_aload_n F 1 dX8_init_152 rfl rfl ?_
  refine j_getR F clX8 (j := 10) (k := k0) (g := k0 + 7) (by omega) (Md_l hk0) (Nat.le_of_ble_eq_true rfl) rfl qf_X8_28 ((rQ_in (by decide)).trans (by rw [rQ_nil]; exact Md_r10 hk0)) dX8_init_153 ?_
  refine j_iload_n F 0 dX8_init_156 rfl rfl ?_
  refine j_iconst F dX8_init_157 eI_1 ?_
  refine j_iast F (k := k0 + 7) (n := 8) (A := some ()) (v9 := ()) (by omega) (Md_l7 hk0) dX8_init_158 rfl (fun _ => ?_)
  refine j_iinc F (v := 3) (lv' := [(1, .int 3), (0, .ref (cz x + k0))]) dX8_init_159 0 rfl (by decide) (Nat.le_of_ble_eq_true rfl) rfl ?_
  refine j_goto F 146 dX8_init_162 rfl ?_
  refine j_iload_n F 0 dX8_init_146 rfl rfl ?_
  refine j_bipush F dX8_init_147 eB_8 ?_
  refine j_icmp_ge F 165 (A := none) (B := some ()) (v9 := ()) dX8_init_149 rfl rfl (fun h => by cases h) (fun _ => ?_)
  refine j_aload_n F 1 dX8_init_152 rfl rfl ?_
  refine j_getR F clX8 (j := 10) (k := k0) (g := k0 + 7) (by omega) (Md_l hk0) (Nat.le_of_ble_eq_true rfl) rfl qf_X8_28 ((rQ_in (by decide)).trans (by rw [rQ_nil]; exact Md_r10 hk0)) dX8_init_153 ?_
  refine j_iload_n F 0 dX8_init_156 rfl rfl ?_
  refine j_iconst F dX8_init_157 eI_1 ?_
  refine j_iast F (k := k0 + 7) (n := 8) (A := some ()) (v9 := ()) (by omega) (Md_l7 hk0) dX8_init_158 rfl (fun _ => ?_)
  refine j_iinc F (v := 4) (lv' := [(1, .int 4), (0, .ref (cz x + k0))]) dX8_init_159 0 rfl (by decide) (Nat.le_of_ble_eq_true rfl) rfl ?_
  refine j_goto F 146 dX8_init_162 rfl ?_
  refine j_iload_n F 0 dX8_init_146 rfl rfl ?_
  refine j_bipush F dX8_init_147 eB_8 ?_
  refine j_icmp_ge F 165 (A := none) (B := some ()) (v9 := ()) dX8_init_149 rfl rfl (fun h => by cases h) (fun _ => ?_)
  refine j_aload_n F 1 dX8_init_152 rfl rfl ?_
  refine j_getR F clX8 (j := 10) (k := k0) (g := k0 + 7) (by omega) (Md_l hk0) (Nat.le_of_ble_eq_true rfl) rfl qf_X8_28 ((rQ_in (by decide)).trans (by rw [rQ_nil]; exact Md_r10 hk0)) dX8_init_153 ?_
  refine j_iload_n F 0 dX8_init_156 rfl rfl ?_
  refine j_iconst F dX8_init_157 eI_1 ?_
  refine j_iast F (k := k0 + 7) (n := 8) (A := some ()) (v9 := ()) (by omega) (Md_l7 hk0) dX8_init_158 rfl (fun _ => ?_)
  refine j_iinc F (v := 5) (lv' := [(1, .int 5), (0, .ref (cz x + k0))]) dX8_init_159 0 rfl (by decide) (Nat.le_of_ble_eq_true rfl) rfl ?_
  refine j_goto F 146 dX8_init_162 rfl ?_
  refine j_iload_n F 0 dX8_init_146 rfl rfl ?_
  refine j_bipush F dX8_init_147 eB_8 ?_
  refine j_icmp_ge F 165 (A := none) (B := some ()) (v9 := ()) dX8_init_149 rfl rfl (fun h => by cases h) (fun _ => ?_)
  refine j_aload_n F 1 dX8_init_152 rfl rfl ?_
  refine j_getR F clX8 (j := 10) (k := k0) (g := k0 + 7) (by omega) (Md_l hk0) (Nat.le_of_ble_eq_true rfl) rfl qf_X8_28 ((rQ_in (by decide)).trans (by rw [rQ_nil]; exact Md_r10 hk0)) dX8_init_153 ?_
  refine j_iload_n F 0 dX8_init_156 rfl rfl ?_
  refine j_iconst F dX8_init_157 eI_1 ?_
  refine j_iast F (k := k0 + 7) (n := 8) (A := some ()) (v9 := ()) (by omega) (Md_l7 hk0) dX8_init_158 rfl (fun _ => ?_)
  refine j_iinc F (v := 6) (lv' := [(1, .int 6), (0, .ref (cz x + k0))]) dX8_init_159 0 rfl (by decide) (Nat.le_of_ble_eq_true rfl) rfl ?_
  refine j_goto F 146 dX8_init_162 rfl ?_
  refine j_iload_n F 0 dX8_init_146 rfl rfl ?_
  refine j_bipush F dX8_init_147 eB_8 ?_
  refine j_icmp_ge F 165 (A := none) (B := some ()) (v9 := ()) dX8_init_149 rfl rfl (fun h => by cases h) (fun _ => ?_)
  refine j_aload_n F 1 dX8_init_152 rfl rfl ?_
  refine j_getR F clX8 (j := 10) (k := k0) (g := k0 + 7) (by omega) (Md_l hk0) (Nat.le_of_ble_eq_true rfl) rfl qf_X8_28 ((rQ_in (by decide)).trans (by rw [rQ_nil]; exact Md_r10 hk0)) dX8_init_153 ?_
  refine j_iload_n F 0 dX8_init_156 rfl rfl ?_
  refine j_iconst F dX8_init_157 eI_1 ?_
  refine j_iast F (k := k0 + 7) (n := 8) (A := some ()) (v9 := ()) (by omega) (Md_l7 hk0) dX8_init_158 rfl (fun _ => ?_)
  refine j_iinc F (v := 7) (lv' := [(1, .int 7), (0, .ref (cz x + k0))]) dX8_init_159 0 rfl (by decide) (Nat.le_of_ble_eq_true rfl) rfl ?_
  refine j_goto F 146 dX8_init_162 rfl ?_
  refine j_iload_n F 0 dX8_init_146 rfl rfl ?_
  refine j_bipush F dX8_init_147 eB_8 ?_
  refine j_icmp_ge F 165 (A := none) (B := some ()) (v9 := ()) dX8_init_149 rfl rfl (fun h => by cases h) (fun _ => ?_)
  refine j_aload_n F 1 dX8_init_152 rfl rfl ?_
  refine j_getR F clX8 (j := 10) (k := k0) (g := k0 + 7) (by omega) (Md_l hk0) (Nat.le_of_ble_eq_true rfl) rfl qf_X8_28 ((rQ_in (by decide)).trans (by rw [rQ_nil]; exact Md_r10 hk0)) dX8_init_153 ?_
  refine j_iload_n F 0 dX8_init_156 rfl rfl ?_
  refine j_iconst F dX8_init_157 eI_1 ?_
  refine j_iast F (k := k0 + 7) (n := 8) (A := some ()) (v9 := ()) (by omega) (Md_l7 hk0) dX8_init_158 rfl (fun _ => ?_)
  refine j_eqa (a2 := va_up a (k0 + 7) ones8) (by have hz9 : a (k0 + 7) = fun _ => 0 := hza _ (by omega); funext k; by_cases hk : k = k0 + 7; (subst hk; simp [va_up, ones8, hz9]); (simp [va_up, hk])) ?_
  refine j_iinc F (v := 8) (lv' := [(1, .int 8), (0, .ref (cz x + k0))]) dX8_init_159 0 rfl (by decide) (Nat.le_of_ble_eq_true rfl) rfl ?_
  refine j_goto F 146 dX8_init_162 rfl ?_
  refine j_iload_n F 0 dX8_init_146 rfl rfl ?_
  refine j_bipush F dX8_init_147 eB_8 ?_
  refine j_icmp_ge F 165 (A := some ()) (B := none) (v9 := ()) dX8_init_149 rfl rfl (fun _ => ?_) (fun h => by cases h)
  refine j_cr (wl_done2 (Md_l hk0) (md_hL hk0 huv)) ?_
  exact j_vreturn F rfl dX8_init_165 (rv := 0) rfl
