/-! 10.m1.lean.txt: functions and contracts, by program (wip/whole/gen.py) -/
def gJ7_fill_53178_5 (nF : Nat) (k0 n0 : Nat) (r5 : Int32 → Int32 → Int32 → sT → sA → Rs) (x1 x2 x3 : Int32) (t : sT) (a : sA) : Rs := if x3 ≤ x2 then (some (0, t, a)) else (bnd x2 n0 (r5 x1 (x2 + (1 : Int32)) x3 t (va_up a k0 (upd (a k0) x2.toNatClampNeg x1))))
def gJ7_fill_53178 (nF : Nat) (k0 n0 : Nat) : Nat → (Int32 → Int32 → Int32 → sT → sA → Rs)
  | 0 => (fun _ _ _ _ _ => none)
  | n9 + 1 => (gJ7_fill_53178_5 nF k0 n0 (gJ7_fill_53178 nF k0 n0 n9))
def fJ7_fill_53178 (nF : Nat) (k0 n0 : Nat) (x1 : Int32) (t : sT) (a : sA) : Rs := (gJ7_fill_53178 nF k0 n0 nF) x1 (0 : Int32) (Int32.ofNat n0) t a
set_option maxRecDepth 100000 in
set_option maxHeartbeats 4000000 in
theorem hJ7_fill_53178 {p : Program} {l : Launch} {e : Env} {s : State} {m : MethodId} {args : Array Value} {below : List Frame} {meth : Method} {c : Code} {x : Cx} {N : Nat} {u0 v0 : Option Nat} {nF : Nat} {k0 n0 : Nat} (F : Fx p s m meth c cJ7_fill_53178 4 RJ7 none x) (hsz : s.heap.size = cz x + N) (hN : 653 ≤ N) (hk0 : k0 < N) (hl0 : lay k0 = (1, n0)) {rv : Int32} {rt : sT} {ra : sA} : ∀ n9 : Nat, (∀ (x1 x2 x3 : Int32) (t : sT) (a : sA), (gJ7_fill_53178 nF k0 n0 n9) x1 x2 x3 t a = some (rv, rt, ra) → J p l e (k2_rm 0 0) s m args below meth c x N (rho u0 v0) 4 0 0 (MQ below (PostV x N (rho u0 v0) rt ra) args s 0 0 (cA x)) 5 [(0, .ref (cz x + k0)), (1, .int x1), (2, .int x2), (3, .int x3)] [] t a) := by
  intro n9
  induction n9 with
  | zero => exact fun _ _ _ _ _ h => (by cases h)
  | succ n9 ih =>
    intro x1 x2 x3 t a h
    have h : gJ7_fill_53178_5 nF k0 n0 (gJ7_fill_53178 nF k0 n0 n9) x1 x2 x3 t a = some (rv, rt, ra) := h
    unfold gJ7_fill_53178_5 at h
    refine j_iload_n F 2 dJ7_fill_53178_5 rfl rfl ?_
    refine j_iload_n F 3 dJ7_fill_53178_6 rfl rfl ?_
    refine j_icmp_ge F 20 dJ7_fill_53178_7 rfl h (fun h => ?_) (fun h => ?_)
    · exact j_vreturn F rfl dJ7_fill_53178_20 h
    · refine j_aload_n F 0 dJ7_fill_53178_10 rfl rfl ?_
      refine j_iload_n F 2 dJ7_fill_53178_11 rfl rfl ?_
      refine j_iload_n F 1 dJ7_fill_53178_12 rfl rfl ?_
      refine j_iast F hk0 hl0 dJ7_fill_53178_13 h (fun h => ?_)
      refine j_iinc F (v := x2 + (1 : Int32)) (lv' := [(2, .int (x2 + (1 : Int32))), (0, .ref (cz x + k0)), (1, .int x1), (3, .int x3)]) dJ7_fill_53178_14 2 rfl (congrArg (fun z => x2 + z) cI_1) (Nat.le_of_ble_eq_true rfl) rfl ?_
      refine j_goto F 5 dJ7_fill_53178_17 rfl ?_
      exact j_lv [1, 2, 0, 3] rfl (ih _ _ _ _ _ h)
set_option maxRecDepth 100000 in
set_option maxHeartbeats 4000000 in
theorem kJ7_fill_53178 (l : Launch) {x : Cx} {N : Nat} {u0 v0 : Option Nat} {nF : Nat} {k0 n0 : Nat} {x1 : Int32} {t : sT} {a : sA} {rv : Int32} {rt : sT} {ra : sA} (hN : 653 ≤ N) (hk0 : k0 < N) (hl0 : lay k0 = (1, n0)) (h : fJ7_fill_53178 nF k0 n0 x1 t a = some (rv, rt, ra)) : Met l yJ7_fill_53178 [.code yJ7_fill_53178 cJ7_fill_53178 4 none] (k2_rm 0 0) (Pre x N (rho u0 v0) t a [.ref (cz x + k0), .int x1]) (PostV x N (rho u0 v0) rt ra) 0 0 (cA x) := by
  refine j_entry (by decide) rfl (Nat.le_of_ble_eq_true rfl) ?_
  intro p e s m below meth c F hsz hnm
  have F : Fx p s m meth c cJ7_fill_53178 4 RJ7 none x := F
  unfold fJ7_fill_53178 at h
  show J p l e _ s m _ below meth c x N (rho u0 v0) 4 0 0 _ 0 [(0, .ref (cz x + k0)), (1, .int x1)] [] t a
  refine j_iconst F dJ7_fill_53178_0 cI_0 ?_
  refine j_istore_n F (lv' := [(2, .int (0 : Int32)), (0, .ref (cz x + k0)), (1, .int x1)]) dJ7_fill_53178_1 rfl (Nat.le_of_ble_eq_true rfl) rfl ?_
  refine j_aload_n F 1 dJ7_fill_53178_2 rfl rfl ?_
  refine j_alen F hk0 hl0 rfl dJ7_fill_53178_3 ?_
  refine j_istore_n F (lv' := [(3, .int (Int32.ofNat n0)), (2, .int (0 : Int32)), (0, .ref (cz x + k0)), (1, .int x1)]) dJ7_fill_53178_4 rfl (Nat.le_of_ble_eq_true rfl) rfl ?_
  exact j_lv [2, 3, 1, 0] rfl ((hJ7_fill_53178 F hsz hN hk0 hl0 nF) _ _ _ _ _ h)
def fX1_add (nF : Nat) (x1 : Int32) (t : sT) (a : sA) : Rs := if (64 : Int32) ≤ (t 65) then (some (0, t, a)) else (bnd (t 65) 64 (some (0, va_up t 65 ((t 65) + (1 : Int32)), va_up a 2 (upd (a 2) (t 65).toNatClampNeg x1))))
set_option maxRecDepth 100000 in
set_option maxHeartbeats 4000000 in
theorem kX1_add (l : Launch) {x : Cx} {N : Nat} {u0 v0 : Option Nat} {nF : Nat} {x1 : Int32} {t : sT} {a : sA} {rv : Int32} {rt : sT} {ra : sA} (hN : 653 ≤ N) (h : fX1_add nF x1 t a = some (rv, rt, ra)) : Met l yX1_add [.code yX1_add cX1_add 2 none] (k2_rm 0 0) (Pre x N (rho u0 v0) t a [.ref (cz x + 1), .int x1]) (PostV x N (rho u0 v0) rt ra) 0 0 (cA x) := by
  refine j_entry (by decide) rfl (Nat.le_of_ble_eq_true rfl) ?_
  intro p e s m below meth c F hsz hnm
  have F : Fx p s m meth c cX1_add 2 RX1 none x := F
  unfold fX1_add at h
  show J p l e _ s m _ below meth c x N (rho u0 v0) 2 0 0 _ 0 [(0, .ref (cz x + 1)), (1, .int x1)] [] t a
  refine j_aload_n F 0 dX1_add_0 rfl rfl ?_
  refine j_getI F clX1 (j := 1) (tt := 65) (lt653 rfl hN) ly1 (Nat.le_of_ble_eq_true rfl) rfl qf_X1_15 rfl dX1_add_1 ?_
  refine j_bipush F dX1_add_4 cB_64 ?_
  refine j_icmp_ge F 29 dX1_add_6 rfl h (fun h => ?_) (fun h => ?_)
  · exact j_vreturn F rfl dX1_add_29 h
  · refine j_aload_n F 0 dX1_add_9 rfl rfl ?_
    refine j_getR F clX1 (j := 0) (lt653 rfl hN) ly1 (Nat.le_of_ble_eq_true rfl) rfl qf_X1_9 rfl dX1_add_10 ?_
    refine j_aload_n F 0 dX1_add_13 rfl rfl ?_
    refine j_getI F clX1 (j := 1) (tt := 65) (lt653 rfl hN) ly1 (Nat.le_of_ble_eq_true rfl) rfl qf_X1_15 rfl dX1_add_14 ?_
    refine j_iload_n F 1 dX1_add_17 rfl rfl ?_
    refine j_iast F (lt653 rfl hN) ly2 dX1_add_18 h (fun h => ?_)
    refine j_aload_n F 0 dX1_add_19 rfl rfl ?_
    refine j_dup F dX1_add_20 rfl ?_
    refine j_getI F clX1 (j := 1) (tt := 65) (lt653 rfl hN) ly1 (Nat.le_of_ble_eq_true rfl) rfl qf_X1_15 rfl dX1_add_21 ?_
    refine j_iconst F dX1_add_24 cI_1 ?_
    refine j_iadd F dX1_add_25 ?_
    refine j_putI F clX1 (j := 1) (tt := 65) (lt653 rfl hN) ly1 (Nat.le_of_ble_eq_true rfl) rfl qf_X1_15 rfl rfl rfl dX1_add_26 ?_
    exact j_vreturn F rfl dX1_add_29 h
def fX1_isDigit (nF : Nat) (x0 : Int32) (t : sT) (a : sA) : Rs := if x0 < (48 : Int32) then (zok (0 : Int32) (some ((0 : Int32), t, a))) else (if (57 : Int32) < x0 then (zok (0 : Int32) (some ((0 : Int32), t, a))) else (zok (1 : Int32) (some ((1 : Int32), t, a))))
set_option maxRecDepth 100000 in
set_option maxHeartbeats 4000000 in
theorem kX1_isDigit (l : Launch) {x : Cx} {N : Nat} {u0 v0 : Option Nat} {nF : Nat} {x0 : Int32} {t : sT} {a : sA} {rv : Int32} {rt : sT} {ra : sA} (hN : 653 ≤ N) (h : fX1_isDigit nF x0 t a = some (rv, rt, ra)) : Met l yX1_isDigit [.code yX1_isDigit cX1_isDigit 1 (some .boolean)] (k2_rm 0 0) (Pre x N (rho u0 v0) t a [.int x0]) (PostI x N (rho u0 v0) rt ra rv) 0 0 (cA x) := by
  refine j_entry (by decide) rfl (Nat.le_of_ble_eq_true rfl) ?_
  intro p e s m below meth c F hsz hnm
  have F : Fx p s m meth c cX1_isDigit 1 RX1 (some .boolean) x := F
  unfold fX1_isDigit at h
  show J p l e _ s m _ below meth c x N (rho u0 v0) 1 0 0 _ 0 [(0, .int x0)] [] t a
  refine j_iload_n F 0 dX1_isDigit_0 rfl rfl ?_
  refine j_bipush F dX1_isDigit_1 cB_48 ?_
  refine j_icmp_lt F 16 dX1_isDigit_3 rfl h (fun h => ?_) (fun h => ?_)
  · refine j_iconst F dX1_isDigit_16 cI_0 ?_
    exact j_zreturn F rfl dX1_isDigit_17 h
  · refine j_iload_n F 0 dX1_isDigit_6 rfl rfl ?_
    refine j_bipush F dX1_isDigit_7 cB_57 ?_
    refine j_icmp_gt F 16 dX1_isDigit_9 rfl h (fun h => ?_) (fun h => ?_)
    · refine j_iconst F dX1_isDigit_16 cI_0 ?_
      exact j_zreturn F rfl dX1_isDigit_17 h
    · refine j_iconst F dX1_isDigit_12 cI_1 ?_
      refine j_goto F 17 dX1_isDigit_13 rfl ?_
      exact j_zreturn F rfl dX1_isDigit_17 h
def fX1_sign (nF : Nat) (x1 : Int32) (t : sT) (a : sA) : Rs := if x1 < 0 then (some ((-1 : Int32), t, a)) else (if (t 65) ≤ x1 then (some ((-1 : Int32), t, a)) else (bnd x1 64 (some (a 2 x1.toNatClampNeg, t, a))))
set_option maxRecDepth 100000 in
set_option maxHeartbeats 4000000 in
theorem kX1_sign (l : Launch) {x : Cx} {N : Nat} {u0 v0 : Option Nat} {nF : Nat} {x1 : Int32} {t : sT} {a : sA} {rv : Int32} {rt : sT} {ra : sA} (hN : 653 ≤ N) (h : fX1_sign nF x1 t a = some (rv, rt, ra)) : Met l yX1_sign [.code yX1_sign cX1_sign 2 (some .int)] (k2_rm 0 0) (Pre x N (rho u0 v0) t a [.ref (cz x + 1), .int x1]) (PostI x N (rho u0 v0) rt ra rv) 0 0 (cA x) := by
  refine j_entry (by decide) rfl (Nat.le_of_ble_eq_true rfl) ?_
  intro p e s m below meth c F hsz hnm
  have F : Fx p s m meth c cX1_sign 2 RX1 (some .int) x := F
  unfold fX1_sign at h
  show J p l e _ s m _ below meth c x N (rho u0 v0) 2 0 0 _ 0 [(0, .ref (cz x + 1)), (1, .int x1)] [] t a
  refine j_iload_n F 1 dX1_sign_0 rfl rfl ?_
  refine j_if_lt F 21 dX1_sign_1 rfl h (fun h => ?_) (fun h => ?_)
  · refine j_iconst F dX1_sign_21 cI_m1 ?_
    exact j_ireturn F rfl dX1_sign_22 h
  · refine j_iload_n F 1 dX1_sign_4 rfl rfl ?_
    refine j_aload_n F 0 dX1_sign_5 rfl rfl ?_
    refine j_getI F clX1 (j := 1) (tt := 65) (lt653 rfl hN) ly1 (Nat.le_of_ble_eq_true rfl) rfl qf_X1_15 rfl dX1_sign_6 ?_
    refine j_icmp_ge F 21 dX1_sign_9 rfl h (fun h => ?_) (fun h => ?_)
    · refine j_iconst F dX1_sign_21 cI_m1 ?_
      exact j_ireturn F rfl dX1_sign_22 h
    · refine j_aload_n F 0 dX1_sign_12 rfl rfl ?_
      refine j_getR F clX1 (j := 0) (lt653 rfl hN) ly1 (Nat.le_of_ble_eq_true rfl) rfl qf_X1_9 rfl dX1_sign_13 ?_
      refine j_iload_n F 1 dX1_sign_16 rfl rfl ?_
      refine j_iald F (lt653 rfl hN) ly2 dX1_sign_17 h (fun h => ?_)
      refine j_goto F 22 dX1_sign_18 rfl ?_
      exact j_ireturn F rfl dX1_sign_22 h
def fX2_add (nF : Nat) (k0 : Nat) (x1 : Int32) (t : sT) (a : sA) : Rs := if (6 : Int32) ≤ (t (64 * k0 + 1)) then (some (0, t, a)) else (bnd (t (64 * k0 + 1)) 6 (some (0, va_up t (64 * k0 + 1) ((t (64 * k0 + 1)) + (1 : Int32)), va_up a (k0 + 1) (upd (a (k0 + 1)) (t (64 * k0 + 1)).toNatClampNeg x1))))
set_option maxRecDepth 100000 in
set_option maxHeartbeats 4000000 in
theorem kX2_add (l : Launch) {x : Cx} {N : Nat} {u0 v0 : Option Nat} {nF : Nat} {k0 : Nat} {x1 : Int32} {t : sT} {a : sA} {rv : Int32} {rt : sT} {ra : sA} (hN : 653 ≤ N) (hk0 : isRw k0) (h : fX2_add nF k0 x1 t a = some (rv, rt, ra)) : Met l yX2_add [.code yX2_add cX2_add 2 none] (k2_rm 0 0) (Pre x N (rho u0 v0) t a [.ref (cz x + k0), .int x1]) (PostV x N (rho u0 v0) rt ra) 0 0 (cA x) := by
  refine j_entry (by decide) rfl (Nat.le_of_ble_eq_true rfl) ?_
  intro p e s m below meth c F hsz hnm
  have F : Fx p s m meth c cX2_add 2 RX2 none x := F
  unfold fX2_add at h
  show J p l e _ s m _ below meth c x N (rho u0 v0) 2 0 0 _ 0 [(0, .ref (cz x + k0)), (1, .int x1)] [] t a
  refine j_aload_n F 0 dX2_add_0 rfl rfl ?_
  refine j_getI F clX2 (j := 1) (tt := (64 * k0 + 1)) (Rw_lt hk0 hN) (Rw_l hk0) (Nat.le_of_ble_eq_true rfl) rfl qf_X2_15 rfl dX2_add_1 ?_
  refine j_bipush F dX2_add_4 cB_6 ?_
  refine j_icmp_ge F 29 dX2_add_6 rfl h (fun h => ?_) (fun h => ?_)
  · exact j_vreturn F rfl dX2_add_29 h
  · refine j_aload_n F 0 dX2_add_9 rfl rfl ?_
    refine j_getR F clX2 (j := 0) (Rw_lt hk0 hN) (Rw_l hk0) (Nat.le_of_ble_eq_true rfl) rfl qf_X2_9 (Rw_r0 hk0) dX2_add_10 ?_
    refine j_aload_n F 0 dX2_add_13 rfl rfl ?_
    refine j_getI F clX2 (j := 1) (tt := (64 * k0 + 1)) (Rw_lt hk0 hN) (Rw_l hk0) (Nat.le_of_ble_eq_true rfl) rfl qf_X2_15 rfl dX2_add_14 ?_
    refine j_iload_n F 1 dX2_add_17 rfl rfl ?_
    refine j_iast F (Rw_lt1 hk0 hN) (Rw_l1 hk0) dX2_add_18 h (fun h => ?_)
    refine j_aload_n F 0 dX2_add_19 rfl rfl ?_
    refine j_dup F dX2_add_20 rfl ?_
    refine j_getI F clX2 (j := 1) (tt := (64 * k0 + 1)) (Rw_lt hk0 hN) (Rw_l hk0) (Nat.le_of_ble_eq_true rfl) rfl qf_X2_15 rfl dX2_add_21 ?_
    refine j_iconst F dX2_add_24 cI_1 ?_
    refine j_iadd F dX2_add_25 ?_
    refine j_putI F clX2 (j := 1) (tt := (64 * k0 + 1)) (Rw_lt hk0 hN) (Rw_l hk0) (Nat.le_of_ble_eq_true rfl) rfl qf_X2_15 rfl rfl rfl dX2_add_26 ?_
    exact j_vreturn F rfl dX2_add_29 h
def gX3_casesWithWeight_4 (nF : Nat) (k0 : Nat) (r4 : Int32 → Int32 → sT → sA → Rs) (x1 x2 : Int32) (t : sT) (a : sA) : Rs := if (8 : Int32) ≤ x2 then (some (x1, t, a)) else (bnd x2 8 (if (a 6 x2.toNatClampNeg) ≤ 0 then (r4 x1 (x2 + (1 : Int32)) t a) else (r4 (x1 ||| ((1 : Int32) <<< (x2 &&& 31))) (x2 + (1 : Int32)) t a)))
def gX3_casesWithWeight (nF : Nat) (k0 : Nat) : Nat → (Int32 → Int32 → sT → sA → Rs)
  | 0 => (fun _ _ _ _ => none)
  | n9 + 1 => (gX3_casesWithWeight_4 nF k0 (gX3_casesWithWeight nF k0 n9))
def fX3_casesWithWeight (nF : Nat) (k0 : Nat) (t : sT) (a : sA) : Rs := (gX3_casesWithWeight nF k0 nF) (0 : Int32) (0 : Int32) t a
set_option maxRecDepth 100000 in
set_option maxHeartbeats 4000000 in
theorem hX3_casesWithWeight {p : Program} {l : Launch} {e : Env} {s : State} {m : MethodId} {args : Array Value} {below : List Frame} {meth : Method} {c : Code} {x : Cx} {N : Nat} {u0 v0 : Option Nat} {nF : Nat} {k0 : Nat} (F : Fx p s m meth c cX3_casesWithWeight 3 RX3 (some .int) x) (hsz : s.heap.size = cz x + N) (hN : 653 ≤ N) (hk0 : isSy k0) {rv : Int32} {rt : sT} {ra : sA} : ∀ n9 : Nat, (∀ (x1 x2 : Int32) (t : sT) (a : sA), (gX3_casesWithWeight nF k0 n9) x1 x2 t a = some (rv, rt, ra) → J p l e (k2_rm 0 0) s m args below meth c x N (rho u0 v0) 3 0 0 (MQ below (PostI x N (rho u0 v0) rt ra rv) args s 0 0 (cA x)) 4 [(0, .ref (cz x + k0)), (1, .int x1), (2, .int x2)] [] t a) := by
  intro n9
  induction n9 with
  | zero => exact fun _ _ _ _ h => (by cases h)
  | succ n9 ih =>
    intro x1 x2 t a h
    have h : gX3_casesWithWeight_4 nF k0 (gX3_casesWithWeight nF k0 n9) x1 x2 t a = some (rv, rt, ra) := h
    unfold gX3_casesWithWeight_4 at h
    refine j_iload_n F 2 dX3_casesWithWeight_4 rfl rfl ?_
    refine j_bipush F dX3_casesWithWeight_5 cB_8 ?_
    refine j_icmp_ge F 34 dX3_casesWithWeight_7 rfl h (fun h => ?_) (fun h => ?_)
    · refine j_iload_n F 1 dX3_casesWithWeight_34 rfl rfl ?_
      exact j_ireturn F rfl dX3_casesWithWeight_35 h
    · refine j_aload_n F 0 dX3_casesWithWeight_10 rfl rfl ?_
      refine j_getR F clX3 (j := 0) (Sy_lt hk0 hN) (Sy_l hk0) (Nat.le_of_ble_eq_true rfl) rfl qf_X3_42 (Sy_r0 hk0) dX3_casesWithWeight_11 ?_
      refine j_getR F clX6 (j := 2) (lt653 rfl hN) ly3 (Nat.le_of_ble_eq_true rfl) rfl qf_X3_86 rfl dX3_casesWithWeight_14 ?_
      refine j_iload_n F 2 dX3_casesWithWeight_17 rfl rfl ?_
      refine j_iald F (lt653 rfl hN) ly6 dX3_casesWithWeight_18 h (fun h => ?_)
      refine j_if_le F 28 dX3_casesWithWeight_19 rfl h (fun h => ?_) (fun h => ?_)
      · refine j_iinc F (v := x2 + (1 : Int32)) (lv' := [(2, .int (x2 + (1 : Int32))), (0, .ref (cz x + k0)), (1, .int x1)]) dX3_casesWithWeight_28 2 rfl (congrArg (fun z => x2 + z) cI_1) (Nat.le_of_ble_eq_true rfl) rfl ?_
        refine j_goto F 4 dX3_casesWithWeight_31 rfl ?_
        exact j_lv [1, 2, 0] rfl (ih _ _ _ _ h)
      · refine j_iload_n F 1 dX3_casesWithWeight_22 rfl rfl ?_
        refine j_iconst F dX3_casesWithWeight_23 cI_1 ?_
        refine j_iload_n F 2 dX3_casesWithWeight_24 rfl rfl ?_
        refine j_ishl F dX3_casesWithWeight_25 ?_
        refine j_ior F dX3_casesWithWeight_26 ?_
        refine j_istore_n F (lv' := [(1, .int (x1 ||| ((1 : Int32) <<< (x2 &&& 31)))), (0, .ref (cz x + k0)), (2, .int x2)]) dX3_casesWithWeight_27 rfl (Nat.le_of_ble_eq_true rfl) rfl ?_
        refine j_iinc F (v := x2 + (1 : Int32)) (lv' := [(2, .int (x2 + (1 : Int32))), (1, .int (x1 ||| ((1 : Int32) <<< (x2 &&& 31)))), (0, .ref (cz x + k0))]) dX3_casesWithWeight_28 2 rfl (congrArg (fun z => x2 + z) cI_1) (Nat.le_of_ble_eq_true rfl) rfl ?_
        refine j_goto F 4 dX3_casesWithWeight_31 rfl ?_
        exact j_lv [2, 1, 0] rfl (ih _ _ _ _ h)
set_option maxRecDepth 100000 in
set_option maxHeartbeats 4000000 in
theorem kX3_casesWithWeight (l : Launch) {x : Cx} {N : Nat} {u0 v0 : Option Nat} {nF : Nat} {k0 : Nat} {t : sT} {a : sA} {rv : Int32} {rt : sT} {ra : sA} (hN : 653 ≤ N) (hk0 : isSy k0) (h : fX3_casesWithWeight nF k0 t a = some (rv, rt, ra)) : Met l yX3_casesWithWeight [.code yX3_casesWithWeight cX3_casesWithWeight 3 (some .int)] (k2_rm 0 0) (Pre x N (rho u0 v0) t a [.ref (cz x + k0)]) (PostI x N (rho u0 v0) rt ra rv) 0 0 (cA x) := by
  refine j_entry (by decide) rfl (Nat.le_of_ble_eq_true rfl) ?_
  intro p e s m below meth c F hsz hnm
  have F : Fx p s m meth c cX3_casesWithWeight 3 RX3 (some .int) x := F
  unfold fX3_casesWithWeight at h
  show J p l e _ s m _ below meth c x N (rho u0 v0) 3 0 0 _ 0 [(0, .ref (cz x + k0))] [] t a
  refine j_iconst F dX3_casesWithWeight_0 cI_0 ?_
  refine j_istore_n F (lv' := [(1, .int (0 : Int32)), (0, .ref (cz x + k0))]) dX3_casesWithWeight_1 rfl (Nat.le_of_ble_eq_true rfl) rfl ?_
  refine j_iconst F dX3_casesWithWeight_2 cI_0 ?_
  refine j_istore_n F (lv' := [(2, .int (0 : Int32)), (1, .int (0 : Int32)), (0, .ref (cz x + k0))]) dX3_casesWithWeight_3 rfl (Nat.le_of_ble_eq_true rfl) rfl ?_
  exact j_lv [2, 1, 0] rfl ((hX3_casesWithWeight F hsz hN hk0 nF) _ _ _ _ h)
def fX3_holdsCase (nF : Nat) (k0 : Nat) (x1 : Int32) (x2 : Int32) (t : sT) (a : sA) : Rs := bnd x1 585 (if (((a (k0 + 2) x1.toNatClampNeg) >>> (x2 &&& 31)) &&& (1 : Int32)) = 0 then (zok (0 : Int32) (some ((0 : Int32), t, a))) else (zok (1 : Int32) (some ((1 : Int32), t, a))))
set_option maxRecDepth 100000 in
set_option maxHeartbeats 4000000 in
theorem kX3_holdsCase (l : Launch) {x : Cx} {N : Nat} {u0 v0 : Option Nat} {nF : Nat} {k0 : Nat} {x1 : Int32} {x2 : Int32} {t : sT} {a : sA} {rv : Int32} {rt : sT} {ra : sA} (hN : 653 ≤ N) (hk0 : isSy k0) (h : fX3_holdsCase nF k0 x1 x2 t a = some (rv, rt, ra)) : Met l yX3_holdsCase [.code yX3_holdsCase cX3_holdsCase 3 (some .boolean)] (k2_rm 0 0) (Pre x N (rho u0 v0) t a [.ref (cz x + k0), .int x1, .int x2]) (PostI x N (rho u0 v0) rt ra rv) 0 0 (cA x) := by
  refine j_entry (by decide) rfl (Nat.le_of_ble_eq_true rfl) ?_
  intro p e s m below meth c F hsz hnm
  have F : Fx p s m meth c cX3_holdsCase 3 RX3 (some .boolean) x := F
  unfold fX3_holdsCase at h
  show J p l e _ s m _ below meth c x N (rho u0 v0) 3 0 0 _ 0 [(0, .ref (cz x + k0)), (1, .int x1), (2, .int x2)] [] t a
  refine j_aload_n F 0 dX3_holdsCase_0 rfl rfl ?_
  refine j_getR F clX3 (j := 3) (Sy_lt hk0 hN) (Sy_l hk0) (Nat.le_of_ble_eq_true rfl) rfl qf_X3_15 (Sy_r3 hk0) dX3_holdsCase_1 ?_
  refine j_iload_n F 1 dX3_holdsCase_4 rfl rfl ?_
  refine j_iald F (Sy_lt2 hk0 hN) (Sy_l2 hk0) dX3_holdsCase_5 h (fun h => ?_)
  refine j_iload_n F 2 dX3_holdsCase_6 rfl rfl ?_
  refine j_ishr F dX3_holdsCase_7 ?_
  refine j_iconst F dX3_holdsCase_8 cI_1 ?_
  refine j_iand F dX3_holdsCase_9 ?_
  refine j_if_eq F 17 dX3_holdsCase_10 rfl h (fun h => ?_) (fun h => ?_)
  · refine j_iconst F dX3_holdsCase_17 cI_0 ?_
    exact j_zreturn F rfl dX3_holdsCase_18 h
  · refine j_iconst F dX3_holdsCase_13 cI_1 ?_
    refine j_goto F 18 dX3_holdsCase_14 rfl ?_
    exact j_zreturn F rfl dX3_holdsCase_18 h
def gX3_lengthOf_7 (nF : Nat) (k0 : Nat) (r7 : Int32 → Int32 → Int32 → sT → sA → Rs) (x2 x3 x4 : Int32) (t : sT) (a : sA) : Rs := if (6 : Int32) ≤ x4 then (some (x2, t, a)) else (if x3 ≤ 0 then (some (x2, t, a)) else (if (t (64 * k0 + 12)) ≤ 0 then (some (x2, t, a)) else (dvz (t (64 * k0 + 12)) (r7 (x2 + (1 : Int32)) ((x3 - (1 : Int32)) / (t (64 * k0 + 12))) (x4 + (1 : Int32)) t a))))
def gX3_lengthOf (nF : Nat) (k0 : Nat) : Nat → (Int32 → Int32 → Int32 → sT → sA → Rs)
  | 0 => (fun _ _ _ _ _ => none)
  | n9 + 1 => (gX3_lengthOf_7 nF k0 (gX3_lengthOf nF k0 n9))
def fX3_lengthOf (nF : Nat) (k0 : Nat) (x1 : Int32) (t : sT) (a : sA) : Rs := (gX3_lengthOf nF k0 nF) (0 : Int32) x1 (0 : Int32) t a
set_option maxRecDepth 100000 in
set_option maxHeartbeats 4000000 in
theorem hX3_lengthOf {p : Program} {l : Launch} {e : Env} {s : State} {m : MethodId} {args : Array Value} {below : List Frame} {meth : Method} {c : Code} {x : Cx} {N : Nat} {u0 v0 : Option Nat} {nF : Nat} {k0 : Nat} (F : Fx p s m meth c cX3_lengthOf 5 RX3 (some .int) x) (hsz : s.heap.size = cz x + N) (hN : 653 ≤ N) (hk0 : isSy k0) {rv : Int32} {rt : sT} {ra : sA} : ∀ n9 : Nat, (∀ (x2 x3 x4 : Int32) (t : sT) (a : sA), (gX3_lengthOf nF k0 n9) x2 x3 x4 t a = some (rv, rt, ra) → J p l e (k2_rm 0 0) s m args below meth c x N (rho u0 v0) 5 0 0 (MQ below (PostI x N (rho u0 v0) rt ra rv) args s 0 0 (cA x)) 7 [(0, .ref (cz x + k0)), (2, .int x2), (3, .int x3), (4, .int x4)] [] t a) := by
  intro n9
  induction n9 with
  | zero => exact fun _ _ _ _ _ h => (by cases h)
  | succ n9 ih =>
    intro x2 x3 x4 t a h
    have h : gX3_lengthOf_7 nF k0 (gX3_lengthOf nF k0 n9) x2 x3 x4 t a = some (rv, rt, ra) := h
    unfold gX3_lengthOf_7 at h
    refine j_iload F 3 dX3_lengthOf_7 rfl ?_
    refine j_bipush F dX3_lengthOf_9 cB_6 ?_
    refine j_icmp_ge F 43 dX3_lengthOf_11 rfl h (fun h => ?_) (fun h => ?_)
    · refine j_iload_n F 1 dX3_lengthOf_43 rfl rfl ?_
      exact j_ireturn F rfl dX3_lengthOf_44 h
    · refine j_iload_n F 2 dX3_lengthOf_14 rfl rfl ?_
      refine j_if_le F 43 dX3_lengthOf_15 rfl h (fun h => ?_) (fun h => ?_)
      · refine j_iload_n F 1 dX3_lengthOf_43 rfl rfl ?_
        exact j_ireturn F rfl dX3_lengthOf_44 h
      · refine j_aload_n F 0 dX3_lengthOf_18 rfl rfl ?_
        refine j_getI F clX3 (j := 12) (tt := (64 * k0 + 12)) (Sy_lt hk0 hN) (Sy_l hk0) (Nat.le_of_ble_eq_true rfl) rfl qf_X3_114 rfl dX3_lengthOf_19 ?_
        refine j_if_le F 43 dX3_lengthOf_22 rfl h (fun h => ?_) (fun h => ?_)
        · refine j_iload_n F 1 dX3_lengthOf_43 rfl rfl ?_
          exact j_ireturn F rfl dX3_lengthOf_44 h
        · refine j_iload_n F 2 dX3_lengthOf_25 rfl rfl ?_
          refine j_iconst F dX3_lengthOf_26 cI_1 ?_
          refine j_isub F dX3_lengthOf_27 ?_
          refine j_aload_n F 0 dX3_lengthOf_28 rfl rfl ?_
          refine j_getI F clX3 (j := 12) (tt := (64 * k0 + 12)) (Sy_lt hk0 hN) (Sy_l hk0) (Nat.le_of_ble_eq_true rfl) rfl qf_X3_114 rfl dX3_lengthOf_29 ?_
          refine j_idiv F dX3_lengthOf_32 h (fun h => ?_)
          refine j_istore_n F (lv' := [(3, .int ((x3 - (1 : Int32)) / (t (64 * k0 + 12)))), (0, .ref (cz x + k0)), (2, .int x2), (4, .int x4)]) dX3_lengthOf_33 rfl (Nat.le_of_ble_eq_true rfl) rfl ?_
          refine j_iinc F (v := x2 + (1 : Int32)) (lv' := [(2, .int (x2 + (1 : Int32))), (3, .int ((x3 - (1 : Int32)) / (t (64 * k0 + 12)))), (0, .ref (cz x + k0)), (4, .int x4)]) dX3_lengthOf_34 2 rfl (congrArg (fun z => x2 + z) cI_1) (Nat.le_of_ble_eq_true rfl) rfl ?_
          refine j_iinc F (v := x4 + (1 : Int32)) (lv' := [(4, .int (x4 + (1 : Int32))), (2, .int (x2 + (1 : Int32))), (3, .int ((x3 - (1 : Int32)) / (t (64 * k0 + 12)))), (0, .ref (cz x + k0))]) dX3_lengthOf_37 3 rfl (congrArg (fun z => x4 + z) cI_1) (Nat.le_of_ble_eq_true rfl) rfl ?_
          refine j_goto F 7 dX3_lengthOf_40 rfl ?_
          exact j_lv [3, 1, 2, 0] rfl (ih _ _ _ _ _ h)
set_option maxRecDepth 100000 in
set_option maxHeartbeats 4000000 in
theorem kX3_lengthOf (l : Launch) {x : Cx} {N : Nat} {u0 v0 : Option Nat} {nF : Nat} {k0 : Nat} {x1 : Int32} {t : sT} {a : sA} {rv : Int32} {rt : sT} {ra : sA} (hN : 653 ≤ N) (hk0 : isSy k0) (h : fX3_lengthOf nF k0 x1 t a = some (rv, rt, ra)) : Met l yX3_lengthOf [.code yX3_lengthOf cX3_lengthOf 5 (some .int)] (k2_rm 0 0) (Pre x N (rho u0 v0) t a [.ref (cz x + k0), .int x1]) (PostI x N (rho u0 v0) rt ra rv) 0 0 (cA x) := by
  refine j_entry (by decide) rfl (Nat.le_of_ble_eq_true rfl) ?_
  intro p e s m below meth c F hsz hnm
  have F : Fx p s m meth c cX3_lengthOf 5 RX3 (some .int) x := F
  unfold fX3_lengthOf at h
  show J p l e _ s m _ below meth c x N (rho u0 v0) 5 0 0 _ 0 [(0, .ref (cz x + k0)), (1, .int x1)] [] t a
  refine j_iconst F dX3_lengthOf_0 cI_0 ?_
  refine j_istore_n F (lv' := [(2, .int (0 : Int32)), (0, .ref (cz x + k0)), (1, .int x1)]) dX3_lengthOf_1 rfl (Nat.le_of_ble_eq_true rfl) rfl ?_
  refine j_iload_n F 2 dX3_lengthOf_2 rfl rfl ?_
  refine j_istore_n F (lv' := [(3, .int x1), (2, .int (0 : Int32)), (0, .ref (cz x + k0)), (1, .int x1)]) dX3_lengthOf_3 rfl (Nat.le_of_ble_eq_true rfl) rfl ?_
  refine j_iconst F dX3_lengthOf_4 cI_0 ?_
  refine j_istore F (k := 0) (lv' := [(4, .int (0 : Int32)), (3, .int x1), (2, .int (0 : Int32)), (0, .ref (cz x + k0)), (1, .int x1)]) dX3_lengthOf_5 (Nat.le_of_ble_eq_true rfl) rfl ?_
  exact j_lv [3, 2, 1, 0] rfl ((hX3_lengthOf F hsz hN hk0 nF) _ _ _ _ _ h)
def gX3_wordOf_33 (nF : Nat) (k0 : Nat) (r33 : Int32 → Int32 → Int32 → sT → sA → Rs) (x2 x4 x5 : Int32) (t : sT) (a : sA) : Rs := if x5 ≤ x2 then (dvz (t (64 * k0 + 12)) (some ((x4 - (1 : Int32)) - (x4 - (1 : Int32)) / (t (64 * k0 + 12)) * (t (64 * k0 + 12)), t, a))) else (dvz (t (64 * k0 + 12)) (r33 x2 ((x4 - (1 : Int32)) / (t (64 * k0 + 12))) (x5 + (-1 : Int32)) t a))
def gX3_wordOf (nF : Nat) (k0 : Nat) : Nat → (Int32 → Int32 → Int32 → sT → sA → Rs)
  | 0 => (fun _ _ _ _ _ => none)
  | n9 + 1 => (gX3_wordOf_33 nF k0 (gX3_wordOf nF k0 n9))
def fX3_wordOf (nF : Nat) (k0 : Nat) (x1 : Int32) (x2 : Int32) (t : sT) (a : sA) : Rs := cal (fX3_lengthOf nF k0 x1 t a) (fun v1 t1 a1 => if x2 < 0 then (some ((-9 : Int32), t1, a1)) else (if v1 ≤ x2 then (some ((-9 : Int32), t1, a1)) else (if 0 < (t1 (64 * k0 + 12)) then ((gX3_wordOf nF k0 nF) x2 x1 (v1 - (1 : Int32)) t1 a1) else (some ((-9 : Int32), t1, a1)))))
set_option maxRecDepth 100000 in
set_option maxHeartbeats 4000000 in
theorem hX3_wordOf {p : Program} {l : Launch} {e : Env} {s : State} {m : MethodId} {args : Array Value} {below : List Frame} {meth : Method} {c : Code} {x : Cx} {N : Nat} {u0 v0 : Option Nat} {nF : Nat} {k0 : Nat} (F : Fx p s m meth c cX3_wordOf 6 RX3 (some .int) x) (hsz : s.heap.size = cz x + N) (hN : 653 ≤ N) (hk0 : isSy k0) {rv : Int32} {rt : sT} {ra : sA} : ∀ n9 : Nat, (∀ (x2 x4 x5 : Int32) (t : sT) (a : sA), (gX3_wordOf nF k0 n9) x2 x4 x5 t a = some (rv, rt, ra) → J p l e (k2_rm 1 24) s m args below meth c x N (rho u0 v0) 6 0 0 (MQ below (PostI x N (rho u0 v0) rt ra rv) args s 0 0 (cA x)) 33 [(0, .ref (cz x + k0)), (2, .int x2), (4, .int x4), (5, .int x5)] [] t a) := by
  intro n9
  induction n9 with
  | zero => exact fun _ _ _ _ _ h => (by cases h)
  | succ n9 ih =>
    intro x2 x4 x5 t a h
    have h : gX3_wordOf_33 nF k0 (gX3_wordOf nF k0 n9) x2 x4 x5 t a = some (rv, rt, ra) := h
    unfold gX3_wordOf_33 at h
    refine j_iload F 3 dX3_wordOf_33 rfl ?_
    refine j_iload_n F 1 dX3_wordOf_35 rfl rfl ?_
    refine j_icmp_le F 56 dX3_wordOf_36 rfl h (fun h => ?_) (fun h => ?_)
    · refine j_iload F 2 dX3_wordOf_56 rfl ?_
      refine j_iconst F dX3_wordOf_58 cI_1 ?_
      refine j_isub F dX3_wordOf_59 ?_
      refine j_aload_n F 0 dX3_wordOf_60 rfl rfl ?_
      refine j_getI F clX3 (j := 12) (tt := (64 * k0 + 12)) (Sy_lt hk0 hN) (Sy_l hk0) (Nat.le_of_ble_eq_true rfl) rfl qf_X3_114 rfl dX3_wordOf_61 ?_
      refine j_irem F dX3_wordOf_64 h (fun h => ?_)
      exact j_ireturn F rfl dX3_wordOf_65 h
    · refine j_iload F 2 dX3_wordOf_39 rfl ?_
      refine j_iconst F dX3_wordOf_41 cI_1 ?_
      refine j_isub F dX3_wordOf_42 ?_
      refine j_aload_n F 0 dX3_wordOf_43 rfl rfl ?_
      refine j_getI F clX3 (j := 12) (tt := (64 * k0 + 12)) (Sy_lt hk0 hN) (Sy_l hk0) (Nat.le_of_ble_eq_true rfl) rfl qf_X3_114 rfl dX3_wordOf_44 ?_
      refine j_idiv F dX3_wordOf_47 h (fun h => ?_)
      refine j_istore F (k := 0) (lv' := [(4, .int ((x4 - (1 : Int32)) / (t (64 * k0 + 12)))), (0, .ref (cz x + k0)), (2, .int x2), (5, .int x5)]) dX3_wordOf_48 (Nat.le_of_ble_eq_true rfl) rfl ?_
      refine j_iinc F (v := x5 + (-1 : Int32)) (lv' := [(5, .int (x5 + (-1 : Int32))), (4, .int ((x4 - (1 : Int32)) / (t (64 * k0 + 12)))), (0, .ref (cz x + k0)), (2, .int x2)]) dX3_wordOf_50 3 rfl (congrArg (fun z => x5 + z) cI_m1) (Nat.le_of_ble_eq_true rfl) rfl ?_
      refine j_goto F 33 dX3_wordOf_53 rfl ?_
      exact j_lv [2, 3, 1, 0] rfl (ih _ _ _ _ _ h)
set_option maxRecDepth 100000 in
set_option maxHeartbeats 4000000 in
theorem kX3_wordOf (l : Launch) {x : Cx} {N : Nat} {u0 v0 : Option Nat} {nF : Nat} {k0 : Nat} {x1 : Int32} {x2 : Int32} {t : sT} {a : sA} {rv : Int32} {rt : sT} {ra : sA} (hN : 653 ≤ N) (hk0 : isSy k0) (h : fX3_wordOf nF k0 x1 x2 t a = some (rv, rt, ra)) : Met l yX3_wordOf [.code yX3_wordOf cX3_wordOf 6 (some .int)] (k2_rm 1 24) (Pre x N (rho u0 v0) t a [.ref (cz x + k0), .int x1, .int x2]) (PostI x N (rho u0 v0) rt ra rv) 0 0 (cA x) := by
  refine j_entry (by decide) rfl (Nat.le_of_ble_eq_true rfl) ?_
  intro p e s m below meth c F hsz hnm
  have F : Fx p s m meth c cX3_wordOf 6 RX3 (some .int) x := F
  unfold fX3_wordOf at h
  show J p l e _ s m _ below meth c x N (rho u0 v0) 6 0 0 _ 0 [(0, .ref (cz x + k0)), (1, .int x1), (2, .int x2)] [] t a
  refine j_aload_n F 0 dX3_wordOf_0 rfl rfl ?_
  refine j_iload_n F 1 dX3_wordOf_1 rfl rfl ?_
  refine j_callVi F mwX3_lengthOf ql_X3_119 clX3 (Sy_lt hk0 hN) (Sy_l hk0) [.int x1] rfl ⟨rfl, rfl, Nat.le_of_ble_eq_true rfl, Nat.le_of_ble_eq_true rfl⟩ ⟨Nat.le_refl 0, Nat.le_refl 0⟩ rfl (Nat.le_of_ble_eq_true rfl) dX3_wordOf_2 (fun _ _ _ h9 => kX3_lengthOf l hN hk0 h9) h (fun v1 t1 a1 e1 h => ?_)
  refine j_istore_n F (lv' := [(3, .int v1), (0, .ref (cz x + k0)), (1, .int x1), (2, .int x2)]) dX3_wordOf_5 rfl (Nat.le_of_ble_eq_true rfl) rfl ?_
  refine j_iload_n F 3 dX3_wordOf_6 rfl rfl ?_
  refine j_if_lt F 22 dX3_wordOf_7 rfl h (fun h => ?_) (fun h => ?_)
  · refine j_bipush F dX3_wordOf_22 cB_m9 ?_
    exact j_ireturn F rfl dX3_wordOf_24 h
  · refine j_iload_n F 3 dX3_wordOf_10 rfl rfl ?_
    refine j_iload_n F 0 dX3_wordOf_11 rfl rfl ?_
    refine j_icmp_ge F 22 dX3_wordOf_12 rfl h (fun h => ?_) (fun h => ?_)
    · refine j_bipush F dX3_wordOf_22 cB_m9 ?_
      exact j_ireturn F rfl dX3_wordOf_24 h
    · refine j_aload_n F 1 dX3_wordOf_15 rfl rfl ?_
      refine j_getI F clX3 (j := 12) (tt := (64 * k0 + 12)) (Sy_lt hk0 hN) (Sy_l hk0) (Nat.le_of_ble_eq_true rfl) rfl qf_X3_114 rfl dX3_wordOf_16 ?_
      refine j_if_gt F 25 dX3_wordOf_19 rfl h (fun h => ?_) (fun h => ?_)
      · refine j_iload_n F 2 dX3_wordOf_25 rfl rfl ?_
        refine j_istore F (k := 0) (lv' := [(4, .int x1), (3, .int v1), (0, .ref (cz x + k0)), (1, .int x1), (2, .int x2)]) dX3_wordOf_26 (Nat.le_of_ble_eq_true rfl) rfl ?_
        refine j_iload_n F 1 dX3_wordOf_28 rfl rfl ?_
        refine j_iconst F dX3_wordOf_29 cI_1 ?_
        refine j_isub F dX3_wordOf_30 ?_
        refine j_istore F (k := 0) (lv' := [(5, .int (v1 - (1 : Int32))), (4, .int x1), (3, .int v1), (0, .ref (cz x + k0)), (1, .int x1), (2, .int x2)]) dX3_wordOf_31 (Nat.le_of_ble_eq_true rfl) rfl ?_
        exact j_lv [3, 5, 1, 0] rfl ((hX3_wordOf F hsz hN hk0 nF) _ _ _ _ _ h)
      · refine j_bipush F dX3_wordOf_22 cB_m9 ?_
        exact j_ireturn F rfl dX3_wordOf_24 h
def fX4_idles (nF : Nat) (x0 : Int32) (t : sT) (a : sA) : Rs := some ((x0 >>> ((11 : Int32) &&& 31)) &&& (7 : Int32), t, a)
set_option maxRecDepth 100000 in
set_option maxHeartbeats 4000000 in
theorem kX4_idles (l : Launch) {x : Cx} {N : Nat} {u0 v0 : Option Nat} {nF : Nat} {x0 : Int32} {t : sT} {a : sA} {rv : Int32} {rt : sT} {ra : sA} (hN : 653 ≤ N) (h : fX4_idles nF x0 t a = some (rv, rt, ra)) : Met l yX4_idles [.code yX4_idles cX4_idles 1 (some .int)] (k2_rm 0 0) (Pre x N (rho u0 v0) t a [.int x0]) (PostI x N (rho u0 v0) rt ra rv) 0 0 (cA x) := by
  refine j_entry (by decide) rfl (Nat.le_of_ble_eq_true rfl) ?_
  intro p e s m below meth c F hsz hnm
  have F : Fx p s m meth c cX4_idles 1 RX4 (some .int) x := F
  unfold fX4_idles at h
  show J p l e _ s m _ below meth c x N (rho u0 v0) 1 0 0 _ 0 [(0, .int x0)] [] t a
  refine j_iload_n F 0 dX4_idles_0 rfl rfl ?_
  refine j_bipush F dX4_idles_1 cB_11 ?_
  refine j_ishr F dX4_idles_3 ?_
  refine j_bipush F dX4_idles_4 cB_7 ?_
  refine j_iand F dX4_idles_6 ?_
  exact j_ireturn F rfl dX4_idles_7 h
def fX4_length (nF : Nat) (x0 : Int32) (t : sT) (a : sA) : Rs := some ((x0 >>> ((14 : Int32) &&& 31)) &&& (7 : Int32), t, a)
set_option maxRecDepth 100000 in
set_option maxHeartbeats 4000000 in
theorem kX4_length (l : Launch) {x : Cx} {N : Nat} {u0 v0 : Option Nat} {nF : Nat} {x0 : Int32} {t : sT} {a : sA} {rv : Int32} {rt : sT} {ra : sA} (hN : 653 ≤ N) (h : fX4_length nF x0 t a = some (rv, rt, ra)) : Met l yX4_length [.code yX4_length cX4_length 1 (some .int)] (k2_rm 0 0) (Pre x N (rho u0 v0) t a [.int x0]) (PostI x N (rho u0 v0) rt ra rv) 0 0 (cA x) := by
  refine j_entry (by decide) rfl (Nat.le_of_ble_eq_true rfl) ?_
  intro p e s m below meth c F hsz hnm
  have F : Fx p s m meth c cX4_length 1 RX4 (some .int) x := F
  unfold fX4_length at h
  show J p l e _ s m _ below meth c x N (rho u0 v0) 1 0 0 _ 0 [(0, .int x0)] [] t a
  refine j_iload_n F 0 dX4_length_0 rfl rfl ?_
  refine j_bipush F dX4_length_1 cB_14 ?_
  refine j_ishr F dX4_length_3 ?_
  refine j_bipush F dX4_length_4 cB_7 ?_
  refine j_iand F dX4_length_6 ?_
  exact j_ireturn F rfl dX4_length_7 h
def fX4_meaning (nF : Nat) (x0 : Int32) (t : sT) (a : sA) : Rs := some (x0 &&& (255 : Int32), t, a)
set_option maxRecDepth 100000 in
set_option maxHeartbeats 4000000 in
theorem kX4_meaning (l : Launch) {x : Cx} {N : Nat} {u0 v0 : Option Nat} {nF : Nat} {x0 : Int32} {t : sT} {a : sA} {rv : Int32} {rt : sT} {ra : sA} (hN : 653 ≤ N) (h : fX4_meaning nF x0 t a = some (rv, rt, ra)) : Met l yX4_meaning [.code yX4_meaning cX4_meaning 1 (some .int)] (k2_rm 0 0) (Pre x N (rho u0 v0) t a [.int x0]) (PostI x N (rho u0 v0) rt ra rv) 0 0 (cA x) := by
  refine j_entry (by decide) rfl (Nat.le_of_ble_eq_true rfl) ?_
  intro p e s m below meth c F hsz hnm
  have F : Fx p s m meth c cX4_meaning 1 RX4 (some .int) x := F
  unfold fX4_meaning at h
  show J p l e _ s m _ below meth c x N (rho u0 v0) 1 0 0 _ 0 [(0, .int x0)] [] t a
  refine j_iload_n F 0 dX4_meaning_0 rfl rfl ?_
  refine j_sipush F dX4_meaning_1 cS_255 ?_
  refine j_iand F dX4_meaning_4 ?_
  exact j_ireturn F rfl dX4_meaning_5 h
def fX4_ofLength (nF : Nat) (x0 : Int32) (x1 : Int32) (t : sT) (a : sA) : Rs := some (((255 : Int32) ||| (x1 <<< ((11 : Int32) &&& 31))) ||| (x0 <<< ((14 : Int32) &&& 31)), t, a)
set_option maxRecDepth 100000 in
set_option maxHeartbeats 4000000 in
theorem kX4_ofLength (l : Launch) {x : Cx} {N : Nat} {u0 v0 : Option Nat} {nF : Nat} {x0 : Int32} {x1 : Int32} {t : sT} {a : sA} {rv : Int32} {rt : sT} {ra : sA} (hN : 653 ≤ N) (h : fX4_ofLength nF x0 x1 t a = some (rv, rt, ra)) : Met l yX4_ofLength [.code yX4_ofLength cX4_ofLength 2 (some .int)] (k2_rm 0 0) (Pre x N (rho u0 v0) t a [.int x0, .int x1]) (PostI x N (rho u0 v0) rt ra rv) 0 0 (cA x) := by
  refine j_entry (by decide) rfl (Nat.le_of_ble_eq_true rfl) ?_
  intro p e s m below meth c F hsz hnm
  have F : Fx p s m meth c cX4_ofLength 2 RX4 (some .int) x := F
  unfold fX4_ofLength at h
  show J p l e _ s m _ below meth c x N (rho u0 v0) 2 0 0 _ 0 [(0, .int x0), (1, .int x1)] [] t a
  refine j_sipush F dX4_ofLength_0 cS_255 ?_
  refine j_iload_n F 1 dX4_ofLength_3 rfl rfl ?_
  refine j_bipush F dX4_ofLength_4 cB_11 ?_
  refine j_ishl F dX4_ofLength_6 ?_
  refine j_ior F dX4_ofLength_7 ?_
  refine j_iload_n F 0 dX4_ofLength_8 rfl rfl ?_
  refine j_bipush F dX4_ofLength_9 cB_14 ?_
  refine j_ishl F dX4_ofLength_11 ?_
  refine j_ior F dX4_ofLength_12 ?_
  exact j_ireturn F rfl dX4_ofLength_13 h
def fX4_withTelling (nF : Nat) (x0 : Int32) (x1 : Int32) (t : sT) (a : sA) : Rs := if (x0 &&& (256 : Int32)) = 0 then (if (x0 &&& (512 : Int32)) = 0 then (some (((x0 &&& (129024 : Int32)) ||| (1024 : Int32)) ||| ((x0 &&& (255 : Int32)) &&& x1), t, a)) else (some (((x0 &&& (129024 : Int32)) ||| (1024 : Int32)) ||| ((x0 &&& (255 : Int32)) ||| x1), t, a))) else (if (x0 &&& (512 : Int32)) = 0 then (some (((x0 &&& (129024 : Int32)) ||| (1024 : Int32)) ||| ((x0 &&& (255 : Int32)) &&& ((255 : Int32) &&& (x1 ^^^ (-1 : Int32)))), t, a)) else (some (((x0 &&& (129024 : Int32)) ||| (1024 : Int32)) ||| ((x0 &&& (255 : Int32)) ||| ((255 : Int32) &&& (x1 ^^^ (-1 : Int32)))), t, a)))
set_option maxRecDepth 100000 in
set_option maxHeartbeats 4000000 in
theorem kX4_withTelling (l : Launch) {x : Cx} {N : Nat} {u0 v0 : Option Nat} {nF : Nat} {x0 : Int32} {x1 : Int32} {t : sT} {a : sA} {rv : Int32} {rt : sT} {ra : sA} (hN : 653 ≤ N) (h : fX4_withTelling nF x0 x1 t a = some (rv, rt, ra)) : Met l yX4_withTelling [.code yX4_withTelling cX4_withTelling 5 (some .int)] (k2_rm 0 0) (Pre x N (rho u0 v0) t a [.int x0, .int x1]) (PostI x N (rho u0 v0) rt ra rv) 0 0 (cA x) := by
  refine j_entry (by decide) rfl (Nat.le_of_ble_eq_true rfl) ?_
  intro p e s m below meth c F hsz hnm
  have F : Fx p s m meth c cX4_withTelling 5 RX4 (some .int) x := F
  unfold fX4_withTelling at h
  show J p l e _ s m _ below meth c x N (rho u0 v0) 5 0 0 _ 0 [(0, .int x0), (1, .int x1)] [] t a
  refine j_iload_n F 0 dX4_withTelling_0 rfl rfl ?_
  refine j_sipush F dX4_withTelling_1 cS_256 ?_
  refine j_iand F dX4_withTelling_4 ?_
  refine j_if_ne F 12 dX4_withTelling_5 rfl h (fun h => ?_) (fun h => ?_)
  · refine j_iload_n F 1 dX4_withTelling_8 rfl rfl ?_
    refine j_goto F 19 dX4_withTelling_9 rfl ?_
    refine j_istore_n F (lv' := [(2, .int x1), (0, .int x0), (1, .int x1)]) dX4_withTelling_19 rfl (Nat.le_of_ble_eq_true rfl) rfl ?_
    refine j_iload_n F 1 dX4_withTelling_20 rfl rfl ?_
    refine j_sipush F dX4_withTelling_21 cS_255 ?_
    refine j_iand F dX4_withTelling_24 ?_
    refine j_istore_n F (lv' := [(3, .int (x0 &&& (255 : Int32))), (2, .int x1), (0, .int x0), (1, .int x1)]) dX4_withTelling_25 rfl (Nat.le_of_ble_eq_true rfl) rfl ?_
    refine j_iload_n F 2 dX4_withTelling_26 rfl rfl ?_
    refine j_sipush F dX4_withTelling_27 cS_512 ?_
    refine j_iand F dX4_withTelling_30 ?_
    refine j_if_ne F 40 dX4_withTelling_31 rfl h (fun h => ?_) (fun h => ?_)
    · refine j_iload_n F 0 dX4_withTelling_34 rfl rfl ?_
      refine j_iload_n F 1 dX4_withTelling_35 rfl rfl ?_
      refine j_iand F dX4_withTelling_36 ?_
      refine j_goto F 43 dX4_withTelling_37 rfl ?_
      refine j_istore F (k := 0) (lv' := [(4, .int ((x0 &&& (255 : Int32)) &&& x1)), (3, .int (x0 &&& (255 : Int32))), (2, .int x1), (0, .int x0), (1, .int x1)]) dX4_withTelling_43 (Nat.le_of_ble_eq_true rfl) rfl ?_
      refine j_iload_n F 3 dX4_withTelling_45 rfl rfl ?_
      refine j_ldc F dX4_withTelling_46 qc_X4_15 ?_
      refine j_iand F dX4_withTelling_48 ?_
      refine j_sipush F dX4_withTelling_49 cS_1024 ?_
      refine j_ior F dX4_withTelling_52 ?_
      refine j_iload F 0 dX4_withTelling_53 rfl ?_
      refine j_ior F dX4_withTelling_55 ?_
      exact j_ireturn F rfl dX4_withTelling_56 h
    · refine j_iload_n F 0 dX4_withTelling_40 rfl rfl ?_
      refine j_iload_n F 1 dX4_withTelling_41 rfl rfl ?_
      refine j_ior F dX4_withTelling_42 ?_
      refine j_istore F (k := 0) (lv' := [(4, .int ((x0 &&& (255 : Int32)) ||| x1)), (3, .int (x0 &&& (255 : Int32))), (2, .int x1), (0, .int x0), (1, .int x1)]) dX4_withTelling_43 (Nat.le_of_ble_eq_true rfl) rfl ?_
      refine j_iload_n F 3 dX4_withTelling_45 rfl rfl ?_
      refine j_ldc F dX4_withTelling_46 qc_X4_15 ?_
      refine j_iand F dX4_withTelling_48 ?_
      refine j_sipush F dX4_withTelling_49 cS_1024 ?_
      refine j_ior F dX4_withTelling_52 ?_
      refine j_iload F 0 dX4_withTelling_53 rfl ?_
      refine j_ior F dX4_withTelling_55 ?_
      exact j_ireturn F rfl dX4_withTelling_56 h
  · refine j_sipush F dX4_withTelling_12 cS_255 ?_
    refine j_iload_n F 1 dX4_withTelling_15 rfl rfl ?_
    refine j_iconst F dX4_withTelling_16 cI_m1 ?_
    refine j_ixor F dX4_withTelling_17 ?_
    refine j_iand F dX4_withTelling_18 ?_
    refine j_istore_n F (lv' := [(2, .int ((255 : Int32) &&& (x1 ^^^ (-1 : Int32)))), (0, .int x0), (1, .int x1)]) dX4_withTelling_19 rfl (Nat.le_of_ble_eq_true rfl) rfl ?_
    refine j_iload_n F 1 dX4_withTelling_20 rfl rfl ?_
    refine j_sipush F dX4_withTelling_21 cS_255 ?_
    refine j_iand F dX4_withTelling_24 ?_
    refine j_istore_n F (lv' := [(3, .int (x0 &&& (255 : Int32))), (2, .int ((255 : Int32) &&& (x1 ^^^ (-1 : Int32)))), (0, .int x0), (1, .int x1)]) dX4_withTelling_25 rfl (Nat.le_of_ble_eq_true rfl) rfl ?_
    refine j_iload_n F 2 dX4_withTelling_26 rfl rfl ?_
    refine j_sipush F dX4_withTelling_27 cS_512 ?_
    refine j_iand F dX4_withTelling_30 ?_
    refine j_if_ne F 40 dX4_withTelling_31 rfl h (fun h => ?_) (fun h => ?_)
    · refine j_iload_n F 0 dX4_withTelling_34 rfl rfl ?_
      refine j_iload_n F 1 dX4_withTelling_35 rfl rfl ?_
      refine j_iand F dX4_withTelling_36 ?_
      refine j_goto F 43 dX4_withTelling_37 rfl ?_
      refine j_istore F (k := 0) (lv' := [(4, .int ((x0 &&& (255 : Int32)) &&& ((255 : Int32) &&& (x1 ^^^ (-1 : Int32))))), (3, .int (x0 &&& (255 : Int32))), (2, .int ((255 : Int32) &&& (x1 ^^^ (-1 : Int32)))), (0, .int x0), (1, .int x1)]) dX4_withTelling_43 (Nat.le_of_ble_eq_true rfl) rfl ?_
      refine j_iload_n F 3 dX4_withTelling_45 rfl rfl ?_
      refine j_ldc F dX4_withTelling_46 qc_X4_15 ?_
      refine j_iand F dX4_withTelling_48 ?_
      refine j_sipush F dX4_withTelling_49 cS_1024 ?_
      refine j_ior F dX4_withTelling_52 ?_
      refine j_iload F 0 dX4_withTelling_53 rfl ?_
      refine j_ior F dX4_withTelling_55 ?_
      exact j_ireturn F rfl dX4_withTelling_56 h
    · refine j_iload_n F 0 dX4_withTelling_40 rfl rfl ?_
      refine j_iload_n F 1 dX4_withTelling_41 rfl rfl ?_
      refine j_ior F dX4_withTelling_42 ?_
      refine j_istore F (k := 0) (lv' := [(4, .int ((x0 &&& (255 : Int32)) ||| ((255 : Int32) &&& (x1 ^^^ (-1 : Int32))))), (3, .int (x0 &&& (255 : Int32))), (2, .int ((255 : Int32) &&& (x1 ^^^ (-1 : Int32)))), (0, .int x0), (1, .int x1)]) dX4_withTelling_43 (Nat.le_of_ble_eq_true rfl) rfl ?_
      refine j_iload_n F 3 dX4_withTelling_45 rfl rfl ?_
      refine j_ldc F dX4_withTelling_46 qc_X4_15 ?_
      refine j_iand F dX4_withTelling_48 ?_
      refine j_sipush F dX4_withTelling_49 cS_1024 ?_
      refine j_ior F dX4_withTelling_52 ?_
      refine j_iload F 0 dX4_withTelling_53 rfl ?_
      refine j_ior F dX4_withTelling_55 ?_
      exact j_ireturn F rfl dX4_withTelling_56 h
def fX5_add (nF : Nat) (k0 : Nat) (x1 : Int32) (t : sT) (a : sA) : Rs := if (12 : Int32) ≤ (t (64 * k0 + 1)) then (some (0, t, a)) else (bnd (t (64 * k0 + 1)) 12 (some (0, va_up t (64 * k0 + 1) ((t (64 * k0 + 1)) + (1 : Int32)), va_up a (k0 + 1) (upd (a (k0 + 1)) (t (64 * k0 + 1)).toNatClampNeg x1))))
set_option maxRecDepth 100000 in
set_option maxHeartbeats 4000000 in
theorem kX5_add (l : Launch) {x : Cx} {N : Nat} {u0 v0 : Option Nat} {nF : Nat} {k0 : Nat} {x1 : Int32} {t : sT} {a : sA} {rv : Int32} {rt : sT} {ra : sA} (hN : 653 ≤ N) (hk0 : isTk k0) (h : fX5_add nF k0 x1 t a = some (rv, rt, ra)) : Met l yX5_add [.code yX5_add cX5_add 2 none] (k2_rm 0 0) (Pre x N (rho u0 v0) t a [.ref (cz x + k0), .int x1]) (PostV x N (rho u0 v0) rt ra) 0 0 (cA x) := by
  refine j_entry (by decide) rfl (Nat.le_of_ble_eq_true rfl) ?_
  intro p e s m below meth c F hsz hnm
  have F : Fx p s m meth c cX5_add 2 RX5 none x := F
  unfold fX5_add at h
  show J p l e _ s m _ below meth c x N (rho u0 v0) 2 0 0 _ 0 [(0, .ref (cz x + k0)), (1, .int x1)] [] t a
  refine j_aload_n F 0 dX5_add_0 rfl rfl ?_
  refine j_getI F clX5 (j := 1) (tt := (64 * k0 + 1)) (Tk_lt hk0 hN) (Tk_l hk0) (Nat.le_of_ble_eq_true rfl) rfl qf_X5_15 rfl dX5_add_1 ?_
  refine j_bipush F dX5_add_4 cB_12 ?_
  refine j_icmp_ge F 29 dX5_add_6 rfl h (fun h => ?_) (fun h => ?_)
  · exact j_vreturn F rfl dX5_add_29 h
  · refine j_aload_n F 0 dX5_add_9 rfl rfl ?_
    refine j_getR F clX5 (j := 0) (Tk_lt hk0 hN) (Tk_l hk0) (Nat.le_of_ble_eq_true rfl) rfl qf_X5_9 (Tk_r0 hk0) dX5_add_10 ?_
    refine j_aload_n F 0 dX5_add_13 rfl rfl ?_
    refine j_getI F clX5 (j := 1) (tt := (64 * k0 + 1)) (Tk_lt hk0 hN) (Tk_l hk0) (Nat.le_of_ble_eq_true rfl) rfl qf_X5_15 rfl dX5_add_14 ?_
    refine j_iload_n F 1 dX5_add_17 rfl rfl ?_
    refine j_iast F (Tk_lt1 hk0 hN) (Tk_l1 hk0) dX5_add_18 h (fun h => ?_)
    refine j_aload_n F 0 dX5_add_19 rfl rfl ?_
    refine j_dup F dX5_add_20 rfl ?_
    refine j_getI F clX5 (j := 1) (tt := (64 * k0 + 1)) (Tk_lt hk0 hN) (Tk_l hk0) (Nat.le_of_ble_eq_true rfl) rfl qf_X5_15 rfl dX5_add_21 ?_
    refine j_iconst F dX5_add_24 cI_1 ?_
    refine j_iadd F dX5_add_25 ?_
    refine j_putI F clX5 (j := 1) (tt := (64 * k0 + 1)) (Tk_lt hk0 hN) (Tk_l hk0) (Nat.le_of_ble_eq_true rfl) rfl qf_X5_15 rfl rfl rfl dX5_add_26 ?_
    exact j_vreturn F rfl dX5_add_29 h
def fX5_copyFrom (nF : Nat) (k0 : Nat) (k1 : Nat) (t : sT) (a : sA) : Rs := some (0, va_up t (64 * k0 + 1) (t (64 * k1 + 1)), va_up a (k0 + 1) (va_cpy (a (k1 + 1)) (a (k0 + 1)) 0 0 ((12 : Int32) : Int32).toNatClampNeg))
set_option maxRecDepth 100000 in
set_option maxHeartbeats 4000000 in
theorem kX5_copyFrom (l : Launch) {x : Cx} {N : Nat} {u0 v0 : Option Nat} {nF : Nat} {k0 : Nat} {k1 : Nat} {t : sT} {a : sA} {rv : Int32} {rt : sT} {ra : sA} (hN : 653 ≤ N) (hk0 : isTk k0) (hk1 : isTk k1) (h : fX5_copyFrom nF k0 k1 t a = some (rv, rt, ra)) : Met l yX5_copyFrom [.code yX5_copyFrom cX5_copyFrom 2 none] (k2_rm 1 60) (Pre x N (rho u0 v0) t a [.ref (cz x + k0), .ref (cz x + k1)]) (PostV x N (rho u0 v0) rt ra) 0 0 (cA x) := by
  refine j_entry (by decide) rfl (Nat.le_of_ble_eq_true rfl) ?_
  intro p e s m below meth c F hsz hnm
  have F : Fx p s m meth c cX5_copyFrom 2 RX5 none x := F
  unfold fX5_copyFrom at h
  show J p l e _ s m _ below meth c x N (rho u0 v0) 2 0 0 _ 0 [(0, .ref (cz x + k0)), (1, .ref (cz x + k1))] [] t a
  refine j_aload_n F 1 dX5_copyFrom_0 rfl rfl ?_
  refine j_getR F clX5 (j := 0) (Tk_lt hk1 hN) (Tk_l hk1) (Nat.le_of_ble_eq_true rfl) rfl qf_X5_9 (Tk_r0 hk1) dX5_copyFrom_1 ?_
  refine j_iconst F dX5_copyFrom_4 cI_0 ?_
  refine j_aload_n F 0 dX5_copyFrom_5 rfl rfl ?_
  refine j_getR F clX5 (j := 0) (Tk_lt hk0 hN) (Tk_l hk0) (Nat.le_of_ble_eq_true rfl) rfl qf_X5_9 (Tk_r0 hk0) dX5_copyFrom_6 ?_
  refine j_iconst F dX5_copyFrom_9 cI_0 ?_
  refine j_bipush F dX5_copyFrom_10 cB_12 ?_
  refine j_copy F hsz (Tk_lt1 hk1 hN) (Tk_l1 hk1) (Tk_lt1 hk0 hN) (Tk_l1 hk0) ql_X5_25 (by decide) (by decide) (by decide) (Nat.le_of_ble_eq_true rfl) (Nat.le_of_ble_eq_true rfl) dX5_copyFrom_12 ?_
  refine j_aload_n F 0 dX5_copyFrom_15 rfl rfl ?_
  refine j_aload_n F 1 dX5_copyFrom_16 rfl rfl ?_
  refine j_getI F clX5 (j := 1) (tt := (64 * k1 + 1)) (Tk_lt hk1 hN) (Tk_l hk1) (Nat.le_of_ble_eq_true rfl) rfl qf_X5_15 rfl dX5_copyFrom_17 ?_
  refine j_putI F clX5 (j := 1) (tt := (64 * k0 + 1)) (Tk_lt hk0 hN) (Tk_l hk0) (Nat.le_of_ble_eq_true rfl) rfl qf_X5_15 rfl rfl rfl dX5_copyFrom_20 ?_
  exact j_vreturn F rfl dX5_copyFrom_23 h
def fX5_latest (nF : Nat) (k0 : Nat) (t : sT) (a : sA) : Rs := if (t (64 * k0 + 1)) ≤ 0 then (some ((255 : Int32), t, a)) else (if (12 : Int32) < (t (64 * k0 + 1)) then (some ((255 : Int32), t, a)) else (bnd ((t (64 * k0 + 1)) - (1 : Int32)) 12 (some (a (k0 + 1) ((t (64 * k0 + 1)) - (1 : Int32)).toNatClampNeg, t, a))))
set_option maxRecDepth 100000 in
set_option maxHeartbeats 4000000 in
theorem kX5_latest (l : Launch) {x : Cx} {N : Nat} {u0 v0 : Option Nat} {nF : Nat} {k0 : Nat} {t : sT} {a : sA} {rv : Int32} {rt : sT} {ra : sA} (hN : 653 ≤ N) (hk0 : isTk k0) (h : fX5_latest nF k0 t a = some (rv, rt, ra)) : Met l yX5_latest [.code yX5_latest cX5_latest 1 (some .int)] (k2_rm 0 0) (Pre x N (rho u0 v0) t a [.ref (cz x + k0)]) (PostI x N (rho u0 v0) rt ra rv) 0 0 (cA x) := by
  refine j_entry (by decide) rfl (Nat.le_of_ble_eq_true rfl) ?_
  intro p e s m below meth c F hsz hnm
  have F : Fx p s m meth c cX5_latest 1 RX5 (some .int) x := F
  unfold fX5_latest at h
  show J p l e _ s m _ below meth c x N (rho u0 v0) 1 0 0 _ 0 [(0, .ref (cz x + k0))] [] t a
  refine j_aload_n F 0 dX5_latest_0 rfl rfl ?_
  refine j_getI F clX5 (j := 1) (tt := (64 * k0 + 1)) (Tk_lt hk0 hN) (Tk_l hk0) (Nat.le_of_ble_eq_true rfl) rfl qf_X5_15 rfl dX5_latest_1 ?_
  refine j_if_le F 30 dX5_latest_4 rfl h (fun h => ?_) (fun h => ?_)
  · refine j_sipush F dX5_latest_30 cS_255 ?_
    exact j_ireturn F rfl dX5_latest_33 h
  · refine j_aload_n F 0 dX5_latest_7 rfl rfl ?_
    refine j_getI F clX5 (j := 1) (tt := (64 * k0 + 1)) (Tk_lt hk0 hN) (Tk_l hk0) (Nat.le_of_ble_eq_true rfl) rfl qf_X5_15 rfl dX5_latest_8 ?_
    refine j_bipush F dX5_latest_11 cB_12 ?_
    refine j_icmp_gt F 30 dX5_latest_13 rfl h (fun h => ?_) (fun h => ?_)
    · refine j_sipush F dX5_latest_30 cS_255 ?_
      exact j_ireturn F rfl dX5_latest_33 h
    · refine j_aload_n F 0 dX5_latest_16 rfl rfl ?_
      refine j_getR F clX5 (j := 0) (Tk_lt hk0 hN) (Tk_l hk0) (Nat.le_of_ble_eq_true rfl) rfl qf_X5_9 (Tk_r0 hk0) dX5_latest_17 ?_
      refine j_aload_n F 0 dX5_latest_20 rfl rfl ?_
      refine j_getI F clX5 (j := 1) (tt := (64 * k0 + 1)) (Tk_lt hk0 hN) (Tk_l hk0) (Nat.le_of_ble_eq_true rfl) rfl qf_X5_15 rfl dX5_latest_21 ?_
      refine j_iconst F dX5_latest_24 cI_1 ?_
      refine j_isub F dX5_latest_25 ?_
      refine j_iald F (Tk_lt1 hk0 hN) (Tk_l1 hk0) dX5_latest_26 h (fun h => ?_)
      refine j_goto F 33 dX5_latest_27 rfl ?_
      exact j_ireturn F rfl dX5_latest_33 h
def gX5_meaningOfAnswers_6 (nF : Nat) (k0 : Nat) (r6 : Int32 → Int32 → sT → sA → Rs) (x1 x2 : Int32) (t : sT) (a : sA) : Rs := if (t (64 * k0 + 1)) ≤ x2 then (some (x1, t, a)) else (if (12 : Int32) ≤ x2 then (some (x1, t, a)) else (bnd x2 12 (cal (fX4_meaning nF (a (k0 + 1) x2.toNatClampNeg) t a) (fun v1 t1 a1 => r6 (x1 &&& v1) (x2 + (2 : Int32)) t1 a1))))
def gX5_meaningOfAnswers (nF : Nat) (k0 : Nat) : Nat → (Int32 → Int32 → sT → sA → Rs)
  | 0 => (fun _ _ _ _ => none)
  | n9 + 1 => (gX5_meaningOfAnswers_6 nF k0 (gX5_meaningOfAnswers nF k0 n9))
def fX5_meaningOfAnswers (nF : Nat) (k0 : Nat) (t : sT) (a : sA) : Rs := (gX5_meaningOfAnswers nF k0 nF) (255 : Int32) (1 : Int32) t a
set_option maxRecDepth 100000 in
set_option maxHeartbeats 4000000 in
theorem hX5_meaningOfAnswers {p : Program} {l : Launch} {e : Env} {s : State} {m : MethodId} {args : Array Value} {below : List Frame} {meth : Method} {c : Code} {x : Cx} {N : Nat} {u0 v0 : Option Nat} {nF : Nat} {k0 : Nat} (F : Fx p s m meth c cX5_meaningOfAnswers 3 RX5 (some .int) x) (hsz : s.heap.size = cz x + N) (hN : 653 ≤ N) (hk0 : isTk k0) {rv : Int32} {rt : sT} {ra : sA} : ∀ n9 : Nat, (∀ (x1 x2 : Int32) (t : sT) (a : sA), (gX5_meaningOfAnswers nF k0 n9) x1 x2 t a = some (rv, rt, ra) → J p l e (k2_rm 1 20) s m args below meth c x N (rho u0 v0) 3 0 0 (MQ below (PostI x N (rho u0 v0) rt ra rv) args s 0 0 (cA x)) 6 [(0, .ref (cz x + k0)), (1, .int x1), (2, .int x2)] [] t a) := by
  intro n9
  induction n9 with
  | zero => exact fun _ _ _ _ h => (by cases h)
  | succ n9 ih =>
    intro x1 x2 t a h
    have h : gX5_meaningOfAnswers_6 nF k0 (gX5_meaningOfAnswers nF k0 n9) x1 x2 t a = some (rv, rt, ra) := h
    unfold gX5_meaningOfAnswers_6 at h
    refine j_iload_n F 2 dX5_meaningOfAnswers_6 rfl rfl ?_
    refine j_aload_n F 0 dX5_meaningOfAnswers_7 rfl rfl ?_
    refine j_getI F clX5 (j := 1) (tt := (64 * k0 + 1)) (Tk_lt hk0 hN) (Tk_l hk0) (Nat.le_of_ble_eq_true rfl) rfl qf_X5_15 rfl dX5_meaningOfAnswers_8 ?_
    refine j_icmp_ge F 38 dX5_meaningOfAnswers_11 rfl h (fun h => ?_) (fun h => ?_)
    · refine j_iload_n F 1 dX5_meaningOfAnswers_38 rfl rfl ?_
      exact j_ireturn F rfl dX5_meaningOfAnswers_39 h
    · refine j_iload_n F 2 dX5_meaningOfAnswers_14 rfl rfl ?_
      refine j_bipush F dX5_meaningOfAnswers_15 cB_12 ?_
      refine j_icmp_ge F 38 dX5_meaningOfAnswers_17 rfl h (fun h => ?_) (fun h => ?_)
      · refine j_iload_n F 1 dX5_meaningOfAnswers_38 rfl rfl ?_
        exact j_ireturn F rfl dX5_meaningOfAnswers_39 h
      · refine j_iload_n F 1 dX5_meaningOfAnswers_20 rfl rfl ?_
        refine j_aload_n F 0 dX5_meaningOfAnswers_21 rfl rfl ?_
        refine j_getR F clX5 (j := 0) (Tk_lt hk0 hN) (Tk_l hk0) (Nat.le_of_ble_eq_true rfl) rfl qf_X5_9 (Tk_r0 hk0) dX5_meaningOfAnswers_22 ?_
        refine j_iload_n F 2 dX5_meaningOfAnswers_25 rfl rfl ?_
        refine j_iald F (Tk_lt1 hk0 hN) (Tk_l1 hk0) dX5_meaningOfAnswers_26 h (fun h => ?_)
        refine j_callSi F mwX4_meaning ql_X5_21 [.int (a (k0 + 1) x2.toNatClampNeg)] rfl ⟨rfl, rfl, Nat.le_of_ble_eq_true rfl, Nat.le_of_ble_eq_true rfl⟩ ⟨Nat.le_refl 0, Nat.le_refl 0⟩ rfl (Nat.le_of_ble_eq_true rfl) dX5_meaningOfAnswers_27 (fun _ _ _ h9 => kX4_meaning l hN  h9) h (fun v1 t1 a1 e1 h => ?_)
        refine j_iand F dX5_meaningOfAnswers_30 ?_
        refine j_istore_n F (lv' := [(1, .int (x1 &&& v1)), (0, .ref (cz x + k0)), (2, .int x2)]) dX5_meaningOfAnswers_31 rfl (Nat.le_of_ble_eq_true rfl) rfl ?_
        refine j_iinc F (v := x2 + (2 : Int32)) (lv' := [(2, .int (x2 + (2 : Int32))), (1, .int (x1 &&& v1)), (0, .ref (cz x + k0))]) dX5_meaningOfAnswers_32 2 rfl (congrArg (fun z => x2 + z) cI_2) (Nat.le_of_ble_eq_true rfl) rfl ?_
        refine j_goto F 6 dX5_meaningOfAnswers_35 rfl ?_
        exact j_lv [2, 1, 0] rfl (ih _ _ _ _ h)
set_option maxRecDepth 100000 in
set_option maxHeartbeats 4000000 in
theorem kX5_meaningOfAnswers (l : Launch) {x : Cx} {N : Nat} {u0 v0 : Option Nat} {nF : Nat} {k0 : Nat} {t : sT} {a : sA} {rv : Int32} {rt : sT} {ra : sA} (hN : 653 ≤ N) (hk0 : isTk k0) (h : fX5_meaningOfAnswers nF k0 t a = some (rv, rt, ra)) : Met l yX5_meaningOfAnswers [.code yX5_meaningOfAnswers cX5_meaningOfAnswers 3 (some .int)] (k2_rm 1 20) (Pre x N (rho u0 v0) t a [.ref (cz x + k0)]) (PostI x N (rho u0 v0) rt ra rv) 0 0 (cA x) := by
  refine j_entry (by decide) rfl (Nat.le_of_ble_eq_true rfl) ?_
  intro p e s m below meth c F hsz hnm
  have F : Fx p s m meth c cX5_meaningOfAnswers 3 RX5 (some .int) x := F
  unfold fX5_meaningOfAnswers at h
  show J p l e _ s m _ below meth c x N (rho u0 v0) 3 0 0 _ 0 [(0, .ref (cz x + k0))] [] t a
  refine j_sipush F dX5_meaningOfAnswers_0 cS_255 ?_
  refine j_istore_n F (lv' := [(1, .int (255 : Int32)), (0, .ref (cz x + k0))]) dX5_meaningOfAnswers_3 rfl (Nat.le_of_ble_eq_true rfl) rfl ?_
  refine j_iconst F dX5_meaningOfAnswers_4 cI_1 ?_
  refine j_istore_n F (lv' := [(2, .int (1 : Int32)), (1, .int (255 : Int32)), (0, .ref (cz x + k0))]) dX5_meaningOfAnswers_5 rfl (Nat.le_of_ble_eq_true rfl) rfl ?_
  exact j_lv [2, 1, 0] rfl ((hX5_meaningOfAnswers F hsz hN hk0 nF) _ _ _ _ h)
def fX6_addPerson (nF : Nat) (k0 : Nat) (x1 : Int32) (t : sT) (a : sA) : Rs := if (4 : Int32) ≤ (t (64 * k0 + 5)) then (zok (0 : Int32) (some ((0 : Int32), t, a))) else (if x1 < 0 then (zok (0 : Int32) (some ((0 : Int32), t, a))) else (if x1 < (5 : Int32) then (bnd (t (64 * k0 + 5)) 4 (zok (1 : Int32) (some ((1 : Int32), va_up t (64 * k0 + 5) ((t (64 * k0 + 5)) + (1 : Int32)), va_up a (k0 + 4) (upd (a (k0 + 4)) (t (64 * k0 + 5)).toNatClampNeg x1))))) else (zok (0 : Int32) (some ((0 : Int32), t, a)))))
set_option maxRecDepth 100000 in
set_option maxHeartbeats 4000000 in
theorem kX6_addPerson (l : Launch) {x : Cx} {N : Nat} {u0 v0 : Option Nat} {nF : Nat} {k0 : Nat} {x1 : Int32} {t : sT} {a : sA} {rv : Int32} {rt : sT} {ra : sA} (hN : 653 ≤ N) (hk0 : isTg k0) (h : fX6_addPerson nF k0 x1 t a = some (rv, rt, ra)) : Met l yX6_addPerson [.code yX6_addPerson cX6_addPerson 2 (some .boolean)] (k2_rm 0 0) (Pre x N (rho u0 v0) t a [.ref (cz x + k0), .int x1]) (PostI x N (rho u0 v0) rt ra rv) 0 0 (cA x) := by
  refine j_entry (by decide) rfl (Nat.le_of_ble_eq_true rfl) ?_
  intro p e s m below meth c F hsz hnm
  have F : Fx p s m meth c cX6_addPerson 2 RX6 (some .boolean) x := F
  unfold fX6_addPerson at h
  show J p l e _ s m _ below meth c x N (rho u0 v0) 2 0 0 _ 0 [(0, .ref (cz x + k0)), (1, .int x1)] [] t a
  refine j_aload_n F 0 dX6_addPerson_0 rfl rfl ?_
  refine j_getI F clX6 (j := 5) (tt := (64 * k0 + 5)) (Tg_lt hk0 hN) (Tg_l hk0) (Nat.le_of_ble_eq_true rfl) rfl qf_X6_34 rfl dX6_addPerson_1 ?_
  refine j_iconst F dX6_addPerson_4 cI_4 ?_
  refine j_icmp_ge F 17 dX6_addPerson_5 rfl h (fun h => ?_) (fun h => ?_)
  · refine j_iconst F dX6_addPerson_17 cI_0 ?_
    exact j_zreturn F rfl dX6_addPerson_18 h
  · refine j_iload_n F 1 dX6_addPerson_8 rfl rfl ?_
    refine j_if_lt F 17 dX6_addPerson_9 rfl h (fun h => ?_) (fun h => ?_)
    · refine j_iconst F dX6_addPerson_17 cI_0 ?_
      exact j_zreturn F rfl dX6_addPerson_18 h
    · refine j_iload_n F 1 dX6_addPerson_12 rfl rfl ?_
      refine j_iconst F dX6_addPerson_13 cI_5 ?_
      refine j_icmp_lt F 19 dX6_addPerson_14 rfl h (fun h => ?_) (fun h => ?_)
      · refine j_aload_n F 0 dX6_addPerson_19 rfl rfl ?_
        refine j_getR F clX6 (j := 3) (Tg_lt hk0 hN) (Tg_l hk0) (Nat.le_of_ble_eq_true rfl) rfl qf_X6_21 (Tg_r3 hk0) dX6_addPerson_20 ?_
        refine j_aload_n F 0 dX6_addPerson_23 rfl rfl ?_
        refine j_getI F clX6 (j := 5) (tt := (64 * k0 + 5)) (Tg_lt hk0 hN) (Tg_l hk0) (Nat.le_of_ble_eq_true rfl) rfl qf_X6_34 rfl dX6_addPerson_24 ?_
        refine j_iload_n F 1 dX6_addPerson_27 rfl rfl ?_
        refine j_iast F (Tg_lt4 hk0 hN) (Tg_l4 hk0) dX6_addPerson_28 h (fun h => ?_)
        refine j_aload_n F 0 dX6_addPerson_29 rfl rfl ?_
        refine j_dup F dX6_addPerson_30 rfl ?_
        refine j_getI F clX6 (j := 5) (tt := (64 * k0 + 5)) (Tg_lt hk0 hN) (Tg_l hk0) (Nat.le_of_ble_eq_true rfl) rfl qf_X6_34 rfl dX6_addPerson_31 ?_
        refine j_iconst F dX6_addPerson_34 cI_1 ?_
        refine j_iadd F dX6_addPerson_35 ?_
        refine j_putI F clX6 (j := 5) (tt := (64 * k0 + 5)) (Tg_lt hk0 hN) (Tg_l hk0) (Nat.le_of_ble_eq_true rfl) rfl qf_X6_34 rfl rfl rfl dX6_addPerson_36 ?_
        refine j_iconst F dX6_addPerson_39 cI_1 ?_
        exact j_zreturn F rfl dX6_addPerson_40 h
      · refine j_iconst F dX6_addPerson_17 cI_0 ?_
        exact j_zreturn F rfl dX6_addPerson_18 h
def fX6_addWord (nF : Nat) (k0 : Nat) (x1 : Int32) (x2 : Int32) (t : sT) (a : sA) : Rs := if (t (64 * k0 + 4)) < (8 : Int32) then (bnd (t (64 * k0 + 4)) 8 (bnd (t (64 * k0 + 4)) 8 (zok (1 : Int32) (some ((1 : Int32), va_up t (64 * k0 + 4) ((t (64 * k0 + 4)) + (1 : Int32)), va_up (va_up a (k0 + 1) (upd (a (k0 + 1)) (t (64 * k0 + 4)).toNatClampNeg x1)) (k0 + 2) (upd ((va_up a (k0 + 1) (upd (a (k0 + 1)) (t (64 * k0 + 4)).toNatClampNeg x1)) (k0 + 2)) (t (64 * k0 + 4)).toNatClampNeg x2)))))) else (zok (0 : Int32) (some ((0 : Int32), t, a)))
set_option maxRecDepth 100000 in
set_option maxHeartbeats 4000000 in
theorem kX6_addWord (l : Launch) {x : Cx} {N : Nat} {u0 v0 : Option Nat} {nF : Nat} {k0 : Nat} {x1 : Int32} {x2 : Int32} {t : sT} {a : sA} {rv : Int32} {rt : sT} {ra : sA} (hN : 653 ≤ N) (hk0 : isTg k0) (h : fX6_addWord nF k0 x1 x2 t a = some (rv, rt, ra)) : Met l yX6_addWord [.code yX6_addWord cX6_addWord 3 (some .boolean)] (k2_rm 0 0) (Pre x N (rho u0 v0) t a [.ref (cz x + k0), .int x1, .int x2]) (PostI x N (rho u0 v0) rt ra rv) 0 0 (cA x) := by
  refine j_entry (by decide) rfl (Nat.le_of_ble_eq_true rfl) ?_
  intro p e s m below meth c F hsz hnm
  have F : Fx p s m meth c cX6_addWord 3 RX6 (some .boolean) x := F
  unfold fX6_addWord at h
  show J p l e _ s m _ below meth c x N (rho u0 v0) 3 0 0 _ 0 [(0, .ref (cz x + k0)), (1, .int x1), (2, .int x2)] [] t a
  refine j_aload_n F 0 dX6_addWord_0 rfl rfl ?_
  refine j_getI F clX6 (j := 4) (tt := (64 * k0 + 4)) (Tg_lt hk0 hN) (Tg_l hk0) (Nat.le_of_ble_eq_true rfl) rfl qf_X6_30 rfl dX6_addWord_1 ?_
  refine j_bipush F dX6_addWord_4 cB_8 ?_
  refine j_icmp_lt F 11 dX6_addWord_6 rfl h (fun h => ?_) (fun h => ?_)
  · refine j_aload_n F 0 dX6_addWord_11 rfl rfl ?_
    refine j_getR F clX6 (j := 0) (Tg_lt hk0 hN) (Tg_l hk0) (Nat.le_of_ble_eq_true rfl) rfl qf_X6_9 (Tg_r0 hk0) dX6_addWord_12 ?_
    refine j_aload_n F 0 dX6_addWord_15 rfl rfl ?_
    refine j_getI F clX6 (j := 4) (tt := (64 * k0 + 4)) (Tg_lt hk0 hN) (Tg_l hk0) (Nat.le_of_ble_eq_true rfl) rfl qf_X6_30 rfl dX6_addWord_16 ?_
    refine j_iload_n F 1 dX6_addWord_19 rfl rfl ?_
    refine j_iast F (Tg_lt1 hk0 hN) (Tg_l1 hk0) dX6_addWord_20 h (fun h => ?_)
    refine j_aload_n F 0 dX6_addWord_21 rfl rfl ?_
    refine j_getR F clX6 (j := 1) (Tg_lt hk0 hN) (Tg_l hk0) (Nat.le_of_ble_eq_true rfl) rfl qf_X6_15 (Tg_r1 hk0) dX6_addWord_22 ?_
    refine j_aload_n F 0 dX6_addWord_25 rfl rfl ?_
    refine j_getI F clX6 (j := 4) (tt := (64 * k0 + 4)) (Tg_lt hk0 hN) (Tg_l hk0) (Nat.le_of_ble_eq_true rfl) rfl qf_X6_30 rfl dX6_addWord_26 ?_
    refine j_iload_n F 2 dX6_addWord_29 rfl rfl ?_
    refine j_iast F (Tg_lt2 hk0 hN) (Tg_l2 hk0) dX6_addWord_30 h (fun h => ?_)
    refine j_aload_n F 0 dX6_addWord_31 rfl rfl ?_
    refine j_dup F dX6_addWord_32 rfl ?_
    refine j_getI F clX6 (j := 4) (tt := (64 * k0 + 4)) (Tg_lt hk0 hN) (Tg_l hk0) (Nat.le_of_ble_eq_true rfl) rfl qf_X6_30 rfl dX6_addWord_33 ?_
    refine j_iconst F dX6_addWord_36 cI_1 ?_
    refine j_iadd F dX6_addWord_37 ?_
    refine j_putI F clX6 (j := 4) (tt := (64 * k0 + 4)) (Tg_lt hk0 hN) (Tg_l hk0) (Nat.le_of_ble_eq_true rfl) rfl qf_X6_30 rfl rfl rfl dX6_addWord_38 ?_
    refine j_iconst F dX6_addWord_41 cI_1 ?_
    exact j_zreturn F rfl dX6_addWord_42 h
  · refine j_iconst F dX6_addWord_9 cI_0 ?_
    exact j_zreturn F rfl dX6_addWord_10 h
def fX6_copyFrom (nF : Nat) (k0 : Nat) (k1 : Nat) (t : sT) (a : sA) : Rs := some (0, va_up (va_up (va_up (va_up t (64 * k0 + 4) (t (64 * k1 + 4))) (64 * k0 + 5) ((va_up t (64 * k0 + 4) (t (64 * k1 + 4))) (64 * k1 + 5))) (64 * k0 + 6) ((va_up (va_up t (64 * k0 + 4) (t (64 * k1 + 4))) (64 * k0 + 5) ((va_up t (64 * k0 + 4) (t (64 * k1 + 4))) (64 * k1 + 5))) (64 * k1 + 6))) (64 * k0 + 7) ((va_up (va_up (va_up t (64 * k0 + 4) (t (64 * k1 + 4))) (64 * k0 + 5) ((va_up t (64 * k0 + 4) (t (64 * k1 + 4))) (64 * k1 + 5))) (64 * k0 + 6) ((va_up (va_up t (64 * k0 + 4) (t (64 * k1 + 4))) (64 * k0 + 5) ((va_up t (64 * k0 + 4) (t (64 * k1 + 4))) (64 * k1 + 5))) (64 * k1 + 6))) (64 * k1 + 7)), va_up (va_up (va_up (va_up a (k0 + 1) (va_cpy (a (k1 + 1)) (a (k0 + 1)) 0 0 ((8 : Int32) : Int32).toNatClampNeg)) (k0 + 2) (va_cpy ((va_up a (k0 + 1) (va_cpy (a (k1 + 1)) (a (k0 + 1)) 0 0 ((8 : Int32) : Int32).toNatClampNeg)) (k1 + 2)) ((va_up a (k0 + 1) (va_cpy (a (k1 + 1)) (a (k0 + 1)) 0 0 ((8 : Int32) : Int32).toNatClampNeg)) (k0 + 2)) 0 0 ((8 : Int32) : Int32).toNatClampNeg)) (k0 + 3) (va_cpy ((va_up (va_up a (k0 + 1) (va_cpy (a (k1 + 1)) (a (k0 + 1)) 0 0 ((8 : Int32) : Int32).toNatClampNeg)) (k0 + 2) (va_cpy ((va_up a (k0 + 1) (va_cpy (a (k1 + 1)) (a (k0 + 1)) 0 0 ((8 : Int32) : Int32).toNatClampNeg)) (k1 + 2)) ((va_up a (k0 + 1) (va_cpy (a (k1 + 1)) (a (k0 + 1)) 0 0 ((8 : Int32) : Int32).toNatClampNeg)) (k0 + 2)) 0 0 ((8 : Int32) : Int32).toNatClampNeg)) (k1 + 3)) ((va_up (va_up a (k0 + 1) (va_cpy (a (k1 + 1)) (a (k0 + 1)) 0 0 ((8 : Int32) : Int32).toNatClampNeg)) (k0 + 2) (va_cpy ((va_up a (k0 + 1) (va_cpy (a (k1 + 1)) (a (k0 + 1)) 0 0 ((8 : Int32) : Int32).toNatClampNeg)) (k1 + 2)) ((va_up a (k0 + 1) (va_cpy (a (k1 + 1)) (a (k0 + 1)) 0 0 ((8 : Int32) : Int32).toNatClampNeg)) (k0 + 2)) 0 0 ((8 : Int32) : Int32).toNatClampNeg)) (k0 + 3)) 0 0 ((8 : Int32) : Int32).toNatClampNeg)) (k0 + 4) (va_cpy ((va_up (va_up (va_up a (k0 + 1) (va_cpy (a (k1 + 1)) (a (k0 + 1)) 0 0 ((8 : Int32) : Int32).toNatClampNeg)) (k0 + 2) (va_cpy ((va_up a (k0 + 1) (va_cpy (a (k1 + 1)) (a (k0 + 1)) 0 0 ((8 : Int32) : Int32).toNatClampNeg)) (k1 + 2)) ((va_up a (k0 + 1) (va_cpy (a (k1 + 1)) (a (k0 + 1)) 0 0 ((8 : Int32) : Int32).toNatClampNeg)) (k0 + 2)) 0 0 ((8 : Int32) : Int32).toNatClampNeg)) (k0 + 3) (va_cpy ((va_up (va_up a (k0 + 1) (va_cpy (a (k1 + 1)) (a (k0 + 1)) 0 0 ((8 : Int32) : Int32).toNatClampNeg)) (k0 + 2) (va_cpy ((va_up a (k0 + 1) (va_cpy (a (k1 + 1)) (a (k0 + 1)) 0 0 ((8 : Int32) : Int32).toNatClampNeg)) (k1 + 2)) ((va_up a (k0 + 1) (va_cpy (a (k1 + 1)) (a (k0 + 1)) 0 0 ((8 : Int32) : Int32).toNatClampNeg)) (k0 + 2)) 0 0 ((8 : Int32) : Int32).toNatClampNeg)) (k1 + 3)) ((va_up (va_up a (k0 + 1) (va_cpy (a (k1 + 1)) (a (k0 + 1)) 0 0 ((8 : Int32) : Int32).toNatClampNeg)) (k0 + 2) (va_cpy ((va_up a (k0 + 1) (va_cpy (a (k1 + 1)) (a (k0 + 1)) 0 0 ((8 : Int32) : Int32).toNatClampNeg)) (k1 + 2)) ((va_up a (k0 + 1) (va_cpy (a (k1 + 1)) (a (k0 + 1)) 0 0 ((8 : Int32) : Int32).toNatClampNeg)) (k0 + 2)) 0 0 ((8 : Int32) : Int32).toNatClampNeg)) (k0 + 3)) 0 0 ((8 : Int32) : Int32).toNatClampNeg)) (k1 + 4)) ((va_up (va_up (va_up a (k0 + 1) (va_cpy (a (k1 + 1)) (a (k0 + 1)) 0 0 ((8 : Int32) : Int32).toNatClampNeg)) (k0 + 2) (va_cpy ((va_up a (k0 + 1) (va_cpy (a (k1 + 1)) (a (k0 + 1)) 0 0 ((8 : Int32) : Int32).toNatClampNeg)) (k1 + 2)) ((va_up a (k0 + 1) (va_cpy (a (k1 + 1)) (a (k0 + 1)) 0 0 ((8 : Int32) : Int32).toNatClampNeg)) (k0 + 2)) 0 0 ((8 : Int32) : Int32).toNatClampNeg)) (k0 + 3) (va_cpy ((va_up (va_up a (k0 + 1) (va_cpy (a (k1 + 1)) (a (k0 + 1)) 0 0 ((8 : Int32) : Int32).toNatClampNeg)) (k0 + 2) (va_cpy ((va_up a (k0 + 1) (va_cpy (a (k1 + 1)) (a (k0 + 1)) 0 0 ((8 : Int32) : Int32).toNatClampNeg)) (k1 + 2)) ((va_up a (k0 + 1) (va_cpy (a (k1 + 1)) (a (k0 + 1)) 0 0 ((8 : Int32) : Int32).toNatClampNeg)) (k0 + 2)) 0 0 ((8 : Int32) : Int32).toNatClampNeg)) (k1 + 3)) ((va_up (va_up a (k0 + 1) (va_cpy (a (k1 + 1)) (a (k0 + 1)) 0 0 ((8 : Int32) : Int32).toNatClampNeg)) (k0 + 2) (va_cpy ((va_up a (k0 + 1) (va_cpy (a (k1 + 1)) (a (k0 + 1)) 0 0 ((8 : Int32) : Int32).toNatClampNeg)) (k1 + 2)) ((va_up a (k0 + 1) (va_cpy (a (k1 + 1)) (a (k0 + 1)) 0 0 ((8 : Int32) : Int32).toNatClampNeg)) (k0 + 2)) 0 0 ((8 : Int32) : Int32).toNatClampNeg)) (k0 + 3)) 0 0 ((8 : Int32) : Int32).toNatClampNeg)) (k0 + 4)) 0 0 ((4 : Int32) : Int32).toNatClampNeg))
set_option maxRecDepth 100000 in
set_option maxHeartbeats 4000000 in
theorem kX6_copyFrom (l : Launch) {x : Cx} {N : Nat} {u0 v0 : Option Nat} {nF : Nat} {k0 : Nat} {k1 : Nat} {t : sT} {a : sA} {rv : Int32} {rt : sT} {ra : sA} (hN : 653 ≤ N) (hk0 : isTg k0) (hk1 : isTg k1) (h : fX6_copyFrom nF k0 k1 t a = some (rv, rt, ra)) : Met l yX6_copyFrom [.code yX6_copyFrom cX6_copyFrom 2 none] (k2_rm 1 60) (Pre x N (rho u0 v0) t a [.ref (cz x + k0), .ref (cz x + k1)]) (PostV x N (rho u0 v0) rt ra) 0 0 (cA x) := by
  refine j_entry (by decide) rfl (Nat.le_of_ble_eq_true rfl) ?_
  intro p e s m below meth c F hsz hnm
  have F : Fx p s m meth c cX6_copyFrom 2 RX6 none x := F
  unfold fX6_copyFrom at h
  show J p l e _ s m _ below meth c x N (rho u0 v0) 2 0 0 _ 0 [(0, .ref (cz x + k0)), (1, .ref (cz x + k1))] [] t a
  refine j_aload_n F 1 dX6_copyFrom_0 rfl rfl ?_
  refine j_getR F clX6 (j := 0) (Tg_lt hk1 hN) (Tg_l hk1) (Nat.le_of_ble_eq_true rfl) rfl qf_X6_9 (Tg_r0 hk1) dX6_copyFrom_1 ?_
  refine j_iconst F dX6_copyFrom_4 cI_0 ?_
  refine j_aload_n F 0 dX6_copyFrom_5 rfl rfl ?_
  refine j_getR F clX6 (j := 0) (Tg_lt hk0 hN) (Tg_l hk0) (Nat.le_of_ble_eq_true rfl) rfl qf_X6_9 (Tg_r0 hk0) dX6_copyFrom_6 ?_
  refine j_iconst F dX6_copyFrom_9 cI_0 ?_
  refine j_bipush F dX6_copyFrom_10 cB_8 ?_
  refine j_copy F hsz (Tg_lt1 hk1 hN) (Tg_l1 hk1) (Tg_lt1 hk0 hN) (Tg_l1 hk0) ql_X6_24 (by decide) (by decide) (by decide) (Nat.le_of_ble_eq_true rfl) (Nat.le_of_ble_eq_true rfl) dX6_copyFrom_12 ?_
  refine j_aload_n F 1 dX6_copyFrom_15 rfl rfl ?_
  refine j_getR F clX6 (j := 1) (Tg_lt hk1 hN) (Tg_l hk1) (Nat.le_of_ble_eq_true rfl) rfl qf_X6_15 (Tg_r1 hk1) dX6_copyFrom_16 ?_
  refine j_iconst F dX6_copyFrom_19 cI_0 ?_
  refine j_aload_n F 0 dX6_copyFrom_20 rfl rfl ?_
  refine j_getR F clX6 (j := 1) (Tg_lt hk0 hN) (Tg_l hk0) (Nat.le_of_ble_eq_true rfl) rfl qf_X6_15 (Tg_r1 hk0) dX6_copyFrom_21 ?_
  refine j_iconst F dX6_copyFrom_24 cI_0 ?_
  refine j_bipush F dX6_copyFrom_25 cB_8 ?_
  refine j_copy F hsz (Tg_lt2 hk1 hN) (Tg_l2 hk1) (Tg_lt2 hk0 hN) (Tg_l2 hk0) ql_X6_24 (by decide) (by decide) (by decide) (Nat.le_of_ble_eq_true rfl) (Nat.le_of_ble_eq_true rfl) dX6_copyFrom_27 ?_
  refine j_aload_n F 1 dX6_copyFrom_30 rfl rfl ?_
  refine j_getR F clX6 (j := 2) (Tg_lt hk1 hN) (Tg_l hk1) (Nat.le_of_ble_eq_true rfl) rfl qf_X6_18 (Tg_r2 hk1) dX6_copyFrom_31 ?_
  refine j_iconst F dX6_copyFrom_34 cI_0 ?_
  refine j_aload_n F 0 dX6_copyFrom_35 rfl rfl ?_
  refine j_getR F clX6 (j := 2) (Tg_lt hk0 hN) (Tg_l hk0) (Nat.le_of_ble_eq_true rfl) rfl qf_X6_18 (Tg_r2 hk0) dX6_copyFrom_36 ?_
  refine j_iconst F dX6_copyFrom_39 cI_0 ?_
  refine j_bipush F dX6_copyFrom_40 cB_8 ?_
  refine j_copy F hsz (Tg_lt3 hk1 hN) (Tg_l3 hk1) (Tg_lt3 hk0 hN) (Tg_l3 hk0) ql_X6_24 (by decide) (by decide) (by decide) (Nat.le_of_ble_eq_true rfl) (Nat.le_of_ble_eq_true rfl) dX6_copyFrom_42 ?_
  refine j_aload_n F 1 dX6_copyFrom_45 rfl rfl ?_
  refine j_getR F clX6 (j := 3) (Tg_lt hk1 hN) (Tg_l hk1) (Nat.le_of_ble_eq_true rfl) rfl qf_X6_21 (Tg_r3 hk1) dX6_copyFrom_46 ?_
  refine j_iconst F dX6_copyFrom_49 cI_0 ?_
  refine j_aload_n F 0 dX6_copyFrom_50 rfl rfl ?_
  refine j_getR F clX6 (j := 3) (Tg_lt hk0 hN) (Tg_l hk0) (Nat.le_of_ble_eq_true rfl) rfl qf_X6_21 (Tg_r3 hk0) dX6_copyFrom_51 ?_
  refine j_iconst F dX6_copyFrom_54 cI_0 ?_
  refine j_iconst F dX6_copyFrom_55 cI_4 ?_
  refine j_copy F hsz (Tg_lt4 hk1 hN) (Tg_l4 hk1) (Tg_lt4 hk0 hN) (Tg_l4 hk0) ql_X6_24 (by decide) (by decide) (by decide) (Nat.le_of_ble_eq_true rfl) (Nat.le_of_ble_eq_true rfl) dX6_copyFrom_56 ?_
  refine j_aload_n F 0 dX6_copyFrom_59 rfl rfl ?_
  refine j_aload_n F 1 dX6_copyFrom_60 rfl rfl ?_
  refine j_getI F clX6 (j := 4) (tt := (64 * k1 + 4)) (Tg_lt hk1 hN) (Tg_l hk1) (Nat.le_of_ble_eq_true rfl) rfl qf_X6_30 rfl dX6_copyFrom_61 ?_
  refine j_putI F clX6 (j := 4) (tt := (64 * k0 + 4)) (Tg_lt hk0 hN) (Tg_l hk0) (Nat.le_of_ble_eq_true rfl) rfl qf_X6_30 rfl rfl rfl dX6_copyFrom_64 ?_
  refine j_aload_n F 0 dX6_copyFrom_67 rfl rfl ?_
  refine j_aload_n F 1 dX6_copyFrom_68 rfl rfl ?_
  refine j_getI F clX6 (j := 5) (tt := (64 * k1 + 5)) (Tg_lt hk1 hN) (Tg_l hk1) (Nat.le_of_ble_eq_true rfl) rfl qf_X6_34 rfl dX6_copyFrom_69 ?_
  refine j_putI F clX6 (j := 5) (tt := (64 * k0 + 5)) (Tg_lt hk0 hN) (Tg_l hk0) (Nat.le_of_ble_eq_true rfl) rfl qf_X6_34 rfl rfl rfl dX6_copyFrom_72 ?_
  refine j_aload_n F 0 dX6_copyFrom_75 rfl rfl ?_
  refine j_aload_n F 1 dX6_copyFrom_76 rfl rfl ?_
  refine j_getI F clX6 (j := 6) (tt := (64 * k1 + 6)) (Tg_lt hk1 hN) (Tg_l hk1) (Nat.le_of_ble_eq_true rfl) rfl qf_X6_37 rfl dX6_copyFrom_77 ?_
  refine j_putI F clX6 (j := 6) (tt := (64 * k0 + 6)) (Tg_lt hk0 hN) (Tg_l hk0) (Nat.le_of_ble_eq_true rfl) rfl qf_X6_37 rfl rfl rfl dX6_copyFrom_80 ?_
  refine j_aload_n F 0 dX6_copyFrom_83 rfl rfl ?_
  refine j_aload_n F 1 dX6_copyFrom_84 rfl rfl ?_
  refine j_getI F clX6 (j := 7) (tt := (64 * k1 + 7)) (Tg_lt hk1 hN) (Tg_l hk1) (Nat.le_of_ble_eq_true rfl) rfl qf_X6_40 rfl dX6_copyFrom_85 ?_
  refine j_putI F clX6 (j := 7) (tt := (64 * k0 + 7)) (Tg_lt hk0 hN) (Tg_l hk0) (Nat.le_of_ble_eq_true rfl) rfl qf_X6_40 rfl rfl rfl dX6_copyFrom_88 ?_
  exact j_vreturn F rfl dX6_copyFrom_91 h
