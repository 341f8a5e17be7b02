/-! 14.m5.lean.txt: functions and contracts, by program (wip/whole/gen.py) -/
def fX3_keyOf (nF : Nat) (x0 : Int32) (t : sT) (a : sA) : Rs := cal (fX4_length nF x0 t a) (fun v1 t1 a1 => cal (fX4_idles nF x0 t1 a1) (fun v2 t2 a2 => dvz (2 : Int32) (cal (fX4_meaning nF x0 t2 a2) (fun v3 t3 a3 => some ((((((if (3 : Int32) < v1 then (3 : Int32) else v1) * ((if (3 : Int32) < v1 then (3 : Int32) else v1) + (1 : Int32))) / (2 : Int32)) + (if (if (3 : Int32) < v1 then (3 : Int32) else v1) < v2 then if (3 : Int32) < v1 then (3 : Int32) else v1 else v2)) * (256 : Int32)) + v3, t3, a3)))))
set_option maxRecDepth 100000 in
set_option maxHeartbeats 4000000 in
theorem kX3_keyOf (l : Launch) {x : Cx} {N : Nat} {u0 v0 : Option Nat} {nF : Nat} {x0 : Int32} {t : sT} {a : sA} {rv : Int32} {rt : sT} {ra : sA} (hN : 653 ≤ N) (h : fX3_keyOf nF x0 t a = some (rv, rt, ra)) : Met l yX3_keyOf [.code yX3_keyOf cX3_keyOf 3 (some .int)] (k2_rm 1 20) (Pre x N (rho u0 v0) t a [.int x0]) (PostI x N (rho u0 v0) rt ra rv) 0 0 (cA x) := by
  refine j_entry (by decide) rfl (Nat.le_of_ble_eq_true rfl) ?_
  intro p e s m below meth c F hsz hnm
  have F : Fx p s m meth c cX3_keyOf 3 RX3 (some .int) x := F
  unfold fX3_keyOf at h
  show J p l e _ s m _ below meth c x N (rho u0 v0) 3 0 0 _ 0 [(0, .int x0)] [] t a
  refine j_iload_n F 0 dX3_keyOf_0 rfl rfl ?_
  refine j_callSi F mwX4_length ql_X3_151 [.int x0] rfl ⟨rfl, rfl, Nat.le_of_ble_eq_true rfl, Nat.le_of_ble_eq_true rfl⟩ ⟨Nat.le_refl 0, Nat.le_refl 0⟩ rfl (Nat.le_of_ble_eq_true rfl) dX3_keyOf_1 (fun _ _ _ h9 => kX4_length l hN  h9) h (fun v1 t1 a1 e1 h => ?_)
  refine j_iconst F dX3_keyOf_4 cI_3 ?_
  refine j_min F ql_X3_129 (Nat.le_of_ble_eq_true rfl) (Nat.le_of_ble_eq_true rfl) (Nat.le_refl 0) (Nat.le_refl 0) dX3_keyOf_5 ?_
  refine j_istore_n F (lv' := [(1, .int (if (3 : Int32) < v1 then (3 : Int32) else v1)), (0, .int x0)]) dX3_keyOf_8 rfl (Nat.le_of_ble_eq_true rfl) rfl ?_
  refine j_iload_n F 1 dX3_keyOf_9 rfl rfl ?_
  refine j_callSi F mwX4_idles ql_X3_154 [.int x0] rfl ⟨rfl, rfl, Nat.le_of_ble_eq_true rfl, Nat.le_of_ble_eq_true rfl⟩ ⟨Nat.le_refl 0, Nat.le_refl 0⟩ rfl (Nat.le_of_ble_eq_true rfl) dX3_keyOf_10 (fun _ _ _ h9 => kX4_idles l hN  h9) h (fun v2 t2 a2 e2 h => ?_)
  refine j_iload_n F 0 dX3_keyOf_13 rfl rfl ?_
  refine j_min F ql_X3_129 (Nat.le_of_ble_eq_true rfl) (Nat.le_of_ble_eq_true rfl) (Nat.le_refl 0) (Nat.le_refl 0) dX3_keyOf_14 ?_
  refine j_istore_n F (lv' := [(2, .int (if (if (3 : Int32) < v1 then (3 : Int32) else v1) < v2 then if (3 : Int32) < v1 then (3 : Int32) else v1 else v2)), (1, .int (if (3 : Int32) < v1 then (3 : Int32) else v1)), (0, .int x0)]) dX3_keyOf_17 rfl (Nat.le_of_ble_eq_true rfl) rfl ?_
  refine j_iload_n F 1 dX3_keyOf_18 rfl rfl ?_
  refine j_iload_n F 1 dX3_keyOf_19 rfl rfl ?_
  refine j_iconst F dX3_keyOf_20 cI_1 ?_
  refine j_iadd F dX3_keyOf_21 ?_
  refine j_imul F dX3_keyOf_22 ?_
  refine j_iconst F dX3_keyOf_23 cI_2 ?_
  refine j_idiv F dX3_keyOf_24 h (fun h => ?_)
  refine j_iload_n F 0 dX3_keyOf_25 rfl rfl ?_
  refine j_iadd F dX3_keyOf_26 ?_
  refine j_sipush F dX3_keyOf_27 cS_256 ?_
  refine j_imul F dX3_keyOf_30 ?_
  refine j_iload_n F 2 dX3_keyOf_31 rfl rfl ?_
  refine j_callSi F mwX4_meaning ql_X3_73 [.int x0] rfl ⟨rfl, rfl, Nat.le_of_ble_eq_true rfl, Nat.le_of_ble_eq_true rfl⟩ ⟨Nat.le_refl 0, Nat.le_refl 0⟩ rfl (Nat.le_of_ble_eq_true rfl) dX3_keyOf_32 (fun _ _ _ h9 => kX4_meaning l hN  h9) h (fun v3 t3 a3 e3 h => ?_)
  refine j_iadd F dX3_keyOf_35 ?_
  exact j_ireturn F rfl dX3_keyOf_36 h
def fX3_noteFirst (nF : Nat) (k0 : Nat) (x1 : Int32) (x2 : Int32) (t : sT) (a : sA) : Rs := cal (fX4_meaning nF x1 t a) (fun v1 t1 a1 => bnd v1 256 (if 0 ≤ (a1 (k0 + 8) v1.toNatClampNeg) then (some (0, t1, a1)) else (bnd v1 256 (some (0, t1, va_up a1 (k0 + 8) (upd (a1 (k0 + 8)) v1.toNatClampNeg x2))))))
set_option maxRecDepth 100000 in
set_option maxHeartbeats 4000000 in
theorem kX3_noteFirst (l : Launch) {x : Cx} {N : Nat} {u0 v0 : Option Nat} {nF : Nat} {k0 : Nat} {x1 : Int32} {x2 : Int32} {t : sT} {a : sA} {rv : Int32} {rt : sT} {ra : sA} (hN : 653 ≤ N) (hk0 : isSy k0) (h : fX3_noteFirst nF k0 x1 x2 t a = some (rv, rt, ra)) : Met l yX3_noteFirst [.code yX3_noteFirst cX3_noteFirst 4 none] (k2_rm 1 20) (Pre x N (rho u0 v0) t a [.ref (cz x + k0), .int x1, .int x2]) (PostV x N (rho u0 v0) rt ra) 0 0 (cA x) := by
  refine j_entry (by decide) rfl (Nat.le_of_ble_eq_true rfl) ?_
  intro p e s m below meth c F hsz hnm
  have F : Fx p s m meth c cX3_noteFirst 4 RX3 none x := F
  unfold fX3_noteFirst at h
  show J p l e _ s m _ below meth c x N (rho u0 v0) 4 0 0 _ 0 [(0, .ref (cz x + k0)), (1, .int x1), (2, .int x2)] [] t a
  refine j_iload_n F 1 dX3_noteFirst_0 rfl rfl ?_
  refine j_callSi F mwX4_meaning ql_X3_73 [.int x1] rfl ⟨rfl, rfl, Nat.le_of_ble_eq_true rfl, Nat.le_of_ble_eq_true rfl⟩ ⟨Nat.le_refl 0, Nat.le_refl 0⟩ rfl (Nat.le_of_ble_eq_true rfl) dX3_noteFirst_1 (fun _ _ _ h9 => kX4_meaning l hN  h9) h (fun v1 t1 a1 e1 h => ?_)
  refine j_istore_n F (lv' := [(3, .int v1), (0, .ref (cz x + k0)), (1, .int x1), (2, .int x2)]) dX3_noteFirst_4 rfl (Nat.le_of_ble_eq_true rfl) rfl ?_
  refine j_aload_n F 1 dX3_noteFirst_5 rfl rfl ?_
  refine j_getR F clX3 (j := 9) (Sy_lt hk0 hN) (Sy_l hk0) (Nat.le_of_ble_eq_true rfl) rfl qf_X3_33 (Sy_r9 hk0) dX3_noteFirst_6 ?_
  refine j_iload_n F 0 dX3_noteFirst_9 rfl rfl ?_
  refine j_iald F (Sy_lt8 hk0 hN) (Sy_l8 hk0) dX3_noteFirst_10 h (fun h => ?_)
  refine j_if_ge F 21 dX3_noteFirst_11 rfl h (fun h => ?_) (fun h => ?_)
  · exact j_vreturn F rfl dX3_noteFirst_21 h
  · refine j_aload_n F 1 dX3_noteFirst_14 rfl rfl ?_
    refine j_getR F clX3 (j := 9) (Sy_lt hk0 hN) (Sy_l hk0) (Nat.le_of_ble_eq_true rfl) rfl qf_X3_33 (Sy_r9 hk0) dX3_noteFirst_15 ?_
    refine j_iload_n F 0 dX3_noteFirst_18 rfl rfl ?_
    refine j_iload_n F 3 dX3_noteFirst_19 rfl rfl ?_
    refine j_iast F (Sy_lt8 hk0 hN) (Sy_l8 hk0) dX3_noteFirst_20 h (fun h => ?_)
    exact j_vreturn F rfl dX3_noteFirst_21 h
def fX3_putInGroup (nF : Nat) (k0 : Nat) (x1 : Int32) (t : sT) (a : sA) : Rs := bnd x1 585 (cal (fX3_keyOf nF (a (k0 + 1) x1.toNatClampNeg) t a) (fun v1 t1 a1 => bnd v1 2560 (if 0 ≤ ((a1 (k0 + 6) v1.toNatClampNeg) - (1 : Int32)) then (bnd ((a1 (k0 + 6) v1.toNatClampNeg) - (1 : Int32)) 585 (bnd ((a1 (k0 + 6) v1.toNatClampNeg) - (1 : Int32)) 585 (some (0, t1, va_up a1 (k0 + 4) (upd (a1 (k0 + 4)) ((a1 (k0 + 6) v1.toNatClampNeg) - (1 : Int32)).toNatClampNeg ((a1 (k0 + 4) ((a1 (k0 + 6) v1.toNatClampNeg) - (1 : Int32)).toNatClampNeg) + (1 : Int32))))))) else (bnd v1 2560 (bnd (t1 (64 * k0 + 14)) 585 (bnd (t1 (64 * k0 + 14)) 585 (bnd (t1 (64 * k0 + 14)) 585 (cal (fX4_meaning nF (a (k0 + 1) x1.toNatClampNeg) (va_up t1 (64 * k0 + 14) ((t1 (64 * k0 + 14)) + (1 : Int32))) (va_up (va_up (va_up (va_up a1 (k0 + 6) (upd (a1 (k0 + 6)) v1.toNatClampNeg ((va_up t1 (64 * k0 + 14) ((t1 (64 * k0 + 14)) + (1 : Int32))) (64 * k0 + 14)))) (k0 + 2) (upd ((va_up a1 (k0 + 6) (upd (a1 (k0 + 6)) v1.toNatClampNeg ((va_up t1 (64 * k0 + 14) ((t1 (64 * k0 + 14)) + (1 : Int32))) (64 * k0 + 14)))) (k0 + 2)) (t1 (64 * k0 + 14)).toNatClampNeg (a (k0 + 1) x1.toNatClampNeg))) (k0 + 3) (upd ((va_up (va_up a1 (k0 + 6) (upd (a1 (k0 + 6)) v1.toNatClampNeg ((va_up t1 (64 * k0 + 14) ((t1 (64 * k0 + 14)) + (1 : Int32))) (64 * k0 + 14)))) (k0 + 2) (upd ((va_up a1 (k0 + 6) (upd (a1 (k0 + 6)) v1.toNatClampNeg ((va_up t1 (64 * k0 + 14) ((t1 (64 * k0 + 14)) + (1 : Int32))) (64 * k0 + 14)))) (k0 + 2)) (t1 (64 * k0 + 14)).toNatClampNeg (a (k0 + 1) x1.toNatClampNeg))) (k0 + 3)) (t1 (64 * k0 + 14)).toNatClampNeg x1)) (k0 + 4) (upd ((va_up (va_up (va_up a1 (k0 + 6) (upd (a1 (k0 + 6)) v1.toNatClampNeg ((va_up t1 (64 * k0 + 14) ((t1 (64 * k0 + 14)) + (1 : Int32))) (64 * k0 + 14)))) (k0 + 2) (upd ((va_up a1 (k0 + 6) (upd (a1 (k0 + 6)) v1.toNatClampNeg ((va_up t1 (64 * k0 + 14) ((t1 (64 * k0 + 14)) + (1 : Int32))) (64 * k0 + 14)))) (k0 + 2)) (t1 (64 * k0 + 14)).toNatClampNeg (a (k0 + 1) x1.toNatClampNeg))) (k0 + 3) (upd ((va_up (va_up a1 (k0 + 6) (upd (a1 (k0 + 6)) v1.toNatClampNeg ((va_up t1 (64 * k0 + 14) ((t1 (64 * k0 + 14)) + (1 : Int32))) (64 * k0 + 14)))) (k0 + 2) (upd ((va_up a1 (k0 + 6) (upd (a1 (k0 + 6)) v1.toNatClampNeg ((va_up t1 (64 * k0 + 14) ((t1 (64 * k0 + 14)) + (1 : Int32))) (64 * k0 + 14)))) (k0 + 2)) (t1 (64 * k0 + 14)).toNatClampNeg (a (k0 + 1) x1.toNatClampNeg))) (k0 + 3)) (t1 (64 * k0 + 14)).toNatClampNeg x1)) (k0 + 4)) (t1 (64 * k0 + 14)).toNatClampNeg (0 : Int32)))) (fun v2 t2 a2 => cal (fX6_weightOf nF 3 v2 t2 a2) (fun v3 t3 a3 => bnd (t1 (64 * k0 + 14)) 585 (bnd (t1 (64 * k0 + 14)) 585 (bnd (t1 (64 * k0 + 14)) 585 (some (0, t3, va_up (va_up a3 (k0 + 5) (upd (a3 (k0 + 5)) (t1 (64 * k0 + 14)).toNatClampNeg v3)) (k0 + 4) (upd ((va_up a3 (k0 + 5) (upd (a3 (k0 + 5)) (t1 (64 * k0 + 14)).toNatClampNeg v3)) (k0 + 4)) (t1 (64 * k0 + 14)).toNatClampNeg (((va_up a3 (k0 + 5) (upd (a3 (k0 + 5)) (t1 (64 * k0 + 14)).toNatClampNeg v3)) (k0 + 4) (t1 (64 * k0 + 14)).toNatClampNeg) + (1 : Int32)))))))))))))))))
set_option maxRecDepth 100000 in
set_option maxHeartbeats 4000000 in
theorem kX3_putInGroup (l : Launch) {x : Cx} {N : Nat} {u0 v0 : Option Nat} {nF : Nat} {k0 : Nat} {x1 : Int32} {t : sT} {a : sA} {rv : Int32} {rt : sT} {ra : sA} (hN : 653 ≤ N) (hk0 : isSy k0) (h : fX3_putInGroup nF k0 x1 t a = some (rv, rt, ra)) : Met l yX3_putInGroup [.code yX3_putInGroup cX3_putInGroup 5 none] (k2_rm 2 42) (Pre x N (rho u0 v0) t a [.ref (cz x + k0), .int x1]) (PostV x N (rho u0 v0) rt ra) 0 0 (cA x) := by
  refine j_entry (by decide) rfl (Nat.le_of_ble_eq_true rfl) ?_
  intro p e s m below meth c F hsz hnm
  have F : Fx p s m meth c cX3_putInGroup 5 RX3 none x := F
  unfold fX3_putInGroup at h
  show J p l e _ s m _ below meth c x N (rho u0 v0) 5 0 0 _ 0 [(0, .ref (cz x + k0)), (1, .int x1)] [] t a
  refine j_aload_n F 0 dX3_putInGroup_0 rfl rfl ?_
  refine j_getR F clX3 (j := 2) (Sy_lt hk0 hN) (Sy_l hk0) (Nat.le_of_ble_eq_true rfl) rfl qf_X3_11 (Sy_r2 hk0) dX3_putInGroup_1 ?_
  refine j_iload_n F 1 dX3_putInGroup_4 rfl rfl ?_
  refine j_iald F (Sy_lt1 hk0 hN) (Sy_l1 hk0) dX3_putInGroup_5 h (fun h => ?_)
  refine j_istore_n F (lv' := [(2, .int (a (k0 + 1) x1.toNatClampNeg)), (0, .ref (cz x + k0)), (1, .int x1)]) dX3_putInGroup_6 rfl (Nat.le_of_ble_eq_true rfl) rfl ?_
  refine j_iload_n F 0 dX3_putInGroup_7 rfl rfl ?_
  refine j_callSi F mwX3_keyOf ql_X3_148 [.int (a (k0 + 1) x1.toNatClampNeg)] rfl ⟨rfl, rfl, Nat.le_of_ble_eq_true rfl, Nat.le_of_ble_eq_true rfl⟩ ⟨Nat.le_refl 0, Nat.le_refl 0⟩ rfl (Nat.le_of_ble_eq_true rfl) dX3_putInGroup_8 (fun _ _ _ h9 => kX3_keyOf l hN  h9) h (fun v1 t1 a1 e1 h => ?_)
  refine j_istore_n F (lv' := [(3, .int v1), (2, .int (a (k0 + 1) x1.toNatClampNeg)), (0, .ref (cz x + k0)), (1, .int x1)]) dX3_putInGroup_11 rfl (Nat.le_of_ble_eq_true rfl) rfl ?_
  refine j_aload_n F 2 dX3_putInGroup_12 rfl rfl ?_
  refine j_getR F clX3 (j := 7) (Sy_lt hk0 hN) (Sy_l hk0) (Nat.le_of_ble_eq_true rfl) rfl qf_X3_27 (Sy_r7 hk0) dX3_putInGroup_13 ?_
  refine j_iload_n F 0 dX3_putInGroup_16 rfl rfl ?_
  refine j_iald F (Sy_lt6 hk0 hN) (Sy_l6 hk0) dX3_putInGroup_17 h (fun h => ?_)
  refine j_iconst F dX3_putInGroup_18 cI_1 ?_
  refine j_isub F dX3_putInGroup_19 ?_
  refine j_istore F (k := 0) (lv' := [(4, .int ((a1 (k0 + 6) v1.toNatClampNeg) - (1 : Int32))), (3, .int v1), (2, .int (a (k0 + 1) x1.toNatClampNeg)), (0, .ref (cz x + k0)), (1, .int x1)]) dX3_putInGroup_20 (Nat.le_of_ble_eq_true rfl) rfl ?_
  refine j_iload F 0 dX3_putInGroup_22 rfl ?_
  refine j_if_ge F 95 dX3_putInGroup_24 rfl h (fun h => ?_) (fun h => ?_)
  · refine j_aload_n F 3 dX3_putInGroup_95 rfl rfl ?_
    refine j_getR F clX3 (j := 5) (Sy_lt hk0 hN) (Sy_l hk0) (Nat.le_of_ble_eq_true rfl) rfl qf_X3_21 (Sy_r5 hk0) dX3_putInGroup_96 ?_
    refine j_iload F 0 dX3_putInGroup_99 rfl ?_
    refine j_dup2 F dX3_putInGroup_101 rfl rfl ?_
    refine j_iald F (Sy_lt4 hk0 hN) (Sy_l4 hk0) dX3_putInGroup_102 h (fun h => ?_)
    refine j_iconst F dX3_putInGroup_103 cI_1 ?_
    refine j_iadd F dX3_putInGroup_104 ?_
    refine j_iast F (Sy_lt4 hk0 hN) (Sy_l4 hk0) dX3_putInGroup_105 h (fun h => ?_)
    exact j_vreturn F rfl dX3_putInGroup_106 h
  · refine j_aload_n F 3 dX3_putInGroup_27 rfl rfl ?_
    refine j_getI F clX3 (j := 14) (tt := (64 * k0 + 14)) (Sy_lt hk0 hN) (Sy_l hk0) (Nat.le_of_ble_eq_true rfl) rfl qf_X3_92 rfl dX3_putInGroup_28 ?_
    refine j_istore F (k := 0) (lv' := [(4, .int (t1 (64 * k0 + 14))), (3, .int v1), (2, .int (a (k0 + 1) x1.toNatClampNeg)), (0, .ref (cz x + k0)), (1, .int x1)]) dX3_putInGroup_31 (Nat.le_of_ble_eq_true rfl) rfl ?_
    refine j_aload_n F 3 dX3_putInGroup_33 rfl rfl ?_
    refine j_dup F dX3_putInGroup_34 rfl ?_
    refine j_getI F clX3 (j := 14) (tt := (64 * k0 + 14)) (Sy_lt hk0 hN) (Sy_l hk0) (Nat.le_of_ble_eq_true rfl) rfl qf_X3_92 rfl dX3_putInGroup_35 ?_
    refine j_iconst F dX3_putInGroup_38 cI_1 ?_
    refine j_iadd F dX3_putInGroup_39 ?_
    refine j_putI F clX3 (j := 14) (tt := (64 * k0 + 14)) (Sy_lt hk0 hN) (Sy_l hk0) (Nat.le_of_ble_eq_true rfl) rfl qf_X3_92 rfl rfl rfl dX3_putInGroup_40 ?_
    refine j_aload_n F 3 dX3_putInGroup_43 rfl rfl ?_
    refine j_getR F clX3 (j := 7) (Sy_lt hk0 hN) (Sy_l hk0) (Nat.le_of_ble_eq_true rfl) rfl qf_X3_27 (Sy_r7 hk0) dX3_putInGroup_44 ?_
    refine j_iload_n F 1 dX3_putInGroup_47 rfl rfl ?_
    refine j_aload_n F 3 dX3_putInGroup_48 rfl rfl ?_
    refine j_getI F clX3 (j := 14) (tt := (64 * k0 + 14)) (Sy_lt hk0 hN) (Sy_l hk0) (Nat.le_of_ble_eq_true rfl) rfl qf_X3_92 rfl dX3_putInGroup_49 ?_
    refine j_iast F (Sy_lt6 hk0 hN) (Sy_l6 hk0) dX3_putInGroup_52 h (fun h => ?_)
    refine j_aload_n F 3 dX3_putInGroup_53 rfl rfl ?_
    refine j_getR F clX3 (j := 3) (Sy_lt hk0 hN) (Sy_l hk0) (Nat.le_of_ble_eq_true rfl) rfl qf_X3_15 (Sy_r3 hk0) dX3_putInGroup_54 ?_
    refine j_iload F 0 dX3_putInGroup_57 rfl ?_
    refine j_iload_n F 2 dX3_putInGroup_59 rfl rfl ?_
    refine j_iast F (Sy_lt2 hk0 hN) (Sy_l2 hk0) dX3_putInGroup_60 h (fun h => ?_)
    refine j_aload_n F 3 dX3_putInGroup_61 rfl rfl ?_
    refine j_getR F clX3 (j := 4) (Sy_lt hk0 hN) (Sy_l hk0) (Nat.le_of_ble_eq_true rfl) rfl qf_X3_18 (Sy_r4 hk0) dX3_putInGroup_62 ?_
    refine j_iload F 0 dX3_putInGroup_65 rfl ?_
    refine j_iload_n F 4 dX3_putInGroup_67 rfl rfl ?_
    refine j_iast F (Sy_lt3 hk0 hN) (Sy_l3 hk0) dX3_putInGroup_68 h (fun h => ?_)
    refine j_aload_n F 3 dX3_putInGroup_69 rfl rfl ?_
    refine j_getR F clX3 (j := 5) (Sy_lt hk0 hN) (Sy_l hk0) (Nat.le_of_ble_eq_true rfl) rfl qf_X3_21 (Sy_r5 hk0) dX3_putInGroup_70 ?_
    refine j_iload F 0 dX3_putInGroup_73 rfl ?_
    refine j_iconst F dX3_putInGroup_75 cI_0 ?_
    refine j_iast F (Sy_lt4 hk0 hN) (Sy_l4 hk0) dX3_putInGroup_76 h (fun h => ?_)
    refine j_aload_n F 3 dX3_putInGroup_77 rfl rfl ?_
    refine j_getR F clX3 (j := 6) (Sy_lt hk0 hN) (Sy_l hk0) (Nat.le_of_ble_eq_true rfl) rfl qf_X3_24 (Sy_r6 hk0) dX3_putInGroup_78 ?_
    refine j_iload F 0 dX3_putInGroup_81 rfl ?_
    refine j_aload_n F 3 dX3_putInGroup_83 rfl rfl ?_
    refine j_getR F clX3 (j := 0) (Sy_lt hk0 hN) (Sy_l hk0) (Nat.le_of_ble_eq_true rfl) rfl qf_X3_42 (Sy_r0 hk0) dX3_putInGroup_84 ?_
    refine j_iload_n F 2 dX3_putInGroup_87 rfl rfl ?_
    refine j_callSi F mwX4_meaning ql_X3_73 [.int (a (k0 + 1) x1.toNatClampNeg)] rfl ⟨rfl, rfl, Nat.le_of_ble_eq_true rfl, Nat.le_of_ble_eq_true rfl⟩ ⟨Nat.le_refl 0, Nat.le_refl 0⟩ rfl (Nat.le_of_ble_eq_true rfl) dX3_putInGroup_88 (fun _ _ _ h9 => kX4_meaning l hN  h9) h (fun v2 t2 a2 e2 h => ?_)
    refine j_callVi F mwX6_weightOf ql_X3_83 clX6 (lt653 rfl hN) ly3 [.int v2] rfl ⟨rfl, rfl, Nat.le_of_ble_eq_true rfl, Nat.le_of_ble_eq_true rfl⟩ ⟨Nat.le_refl 0, Nat.le_refl 0⟩ rfl (Nat.le_of_ble_eq_true rfl) dX3_putInGroup_91 (fun _ _ _ h9 => kX6_weightOf l hN tg3 h9) h (fun v3 t3 a3 e3 h => ?_)
    refine j_iast F (Sy_lt5 hk0 hN) (Sy_l5 hk0) dX3_putInGroup_94 h (fun h => ?_)
    refine j_aload_n F 3 dX3_putInGroup_95 rfl rfl ?_
    refine j_getR F clX3 (j := 5) (Sy_lt hk0 hN) (Sy_l hk0) (Nat.le_of_ble_eq_true rfl) rfl qf_X3_21 (Sy_r5 hk0) dX3_putInGroup_96 ?_
    refine j_iload F 0 dX3_putInGroup_99 rfl ?_
    refine j_dup2 F dX3_putInGroup_101 rfl rfl ?_
    refine j_iald F (Sy_lt4 hk0 hN) (Sy_l4 hk0) dX3_putInGroup_102 h (fun h => ?_)
    refine j_iconst F dX3_putInGroup_103 cI_1 ?_
    refine j_iadd F dX3_putInGroup_104 ?_
    refine j_iast F (Sy_lt4 hk0 hN) (Sy_l4 hk0) dX3_putInGroup_105 h (fun h => ?_)
    exact j_vreturn F rfl dX3_putInGroup_106 h
def fX4_grown (nF : Nat) (x0 : Int32) (x1 : Int32) (x2 : Int32) (t : sT) (a : sA) : Rs := if x1 = (1 : Int32) then (some ((x0 + (16384 : Int32)) ^^^ (256 : Int32), t, a)) else (if x1 = (2 : Int32) then (if ((x0 + (16384 : Int32)) &&& (1024 : Int32)) = 0 then (some (x0 + (16384 : Int32), t, a)) else (some ((x0 + (16384 : Int32)) ||| (512 : Int32), t, a))) else (if x1 = (3 : Int32) then (some ((x0 + (16384 : Int32)) + (2048 : Int32), t, a)) else (cal (fX4_withTelling nF (x0 + (16384 : Int32)) x2 t a) (fun v2 t2 a2 => some (v2, t2, a2)))))
set_option maxRecDepth 100000 in
set_option maxHeartbeats 4000000 in
theorem kX4_grown (l : Launch) {x : Cx} {N : Nat} {u0 v0 : Option Nat} {nF : Nat} {x0 : Int32} {x1 : Int32} {x2 : Int32} {t : sT} {a : sA} {rv : Int32} {rt : sT} {ra : sA} (hN : 653 ≤ N) (h : fX4_grown nF x0 x1 x2 t a = some (rv, rt, ra)) : Met l yX4_grown [.code yX4_grown cX4_grown 4 (some .int)] (k2_rm 1 24) (Pre x N (rho u0 v0) t a [.int x0, .int x1, .int x2]) (PostI x N (rho u0 v0) rt ra rv) 0 0 (cA x) := by
  refine j_entry (by decide) rfl (Nat.le_of_ble_eq_true rfl) ?_
  intro p e s m below meth c F hsz hnm
  have F : Fx p s m meth c cX4_grown 4 RX4 (some .int) x := F
  unfold fX4_grown at h
  show J p l e _ s m _ below meth c x N (rho u0 v0) 4 0 0 _ 0 [(0, .int x0), (1, .int x1), (2, .int x2)] [] t a
  refine j_iload_n F 0 dX4_grown_0 rfl rfl ?_
  refine j_sipush F dX4_grown_1 cS_16384 ?_
  refine j_iadd F dX4_grown_4 ?_
  refine j_istore_n F (lv' := [(3, .int (x0 + (16384 : Int32))), (0, .int x0), (1, .int x1), (2, .int x2)]) dX4_grown_5 rfl (Nat.le_of_ble_eq_true rfl) rfl ?_
  refine j_iload_n F 2 dX4_grown_6 rfl rfl ?_
  refine ifE h (fun e1_0 h => ?_) (fun e1_0 h => ?_)
  · refine j_tsI F 32 dX4_grown_7 e1_0 (by decide) (by decide) rfl rfl ?_
    refine j_iload_n F 0 dX4_grown_32 rfl rfl ?_
    refine j_sipush F dX4_grown_33 cS_256 ?_
    refine j_ixor F dX4_grown_36 ?_
    exact j_ireturn F rfl dX4_grown_37 h
  · refine ifE h (fun e1_1 h => ?_) (fun e1_1 h => ?_)
    · refine j_tsI F 38 dX4_grown_7 e1_1 (by decide) (by decide) rfl rfl ?_
      refine j_iload_n F 0 dX4_grown_38 rfl rfl ?_
      refine j_sipush F dX4_grown_39 cS_1024 ?_
      refine j_iand F dX4_grown_42 ?_
      refine j_if_ne F 50 dX4_grown_43 rfl h (fun h => ?_) (fun h => ?_)
      · refine j_iload_n F 0 dX4_grown_46 rfl rfl ?_
        refine j_goto F 55 dX4_grown_47 rfl ?_
        exact j_ireturn F rfl dX4_grown_55 h
      · refine j_iload_n F 0 dX4_grown_50 rfl rfl ?_
        refine j_sipush F dX4_grown_51 cS_512 ?_
        refine j_ior F dX4_grown_54 ?_
        exact j_ireturn F rfl dX4_grown_55 h
    · refine ifE h (fun e1_2 h => ?_) (fun e1_2 h => ?_)
      · refine j_tsI F 56 dX4_grown_7 e1_2 (by decide) (by decide) rfl rfl ?_
        refine j_iload_n F 0 dX4_grown_56 rfl rfl ?_
        refine j_sipush F dX4_grown_57 cS_2048 ?_
        refine j_iadd F dX4_grown_60 ?_
        exact j_ireturn F rfl dX4_grown_61 h
      · refine j_tsD F 62 dX4_grown_7 rfl (fun i hi => ?_) rfl ?_
        · have hi : i < 3 := hi
          have hi : i = 0 ∨ i = 1 ∨ i = 2 := by omega
          rcases hi with rfl | rfl | rfl
          · exact Or.inr (by have h9 := lv_neT (a := 1) e1_0 rfl; omega)
          · exact Or.inr (by have h9 := lv_neT (a := 2) e1_1 rfl; omega)
          · exact Or.inr (by have h9 := lv_neT (a := 3) e1_2 rfl; omega)
        refine j_iload_n F 0 dX4_grown_62 rfl rfl ?_
        refine j_iload_n F 3 dX4_grown_63 rfl rfl ?_
        refine j_callSi F mwX4_withTelling ql_X4_11 [.int (x0 + (16384 : Int32)), .int x2] rfl ⟨rfl, rfl, Nat.le_of_ble_eq_true rfl, Nat.le_of_ble_eq_true rfl⟩ ⟨Nat.le_refl 0, Nat.le_refl 0⟩ rfl (Nat.le_of_ble_eq_true rfl) dX4_grown_64 (fun _ _ _ h9 => kX4_withTelling l hN  h9) h (fun v2 t2 a2 e2 h => ?_)
        exact j_ireturn F rfl dX4_grown_67 h
def fX6_grown (nF : Nat) (k0 : Nat) (x1 : Int32) (x2 : Int32) (t : sT) (a : sA) : Rs := cal (fX6_hasWord nF k0 x2 t a) (fun v1 t1 a1 => if v1 = 0 then (cal (fX4_grown nF x1 (3 : Int32) (0 : Int32) t1 a1) (fun v2 t2 a2 => some (v2, t2, a2))) else (bnd x2 8 (bnd x2 8 (cal (fX4_grown nF x1 (a1 (k0 + 1) x2.toNatClampNeg) (a1 (k0 + 2) x2.toNatClampNeg) t1 a1) (fun v3 t3 a3 => some (v3, t3, a3))))))
set_option maxRecDepth 100000 in
set_option maxHeartbeats 4000000 in
theorem kX6_grown (l : Launch) {x : Cx} {N : Nat} {u0 v0 : Option Nat} {nF : Nat} {k0 : Nat} {x1 : Int32} {x2 : Int32} {t : sT} {a : sA} {rv : Int32} {rt : sT} {ra : sA} (hN : 653 ≤ N) (hk0 : isTg k0) (h : fX6_grown nF k0 x1 x2 t a = some (rv, rt, ra)) : Met l yX6_grown [.code yX6_grown cX6_grown 3 (some .int)] (k2_rm 2 47) (Pre x N (rho u0 v0) t a [.ref (cz x + k0), .int x1, .int x2]) (PostI x N (rho u0 v0) rt ra rv) 0 0 (cA x) := by
  refine j_entry (by decide) rfl (Nat.le_of_ble_eq_true rfl) ?_
  intro p e s m below meth c F hsz hnm
  have F : Fx p s m meth c cX6_grown 3 RX6 (some .int) x := F
  unfold fX6_grown at h
  show J p l e _ s m _ below meth c x N (rho u0 v0) 3 0 0 _ 0 [(0, .ref (cz x + k0)), (1, .int x1), (2, .int x2)] [] t a
  refine j_aload_n F 0 dX6_grown_0 rfl rfl ?_
  refine j_iload_n F 2 dX6_grown_1 rfl rfl ?_
  refine j_callVi F mwX6_hasWord ql_X6_50 clX6 (Tg_lt hk0 hN) (Tg_l hk0) [.int x2] rfl ⟨rfl, rfl, Nat.le_of_ble_eq_true rfl, Nat.le_of_ble_eq_true rfl⟩ ⟨Nat.le_refl 0, Nat.le_refl 0⟩ rfl (Nat.le_of_ble_eq_true rfl) dX6_grown_2 (fun _ _ _ h9 => kX6_hasWord l hN hk0 h9) h (fun v1 t1 a1 e1 h => ?_)
  refine j_if_eq F 27 dX6_grown_5 rfl h (fun h => ?_) (fun h => ?_)
  · refine j_iload_n F 1 dX6_grown_27 rfl rfl ?_
    refine j_iconst F dX6_grown_28 cI_3 ?_
    refine j_iconst F dX6_grown_29 cI_0 ?_
    refine j_callSi F mwX4_grown ql_X6_53 [.int x1, .int (3 : Int32), .int (0 : Int32)] rfl ⟨rfl, rfl, Nat.le_of_ble_eq_true rfl, Nat.le_of_ble_eq_true rfl⟩ ⟨Nat.le_refl 0, Nat.le_refl 0⟩ rfl (Nat.le_of_ble_eq_true rfl) dX6_grown_30 (fun _ _ _ h9 => kX4_grown l hN  h9) h (fun v2 t2 a2 e2 h => ?_)
    exact j_ireturn F rfl dX6_grown_33 h
  · refine j_iload_n F 1 dX6_grown_8 rfl rfl ?_
    refine j_aload_n F 0 dX6_grown_9 rfl rfl ?_
    refine j_getR F clX6 (j := 0) (Tg_lt hk0 hN) (Tg_l hk0) (Nat.le_of_ble_eq_true rfl) rfl qf_X6_9 (Tg_r0 hk0) dX6_grown_10 ?_
    refine j_iload_n F 2 dX6_grown_13 rfl rfl ?_
    refine j_iald F (Tg_lt1 hk0 hN) (Tg_l1 hk0) dX6_grown_14 h (fun h => ?_)
    refine j_aload_n F 0 dX6_grown_15 rfl rfl ?_
    refine j_getR F clX6 (j := 1) (Tg_lt hk0 hN) (Tg_l hk0) (Nat.le_of_ble_eq_true rfl) rfl qf_X6_15 (Tg_r1 hk0) dX6_grown_16 ?_
    refine j_iload_n F 2 dX6_grown_19 rfl rfl ?_
    refine j_iald F (Tg_lt2 hk0 hN) (Tg_l2 hk0) dX6_grown_20 h (fun h => ?_)
    refine j_callSi F mwX4_grown ql_X6_53 [.int x1, .int (a1 (k0 + 1) x2.toNatClampNeg), .int (a1 (k0 + 2) x2.toNatClampNeg)] rfl ⟨rfl, rfl, Nat.le_of_ble_eq_true rfl, Nat.le_of_ble_eq_true rfl⟩ ⟨Nat.le_refl 0, Nat.le_refl 0⟩ rfl (Nat.le_of_ble_eq_true rfl) dX6_grown_21 (fun _ _ _ h9 => kX4_grown l hN  h9) h (fun v3 t3 a3 e3 h => ?_)
    refine j_goto F 33 dX6_grown_24 rfl ?_
    exact j_ireturn F rfl dX6_grown_33 h
def fX6_setLaw (nF : Nat) (k0 : Nat) (x1 : Int32) (t : sT) (a : sA) : Rs := cal (fX7_isLaw nF x1 t a) (fun v1 t1 a1 => if v1 = 0 then (zok (0 : Int32) (some ((0 : Int32), t1, a1))) else (zok (1 : Int32) (some ((1 : Int32), va_up t1 (64 * k0 + 6) x1, a1))))
set_option maxRecDepth 100000 in
set_option maxHeartbeats 4000000 in
theorem kX6_setLaw (l : Launch) {x : Cx} {N : Nat} {u0 v0 : Option Nat} {nF : Nat} {k0 : Nat} {x1 : Int32} {t : sT} {a : sA} {rv : Int32} {rt : sT} {ra : sA} (hN : 653 ≤ N) (hk0 : isTg k0) (h : fX6_setLaw nF k0 x1 t a = some (rv, rt, ra)) : Met l yX6_setLaw [.code yX6_setLaw cX6_setLaw 2 (some .boolean)] (k2_rm 1 20) (Pre x N (rho u0 v0) t a [.ref (cz x + k0), .int x1]) (PostI x N (rho u0 v0) rt ra rv) 0 0 (cA x) := by
  refine j_entry (by decide) rfl (Nat.le_of_ble_eq_true rfl) ?_
  intro p e s m below meth c F hsz hnm
  have F : Fx p s m meth c cX6_setLaw 2 RX6 (some .boolean) x := F
  unfold fX6_setLaw at h
  show J p l e _ s m _ below meth c x N (rho u0 v0) 2 0 0 _ 0 [(0, .ref (cz x + k0)), (1, .int x1)] [] t a
  refine j_iload_n F 1 dX6_setLaw_0 rfl rfl ?_
  refine j_callNi F mwX7_isLaw qn_X6_47 [.int x1] rfl ⟨rfl, rfl, Nat.le_of_ble_eq_true rfl, Nat.le_of_ble_eq_true rfl⟩ ⟨Nat.le_refl 0, Nat.le_refl 0⟩ rfl (Nat.le_of_ble_eq_true rfl) dX6_setLaw_1 (fun _ _ _ h9 => kX7_isLaw l hN  h9) h (fun v1 t1 a1 e1 h => ?_)
  refine j_if_ne F 9 dX6_setLaw_4 rfl h (fun h => ?_) (fun h => ?_)
  · refine j_iconst F dX6_setLaw_7 cI_0 ?_
    exact j_zreturn F rfl dX6_setLaw_8 h
  · refine j_aload_n F 0 dX6_setLaw_9 rfl rfl ?_
    refine j_iload_n F 1 dX6_setLaw_10 rfl rfl ?_
    refine j_putI F clX6 (j := 6) (tt := (64 * k0 + 6)) (Tg_lt hk0 hN) (Tg_l hk0) (Nat.le_of_ble_eq_true rfl) rfl qf_X6_37 rfl rfl rfl dX6_setLaw_11 ?_
    refine j_iconst F dX6_setLaw_14 cI_1 ?_
    exact j_zreturn F rfl dX6_setLaw_15 h
def fX6_setWeight (nF : Nat) (k0 : Nat) (x1 : Int32) (x2 : Int32) (t : sT) (a : sA) : Rs := cal (fX7_isCase nF x1 t a) (fun v1 t1 a1 => if v1 = 0 then (zok (0 : Int32) (some ((0 : Int32), t1, a1))) else (bnd x1 8 (zok (1 : Int32) (some ((1 : Int32), t1, va_up a1 (k0 + 3) (upd (a1 (k0 + 3)) x1.toNatClampNeg x2))))))
set_option maxRecDepth 100000 in
set_option maxHeartbeats 4000000 in
theorem kX6_setWeight (l : Launch) {x : Cx} {N : Nat} {u0 v0 : Option Nat} {nF : Nat} {k0 : Nat} {x1 : Int32} {x2 : Int32} {t : sT} {a : sA} {rv : Int32} {rt : sT} {ra : sA} (hN : 653 ≤ N) (hk0 : isTg k0) (h : fX6_setWeight nF k0 x1 x2 t a = some (rv, rt, ra)) : Met l yX6_setWeight [.code yX6_setWeight cX6_setWeight 3 (some .boolean)] (k2_rm 1 20) (Pre x N (rho u0 v0) t a [.ref (cz x + k0), .int x1, .int x2]) (PostI x N (rho u0 v0) rt ra rv) 0 0 (cA x) := by
  refine j_entry (by decide) rfl (Nat.le_of_ble_eq_true rfl) ?_
  intro p e s m below meth c F hsz hnm
  have F : Fx p s m meth c cX6_setWeight 3 RX6 (some .boolean) x := F
  unfold fX6_setWeight at h
  show J p l e _ s m _ below meth c x N (rho u0 v0) 3 0 0 _ 0 [(0, .ref (cz x + k0)), (1, .int x1), (2, .int x2)] [] t a
  refine j_iload_n F 1 dX6_setWeight_0 rfl rfl ?_
  refine j_callNi F mwX7_isCase qn_X6_43 [.int x1] rfl ⟨rfl, rfl, Nat.le_of_ble_eq_true rfl, Nat.le_of_ble_eq_true rfl⟩ ⟨Nat.le_refl 0, Nat.le_refl 0⟩ rfl (Nat.le_of_ble_eq_true rfl) dX6_setWeight_1 (fun _ _ _ h9 => kX7_isCase l hN  h9) h (fun v1 t1 a1 e1 h => ?_)
  refine j_if_ne F 9 dX6_setWeight_4 rfl h (fun h => ?_) (fun h => ?_)
  · refine j_iconst F dX6_setWeight_7 cI_0 ?_
    exact j_zreturn F rfl dX6_setWeight_8 h
  · refine j_aload_n F 0 dX6_setWeight_9 rfl rfl ?_
    refine j_getR F clX6 (j := 2) (Tg_lt hk0 hN) (Tg_l hk0) (Nat.le_of_ble_eq_true rfl) rfl qf_X6_18 (Tg_r2 hk0) dX6_setWeight_10 ?_
    refine j_iload_n F 1 dX6_setWeight_13 rfl rfl ?_
    refine j_iload_n F 2 dX6_setWeight_14 rfl rfl ?_
    refine j_iast F (Tg_lt3 hk0 hN) (Tg_l3 hk0) dX6_setWeight_15 h (fun h => ?_)
    refine j_iconst F dX6_setWeight_16 cI_1 ?_
    exact j_zreturn F rfl dX6_setWeight_17 h
def fX7_addTo (nF : Nat) (k1 : Nat) (x2 : Int32) (t : sT) (a : sA) : Rs := cal (fX6_hasWord nF 3 x2 t a) (fun v1 t1 a1 => if v1 = 0 then (cal (fX7_refuse nF (-1 : Int32) t1 a1) (fun v4 t4 a4 => some (v4, t4, a4))) else (if (t1 (64 * k1 + 1)) < (6 : Int32) then (cal (fX2_add nF k1 x2 t1 a1) (fun v2 t2 a2 => some (t2 (64 * k1 + 1), t2, a2))) else (cal (fX7_refuse nF (-6 : Int32) t1 a1) (fun v3 t3 a3 => some (v3, t3, a3)))))
set_option maxRecDepth 100000 in
set_option maxHeartbeats 4000000 in
theorem kX7_addTo (l : Launch) {x : Cx} {N : Nat} {u0 v0 : Option Nat} {nF : Nat} {k1 : Nat} {x2 : Int32} {t : sT} {a : sA} {rv : Int32} {rt : sT} {ra : sA} (hN : 653 ≤ N) (hk1 : isRw k1) (h : fX7_addTo nF k1 x2 t a = some (rv, rt, ra)) : Met l yX7_addTo [.code yX7_addTo cX7_addTo 3 (some .int)] (k2_rm 1 21) (Pre x N (rho u0 v0) t a [.ref (cz x + 0), .ref (cz x + k1), .int x2]) (PostI x N (rho u0 v0) rt ra rv) 0 0 (cA x) := by
  refine j_entry (by decide) rfl (Nat.le_of_ble_eq_true rfl) ?_
  intro p e s m below meth c F hsz hnm
  have F : Fx p s m meth c cX7_addTo 3 RX7 (some .int) x := F
  unfold fX7_addTo at h
  show J p l e _ s m _ below meth c x N (rho u0 v0) 3 0 0 _ 0 [(0, .ref (cz x + 0)), (1, .ref (cz x + k1)), (2, .int x2)] [] t a
  refine j_aload_n F 0 dX7_addTo_0 rfl rfl ?_
  refine j_getR F clX7 (j := 1) (lt653 rfl hN) ly0 (Nat.le_of_ble_eq_true rfl) rfl qf_X7_19 rfl dX7_addTo_1 ?_
  refine j_iload_n F 2 dX7_addTo_4 rfl rfl ?_
  refine j_callVi F mwX6_hasWord ql_X7_93 clX6 (lt653 rfl hN) ly3 [.int x2] rfl ⟨rfl, rfl, Nat.le_of_ble_eq_true rfl, Nat.le_of_ble_eq_true rfl⟩ ⟨Nat.le_refl 0, Nat.le_refl 0⟩ rfl (Nat.le_of_ble_eq_true rfl) dX7_addTo_5 (fun _ _ _ h9 => kX6_hasWord l hN tg3 h9) h (fun v1 t1 a1 e1 h => ?_)
  refine j_if_ne F 17 dX7_addTo_8 rfl h (fun h => ?_) (fun h => ?_)
  · refine j_aload_n F 0 dX7_addTo_11 rfl rfl ?_
    refine j_iconst F dX7_addTo_12 cI_m1 ?_
    refine j_callVi F mwX7_refuse ql_X7_66 clX7 (lt653 rfl hN) ly0 [.int (-1 : Int32)] rfl ⟨rfl, rfl, Nat.le_of_ble_eq_true rfl, Nat.le_of_ble_eq_true rfl⟩ ⟨Nat.le_refl 0, Nat.le_refl 0⟩ rfl (Nat.le_of_ble_eq_true rfl) dX7_addTo_13 (fun _ _ _ h9 => kX7_refuse l hN  h9) h (fun v4 t4 a4 e4 h => ?_)
    exact j_ireturn F rfl dX7_addTo_16 h
  · refine j_aload_n F 1 dX7_addTo_17 rfl rfl ?_
    refine j_getI F clX2 (j := 1) (tt := (64 * k1 + 1)) (Rw_lt hk1 hN) (Rw_l hk1) (Nat.le_of_ble_eq_true rfl) rfl qf_X7_190 rfl dX7_addTo_18 ?_
    refine j_bipush F dX7_addTo_21 cB_6 ?_
    refine j_icmp_lt F 33 dX7_addTo_23 rfl h (fun h => ?_) (fun h => ?_)
    · refine j_aload_n F 1 dX7_addTo_33 rfl rfl ?_
      refine j_iload_n F 2 dX7_addTo_34 rfl rfl ?_
      refine j_callVv F mwX2_add ql_X7_249 clX2 (Rw_lt hk1 hN) (Rw_l hk1) [.int x2] rfl ⟨rfl, rfl, Nat.le_of_ble_eq_true rfl, Nat.le_of_ble_eq_true rfl⟩ ⟨Nat.le_refl 0, Nat.le_refl 0⟩ rfl (Nat.le_of_ble_eq_true rfl) dX7_addTo_35 (fun _ _ _ h9 => kX2_add l hN hk1 h9) h (fun v2 t2 a2 e2 h => ?_)
      refine j_aload_n F 1 dX7_addTo_38 rfl rfl ?_
      refine j_getI F clX2 (j := 1) (tt := (64 * k1 + 1)) (Rw_lt hk1 hN) (Rw_l hk1) (Nat.le_of_ble_eq_true rfl) rfl qf_X7_190 rfl dX7_addTo_39 ?_
      exact j_ireturn F rfl dX7_addTo_42 h
    · refine j_aload_n F 0 dX7_addTo_26 rfl rfl ?_
      refine j_bipush F dX7_addTo_27 cB_m6 ?_
      refine j_callVi F mwX7_refuse ql_X7_66 clX7 (lt653 rfl hN) ly0 [.int (-6 : Int32)] rfl ⟨rfl, rfl, Nat.le_of_ble_eq_true rfl, Nat.le_of_ble_eq_true rfl⟩ ⟨Nat.le_refl 0, Nat.le_refl 0⟩ rfl (Nat.le_of_ble_eq_true rfl) dX7_addTo_29 (fun _ _ _ h9 => kX7_refuse l hN  h9) h (fun v3 t3 a3 e3 h => ?_)
      exact j_ireturn F rfl dX7_addTo_32 h
def fX7_chance (nF : Nat) (x1 : Int32) (x2 : Int32) (t : sT) (a : sA) : Rs := cal (fX7_isCase nF x1 t a) (fun v1 t1 a1 => if v1 = 0 then (cal (fX7_refuse nF (-1 : Int32) t1 a1) (fun v11 t11 a11 => some (v11, t11, a11))) else (if x2 = 0 then (if (((t1 10) >>> (x1 &&& 31)) &&& (1 : Int32)) = 0 then (if (0 : Int32) = 0 then (some (x2, t1, a1)) else (cal (fX6_weightOf nF 3 (t1 10) t1 a1) (fun v4 t4 a4 => cal (fX7_commonDivisor nF v4 (0 : Int32) t4 a4) (fun v5 t5 a5 => if v5 = 0 then (some (x2, t5, a5)) else (if x2 = 0 then (dvz v5 (some ((0 : Int32) / v5, t5, a5))) else (dvz v5 (some (v4 / v5, t5, a5)))))))) else (bnd x1 8 (if (a1 6 x1.toNatClampNeg) = 0 then (some (x2, t1, a1)) else (cal (fX6_weightOf nF 3 (t1 10) t1 a1) (fun v2 t2 a2 => cal (fX7_commonDivisor nF v2 (a1 6 x1.toNatClampNeg) t2 a2) (fun v3 t3 a3 => if v3 = 0 then (some (x2, t3, a3)) else (if x2 = 0 then (dvz v3 (some ((a1 6 x1.toNatClampNeg) / v3, t3, a3))) else (dvz v3 (some (v2 / v3, t3, a3)))))))))) else (if x2 = (1 : Int32) then (if (((t1 10) >>> (x1 &&& 31)) &&& (1 : Int32)) = 0 then (if (0 : Int32) = 0 then (some (x2, t1, a1)) else (cal (fX6_weightOf nF 3 (t1 10) t1 a1) (fun v8 t8 a8 => cal (fX7_commonDivisor nF v8 (0 : Int32) t8 a8) (fun v9 t9 a9 => if v9 = 0 then (some (x2, t9, a9)) else (if x2 = 0 then (dvz v9 (some ((0 : Int32) / v9, t9, a9))) else (dvz v9 (some (v8 / v9, t9, a9)))))))) else (bnd x1 8 (if (a1 6 x1.toNatClampNeg) = 0 then (some (x2, t1, a1)) else (cal (fX6_weightOf nF 3 (t1 10) t1 a1) (fun v6 t6 a6 => cal (fX7_commonDivisor nF v6 (a1 6 x1.toNatClampNeg) t6 a6) (fun v7 t7 a7 => if v7 = 0 then (some (x2, t7, a7)) else (if x2 = 0 then (dvz v7 (some ((a1 6 x1.toNatClampNeg) / v7, t7, a7))) else (dvz v7 (some (v6 / v7, t7, a7)))))))))) else (cal (fX7_refuse nF (-2 : Int32) t1 a1) (fun v10 t10 a10 => some (v10, t10, a10))))))
set_option maxRecDepth 100000 in
set_option maxHeartbeats 4000000 in
theorem kX7_chance (l : Launch) {x : Cx} {N : Nat} {u0 v0 : Option Nat} {nF : Nat} {x1 : Int32} {x2 : Int32} {t : sT} {a : sA} {rv : Int32} {rt : sT} {ra : sA} (hN : 653 ≤ N) (h : fX7_chance nF x1 x2 t a = some (rv, rt, ra)) : Met l yX7_chance [.code yX7_chance cX7_chance 6 (some .int)] (k2_rm 1 25) (Pre x N (rho u0 v0) t a [.ref (cz x + 0), .int x1, .int x2]) (PostI x N (rho u0 v0) rt ra rv) 0 0 (cA x) := by
  refine j_entry (by decide) rfl (Nat.le_of_ble_eq_true rfl) ?_
  intro p e s m below meth c F hsz hnm
  have F : Fx p s m meth c cX7_chance 6 RX7 (some .int) x := F
  unfold fX7_chance at h
  show J p l e _ s m _ below meth c x N (rho u0 v0) 6 0 0 _ 0 [(0, .ref (cz x + 0)), (1, .int x1), (2, .int x2)] [] t a
  refine j_iload_n F 1 dX7_chance_0 rfl rfl ?_
  refine j_callSi F mwX7_isCase ql_X7_103 [.int x1] rfl ⟨rfl, rfl, Nat.le_of_ble_eq_true rfl, Nat.le_of_ble_eq_true rfl⟩ ⟨Nat.le_refl 0, Nat.le_refl 0⟩ rfl (Nat.le_of_ble_eq_true rfl) dX7_chance_1 (fun _ _ _ h9 => kX7_isCase l hN  h9) h (fun v1 t1 a1 e1 h => ?_)
  refine j_if_ne F 13 dX7_chance_4 rfl h (fun h => ?_) (fun h => ?_)
  · refine j_aload_n F 0 dX7_chance_7 rfl rfl ?_
    refine j_iconst F dX7_chance_8 cI_m1 ?_
    refine j_callVi F mwX7_refuse ql_X7_66 clX7 (lt653 rfl hN) ly0 [.int (-1 : Int32)] rfl ⟨rfl, rfl, Nat.le_of_ble_eq_true rfl, Nat.le_of_ble_eq_true rfl⟩ ⟨Nat.le_refl 0, Nat.le_refl 0⟩ rfl (Nat.le_of_ble_eq_true rfl) dX7_chance_9 (fun _ _ _ h9 => kX7_refuse l hN  h9) h (fun v11 t11 a11 e11 h => ?_)
    exact j_ireturn F rfl dX7_chance_12 h
  · refine j_iload_n F 2 dX7_chance_13 rfl rfl ?_
    refine j_if_eq F 29 dX7_chance_14 rfl h (fun h => ?_) (fun h => ?_)
    · refine j_aload_n F 0 dX7_chance_29 rfl rfl ?_
      refine j_getI F clX7 (j := 10) (tt := 10) (lt653 rfl hN) ly0 (Nat.le_of_ble_eq_true rfl) rfl qf_X7_194 rfl dX7_chance_30 ?_
      refine j_iload_n F 1 dX7_chance_33 rfl rfl ?_
      refine j_ishr F dX7_chance_34 ?_
      refine j_iconst F dX7_chance_35 cI_1 ?_
      refine j_iand F dX7_chance_36 ?_
      refine j_if_ne F 44 dX7_chance_37 rfl h (fun h => ?_) (fun h => ?_)
      · refine j_iconst F dX7_chance_40 cI_0 ?_
        refine j_goto F 53 dX7_chance_41 rfl ?_
        refine j_istore_n F (lv' := [(3, .int (0 : Int32)), (0, .ref (cz x + 0)), (1, .int x1), (2, .int x2)]) dX7_chance_53 rfl (Nat.le_of_ble_eq_true rfl) rfl ?_
        refine j_iload_n F 0 dX7_chance_54 rfl rfl ?_
        refine j_if_ne F 60 dX7_chance_55 rfl h (fun h => ?_) (fun h => ?_)
        · refine j_iload_n F 3 dX7_chance_58 rfl rfl ?_
          exact j_ireturn F rfl dX7_chance_59 h
        · refine j_aload_n F 1 dX7_chance_60 rfl rfl ?_
          refine j_getR F clX7 (j := 1) (lt653 rfl hN) ly0 (Nat.le_of_ble_eq_true rfl) rfl qf_X7_19 rfl dX7_chance_61 ?_
          refine j_aload_n F 1 dX7_chance_64 rfl rfl ?_
          refine j_getI F clX7 (j := 10) (tt := 10) (lt653 rfl hN) ly0 (Nat.le_of_ble_eq_true rfl) rfl qf_X7_194 rfl dX7_chance_65 ?_
          refine j_callVi F mwX6_weightOf ql_X7_197 clX6 (lt653 rfl hN) ly3 [.int (t1 10)] rfl ⟨rfl, rfl, Nat.le_of_ble_eq_true rfl, Nat.le_of_ble_eq_true rfl⟩ ⟨Nat.le_refl 0, Nat.le_refl 0⟩ rfl (Nat.le_of_ble_eq_true rfl) dX7_chance_68 (fun _ _ _ h9 => kX6_weightOf l hN tg3 h9) h (fun v4 t4 a4 e4 h => ?_)
          refine j_istore F (k := 0) (lv' := [(4, .int v4), (3, .int (0 : Int32)), (0, .ref (cz x + 0)), (1, .int x1), (2, .int x2)]) dX7_chance_71 (Nat.le_of_ble_eq_true rfl) rfl ?_
          refine j_iload F 0 dX7_chance_73 rfl ?_
          refine j_iload_n F 1 dX7_chance_75 rfl rfl ?_
          refine j_callSi F mwX7_commonDivisor ql_X7_200 [.int v4, .int (0 : Int32)] rfl ⟨rfl, rfl, Nat.le_of_ble_eq_true rfl, Nat.le_of_ble_eq_true rfl⟩ ⟨Nat.le_refl 0, Nat.le_refl 0⟩ rfl (Nat.le_of_ble_eq_true rfl) dX7_chance_76 (fun _ _ _ h9 => kX7_commonDivisor l hN  h9) h (fun v5 t5 a5 e5 h => ?_)
          refine j_istore F (k := 0) (lv' := [(5, .int v5), (4, .int v4), (3, .int (0 : Int32)), (0, .ref (cz x + 0)), (1, .int x1), (2, .int x2)]) dX7_chance_79 (Nat.le_of_ble_eq_true rfl) rfl ?_
          refine j_iload F 0 dX7_chance_81 rfl ?_
          refine j_if_ne F 88 dX7_chance_83 rfl h (fun h => ?_) (fun h => ?_)
          · refine j_iload_n F 5 dX7_chance_86 rfl rfl ?_
            exact j_ireturn F rfl dX7_chance_87 h
          · refine j_iload_n F 5 dX7_chance_88 rfl rfl ?_
            refine j_if_ne F 96 dX7_chance_89 rfl h (fun h => ?_) (fun h => ?_)
            · refine j_iload_n F 2 dX7_chance_92 rfl rfl ?_
              refine j_goto F 98 dX7_chance_93 rfl ?_
              refine j_iload F 0 dX7_chance_98 rfl ?_
              refine j_idiv F dX7_chance_100 h (fun h => ?_)
              exact j_ireturn F rfl dX7_chance_101 h
            · refine j_iload F 1 dX7_chance_96 rfl ?_
              refine j_iload F 0 dX7_chance_98 rfl ?_
              refine j_idiv F dX7_chance_100 h (fun h => ?_)
              exact j_ireturn F rfl dX7_chance_101 h
      · refine j_aload_n F 0 dX7_chance_44 rfl rfl ?_
        refine j_getR F clX7 (j := 1) (lt653 rfl hN) ly0 (Nat.le_of_ble_eq_true rfl) rfl qf_X7_19 rfl dX7_chance_45 ?_
        refine j_getR F clX6 (j := 2) (lt653 rfl hN) ly3 (Nat.le_of_ble_eq_true rfl) rfl qf_X7_106 rfl dX7_chance_48 ?_
        refine j_iload_n F 1 dX7_chance_51 rfl rfl ?_
        refine j_iald F (lt653 rfl hN) ly6 dX7_chance_52 h (fun h => ?_)
        refine j_istore_n F (lv' := [(3, .int (a1 6 x1.toNatClampNeg)), (0, .ref (cz x + 0)), (1, .int x1), (2, .int x2)]) dX7_chance_53 rfl (Nat.le_of_ble_eq_true rfl) rfl ?_
        refine j_iload_n F 0 dX7_chance_54 rfl rfl ?_
        refine j_if_ne F 60 dX7_chance_55 rfl h (fun h => ?_) (fun h => ?_)
        · refine j_iload_n F 3 dX7_chance_58 rfl rfl ?_
          exact j_ireturn F rfl dX7_chance_59 h
        · refine j_aload_n F 1 dX7_chance_60 rfl rfl ?_
          refine j_getR F clX7 (j := 1) (lt653 rfl hN) ly0 (Nat.le_of_ble_eq_true rfl) rfl qf_X7_19 rfl dX7_chance_61 ?_
          refine j_aload_n F 1 dX7_chance_64 rfl rfl ?_
          refine j_getI F clX7 (j := 10) (tt := 10) (lt653 rfl hN) ly0 (Nat.le_of_ble_eq_true rfl) rfl qf_X7_194 rfl dX7_chance_65 ?_
          refine j_callVi F mwX6_weightOf ql_X7_197 clX6 (lt653 rfl hN) ly3 [.int (t1 10)] rfl ⟨rfl, rfl, Nat.le_of_ble_eq_true rfl, Nat.le_of_ble_eq_true rfl⟩ ⟨Nat.le_refl 0, Nat.le_refl 0⟩ rfl (Nat.le_of_ble_eq_true rfl) dX7_chance_68 (fun _ _ _ h9 => kX6_weightOf l hN tg3 h9) h (fun v2 t2 a2 e2 h => ?_)
          refine j_istore F (k := 0) (lv' := [(4, .int v2), (3, .int (a1 6 x1.toNatClampNeg)), (0, .ref (cz x + 0)), (1, .int x1), (2, .int x2)]) dX7_chance_71 (Nat.le_of_ble_eq_true rfl) rfl ?_
          refine j_iload F 0 dX7_chance_73 rfl ?_
          refine j_iload_n F 1 dX7_chance_75 rfl rfl ?_
          refine j_callSi F mwX7_commonDivisor ql_X7_200 [.int v2, .int (a1 6 x1.toNatClampNeg)] rfl ⟨rfl, rfl, Nat.le_of_ble_eq_true rfl, Nat.le_of_ble_eq_true rfl⟩ ⟨Nat.le_refl 0, Nat.le_refl 0⟩ rfl (Nat.le_of_ble_eq_true rfl) dX7_chance_76 (fun _ _ _ h9 => kX7_commonDivisor l hN  h9) h (fun v3 t3 a3 e3 h => ?_)
          refine j_istore F (k := 0) (lv' := [(5, .int v3), (4, .int v2), (3, .int (a1 6 x1.toNatClampNeg)), (0, .ref (cz x + 0)), (1, .int x1), (2, .int x2)]) dX7_chance_79 (Nat.le_of_ble_eq_true rfl) rfl ?_
          refine j_iload F 0 dX7_chance_81 rfl ?_
          refine j_if_ne F 88 dX7_chance_83 rfl h (fun h => ?_) (fun h => ?_)
          · refine j_iload_n F 5 dX7_chance_86 rfl rfl ?_
            exact j_ireturn F rfl dX7_chance_87 h
          · refine j_iload_n F 5 dX7_chance_88 rfl rfl ?_
            refine j_if_ne F 96 dX7_chance_89 rfl h (fun h => ?_) (fun h => ?_)
            · refine j_iload_n F 2 dX7_chance_92 rfl rfl ?_
              refine j_goto F 98 dX7_chance_93 rfl ?_
              refine j_iload F 0 dX7_chance_98 rfl ?_
              refine j_idiv F dX7_chance_100 h (fun h => ?_)
              exact j_ireturn F rfl dX7_chance_101 h
            · refine j_iload F 1 dX7_chance_96 rfl ?_
              refine j_iload F 0 dX7_chance_98 rfl ?_
              refine j_idiv F dX7_chance_100 h (fun h => ?_)
              exact j_ireturn F rfl dX7_chance_101 h
    · refine j_iload_n F 2 dX7_chance_17 rfl rfl ?_
      refine j_iconst F dX7_chance_18 cI_1 ?_
      refine j_icmp_eq F 29 dX7_chance_19 rfl h (fun h => ?_) (fun h => ?_)
      · refine j_aload_n F 0 dX7_chance_29 rfl rfl ?_
        refine j_getI F clX7 (j := 10) (tt := 10) (lt653 rfl hN) ly0 (Nat.le_of_ble_eq_true rfl) rfl qf_X7_194 rfl dX7_chance_30 ?_
        refine j_iload_n F 1 dX7_chance_33 rfl rfl ?_
        refine j_ishr F dX7_chance_34 ?_
        refine j_iconst F dX7_chance_35 cI_1 ?_
        refine j_iand F dX7_chance_36 ?_
        refine j_if_ne F 44 dX7_chance_37 rfl h (fun h => ?_) (fun h => ?_)
        · refine j_iconst F dX7_chance_40 cI_0 ?_
          refine j_goto F 53 dX7_chance_41 rfl ?_
          refine j_istore_n F (lv' := [(3, .int (0 : Int32)), (0, .ref (cz x + 0)), (1, .int x1), (2, .int x2)]) dX7_chance_53 rfl (Nat.le_of_ble_eq_true rfl) rfl ?_
          refine j_iload_n F 0 dX7_chance_54 rfl rfl ?_
          refine j_if_ne F 60 dX7_chance_55 rfl h (fun h => ?_) (fun h => ?_)
          · refine j_iload_n F 3 dX7_chance_58 rfl rfl ?_
            exact j_ireturn F rfl dX7_chance_59 h
          · refine j_aload_n F 1 dX7_chance_60 rfl rfl ?_
            refine j_getR F clX7 (j := 1) (lt653 rfl hN) ly0 (Nat.le_of_ble_eq_true rfl) rfl qf_X7_19 rfl dX7_chance_61 ?_
            refine j_aload_n F 1 dX7_chance_64 rfl rfl ?_
            refine j_getI F clX7 (j := 10) (tt := 10) (lt653 rfl hN) ly0 (Nat.le_of_ble_eq_true rfl) rfl qf_X7_194 rfl dX7_chance_65 ?_
            refine j_callVi F mwX6_weightOf ql_X7_197 clX6 (lt653 rfl hN) ly3 [.int (t1 10)] rfl ⟨rfl, rfl, Nat.le_of_ble_eq_true rfl, Nat.le_of_ble_eq_true rfl⟩ ⟨Nat.le_refl 0, Nat.le_refl 0⟩ rfl (Nat.le_of_ble_eq_true rfl) dX7_chance_68 (fun _ _ _ h9 => kX6_weightOf l hN tg3 h9) h (fun v8 t8 a8 e8 h => ?_)
            refine j_istore F (k := 0) (lv' := [(4, .int v8), (3, .int (0 : Int32)), (0, .ref (cz x + 0)), (1, .int x1), (2, .int x2)]) dX7_chance_71 (Nat.le_of_ble_eq_true rfl) rfl ?_
            refine j_iload F 0 dX7_chance_73 rfl ?_
            refine j_iload_n F 1 dX7_chance_75 rfl rfl ?_
            refine j_callSi F mwX7_commonDivisor ql_X7_200 [.int v8, .int (0 : Int32)] rfl ⟨rfl, rfl, Nat.le_of_ble_eq_true rfl, Nat.le_of_ble_eq_true rfl⟩ ⟨Nat.le_refl 0, Nat.le_refl 0⟩ rfl (Nat.le_of_ble_eq_true rfl) dX7_chance_76 (fun _ _ _ h9 => kX7_commonDivisor l hN  h9) h (fun v9 t9 a9 e9 h => ?_)
            refine j_istore F (k := 0) (lv' := [(5, .int v9), (4, .int v8), (3, .int (0 : Int32)), (0, .ref (cz x + 0)), (1, .int x1), (2, .int x2)]) dX7_chance_79 (Nat.le_of_ble_eq_true rfl) rfl ?_
            refine j_iload F 0 dX7_chance_81 rfl ?_
            refine j_if_ne F 88 dX7_chance_83 rfl h (fun h => ?_) (fun h => ?_)
            · refine j_iload_n F 5 dX7_chance_86 rfl rfl ?_
              exact j_ireturn F rfl dX7_chance_87 h
            · refine j_iload_n F 5 dX7_chance_88 rfl rfl ?_
              refine j_if_ne F 96 dX7_chance_89 rfl h (fun h => ?_) (fun h => ?_)
              · refine j_iload_n F 2 dX7_chance_92 rfl rfl ?_
                refine j_goto F 98 dX7_chance_93 rfl ?_
                refine j_iload F 0 dX7_chance_98 rfl ?_
                refine j_idiv F dX7_chance_100 h (fun h => ?_)
                exact j_ireturn F rfl dX7_chance_101 h
              · refine j_iload F 1 dX7_chance_96 rfl ?_
                refine j_iload F 0 dX7_chance_98 rfl ?_
                refine j_idiv F dX7_chance_100 h (fun h => ?_)
                exact j_ireturn F rfl dX7_chance_101 h
        · refine j_aload_n F 0 dX7_chance_44 rfl rfl ?_
          refine j_getR F clX7 (j := 1) (lt653 rfl hN) ly0 (Nat.le_of_ble_eq_true rfl) rfl qf_X7_19 rfl dX7_chance_45 ?_
          refine j_getR F clX6 (j := 2) (lt653 rfl hN) ly3 (Nat.le_of_ble_eq_true rfl) rfl qf_X7_106 rfl dX7_chance_48 ?_
          refine j_iload_n F 1 dX7_chance_51 rfl rfl ?_
          refine j_iald F (lt653 rfl hN) ly6 dX7_chance_52 h (fun h => ?_)
          refine j_istore_n F (lv' := [(3, .int (a1 6 x1.toNatClampNeg)), (0, .ref (cz x + 0)), (1, .int x1), (2, .int x2)]) dX7_chance_53 rfl (Nat.le_of_ble_eq_true rfl) rfl ?_
          refine j_iload_n F 0 dX7_chance_54 rfl rfl ?_
          refine j_if_ne F 60 dX7_chance_55 rfl h (fun h => ?_) (fun h => ?_)
          · refine j_iload_n F 3 dX7_chance_58 rfl rfl ?_
            exact j_ireturn F rfl dX7_chance_59 h
          · refine j_aload_n F 1 dX7_chance_60 rfl rfl ?_
            refine j_getR F clX7 (j := 1) (lt653 rfl hN) ly0 (Nat.le_of_ble_eq_true rfl) rfl qf_X7_19 rfl dX7_chance_61 ?_
            refine j_aload_n F 1 dX7_chance_64 rfl rfl ?_
            refine j_getI F clX7 (j := 10) (tt := 10) (lt653 rfl hN) ly0 (Nat.le_of_ble_eq_true rfl) rfl qf_X7_194 rfl dX7_chance_65 ?_
            refine j_callVi F mwX6_weightOf ql_X7_197 clX6 (lt653 rfl hN) ly3 [.int (t1 10)] rfl ⟨rfl, rfl, Nat.le_of_ble_eq_true rfl, Nat.le_of_ble_eq_true rfl⟩ ⟨Nat.le_refl 0, Nat.le_refl 0⟩ rfl (Nat.le_of_ble_eq_true rfl) dX7_chance_68 (fun _ _ _ h9 => kX6_weightOf l hN tg3 h9) h (fun v6 t6 a6 e6 h => ?_)
            refine j_istore F (k := 0) (lv' := [(4, .int v6), (3, .int (a1 6 x1.toNatClampNeg)), (0, .ref (cz x + 0)), (1, .int x1), (2, .int x2)]) dX7_chance_71 (Nat.le_of_ble_eq_true rfl) rfl ?_
            refine j_iload F 0 dX7_chance_73 rfl ?_
            refine j_iload_n F 1 dX7_chance_75 rfl rfl ?_
            refine j_callSi F mwX7_commonDivisor ql_X7_200 [.int v6, .int (a1 6 x1.toNatClampNeg)] rfl ⟨rfl, rfl, Nat.le_of_ble_eq_true rfl, Nat.le_of_ble_eq_true rfl⟩ ⟨Nat.le_refl 0, Nat.le_refl 0⟩ rfl (Nat.le_of_ble_eq_true rfl) dX7_chance_76 (fun _ _ _ h9 => kX7_commonDivisor l hN  h9) h (fun v7 t7 a7 e7 h => ?_)
            refine j_istore F (k := 0) (lv' := [(5, .int v7), (4, .int v6), (3, .int (a1 6 x1.toNatClampNeg)), (0, .ref (cz x + 0)), (1, .int x1), (2, .int x2)]) dX7_chance_79 (Nat.le_of_ble_eq_true rfl) rfl ?_
            refine j_iload F 0 dX7_chance_81 rfl ?_
            refine j_if_ne F 88 dX7_chance_83 rfl h (fun h => ?_) (fun h => ?_)
            · refine j_iload_n F 5 dX7_chance_86 rfl rfl ?_
              exact j_ireturn F rfl dX7_chance_87 h
            · refine j_iload_n F 5 dX7_chance_88 rfl rfl ?_
              refine j_if_ne F 96 dX7_chance_89 rfl h (fun h => ?_) (fun h => ?_)
              · refine j_iload_n F 2 dX7_chance_92 rfl rfl ?_
                refine j_goto F 98 dX7_chance_93 rfl ?_
                refine j_iload F 0 dX7_chance_98 rfl ?_
                refine j_idiv F dX7_chance_100 h (fun h => ?_)
                exact j_ireturn F rfl dX7_chance_101 h
              · refine j_iload F 1 dX7_chance_96 rfl ?_
                refine j_iload F 0 dX7_chance_98 rfl ?_
                refine j_idiv F dX7_chance_100 h (fun h => ?_)
                exact j_ireturn F rfl dX7_chance_101 h
      · refine j_aload_n F 0 dX7_chance_22 rfl rfl ?_
        refine j_bipush F dX7_chance_23 cB_m2 ?_
        refine j_callVi F mwX7_refuse ql_X7_66 clX7 (lt653 rfl hN) ly0 [.int (-2 : Int32)] rfl ⟨rfl, rfl, Nat.le_of_ble_eq_true rfl, Nat.le_of_ble_eq_true rfl⟩ ⟨Nat.le_refl 0, Nat.le_refl 0⟩ rfl (Nat.le_of_ble_eq_true rfl) dX7_chance_25 (fun _ _ _ h9 => kX7_refuse l hN  h9) h (fun v10 t10 a10 e10 h => ?_)
        exact j_ireturn F rfl dX7_chance_28 h
def fX7_law (nF : Nat) (x1 : Int32) (t : sT) (a : sA) : Rs := cal (fX7_isLaw nF x1 t a) (fun v1 t1 a1 => if v1 = 0 then (cal (fX7_refuse nF (-2 : Int32) t1 a1) (fun v2 t2 a2 => some (v2, t2, a2))) else (some (t1 198, va_up t1 198 x1, a1)))
set_option maxRecDepth 100000 in
set_option maxHeartbeats 4000000 in
theorem kX7_law (l : Launch) {x : Cx} {N : Nat} {u0 v0 : Option Nat} {nF : Nat} {x1 : Int32} {t : sT} {a : sA} {rv : Int32} {rt : sT} {ra : sA} (hN : 653 ≤ N) (h : fX7_law nF x1 t a = some (rv, rt, ra)) : Met l yX7_law [.code yX7_law cX7_law 3 (some .int)] (k2_rm 1 21) (Pre x N (rho u0 v0) t a [.ref (cz x + 0), .int x1]) (PostI x N (rho u0 v0) rt ra rv) 0 0 (cA x) := by
  refine j_entry (by decide) rfl (Nat.le_of_ble_eq_true rfl) ?_
  intro p e s m below meth c F hsz hnm
  have F : Fx p s m meth c cX7_law 3 RX7 (some .int) x := F
  unfold fX7_law at h
  show J p l e _ s m _ below meth c x N (rho u0 v0) 3 0 0 _ 0 [(0, .ref (cz x + 0)), (1, .int x1)] [] t a
  refine j_iload_n F 1 dX7_law_0 rfl rfl ?_
  refine j_callSi F mwX7_isLaw ql_X7_112 [.int x1] rfl ⟨rfl, rfl, Nat.le_of_ble_eq_true rfl, Nat.le_of_ble_eq_true rfl⟩ ⟨Nat.le_refl 0, Nat.le_refl 0⟩ rfl (Nat.le_of_ble_eq_true rfl) dX7_law_1 (fun _ _ _ h9 => kX7_isLaw l hN  h9) h (fun v1 t1 a1 e1 h => ?_)
  refine j_if_ne F 14 dX7_law_4 rfl h (fun h => ?_) (fun h => ?_)
  · refine j_aload_n F 0 dX7_law_7 rfl rfl ?_
    refine j_bipush F dX7_law_8 cB_m2 ?_
    refine j_callVi F mwX7_refuse ql_X7_66 clX7 (lt653 rfl hN) ly0 [.int (-2 : Int32)] rfl ⟨rfl, rfl, Nat.le_of_ble_eq_true rfl, Nat.le_of_ble_eq_true rfl⟩ ⟨Nat.le_refl 0, Nat.le_refl 0⟩ rfl (Nat.le_of_ble_eq_true rfl) dX7_law_10 (fun _ _ _ h9 => kX7_refuse l hN  h9) h (fun v2 t2 a2 e2 h => ?_)
    exact j_ireturn F rfl dX7_law_13 h
  · refine j_aload_n F 0 dX7_law_14 rfl rfl ?_
    refine j_getR F clX7 (j := 1) (lt653 rfl hN) ly0 (Nat.le_of_ble_eq_true rfl) rfl qf_X7_19 rfl dX7_law_15 ?_
    refine j_getI F clX6 (j := 6) (tt := 198) (lt653 rfl hN) ly3 (Nat.le_of_ble_eq_true rfl) rfl qf_X7_115 rfl dX7_law_18 ?_
    refine j_istore_n F (lv' := [(2, .int (t1 198)), (0, .ref (cz x + 0)), (1, .int x1)]) dX7_law_21 rfl (Nat.le_of_ble_eq_true rfl) rfl ?_
    refine j_aload_n F 1 dX7_law_22 rfl rfl ?_
    refine j_getR F clX7 (j := 1) (lt653 rfl hN) ly0 (Nat.le_of_ble_eq_true rfl) rfl qf_X7_19 rfl dX7_law_23 ?_
    refine j_iload_n F 2 dX7_law_26 rfl rfl ?_
    refine j_putI F clX6 (j := 6) (tt := 198) (lt653 rfl hN) ly3 (Nat.le_of_ble_eq_true rfl) rfl qf_X7_115 rfl rfl rfl dX7_law_27 ?_
    refine j_iload_n F 0 dX7_law_30 rfl rfl ?_
    exact j_ireturn F rfl dX7_law_31 h
def fX7_letter (nF : Nat) (x1 : Int32) (t : sT) (a : sA) : Rs := if 0 ≤ x1 then (if (255 : Int32) < x1 then (cal (fX7_refuse nF (-6 : Int32) t a) (fun v1 t1 a1 => some (v1, t1, a1))) else (if (t 65) < (64 : Int32) then (cal (fX1_add nF x1 t a) (fun v2 t2 a2 => some (t2 65, t2, a2))) else (cal (fX7_refuse nF (-6 : Int32) t a) (fun v3 t3 a3 => some (v3, t3, a3))))) else (cal (fX7_refuse nF (-4 : Int32) t a) (fun v4 t4 a4 => some (v4, t4, a4)))
set_option maxRecDepth 100000 in
set_option maxHeartbeats 4000000 in
theorem kX7_letter (l : Launch) {x : Cx} {N : Nat} {u0 v0 : Option Nat} {nF : Nat} {x1 : Int32} {t : sT} {a : sA} {rv : Int32} {rt : sT} {ra : sA} (hN : 653 ≤ N) (h : fX7_letter nF x1 t a = some (rv, rt, ra)) : Met l yX7_letter [.code yX7_letter cX7_letter 2 (some .int)] (k2_rm 1 21) (Pre x N (rho u0 v0) t a [.ref (cz x + 0), .int x1]) (PostI x N (rho u0 v0) rt ra rv) 0 0 (cA x) := by
  refine j_entry (by decide) rfl (Nat.le_of_ble_eq_true rfl) ?_
  intro p e s m below meth c F hsz hnm
  have F : Fx p s m meth c cX7_letter 2 RX7 (some .int) x := F
  unfold fX7_letter at h
  show J p l e _ s m _ below meth c x N (rho u0 v0) 2 0 0 _ 0 [(0, .ref (cz x + 0)), (1, .int x1)] [] t a
  refine j_iload_n F 1 dX7_letter_0 rfl rfl ?_
  refine j_if_ge F 11 dX7_letter_1 rfl h (fun h => ?_) (fun h => ?_)
  · refine j_iload_n F 1 dX7_letter_11 rfl rfl ?_
    refine j_sipush F dX7_letter_12 cS_255 ?_
    refine j_icmp_gt F 30 dX7_letter_15 rfl h (fun h => ?_) (fun h => ?_)
    · refine j_aload_n F 0 dX7_letter_30 rfl rfl ?_
      refine j_bipush F dX7_letter_31 cB_m6 ?_
      refine j_callVi F mwX7_refuse ql_X7_66 clX7 (lt653 rfl hN) ly0 [.int (-6 : Int32)] rfl ⟨rfl, rfl, Nat.le_of_ble_eq_true rfl, Nat.le_of_ble_eq_true rfl⟩ ⟨Nat.le_refl 0, Nat.le_refl 0⟩ rfl (Nat.le_of_ble_eq_true rfl) dX7_letter_33 (fun _ _ _ h9 => kX7_refuse l hN  h9) h (fun v1 t1 a1 e1 h => ?_)
      exact j_ireturn F rfl dX7_letter_36 h
    · refine j_aload_n F 0 dX7_letter_18 rfl rfl ?_
      refine j_getR F clX7 (j := 0) (lt653 rfl hN) ly0 (Nat.le_of_ble_eq_true rfl) rfl qf_X7_10 rfl dX7_letter_19 ?_
      refine j_getI F clX1 (j := 1) (tt := 65) (lt653 rfl hN) ly1 (Nat.le_of_ble_eq_true rfl) rfl qf_X7_70 rfl dX7_letter_22 ?_
      refine j_bipush F dX7_letter_25 cB_64 ?_
      refine j_icmp_lt F 37 dX7_letter_27 rfl h (fun h => ?_) (fun h => ?_)
      · refine j_aload_n F 0 dX7_letter_37 rfl rfl ?_
        refine j_getR F clX7 (j := 0) (lt653 rfl hN) ly0 (Nat.le_of_ble_eq_true rfl) rfl qf_X7_10 rfl dX7_letter_38 ?_
        refine j_iload_n F 1 dX7_letter_41 rfl rfl ?_
        refine j_callVv F mwX1_add ql_X7_74 clX1 (lt653 rfl hN) ly1 [.int x1] rfl ⟨rfl, rfl, Nat.le_of_ble_eq_true rfl, Nat.le_of_ble_eq_true rfl⟩ ⟨Nat.le_refl 0, Nat.le_refl 0⟩ rfl (Nat.le_of_ble_eq_true rfl) dX7_letter_42 (fun _ _ _ h9 => kX1_add l hN  h9) h (fun v2 t2 a2 e2 h => ?_)
        refine j_aload_n F 0 dX7_letter_45 rfl rfl ?_
        refine j_getR F clX7 (j := 0) (lt653 rfl hN) ly0 (Nat.le_of_ble_eq_true rfl) rfl qf_X7_10 rfl dX7_letter_46 ?_
        refine j_getI F clX1 (j := 1) (tt := 65) (lt653 rfl hN) ly1 (Nat.le_of_ble_eq_true rfl) rfl qf_X7_70 rfl dX7_letter_49 ?_
        exact j_ireturn F rfl dX7_letter_52 h
      · refine j_aload_n F 0 dX7_letter_30 rfl rfl ?_
        refine j_bipush F dX7_letter_31 cB_m6 ?_
        refine j_callVi F mwX7_refuse ql_X7_66 clX7 (lt653 rfl hN) ly0 [.int (-6 : Int32)] rfl ⟨rfl, rfl, Nat.le_of_ble_eq_true rfl, Nat.le_of_ble_eq_true rfl⟩ ⟨Nat.le_refl 0, Nat.le_refl 0⟩ rfl (Nat.le_of_ble_eq_true rfl) dX7_letter_33 (fun _ _ _ h9 => kX7_refuse l hN  h9) h (fun v3 t3 a3 e3 h => ?_)
        exact j_ireturn F rfl dX7_letter_36 h
  · refine j_aload_n F 0 dX7_letter_4 rfl rfl ?_
    refine j_bipush F dX7_letter_5 cB_m4 ?_
    refine j_callVi F mwX7_refuse ql_X7_66 clX7 (lt653 rfl hN) ly0 [.int (-4 : Int32)] rfl ⟨rfl, rfl, Nat.le_of_ble_eq_true rfl, Nat.le_of_ble_eq_true rfl⟩ ⟨Nat.le_refl 0, Nat.le_refl 0⟩ rfl (Nat.le_of_ble_eq_true rfl) dX7_letter_7 (fun _ _ _ h9 => kX7_refuse l hN  h9) h (fun v4 t4 a4 e4 h => ?_)
    exact j_ireturn F rfl dX7_letter_10 h
def fX7_on (nF : Nat) (t : sT) (a : sA) : Rs := if (t 2627) = 0 then (cal (fX7_refuse nF (-3 : Int32) t a) (fun v4 t4 a4 => some (v4, t4, a4))) else (cal (fX6_copyFrom nF 3 42 t a) (fun v1 t1 a1 => cal (fX5_copyFrom nF 17 47 t1 a1) (fun v2 t2 a2 => cal (fX7_forgetSayings nF (va_up (va_up (va_up t2 10 (t2 2626)) 833 (0 : Int32)) 961 (0 : Int32)) a2) (fun v3 t3 a3 => some (t3 196, t3, a3)))))
set_option maxRecDepth 100000 in
set_option maxHeartbeats 4000000 in
theorem kX7_on (l : Launch) {x : Cx} {N : Nat} {u0 v0 : Option Nat} {nF : Nat} {t : sT} {a : sA} {rv : Int32} {rt : sT} {ra : sA} (hN : 653 ≤ N) (h : fX7_on nF t a = some (rv, rt, ra)) : Met l yX7_on [.code yX7_on cX7_on 1 (some .int)] (k2_rm 2 81) (Pre x N (rho u0 v0) t a [.ref (cz x + 0)]) (PostI x N (rho u0 v0) rt ra rv) 0 0 (cA x) := by
  refine j_entry (by decide) rfl (Nat.le_of_ble_eq_true rfl) ?_
  intro p e s m below meth c F hsz hnm
  have F : Fx p s m meth c cX7_on 1 RX7 (some .int) x := F
  unfold fX7_on at h
  show J p l e _ s m _ below meth c x N (rho u0 v0) 1 0 0 _ 0 [(0, .ref (cz x + 0))] [] t a
  refine j_aload_n F 0 dX7_on_0 rfl rfl ?_
  refine j_getR F clX7 (j := 8) (lt653 rfl hN) ly0 (Nat.le_of_ble_eq_true rfl) rfl qf_X7_58 rfl dX7_on_1 ?_
  refine j_getI F clX0 (j := 3) (tt := 2627) (lt653 rfl hN) ly41 (Nat.le_of_ble_eq_true rfl) rfl qf_X7_242 rfl dX7_on_4 ?_
  refine j_if_ne F 17 dX7_on_7 rfl h (fun h => ?_) (fun h => ?_)
  · refine j_aload_n F 0 dX7_on_10 rfl rfl ?_
    refine j_bipush F dX7_on_11 cB_m3 ?_
    refine j_callVi F mwX7_refuse ql_X7_66 clX7 (lt653 rfl hN) ly0 [.int (-3 : Int32)] rfl ⟨rfl, rfl, Nat.le_of_ble_eq_true rfl, Nat.le_of_ble_eq_true rfl⟩ ⟨Nat.le_refl 0, Nat.le_refl 0⟩ rfl (Nat.le_of_ble_eq_true rfl) dX7_on_13 (fun _ _ _ h9 => kX7_refuse l hN  h9) h (fun v4 t4 a4 e4 h => ?_)
    exact j_ireturn F rfl dX7_on_16 h
  · refine j_aload_n F 0 dX7_on_17 rfl rfl ?_
    refine j_getR F clX7 (j := 1) (lt653 rfl hN) ly0 (Nat.le_of_ble_eq_true rfl) rfl qf_X7_19 rfl dX7_on_18 ?_
    refine j_aload_n F 0 dX7_on_21 rfl rfl ?_
    refine j_getR F clX7 (j := 8) (lt653 rfl hN) ly0 (Nat.le_of_ble_eq_true rfl) rfl qf_X7_58 rfl dX7_on_22 ?_
    refine j_getR F clX0 (j := 0) (lt653 rfl hN) ly41 (Nat.le_of_ble_eq_true rfl) rfl qf_X7_230 rfl dX7_on_25 ?_
    refine j_callVv F mwX6_copyFrom ql_X7_82 clX6 (lt653 rfl hN) ly3 [.ref (cz x + 42)] rfl ⟨rfl, rfl, Nat.le_of_ble_eq_true rfl, Nat.le_of_ble_eq_true rfl⟩ ⟨Nat.le_refl 0, Nat.le_refl 0⟩ rfl (Nat.le_of_ble_eq_true rfl) dX7_on_28 (fun _ _ _ h9 => kX6_copyFrom l hN tg3 tg42 h9) h (fun v1 t1 a1 e1 h => ?_)
    refine j_aload_n F 0 dX7_on_31 rfl rfl ?_
    refine j_getR F clX7 (j := 5) (lt653 rfl hN) ly0 (Nat.le_of_ble_eq_true rfl) rfl qf_X7_39 rfl dX7_on_32 ?_
    refine j_aload_n F 0 dX7_on_35 rfl rfl ?_
    refine j_getR F clX7 (j := 8) (lt653 rfl hN) ly0 (Nat.le_of_ble_eq_true rfl) rfl qf_X7_58 rfl dX7_on_36 ?_
    refine j_getR F clX0 (j := 1) (lt653 rfl hN) ly41 (Nat.le_of_ble_eq_true rfl) rfl qf_X7_233 rfl dX7_on_39 ?_
    refine j_callVv F mwX5_copyFrom ql_X7_236 clX5 (lt653 rfl hN) ly17 [.ref (cz x + 47)] rfl ⟨rfl, rfl, Nat.le_of_ble_eq_true rfl, Nat.le_of_ble_eq_true rfl⟩ ⟨Nat.le_refl 0, Nat.le_refl 0⟩ rfl (Nat.le_of_ble_eq_true rfl) dX7_on_42 (fun _ _ _ h9 => kX5_copyFrom l hN tk17 tk47 h9) h (fun v2 t2 a2 e2 h => ?_)
    refine j_aload_n F 0 dX7_on_45 rfl rfl ?_
    refine j_aload_n F 0 dX7_on_46 rfl rfl ?_
    refine j_getR F clX7 (j := 8) (lt653 rfl hN) ly0 (Nat.le_of_ble_eq_true rfl) rfl qf_X7_58 rfl dX7_on_47 ?_
    refine j_getI F clX0 (j := 2) (tt := 2626) (lt653 rfl hN) ly41 (Nat.le_of_ble_eq_true rfl) rfl qf_X7_239 rfl dX7_on_50 ?_
    refine j_putI F clX7 (j := 10) (tt := 10) (lt653 rfl hN) ly0 (Nat.le_of_ble_eq_true rfl) rfl qf_X7_194 rfl rfl rfl dX7_on_53 ?_
    refine j_aload_n F 0 dX7_on_56 rfl rfl ?_
    refine j_getR F clX7 (j := 3) (lt653 rfl hN) ly0 (Nat.le_of_ble_eq_true rfl) rfl qf_X7_29 rfl dX7_on_57 ?_
    refine j_iconst F dX7_on_60 cI_0 ?_
    refine j_putI F clX2 (j := 1) (tt := 833) (lt653 rfl hN) ly13 (Nat.le_of_ble_eq_true rfl) rfl qf_X7_190 rfl rfl rfl dX7_on_61 ?_
    refine j_aload_n F 0 dX7_on_64 rfl rfl ?_
    refine j_getR F clX7 (j := 4) (lt653 rfl hN) ly0 (Nat.le_of_ble_eq_true rfl) rfl qf_X7_33 rfl dX7_on_65 ?_
    refine j_iconst F dX7_on_68 cI_0 ?_
    refine j_putI F clX2 (j := 1) (tt := 961) (lt653 rfl hN) ly15 (Nat.le_of_ble_eq_true rfl) rfl qf_X7_190 rfl rfl rfl dX7_on_69 ?_
    refine j_aload_n F 0 dX7_on_72 rfl rfl ?_
    refine j_callVv F mwX7_forgetSayings ql_X7_90 clX7 (lt653 rfl hN) ly0 [] rfl ⟨rfl, rfl, Nat.le_of_ble_eq_true rfl, Nat.le_of_ble_eq_true rfl⟩ ⟨Nat.le_refl 0, Nat.le_refl 0⟩ rfl (Nat.le_of_ble_eq_true rfl) dX7_on_73 (fun _ _ _ h9 => kX7_forgetSayings l hN  h9) h (fun v3 t3 a3 e3 h => ?_)
    refine j_aload_n F 0 dX7_on_76 rfl rfl ?_
    refine j_getR F clX7 (j := 1) (lt653 rfl hN) ly0 (Nat.le_of_ble_eq_true rfl) rfl qf_X7_19 rfl dX7_on_77 ?_
    refine j_getI F clX6 (j := 4) (tt := 196) (lt653 rfl hN) ly3 (Nat.le_of_ble_eq_true rfl) rfl qf_X7_174 rfl dX7_on_80 ?_
    exact j_ireturn F rfl dX7_on_83 h
def fX7_row (nF : Nat) (x1 : Int32) (t : sT) (a : sA) : Rs := cal (fX7_addTo nF 13 x1 t a) (fun v1 t1 a1 => some (v1, t1, a1))
set_option maxRecDepth 100000 in
set_option maxHeartbeats 4000000 in
theorem kX7_row (l : Launch) {x : Cx} {N : Nat} {u0 v0 : Option Nat} {nF : Nat} {x1 : Int32} {t : sT} {a : sA} {rv : Int32} {rt : sT} {ra : sA} (hN : 653 ≤ N) (h : fX7_row nF x1 t a = some (rv, rt, ra)) : Met l yX7_row [.code yX7_row cX7_row 2 (some .int)] (k2_rm 2 43) (Pre x N (rho u0 v0) t a [.ref (cz x + 0), .int x1]) (PostI x N (rho u0 v0) rt ra rv) 0 0 (cA x) := by
  refine j_entry (by decide) rfl (Nat.le_of_ble_eq_true rfl) ?_
  intro p e s m below meth c F hsz hnm
  have F : Fx p s m meth c cX7_row 2 RX7 (some .int) x := F
  unfold fX7_row at h
  show J p l e _ s m _ below meth c x N (rho u0 v0) 2 0 0 _ 0 [(0, .ref (cz x + 0)), (1, .int x1)] [] t a
  refine j_aload_n F 0 dX7_row_0 rfl rfl ?_
  refine j_aload_n F 0 dX7_row_1 rfl rfl ?_
  refine j_getR F clX7 (j := 3) (lt653 rfl hN) ly0 (Nat.le_of_ble_eq_true rfl) rfl qf_X7_29 rfl dX7_row_2 ?_
  refine j_iload_n F 1 dX7_row_5 rfl rfl ?_
  refine j_callVi F mwX7_addTo ql_X7_118 clX7 (lt653 rfl hN) ly0 [.ref (cz x + 13), .int x1] rfl ⟨rfl, rfl, Nat.le_of_ble_eq_true rfl, Nat.le_of_ble_eq_true rfl⟩ ⟨Nat.le_refl 0, Nat.le_refl 0⟩ rfl (Nat.le_of_ble_eq_true rfl) dX7_row_6 (fun _ _ _ h9 => kX7_addTo l hN rw13 h9) h (fun v1 t1 a1 e1 h => ?_)
  exact j_ireturn F rfl dX7_row_9 h
def fX7_told (nF : Nat) (x1 : Int32) (t : sT) (a : sA) : Rs := cal (fX7_addTo nF 15 x1 t a) (fun v1 t1 a1 => some (v1, t1, a1))
set_option maxRecDepth 100000 in
set_option maxHeartbeats 4000000 in
theorem kX7_told (l : Launch) {x : Cx} {N : Nat} {u0 v0 : Option Nat} {nF : Nat} {x1 : Int32} {t : sT} {a : sA} {rv : Int32} {rt : sT} {ra : sA} (hN : 653 ≤ N) (h : fX7_told nF x1 t a = some (rv, rt, ra)) : Met l yX7_told [.code yX7_told cX7_told 2 (some .int)] (k2_rm 2 43) (Pre x N (rho u0 v0) t a [.ref (cz x + 0), .int x1]) (PostI x N (rho u0 v0) rt ra rv) 0 0 (cA x) := by
  refine j_entry (by decide) rfl (Nat.le_of_ble_eq_true rfl) ?_
  intro p e s m below meth c F hsz hnm
  have F : Fx p s m meth c cX7_told 2 RX7 (some .int) x := F
  unfold fX7_told at h
  show J p l e _ s m _ below meth c x N (rho u0 v0) 2 0 0 _ 0 [(0, .ref (cz x + 0)), (1, .int x1)] [] t a
  refine j_aload_n F 0 dX7_told_0 rfl rfl ?_
  refine j_aload_n F 0 dX7_told_1 rfl rfl ?_
  refine j_getR F clX7 (j := 4) (lt653 rfl hN) ly0 (Nat.le_of_ble_eq_true rfl) rfl qf_X7_33 rfl dX7_told_2 ?_
  refine j_iload_n F 1 dX7_told_5 rfl rfl ?_
  refine j_callVi F mwX7_addTo ql_X7_118 clX7 (lt653 rfl hN) ly0 [.ref (cz x + 15), .int x1] rfl ⟨rfl, rfl, Nat.le_of_ble_eq_true rfl, Nat.le_of_ble_eq_true rfl⟩ ⟨Nat.le_refl 0, Nat.le_refl 0⟩ rfl (Nat.le_of_ble_eq_true rfl) dX7_told_6 (fun _ _ _ h9 => kX7_addTo l hN rw15 h9) h (fun v1 t1 a1 e1 h => ?_)
  exact j_ireturn F rfl dX7_told_9 h
def fX8_add (nF : Nat) (x1 : Int32) (x2 : Int32) (x3 : Int32) (x4 : Int32) (t : sT) (a : sA) : Rs := bnd (t 3227) 585 (bnd (0 : Int32) 3 (bnd (1 : Int32) 3 (bnd (2 : Int32) 3 (bnd (t 3227) 585 (cal (fX8_meaning nF (64 + (t 3227).toNatClampNeg) 3 x1 t (va_up (va_up (va_up (va_up a (64 + (t 3227).toNatClampNeg) (upd (a (64 + (t 3227).toNatClampNeg)) (0 : Int32).toNatClampNeg x2)) (64 + (t 3227).toNatClampNeg) (upd ((va_up a (64 + (t 3227).toNatClampNeg) (upd (a (64 + (t 3227).toNatClampNeg)) (0 : Int32).toNatClampNeg x2)) (64 + (t 3227).toNatClampNeg)) (1 : Int32).toNatClampNeg x3)) (64 + (t 3227).toNatClampNeg) (upd ((va_up (va_up a (64 + (t 3227).toNatClampNeg) (upd (a (64 + (t 3227).toNatClampNeg)) (0 : Int32).toNatClampNeg x2)) (64 + (t 3227).toNatClampNeg) (upd ((va_up a (64 + (t 3227).toNatClampNeg) (upd (a (64 + (t 3227).toNatClampNeg)) (0 : Int32).toNatClampNeg x2)) (64 + (t 3227).toNatClampNeg)) (1 : Int32).toNatClampNeg x3)) (64 + (t 3227).toNatClampNeg)) (2 : Int32).toNatClampNeg x4)) 62 (upd ((va_up (va_up (va_up a (64 + (t 3227).toNatClampNeg) (upd (a (64 + (t 3227).toNatClampNeg)) (0 : Int32).toNatClampNeg x2)) (64 + (t 3227).toNatClampNeg) (upd ((va_up a (64 + (t 3227).toNatClampNeg) (upd (a (64 + (t 3227).toNatClampNeg)) (0 : Int32).toNatClampNeg x2)) (64 + (t 3227).toNatClampNeg)) (1 : Int32).toNatClampNeg x3)) (64 + (t 3227).toNatClampNeg) (upd ((va_up (va_up a (64 + (t 3227).toNatClampNeg) (upd (a (64 + (t 3227).toNatClampNeg)) (0 : Int32).toNatClampNeg x2)) (64 + (t 3227).toNatClampNeg) (upd ((va_up a (64 + (t 3227).toNatClampNeg) (upd (a (64 + (t 3227).toNatClampNeg)) (0 : Int32).toNatClampNeg x2)) (64 + (t 3227).toNatClampNeg)) (1 : Int32).toNatClampNeg x3)) (64 + (t 3227).toNatClampNeg)) (2 : Int32).toNatClampNeg x4)) 62) (t 3227).toNatClampNeg x1))) (fun v2 t2 a2 => bnd (t 3227) 585 (cal (fX8_idleOf nF (64 + (t 3227).toNatClampNeg) 3 x1 t2 (va_up a2 649 (upd (a2 649) (t 3227).toNatClampNeg v2))) (fun v3 t3 a3 => bnd (t2 3227) 585 (some (0, va_up t3 3227 ((t3 3227) + (1 : Int32)), va_up a3 650 (upd (a3 650) (t2 3227).toNatClampNeg v3)))))))))))
set_option maxRecDepth 100000 in
set_option maxHeartbeats 4000000 in
theorem kX8_add (l : Launch) {x : Cx} {N : Nat} {u0 v0 : Option Nat} {nF : Nat} {x1 : Int32} {x2 : Int32} {x3 : Int32} {x4 : Int32} {t : sT} {a : sA} {rv : Int32} {rt : sT} {ra : sA} (hN : 653 ≤ N) (h : fX8_add nF x1 x2 x3 x4 t a = some (rv, rt, ra)) : Met l yX8_add [.code yX8_add cX8_add 6 none] (k2_rm 1 29) (Pre x N (rho u0 v0) t a [.ref (cz x + 50), .int x1, .int x2, .int x3, .int x4]) (PostV x N (rho u0 v0) rt ra) 0 0 (cA x) := by
  refine j_entry (by decide) rfl (Nat.le_of_ble_eq_true rfl) ?_
  intro p e s m below meth c F hsz hnm
  have F : Fx p s m meth c cX8_add 6 RX8 none x := F
  unfold fX8_add at h
  show J p l e _ s m _ below meth c x N (rho u0 v0) 6 0 0 _ 0 [(0, .ref (cz x + 50)), (1, .int x1), (2, .int x2), (3, .int x3), (4, .int x4)] [] t a
  refine j_aload_n F 0 dX8_add_0 rfl rfl ?_
  refine j_getR F clX8 (j := 24) (lt653 rfl hN) ly50 (Nat.le_of_ble_eq_true rfl) rfl qf_X8_48 rfl dX8_add_1 ?_
  refine j_aload_n F 0 dX8_add_4 rfl rfl ?_
  refine j_getI F clX8 (j := 27) (tt := 3227) (lt653 rfl hN) ly50 (Nat.le_of_ble_eq_true rfl) rfl qf_X8_159 rfl dX8_add_5 ?_
  refine j_aald F (lt653 rfl hN) ly63 rh63 dX8_add_8 h (fun hr1 h => ?_)
  refine j_astore F (k := 0) (lv' := [(5, .ref (cz x + (64 + (t 3227).toNatClampNeg))), (0, .ref (cz x + 50)), (1, .int x1), (2, .int x2), (3, .int x3), (4, .int x4)]) dX8_add_9 (Nat.le_of_ble_eq_true rfl) rfl ?_
  refine j_aload F 0 dX8_add_11 rfl ?_
  refine j_iconst F dX8_add_13 cI_0 ?_
  refine j_iload_n F 3 dX8_add_14 rfl rfl ?_
  refine j_iast F (rowlt hr1 hN) (lyRow hr1) dX8_add_15 h (fun h => ?_)
  refine j_aload F 0 dX8_add_16 rfl ?_
  refine j_iconst F dX8_add_18 cI_1 ?_
  refine j_iload_n F 4 dX8_add_19 rfl rfl ?_
  refine j_iast F (rowlt hr1 hN) (lyRow hr1) dX8_add_20 h (fun h => ?_)
  refine j_aload F 0 dX8_add_21 rfl ?_
  refine j_iconst F dX8_add_23 cI_2 ?_
  refine j_iload F 5 dX8_add_24 rfl ?_
  refine j_iast F (rowlt hr1 hN) (lyRow hr1) dX8_add_26 h (fun h => ?_)
  refine j_aload_n F 1 dX8_add_27 rfl rfl ?_
  refine j_getR F clX8 (j := 23) (lt653 rfl hN) ly50 (Nat.le_of_ble_eq_true rfl) rfl qf_X8_43 rfl dX8_add_28 ?_
  refine j_aload_n F 1 dX8_add_31 rfl rfl ?_
  refine j_getI F clX8 (j := 27) (tt := 3227) (lt653 rfl hN) ly50 (Nat.le_of_ble_eq_true rfl) rfl qf_X8_159 rfl dX8_add_32 ?_
  refine j_iload_n F 2 dX8_add_35 rfl rfl ?_
  refine j_iast F (lt653 rfl hN) ly62 dX8_add_36 h (fun h => ?_)
  refine j_aload_n F 1 dX8_add_37 rfl rfl ?_
  refine j_getR F clX8 (j := 25) (lt653 rfl hN) ly50 (Nat.le_of_ble_eq_true rfl) rfl qf_X8_51 rfl dX8_add_38 ?_
  refine j_aload_n F 1 dX8_add_41 rfl rfl ?_
  refine j_getI F clX8 (j := 27) (tt := 3227) (lt653 rfl hN) ly50 (Nat.le_of_ble_eq_true rfl) rfl qf_X8_159 rfl dX8_add_42 ?_
  refine j_aload_n F 1 dX8_add_45 rfl rfl ?_
  refine j_aload F 0 dX8_add_46 rfl ?_
  refine j_iload_n F 2 dX8_add_48 rfl rfl ?_
  refine j_callVi F mwX8_meaning ql_X8_142 clX8 (lt653 rfl hN) ly50 [.ref (cz x + (64 + (t 3227).toNatClampNeg)), .int x1] rfl ⟨rfl, rfl, Nat.le_of_ble_eq_true rfl, Nat.le_of_ble_eq_true rfl⟩ ⟨Nat.le_refl 0, Nat.le_refl 0⟩ rfl (Nat.le_of_ble_eq_true rfl) dX8_add_49 (fun _ _ _ h9 => kX8_meaning l hN (rowlt hr1 hN) (lyRow hr1) h9) h (fun v2 t2 a2 e2 h => ?_)
  refine j_iast F (lt653 rfl hN) ly649 dX8_add_52 h (fun h => ?_)
  refine j_aload_n F 1 dX8_add_53 rfl rfl ?_
  refine j_getR F clX8 (j := 26) (lt653 rfl hN) ly50 (Nat.le_of_ble_eq_true rfl) rfl qf_X8_54 rfl dX8_add_54 ?_
  refine j_aload_n F 1 dX8_add_57 rfl rfl ?_
  refine j_getI F clX8 (j := 27) (tt := 3227) (lt653 rfl hN) ly50 (Nat.le_of_ble_eq_true rfl) rfl qf_X8_159 rfl dX8_add_58 ?_
  refine j_aload_n F 1 dX8_add_61 rfl rfl ?_
  refine j_aload F 0 dX8_add_62 rfl ?_
  refine j_iload_n F 2 dX8_add_64 rfl rfl ?_
  refine j_callVi F mwX8_idleOf ql_X8_146 clX8 (lt653 rfl hN) ly50 [.ref (cz x + (64 + (t 3227).toNatClampNeg)), .int x1] rfl ⟨rfl, rfl, Nat.le_of_ble_eq_true rfl, Nat.le_of_ble_eq_true rfl⟩ ⟨Nat.le_refl 0, Nat.le_refl 0⟩ rfl (Nat.le_of_ble_eq_true rfl) dX8_add_65 (fun _ _ _ h9 => kX8_idleOf l hN (rowlt hr1 hN) (lyRow hr1) h9) h (fun v3 t3 a3 e3 h => ?_)
  refine j_iast F (lt653 rfl hN) ly650 dX8_add_68 h (fun h => ?_)
  refine j_aload_n F 1 dX8_add_69 rfl rfl ?_
  refine j_dup F dX8_add_70 rfl ?_
  refine j_getI F clX8 (j := 27) (tt := 3227) (lt653 rfl hN) ly50 (Nat.le_of_ble_eq_true rfl) rfl qf_X8_159 rfl dX8_add_71 ?_
  refine j_iconst F dX8_add_74 cI_1 ?_
  refine j_iadd F dX8_add_75 ?_
  refine j_putI F clX8 (j := 27) (tt := 3227) (lt653 rfl hN) ly50 (Nat.le_of_ble_eq_true rfl) rfl qf_X8_159 rfl rfl rfl dX8_add_76 ?_
  exact j_vreturn F rfl dX8_add_79 h
def fX8_asksRow (nF : Nat) (t : sT) (a : sA) : Rs := cal (fX8_idleOf nF 52 6 (t 3203) t a) (fun v1 t1 a1 => cal (fX8_meaning nF 52 6 (t1 3203) t1 a1) (fun v2 t2 a2 => cal (fX8_asks nF (t 3203) v1 v2 (t2 3213) t2 a2) (fun v3 t3 a3 => some (0, t3, a3))))
set_option maxRecDepth 100000 in
set_option maxHeartbeats 4000000 in
theorem kX8_asksRow (l : Launch) {x : Cx} {N : Nat} {u0 v0 : Option Nat} {nF : Nat} {t : sT} {a : sA} {rv : Int32} {rt : sT} {ra : sA} (hN : 653 ≤ N) (h : fX8_asksRow nF t a = some (rv, rt, ra)) : Met l yX8_asksRow [.code yX8_asksRow cX8_asksRow 1 none] (k2_rm 1 29) (Pre x N (rho u0 v0) t a [.ref (cz x + 50)]) (PostV x N (rho u0 v0) rt ra) 0 0 (cA x) := by
  refine j_entry (by decide) rfl (Nat.le_of_ble_eq_true rfl) ?_
  intro p e s m below meth c F hsz hnm
  have F : Fx p s m meth c cX8_asksRow 1 RX8 none x := F
  unfold fX8_asksRow at h
  show J p l e _ s m _ below meth c x N (rho u0 v0) 1 0 0 _ 0 [(0, .ref (cz x + 50))] [] t a
  refine j_aload_n F 0 dX8_asksRow_0 rfl rfl ?_
  refine j_aload_n F 0 dX8_asksRow_1 rfl rfl ?_
  refine j_getI F clX8 (j := 3) (tt := 3203) (lt653 rfl hN) ly50 (Nat.le_of_ble_eq_true rfl) rfl qf_X8_139 rfl dX8_asksRow_2 ?_
  refine j_aload_n F 0 dX8_asksRow_5 rfl rfl ?_
  refine j_aload_n F 0 dX8_asksRow_6 rfl rfl ?_
  refine j_getR F clX8 (j := 2) (lt653 rfl hN) ly50 (Nat.le_of_ble_eq_true rfl) rfl qf_X8_13 rfl dX8_asksRow_7 ?_
  refine j_aload_n F 0 dX8_asksRow_10 rfl rfl ?_
  refine j_getI F clX8 (j := 3) (tt := 3203) (lt653 rfl hN) ly50 (Nat.le_of_ble_eq_true rfl) rfl qf_X8_139 rfl dX8_asksRow_11 ?_
  refine j_callVi F mwX8_idleOf ql_X8_146 clX8 (lt653 rfl hN) ly50 [.ref (cz x + 52), .int (t 3203)] rfl ⟨rfl, rfl, Nat.le_of_ble_eq_true rfl, Nat.le_of_ble_eq_true rfl⟩ ⟨Nat.le_refl 0, Nat.le_refl 0⟩ rfl (Nat.le_of_ble_eq_true rfl) dX8_asksRow_14 (fun _ _ _ h9 => kX8_idleOf l hN (lt653 rfl hN) ly52 h9) h (fun v1 t1 a1 e1 h => ?_)
  refine j_aload_n F 0 dX8_asksRow_17 rfl rfl ?_
  refine j_aload_n F 0 dX8_asksRow_18 rfl rfl ?_
  refine j_getR F clX8 (j := 2) (lt653 rfl hN) ly50 (Nat.le_of_ble_eq_true rfl) rfl qf_X8_13 rfl dX8_asksRow_19 ?_
  refine j_aload_n F 0 dX8_asksRow_22 rfl rfl ?_
  refine j_getI F clX8 (j := 3) (tt := 3203) (lt653 rfl hN) ly50 (Nat.le_of_ble_eq_true rfl) rfl qf_X8_139 rfl dX8_asksRow_23 ?_
  refine j_callVi F mwX8_meaning ql_X8_142 clX8 (lt653 rfl hN) ly50 [.ref (cz x + 52), .int (t1 3203)] rfl ⟨rfl, rfl, Nat.le_of_ble_eq_true rfl, Nat.le_of_ble_eq_true rfl⟩ ⟨Nat.le_refl 0, Nat.le_refl 0⟩ rfl (Nat.le_of_ble_eq_true rfl) dX8_asksRow_26 (fun _ _ _ h9 => kX8_meaning l hN (lt653 rfl hN) ly52 h9) h (fun v2 t2 a2 e2 h => ?_)
  refine j_aload_n F 0 dX8_asksRow_29 rfl rfl ?_
  refine j_getI F clX8 (j := 13) (tt := 3213) (lt653 rfl hN) ly50 (Nat.le_of_ble_eq_true rfl) rfl qf_X8_111 rfl dX8_asksRow_30 ?_
  refine j_callVv F mwX8_asks ql_X8_178 clX8 (lt653 rfl hN) ly50 [.int (t 3203), .int v1, .int v2, .int (t2 3213)] rfl ⟨rfl, rfl, Nat.le_of_ble_eq_true rfl, Nat.le_of_ble_eq_true rfl⟩ ⟨Nat.le_refl 0, Nat.le_refl 0⟩ rfl (Nat.le_of_ble_eq_true rfl) dX8_asksRow_33 (fun _ _ _ h9 => kX8_asks l hN  h9) h (fun v3 t3 a3 e3 h => ?_)
  exact j_vreturn F rfl dX8_asksRow_36 h
def fX8_chance (nF : Nat) (x1 : Int32) (x2 : Int32) (t : sT) (a : sA) : Rs := cal (fX8_isCase nF x1 t a) (fun v1 t1 a1 => if v1 = 0 then (cal (fX8_refuse nF (-1 : Int32) t1 a1) (fun v8 t8 a8 => some (v8, t8, a8))) else (cal (fX8_in nF x2 (0 : Int32) (1 : Int32) t1 a1) (fun v2 t2 a2 => if v2 = 0 then (cal (fX8_refuse nF (-2 : Int32) t2 a2) (fun v7 t7 a7 => some (v7, t7, a7))) else (if (((t2 3219) >>> (x1 &&& 31)) &&& (1 : Int32)) = 0 then (cal (fX8_weightOf nF (t2 3219) t2 a2) (fun v3 t3 a3 => if (0 : Int32) = 0 then (some (x2, t3, a3)) else (cal (fX8_common nF v3 (0 : Int32) t3 a3) (fun v4 t4 a4 => if x2 = 0 then (dvz v4 (some ((0 : Int32) / v4, t4, a4))) else (dvz v4 (some (v3 / v4, t4, a4))))))) else (bnd x1 8 (cal (fX8_weightOf nF (t2 3219) t2 a2) (fun v5 t5 a5 => if (a2 57 x1.toNatClampNeg) = 0 then (some (x2, t5, a5)) else (cal (fX8_common nF v5 (a2 57 x1.toNatClampNeg) t5 a5) (fun v6 t6 a6 => if x2 = 0 then (dvz v6 (some ((a2 57 x1.toNatClampNeg) / v6, t6, a6))) else (dvz v6 (some (v5 / v6, t6, a6))))))))))))
set_option maxRecDepth 100000 in
set_option maxHeartbeats 4000000 in
theorem kX8_chance (l : Launch) {x : Cx} {N : Nat} {u0 v0 : Option Nat} {nF : Nat} {x1 : Int32} {x2 : Int32} {t : sT} {a : sA} {rv : Int32} {rt : sT} {ra : sA} (hN : 653 ≤ N) (h : fX8_chance nF x1 x2 t a = some (rv, rt, ra)) : Met l yX8_chance [.code yX8_chance cX8_chance 6 (some .int)] (k2_rm 2 42) (Pre x N (rho u0 v0) t a [.ref (cz x + 50), .int x1, .int x2]) (PostI x N (rho u0 v0) rt ra rv) 0 0 (cA x) := by
  refine j_entry (by decide) rfl (Nat.le_of_ble_eq_true rfl) ?_
  intro p e s m below meth c F hsz hnm
  have F : Fx p s m meth c cX8_chance 6 RX8 (some .int) x := F
  unfold fX8_chance at h
  show J p l e _ s m _ below meth c x N (rho u0 v0) 6 0 0 _ 0 [(0, .ref (cz x + 50)), (1, .int x1), (2, .int x2)] [] t a
  refine j_iload_n F 1 dX8_chance_0 rfl rfl ?_
  refine j_callSi F mwX8_isCase ql_X8_133 [.int x1] rfl ⟨rfl, rfl, Nat.le_of_ble_eq_true rfl, Nat.le_of_ble_eq_true rfl⟩ ⟨Nat.le_refl 0, Nat.le_refl 0⟩ rfl (Nat.le_of_ble_eq_true rfl) dX8_chance_1 (fun _ _ _ h9 => kX8_isCase l hN  h9) h (fun v1 t1 a1 e1 h => ?_)
  refine j_if_ne F 13 dX8_chance_4 rfl h (fun h => ?_) (fun h => ?_)
  · refine j_aload_n F 0 dX8_chance_7 rfl rfl ?_
    refine j_iconst F dX8_chance_8 cI_m1 ?_
    refine j_callVi F mwX8_refuse ql_X8_74 clX8 (lt653 rfl hN) ly50 [.int (-1 : Int32)] rfl ⟨rfl, rfl, Nat.le_of_ble_eq_true rfl, Nat.le_of_ble_eq_true rfl⟩ ⟨Nat.le_refl 0, Nat.le_refl 0⟩ rfl (Nat.le_of_ble_eq_true rfl) dX8_chance_9 (fun _ _ _ h9 => kX8_refuse l hN  h9) h (fun v8 t8 a8 e8 h => ?_)
    exact j_ireturn F rfl dX8_chance_12 h
  · refine j_iload_n F 2 dX8_chance_13 rfl rfl ?_
    refine j_iconst F dX8_chance_14 cI_0 ?_
    refine j_iconst F dX8_chance_15 cI_1 ?_
    refine j_callSi F mwX8_in ql_X8_63 [.int x2, .int (0 : Int32), .int (1 : Int32)] rfl ⟨rfl, rfl, Nat.le_of_ble_eq_true rfl, Nat.le_of_ble_eq_true rfl⟩ ⟨Nat.le_refl 0, Nat.le_refl 0⟩ rfl (Nat.le_of_ble_eq_true rfl) dX8_chance_16 (fun _ _ _ h9 => kX8_in l hN  h9) h (fun v2 t2 a2 e2 h => ?_)
    refine j_if_ne F 29 dX8_chance_19 rfl h (fun h => ?_) (fun h => ?_)
    · refine j_aload_n F 0 dX8_chance_22 rfl rfl ?_
      refine j_bipush F dX8_chance_23 cB_m2 ?_
      refine j_callVi F mwX8_refuse ql_X8_74 clX8 (lt653 rfl hN) ly50 [.int (-2 : Int32)] rfl ⟨rfl, rfl, Nat.le_of_ble_eq_true rfl, Nat.le_of_ble_eq_true rfl⟩ ⟨Nat.le_refl 0, Nat.le_refl 0⟩ rfl (Nat.le_of_ble_eq_true rfl) dX8_chance_25 (fun _ _ _ h9 => kX8_refuse l hN  h9) h (fun v7 t7 a7 e7 h => ?_)
      exact j_ireturn F rfl dX8_chance_28 h
    · refine j_aload_n F 0 dX8_chance_29 rfl rfl ?_
      refine j_getI F clX8 (j := 19) (tt := 3219) (lt653 rfl hN) ly50 (Nat.le_of_ble_eq_true rfl) rfl qf_X8_221 rfl dX8_chance_30 ?_
      refine j_iload_n F 1 dX8_chance_33 rfl rfl ?_
      refine j_ishr F dX8_chance_34 ?_
      refine j_iconst F dX8_chance_35 cI_1 ?_
      refine j_iand F dX8_chance_36 ?_
      refine j_if_eq F 49 dX8_chance_37 rfl h (fun h => ?_) (fun h => ?_)
      · refine j_iconst F dX8_chance_49 cI_0 ?_
        refine j_istore_n F (lv' := [(3, .int (0 : Int32)), (0, .ref (cz x + 50)), (1, .int x1), (2, .int x2)]) dX8_chance_50 rfl (Nat.le_of_ble_eq_true rfl) rfl ?_
        refine j_aload_n F 1 dX8_chance_51 rfl rfl ?_
        refine j_aload_n F 1 dX8_chance_52 rfl rfl ?_
        refine j_getI F clX8 (j := 19) (tt := 3219) (lt653 rfl hN) ly50 (Nat.le_of_ble_eq_true rfl) rfl qf_X8_221 rfl dX8_chance_53 ?_
        refine j_callVi F mwX8_weightOf ql_X8_181 clX8 (lt653 rfl hN) ly50 [.int (t2 3219)] rfl ⟨rfl, rfl, Nat.le_of_ble_eq_true rfl, Nat.le_of_ble_eq_true rfl⟩ ⟨Nat.le_refl 0, Nat.le_refl 0⟩ rfl (Nat.le_of_ble_eq_true rfl) dX8_chance_56 (fun _ _ _ h9 => kX8_weightOf l hN  h9) h (fun v3 t3 a3 e3 h => ?_)
        refine j_istore F (k := 0) (lv' := [(4, .int v3), (3, .int (0 : Int32)), (0, .ref (cz x + 50)), (1, .int x1), (2, .int x2)]) dX8_chance_59 (Nat.le_of_ble_eq_true rfl) rfl ?_
        refine j_iload_n F 1 dX8_chance_61 rfl rfl ?_
        refine j_if_ne F 67 dX8_chance_62 rfl h (fun h => ?_) (fun h => ?_)
        · refine j_iload_n F 4 dX8_chance_65 rfl rfl ?_
          exact j_ireturn F rfl dX8_chance_66 h
        · refine j_iload F 0 dX8_chance_67 rfl ?_
          refine j_iload_n F 1 dX8_chance_69 rfl rfl ?_
          refine j_callSi F mwX8_common ql_X8_227 [.int v3, .int (0 : Int32)] rfl ⟨rfl, rfl, Nat.le_of_ble_eq_true rfl, Nat.le_of_ble_eq_true rfl⟩ ⟨Nat.le_refl 0, Nat.le_refl 0⟩ rfl (Nat.le_of_ble_eq_true rfl) dX8_chance_70 (fun _ _ _ h9 => kX8_common l hN  h9) h (fun v4 t4 a4 e4 h => ?_)
          refine j_istore F (k := 0) (lv' := [(5, .int v4), (4, .int v3), (3, .int (0 : Int32)), (0, .ref (cz x + 50)), (1, .int x1), (2, .int x2)]) dX8_chance_73 (Nat.le_of_ble_eq_true rfl) rfl ?_
          refine j_iload_n F 5 dX8_chance_75 rfl rfl ?_
          refine j_if_ne F 86 dX8_chance_76 rfl h (fun h => ?_) (fun h => ?_)
          · refine j_iload_n F 2 dX8_chance_79 rfl rfl ?_
            refine j_iload F 0 dX8_chance_80 rfl ?_
            refine j_idiv F dX8_chance_82 h (fun h => ?_)
            refine j_goto F 91 dX8_chance_83 rfl ?_
            exact j_ireturn F rfl dX8_chance_91 h
          · refine j_iload F 1 dX8_chance_86 rfl ?_
            refine j_iload F 0 dX8_chance_88 rfl ?_
            refine j_idiv F dX8_chance_90 h (fun h => ?_)
            exact j_ireturn F rfl dX8_chance_91 h
      · refine j_aload_n F 0 dX8_chance_40 rfl rfl ?_
        refine j_getR F clX8 (j := 10) (lt653 rfl hN) ly50 (Nat.le_of_ble_eq_true rfl) rfl qf_X8_28 rfl dX8_chance_41 ?_
        refine j_iload_n F 1 dX8_chance_44 rfl rfl ?_
        refine j_iald F (lt653 rfl hN) ly57 dX8_chance_45 h (fun h => ?_)
        refine j_goto F 50 dX8_chance_46 rfl ?_
        refine j_istore_n F (lv' := [(3, .int (a2 57 x1.toNatClampNeg)), (0, .ref (cz x + 50)), (1, .int x1), (2, .int x2)]) dX8_chance_50 rfl (Nat.le_of_ble_eq_true rfl) rfl ?_
        refine j_aload_n F 1 dX8_chance_51 rfl rfl ?_
        refine j_aload_n F 1 dX8_chance_52 rfl rfl ?_
        refine j_getI F clX8 (j := 19) (tt := 3219) (lt653 rfl hN) ly50 (Nat.le_of_ble_eq_true rfl) rfl qf_X8_221 rfl dX8_chance_53 ?_
        refine j_callVi F mwX8_weightOf ql_X8_181 clX8 (lt653 rfl hN) ly50 [.int (t2 3219)] rfl ⟨rfl, rfl, Nat.le_of_ble_eq_true rfl, Nat.le_of_ble_eq_true rfl⟩ ⟨Nat.le_refl 0, Nat.le_refl 0⟩ rfl (Nat.le_of_ble_eq_true rfl) dX8_chance_56 (fun _ _ _ h9 => kX8_weightOf l hN  h9) h (fun v5 t5 a5 e5 h => ?_)
        refine j_istore F (k := 0) (lv' := [(4, .int v5), (3, .int (a2 57 x1.toNatClampNeg)), (0, .ref (cz x + 50)), (1, .int x1), (2, .int x2)]) dX8_chance_59 (Nat.le_of_ble_eq_true rfl) rfl ?_
        refine j_iload_n F 1 dX8_chance_61 rfl rfl ?_
        refine j_if_ne F 67 dX8_chance_62 rfl h (fun h => ?_) (fun h => ?_)
        · refine j_iload_n F 4 dX8_chance_65 rfl rfl ?_
          exact j_ireturn F rfl dX8_chance_66 h
        · refine j_iload F 0 dX8_chance_67 rfl ?_
          refine j_iload_n F 1 dX8_chance_69 rfl rfl ?_
          refine j_callSi F mwX8_common ql_X8_227 [.int v5, .int (a2 57 x1.toNatClampNeg)] rfl ⟨rfl, rfl, Nat.le_of_ble_eq_true rfl, Nat.le_of_ble_eq_true rfl⟩ ⟨Nat.le_refl 0, Nat.le_refl 0⟩ rfl (Nat.le_of_ble_eq_true rfl) dX8_chance_70 (fun _ _ _ h9 => kX8_common l hN  h9) h (fun v6 t6 a6 e6 h => ?_)
          refine j_istore F (k := 0) (lv' := [(5, .int v6), (4, .int v5), (3, .int (a2 57 x1.toNatClampNeg)), (0, .ref (cz x + 50)), (1, .int x1), (2, .int x2)]) dX8_chance_73 (Nat.le_of_ble_eq_true rfl) rfl ?_
          refine j_iload_n F 5 dX8_chance_75 rfl rfl ?_
          refine j_if_ne F 86 dX8_chance_76 rfl h (fun h => ?_) (fun h => ?_)
          · refine j_iload_n F 2 dX8_chance_79 rfl rfl ?_
            refine j_iload F 0 dX8_chance_80 rfl ?_
            refine j_idiv F dX8_chance_82 h (fun h => ?_)
            refine j_goto F 91 dX8_chance_83 rfl ?_
            exact j_ireturn F rfl dX8_chance_91 h
          · refine j_iload F 1 dX8_chance_86 rfl ?_
            refine j_iload F 0 dX8_chance_88 rfl ?_
            refine j_idiv F dX8_chance_90 h (fun h => ?_)
            exact j_ireturn F rfl dX8_chance_91 h
def fX8_comes (nF : Nat) (t : sT) (a : sA) : Rs := bnd (t 3221) 64 (if ((va_up t 3221 ((t 3221) + (1 : Int32))) 3201) ≤ ((va_up t 3221 ((t 3221) + (1 : Int32))) 3221) then (if (a 51 (t 3221).toNatClampNeg) = (105 : Int32) then (cal (fX8_addWord nF (3 : Int32) (0 : Int32) (va_up t 3221 ((t 3221) + (1 : Int32))) a) (fun v2 t2 a2 => zok v2 (some (v2, t2, a2)))) else (if (a 51 (t 3221).toNatClampNeg) = (108 : Int32) then (if (0 : Int32) ≤ (4 : Int32) then (zok (1 : Int32) (some ((1 : Int32), va_up (va_up t 3221 ((t 3221) + (1 : Int32))) 3213 (0 : Int32), a))) else (zok (0 : Int32) (some ((0 : Int32), va_up t 3221 ((t 3221) + (1 : Int32)), a)))) else (if (a 51 (t 3221).toNatClampNeg) = (110 : Int32) then (cal (fX8_addWord nF (1 : Int32) (0 : Int32) (va_up t 3221 ((t 3221) + (1 : Int32))) a) (fun v3 t3 a3 => zok v3 (some (v3, t3, a3)))) else (if (a 51 (t 3221).toNatClampNeg) = (111 : Int32) then (cal (fX8_addWord nF (2 : Int32) (0 : Int32) (va_up t 3221 ((t 3221) + (1 : Int32))) a) (fun v4 t4 a4 => zok v4 (some (v4, t4, a4)))) else (if (a 51 (t 3221).toNatClampNeg) = (116 : Int32) then (cal (fX8_tellingComes nF (va_up t 3221 ((t 3221) + (1 : Int32))) a) (fun v5 t5 a5 => zok v5 (some (v5, t5, a5)))) else (if (a 51 (t 3221).toNatClampNeg) = (119 : Int32) then (if (0 : Int32) ≤ (7 : Int32) then (bnd (((va_up t 3221 ((t 3221) + (1 : Int32))) 3221) + (2 : Int32)) 64 (bnd (0 : Int32) 8 (zok (1 : Int32) (some ((1 : Int32), va_up t 3221 ((t 3221) + (1 : Int32)), va_up a 57 (upd (a 57) (0 : Int32).toNatClampNeg ((a 51 (((va_up t 3221 ((t 3221) + (1 : Int32))) 3221) + (2 : Int32)).toNatClampNeg) - (48 : Int32)))))))) else (zok (0 : Int32) (some ((0 : Int32), va_up t 3221 ((t 3221) + (1 : Int32)), a)))) else (if ((va_up t 3221 ((t 3221) + (1 : Int32))) 3211) = (4 : Int32) then (zok (0 : Int32) (some ((0 : Int32), va_up t 3221 ((t 3221) + (1 : Int32)), a))) else (bnd ((va_up (va_up t 3221 ((t 3221) + (1 : Int32))) 3211 (((va_up t 3221 ((t 3221) + (1 : Int32))) 3211) + (1 : Int32))) 3221) 64 (bnd ((va_up t 3221 ((t 3221) + (1 : Int32))) 3211) 4 (zok (1 : Int32) (some ((1 : Int32), va_up (va_up t 3221 ((t 3221) + (1 : Int32))) 3211 (((va_up t 3221 ((t 3221) + (1 : Int32))) 3211) + (1 : Int32)), va_up a 58 (upd (a 58) ((va_up t 3221 ((t 3221) + (1 : Int32))) 3211).toNatClampNeg (a 51 ((va_up (va_up t 3221 ((t 3221) + (1 : Int32))) 3211 (((va_up t 3221 ((t 3221) + (1 : Int32))) 3211) + (1 : Int32))) 3221).toNatClampNeg)))))))))))))) else (bnd ((va_up t 3221 ((t 3221) + (1 : Int32))) 3221) 64 (if (a 51 (t 3221).toNatClampNeg) = (105 : Int32) then (cal (fX8_addWord nF (3 : Int32) (0 : Int32) (va_up t 3221 ((t 3221) + (1 : Int32))) a) (fun v7 t7 a7 => zok v7 (some (v7, t7, a7)))) else (if (a 51 (t 3221).toNatClampNeg) = (108 : Int32) then (if ((a 51 ((va_up t 3221 ((t 3221) + (1 : Int32))) 3221).toNatClampNeg) - (48 : Int32)) ≤ (4 : Int32) then (zok (1 : Int32) (some ((1 : Int32), va_up (va_up t 3221 ((t 3221) + (1 : Int32))) 3213 ((a 51 ((va_up t 3221 ((t 3221) + (1 : Int32))) 3221).toNatClampNeg) - (48 : Int32)), a))) else (zok (0 : Int32) (some ((0 : Int32), va_up t 3221 ((t 3221) + (1 : Int32)), a)))) else (if (a 51 (t 3221).toNatClampNeg) = (110 : Int32) then (cal (fX8_addWord nF (1 : Int32) (0 : Int32) (va_up t 3221 ((t 3221) + (1 : Int32))) a) (fun v8 t8 a8 => zok v8 (some (v8, t8, a8)))) else (if (a 51 (t 3221).toNatClampNeg) = (111 : Int32) then (cal (fX8_addWord nF (2 : Int32) (0 : Int32) (va_up t 3221 ((t 3221) + (1 : Int32))) a) (fun v9 t9 a9 => zok v9 (some (v9, t9, a9)))) else (if (a 51 (t 3221).toNatClampNeg) = (116 : Int32) then (cal (fX8_tellingComes nF (va_up t 3221 ((t 3221) + (1 : Int32))) a) (fun v10 t10 a10 => zok v10 (some (v10, t10, a10)))) else (if (a 51 (t 3221).toNatClampNeg) = (119 : Int32) then (if ((a 51 ((va_up t 3221 ((t 3221) + (1 : Int32))) 3221).toNatClampNeg) - (48 : Int32)) ≤ (7 : Int32) then (bnd (((va_up t 3221 ((t 3221) + (1 : Int32))) 3221) + (2 : Int32)) 64 (bnd ((a 51 ((va_up t 3221 ((t 3221) + (1 : Int32))) 3221).toNatClampNeg) - (48 : Int32)) 8 (zok (1 : Int32) (some ((1 : Int32), va_up t 3221 ((t 3221) + (1 : Int32)), va_up a 57 (upd (a 57) ((a 51 ((va_up t 3221 ((t 3221) + (1 : Int32))) 3221).toNatClampNeg) - (48 : Int32)).toNatClampNeg ((a 51 (((va_up t 3221 ((t 3221) + (1 : Int32))) 3221) + (2 : Int32)).toNatClampNeg) - (48 : Int32)))))))) else (zok (0 : Int32) (some ((0 : Int32), va_up t 3221 ((t 3221) + (1 : Int32)), a)))) else (if ((va_up t 3221 ((t 3221) + (1 : Int32))) 3211) = (4 : Int32) then (zok (0 : Int32) (some ((0 : Int32), va_up t 3221 ((t 3221) + (1 : Int32)), a))) else (bnd ((va_up (va_up t 3221 ((t 3221) + (1 : Int32))) 3211 (((va_up t 3221 ((t 3221) + (1 : Int32))) 3211) + (1 : Int32))) 3221) 64 (bnd ((va_up t 3221 ((t 3221) + (1 : Int32))) 3211) 4 (zok (1 : Int32) (some ((1 : Int32), va_up (va_up t 3221 ((t 3221) + (1 : Int32))) 3211 (((va_up t 3221 ((t 3221) + (1 : Int32))) 3211) + (1 : Int32)), va_up a 58 (upd (a 58) ((va_up t 3221 ((t 3221) + (1 : Int32))) 3211).toNatClampNeg (a 51 ((va_up (va_up t 3221 ((t 3221) + (1 : Int32))) 3211 (((va_up t 3221 ((t 3221) + (1 : Int32))) 3211) + (1 : Int32))) 3221).toNatClampNeg))))))))))))))))
set_option maxRecDepth 100000 in
set_option maxHeartbeats 4000000 in
theorem kX8_comes (l : Launch) {x : Cx} {N : Nat} {u0 v0 : Option Nat} {nF : Nat} {t : sT} {a : sA} {rv : Int32} {rt : sT} {ra : sA} (hN : 653 ≤ N) (h : fX8_comes nF t a = some (rv, rt, ra)) : Met l yX8_comes [.code yX8_comes cX8_comes 3 (some .boolean)] (k2_rm 2 45) (Pre x N (rho u0 v0) t a [.ref (cz x + 50)]) (PostI x N (rho u0 v0) rt ra rv) 0 0 (cA x) := by
  refine j_entry (by decide) rfl (Nat.le_of_ble_eq_true rfl) ?_
  intro p e s m below meth c F hsz hnm
  have F : Fx p s m meth c cX8_comes 3 RX8 (some .boolean) x := F
  unfold fX8_comes at h
  show J p l e _ s m _ below meth c x N (rho u0 v0) 3 0 0 _ 0 [(0, .ref (cz x + 50))] [] t a
  refine j_aload_n F 0 dX8_comes_0 rfl rfl ?_
  refine j_getR F clX8 (j := 0) (lt653 rfl hN) ly50 (Nat.le_of_ble_eq_true rfl) rfl qf_X8_9 rfl dX8_comes_1 ?_
  refine j_aload_n F 0 dX8_comes_4 rfl rfl ?_
  refine j_dup F dX8_comes_5 rfl ?_
  refine j_getI F clX8 (j := 21) (tt := 3221) (lt653 rfl hN) ly50 (Nat.le_of_ble_eq_true rfl) rfl qf_X8_81 rfl dX8_comes_6 ?_
  refine j_dup_x1 F dX8_comes_9 rfl rfl ?_
  refine j_iconst F dX8_comes_10 cI_1 ?_
  refine j_iadd F dX8_comes_11 ?_
  refine j_putI F clX8 (j := 21) (tt := 3221) (lt653 rfl hN) ly50 (Nat.le_of_ble_eq_true rfl) rfl qf_X8_81 rfl rfl rfl dX8_comes_12 ?_
  refine j_iald F (lt653 rfl hN) ly51 dX8_comes_15 h (fun h => ?_)
  refine j_istore_n F (lv' := [(1, .int (a 51 (t 3221).toNatClampNeg)), (0, .ref (cz x + 50))]) dX8_comes_16 rfl (Nat.le_of_ble_eq_true rfl) rfl ?_
  refine j_aload_n F 1 dX8_comes_17 rfl rfl ?_
  refine j_getI F clX8 (j := 21) (tt := 3221) (lt653 rfl hN) ly50 (Nat.le_of_ble_eq_true rfl) rfl qf_X8_81 rfl dX8_comes_18 ?_
  refine j_aload_n F 1 dX8_comes_21 rfl rfl ?_
  refine j_getI F clX8 (j := 1) (tt := 3201) (lt653 rfl hN) ly50 (Nat.le_of_ble_eq_true rfl) rfl qf_X8_78 rfl dX8_comes_22 ?_
  refine j_icmp_ge F 43 dX8_comes_25 rfl h (fun h => ?_) (fun h => ?_)
  · refine j_iconst F dX8_comes_43 cI_0 ?_
    refine j_istore_n F (lv' := [(2, .int (0 : Int32)), (1, .int (a 51 (t 3221).toNatClampNeg)), (0, .ref (cz x + 50))]) dX8_comes_44 rfl (Nat.le_of_ble_eq_true rfl) rfl ?_
    refine j_iload_n F 1 dX8_comes_45 rfl rfl ?_
    refine ifE h (fun e1_0 h => ?_) (fun e1_0 h => ?_)
    · refine j_tsI F 139 dX8_comes_46 e1_0 (by decide) (by decide) rfl rfl ?_
      refine j_aload_n F 2 dX8_comes_139 rfl rfl ?_
      refine j_iconst F dX8_comes_140 cI_3 ?_
      refine j_iconst F dX8_comes_141 cI_0 ?_
      refine j_callVi F mwX8_addWord ql_X8_104 clX8 (lt653 rfl hN) ly50 [.int (3 : Int32), .int (0 : Int32)] rfl ⟨rfl, rfl, Nat.le_of_ble_eq_true rfl, Nat.le_of_ble_eq_true rfl⟩ ⟨Nat.le_refl 0, Nat.le_refl 0⟩ rfl (Nat.le_of_ble_eq_true rfl) dX8_comes_142 (fun _ _ _ h9 => kX8_addWord l hN  h9) h (fun v2 t2 a2 e2 h => ?_)
      exact j_zreturn F rfl dX8_comes_145 h
    · refine ifE h (fun e1_1 h => ?_) (fun e1_1 h => ?_)
      · refine j_tsI F 176 dX8_comes_46 e1_1 (by decide) (by decide) rfl rfl ?_
        refine j_iload_n F 0 dX8_comes_176 rfl rfl ?_
        refine j_iconst F dX8_comes_177 cI_4 ?_
        refine j_icmp_le F 183 dX8_comes_178 rfl h (fun h => ?_) (fun h => ?_)
        · refine j_aload_n F 2 dX8_comes_183 rfl rfl ?_
          refine j_iload_n F 0 dX8_comes_184 rfl rfl ?_
          refine j_putI F clX8 (j := 13) (tt := 3213) (lt653 rfl hN) ly50 (Nat.le_of_ble_eq_true rfl) rfl qf_X8_111 rfl rfl rfl dX8_comes_185 ?_
          refine j_iconst F dX8_comes_188 cI_1 ?_
          exact j_zreturn F rfl dX8_comes_189 h
        · refine j_iconst F dX8_comes_181 cI_0 ?_
          exact j_zreturn F rfl dX8_comes_182 h
      · refine ifE h (fun e1_2 h => ?_) (fun e1_2 h => ?_)
        · refine j_tsI F 125 dX8_comes_46 e1_2 (by decide) (by decide) rfl rfl ?_
          refine j_aload_n F 2 dX8_comes_125 rfl rfl ?_
          refine j_iconst F dX8_comes_126 cI_1 ?_
          refine j_iconst F dX8_comes_127 cI_0 ?_
          refine j_callVi F mwX8_addWord ql_X8_104 clX8 (lt653 rfl hN) ly50 [.int (1 : Int32), .int (0 : Int32)] rfl ⟨rfl, rfl, Nat.le_of_ble_eq_true rfl, Nat.le_of_ble_eq_true rfl⟩ ⟨Nat.le_refl 0, Nat.le_refl 0⟩ rfl (Nat.le_of_ble_eq_true rfl) dX8_comes_128 (fun _ _ _ h9 => kX8_addWord l hN  h9) h (fun v3 t3 a3 e3 h => ?_)
          exact j_zreturn F rfl dX8_comes_131 h
        · refine ifE h (fun e1_3 h => ?_) (fun e1_3 h => ?_)
          · refine j_tsI F 132 dX8_comes_46 e1_3 (by decide) (by decide) rfl rfl ?_
            refine j_aload_n F 2 dX8_comes_132 rfl rfl ?_
            refine j_iconst F dX8_comes_133 cI_2 ?_
            refine j_iconst F dX8_comes_134 cI_0 ?_
            refine j_callVi F mwX8_addWord ql_X8_104 clX8 (lt653 rfl hN) ly50 [.int (2 : Int32), .int (0 : Int32)] rfl ⟨rfl, rfl, Nat.le_of_ble_eq_true rfl, Nat.le_of_ble_eq_true rfl⟩ ⟨Nat.le_refl 0, Nat.le_refl 0⟩ rfl (Nat.le_of_ble_eq_true rfl) dX8_comes_135 (fun _ _ _ h9 => kX8_addWord l hN  h9) h (fun v4 t4 a4 e4 h => ?_)
            exact j_zreturn F rfl dX8_comes_138 h
          · refine ifE h (fun e1_4 h => ?_) (fun e1_4 h => ?_)
            · refine j_tsI F 120 dX8_comes_46 e1_4 (by decide) (by decide) rfl rfl ?_
              refine j_aload_n F 2 dX8_comes_120 rfl rfl ?_
              refine j_callVi F mwX8_tellingComes ql_X8_108 clX8 (lt653 rfl hN) ly50 [] rfl ⟨rfl, rfl, Nat.le_of_ble_eq_true rfl, Nat.le_of_ble_eq_true rfl⟩ ⟨Nat.le_refl 0, Nat.le_refl 0⟩ rfl (Nat.le_of_ble_eq_true rfl) dX8_comes_121 (fun _ _ _ h9 => kX8_tellingComes l hN  h9) h (fun v5 t5 a5 e5 h => ?_)
              exact j_zreturn F rfl dX8_comes_124 h
            · refine ifE h (fun e1_5 h => ?_) (fun e1_5 h => ?_)
              · refine j_tsI F 146 dX8_comes_46 e1_5 (by decide) (by decide) rfl rfl ?_
                refine j_iload_n F 0 dX8_comes_146 rfl rfl ?_
                refine j_bipush F dX8_comes_147 cB_7 ?_
                refine j_icmp_le F 154 dX8_comes_149 rfl h (fun h => ?_) (fun h => ?_)
                · refine j_aload_n F 2 dX8_comes_154 rfl rfl ?_
                  refine j_getR F clX8 (j := 10) (lt653 rfl hN) ly50 (Nat.le_of_ble_eq_true rfl) rfl qf_X8_28 rfl dX8_comes_155 ?_
                  refine j_iload_n F 0 dX8_comes_158 rfl rfl ?_
                  refine j_aload_n F 2 dX8_comes_159 rfl rfl ?_
                  refine j_getR F clX8 (j := 0) (lt653 rfl hN) ly50 (Nat.le_of_ble_eq_true rfl) rfl qf_X8_9 rfl dX8_comes_160 ?_
                  refine j_aload_n F 2 dX8_comes_163 rfl rfl ?_
                  refine j_getI F clX8 (j := 21) (tt := 3221) (lt653 rfl hN) ly50 (Nat.le_of_ble_eq_true rfl) rfl qf_X8_81 rfl dX8_comes_164 ?_
                  refine j_iconst F dX8_comes_167 cI_2 ?_
                  refine j_iadd F dX8_comes_168 ?_
                  refine j_iald F (lt653 rfl hN) ly51 dX8_comes_169 h (fun h => ?_)
                  refine j_bipush F dX8_comes_170 cB_48 ?_
                  refine j_isub F dX8_comes_172 ?_
                  refine j_iast F (lt653 rfl hN) ly57 dX8_comes_173 h (fun h => ?_)
                  refine j_iconst F dX8_comes_174 cI_1 ?_
                  exact j_zreturn F rfl dX8_comes_175 h
                · refine j_iconst F dX8_comes_152 cI_0 ?_
                  exact j_zreturn F rfl dX8_comes_153 h
              · refine j_tsD F 190 dX8_comes_46 rfl (fun i hi => ?_) rfl ?_
                · have hi : i < 15 := hi
                  have hi : i = 0 ∨ i = 1 ∨ i = 2 ∨ i = 3 ∨ i = 4 ∨ i = 5 ∨ i = 6 ∨ i = 7 ∨ i = 8 ∨ i = 9 ∨ i = 10 ∨ i = 11 ∨ i = 12 ∨ i = 13 ∨ i = 14 := by omega
                  rcases hi with rfl | rfl | rfl | rfl | rfl | rfl | rfl | rfl | rfl | rfl | rfl | rfl | rfl | rfl | rfl
                  · exact Or.inr (by have h9 := lv_neT (a := 105) e1_0 rfl; omega)
                  · exact Or.inl rfl
                  · exact Or.inl rfl
                  · exact Or.inr (by have h9 := lv_neT (a := 108) e1_1 rfl; omega)
                  · exact Or.inl rfl
                  · exact Or.inr (by have h9 := lv_neT (a := 110) e1_2 rfl; omega)
                  · exact Or.inr (by have h9 := lv_neT (a := 111) e1_3 rfl; omega)
                  · exact Or.inl rfl
                  · exact Or.inl rfl
                  · exact Or.inl rfl
                  · exact Or.inl rfl
                  · exact Or.inr (by have h9 := lv_neT (a := 116) e1_4 rfl; omega)
                  · exact Or.inl rfl
                  · exact Or.inl rfl
                  · exact Or.inr (by have h9 := lv_neT (a := 119) e1_5 rfl; omega)
                refine j_aload_n F 2 dX8_comes_190 rfl rfl ?_
                refine j_getI F clX8 (j := 11) (tt := 3211) (lt653 rfl hN) ly50 (Nat.le_of_ble_eq_true rfl) rfl qf_X8_71 rfl dX8_comes_191 ?_
                refine j_iconst F dX8_comes_194 cI_4 ?_
                refine j_icmp_ne F 200 dX8_comes_195 rfl h (fun h => ?_) (fun h => ?_)
                · refine j_iconst F dX8_comes_198 cI_0 ?_
                  exact j_zreturn F rfl dX8_comes_199 h
                · refine j_aload_n F 2 dX8_comes_200 rfl rfl ?_
                  refine j_getR F clX8 (j := 12) (lt653 rfl hN) ly50 (Nat.le_of_ble_eq_true rfl) rfl qf_X8_31 rfl dX8_comes_201 ?_
                  refine j_aload_n F 2 dX8_comes_204 rfl rfl ?_
                  refine j_dup F dX8_comes_205 rfl ?_
                  refine j_getI F clX8 (j := 11) (tt := 3211) (lt653 rfl hN) ly50 (Nat.le_of_ble_eq_true rfl) rfl qf_X8_71 rfl dX8_comes_206 ?_
                  refine j_dup_x1 F dX8_comes_209 rfl rfl ?_
                  refine j_iconst F dX8_comes_210 cI_1 ?_
                  refine j_iadd F dX8_comes_211 ?_
                  refine j_putI F clX8 (j := 11) (tt := 3211) (lt653 rfl hN) ly50 (Nat.le_of_ble_eq_true rfl) rfl qf_X8_71 rfl rfl rfl dX8_comes_212 ?_
                  refine j_aload_n F 2 dX8_comes_215 rfl rfl ?_
                  refine j_getR F clX8 (j := 0) (lt653 rfl hN) ly50 (Nat.le_of_ble_eq_true rfl) rfl qf_X8_9 rfl dX8_comes_216 ?_
                  refine j_aload_n F 2 dX8_comes_219 rfl rfl ?_
                  refine j_getI F clX8 (j := 21) (tt := 3221) (lt653 rfl hN) ly50 (Nat.le_of_ble_eq_true rfl) rfl qf_X8_81 rfl dX8_comes_220 ?_
                  refine j_iald F (lt653 rfl hN) ly51 dX8_comes_223 h (fun h => ?_)
                  refine j_iast F (lt653 rfl hN) ly58 dX8_comes_224 h (fun h => ?_)
                  refine j_iconst F dX8_comes_225 cI_1 ?_
                  exact j_zreturn F rfl dX8_comes_226 h
  · refine j_aload_n F 1 dX8_comes_28 rfl rfl ?_
    refine j_getR F clX8 (j := 0) (lt653 rfl hN) ly50 (Nat.le_of_ble_eq_true rfl) rfl qf_X8_9 rfl dX8_comes_29 ?_
    refine j_aload_n F 1 dX8_comes_32 rfl rfl ?_
    refine j_getI F clX8 (j := 21) (tt := 3221) (lt653 rfl hN) ly50 (Nat.le_of_ble_eq_true rfl) rfl qf_X8_81 rfl dX8_comes_33 ?_
    refine j_iald F (lt653 rfl hN) ly51 dX8_comes_36 h (fun h => ?_)
    refine j_bipush F dX8_comes_37 cB_48 ?_
    refine j_isub F dX8_comes_39 ?_
    refine j_goto F 44 dX8_comes_40 rfl ?_
    refine j_istore_n F (lv' := [(2, .int ((a 51 ((va_up t 3221 ((t 3221) + (1 : Int32))) 3221).toNatClampNeg) - (48 : Int32))), (1, .int (a 51 (t 3221).toNatClampNeg)), (0, .ref (cz x + 50))]) dX8_comes_44 rfl (Nat.le_of_ble_eq_true rfl) rfl ?_
    refine j_iload_n F 1 dX8_comes_45 rfl rfl ?_
    refine ifE h (fun e6_0 h => ?_) (fun e6_0 h => ?_)
    · refine j_tsI F 139 dX8_comes_46 e6_0 (by decide) (by decide) rfl rfl ?_
      refine j_aload_n F 2 dX8_comes_139 rfl rfl ?_
      refine j_iconst F dX8_comes_140 cI_3 ?_
      refine j_iconst F dX8_comes_141 cI_0 ?_
      refine j_callVi F mwX8_addWord ql_X8_104 clX8 (lt653 rfl hN) ly50 [.int (3 : Int32), .int (0 : Int32)] rfl ⟨rfl, rfl, Nat.le_of_ble_eq_true rfl, Nat.le_of_ble_eq_true rfl⟩ ⟨Nat.le_refl 0, Nat.le_refl 0⟩ rfl (Nat.le_of_ble_eq_true rfl) dX8_comes_142 (fun _ _ _ h9 => kX8_addWord l hN  h9) h (fun v7 t7 a7 e7 h => ?_)
      exact j_zreturn F rfl dX8_comes_145 h
    · refine ifE h (fun e6_1 h => ?_) (fun e6_1 h => ?_)
      · refine j_tsI F 176 dX8_comes_46 e6_1 (by decide) (by decide) rfl rfl ?_
        refine j_iload_n F 0 dX8_comes_176 rfl rfl ?_
        refine j_iconst F dX8_comes_177 cI_4 ?_
        refine j_icmp_le F 183 dX8_comes_178 rfl h (fun h => ?_) (fun h => ?_)
        · refine j_aload_n F 2 dX8_comes_183 rfl rfl ?_
          refine j_iload_n F 0 dX8_comes_184 rfl rfl ?_
          refine j_putI F clX8 (j := 13) (tt := 3213) (lt653 rfl hN) ly50 (Nat.le_of_ble_eq_true rfl) rfl qf_X8_111 rfl rfl rfl dX8_comes_185 ?_
          refine j_iconst F dX8_comes_188 cI_1 ?_
          exact j_zreturn F rfl dX8_comes_189 h
        · refine j_iconst F dX8_comes_181 cI_0 ?_
          exact j_zreturn F rfl dX8_comes_182 h
      · refine ifE h (fun e6_2 h => ?_) (fun e6_2 h => ?_)
        · refine j_tsI F 125 dX8_comes_46 e6_2 (by decide) (by decide) rfl rfl ?_
          refine j_aload_n F 2 dX8_comes_125 rfl rfl ?_
          refine j_iconst F dX8_comes_126 cI_1 ?_
          refine j_iconst F dX8_comes_127 cI_0 ?_
          refine j_callVi F mwX8_addWord ql_X8_104 clX8 (lt653 rfl hN) ly50 [.int (1 : Int32), .int (0 : Int32)] rfl ⟨rfl, rfl, Nat.le_of_ble_eq_true rfl, Nat.le_of_ble_eq_true rfl⟩ ⟨Nat.le_refl 0, Nat.le_refl 0⟩ rfl (Nat.le_of_ble_eq_true rfl) dX8_comes_128 (fun _ _ _ h9 => kX8_addWord l hN  h9) h (fun v8 t8 a8 e8 h => ?_)
          exact j_zreturn F rfl dX8_comes_131 h
        · refine ifE h (fun e6_3 h => ?_) (fun e6_3 h => ?_)
          · refine j_tsI F 132 dX8_comes_46 e6_3 (by decide) (by decide) rfl rfl ?_
            refine j_aload_n F 2 dX8_comes_132 rfl rfl ?_
            refine j_iconst F dX8_comes_133 cI_2 ?_
            refine j_iconst F dX8_comes_134 cI_0 ?_
            refine j_callVi F mwX8_addWord ql_X8_104 clX8 (lt653 rfl hN) ly50 [.int (2 : Int32), .int (0 : Int32)] rfl ⟨rfl, rfl, Nat.le_of_ble_eq_true rfl, Nat.le_of_ble_eq_true rfl⟩ ⟨Nat.le_refl 0, Nat.le_refl 0⟩ rfl (Nat.le_of_ble_eq_true rfl) dX8_comes_135 (fun _ _ _ h9 => kX8_addWord l hN  h9) h (fun v9 t9 a9 e9 h => ?_)
            exact j_zreturn F rfl dX8_comes_138 h
          · refine ifE h (fun e6_4 h => ?_) (fun e6_4 h => ?_)
            · refine j_tsI F 120 dX8_comes_46 e6_4 (by decide) (by decide) rfl rfl ?_
              refine j_aload_n F 2 dX8_comes_120 rfl rfl ?_
              refine j_callVi F mwX8_tellingComes ql_X8_108 clX8 (lt653 rfl hN) ly50 [] rfl ⟨rfl, rfl, Nat.le_of_ble_eq_true rfl, Nat.le_of_ble_eq_true rfl⟩ ⟨Nat.le_refl 0, Nat.le_refl 0⟩ rfl (Nat.le_of_ble_eq_true rfl) dX8_comes_121 (fun _ _ _ h9 => kX8_tellingComes l hN  h9) h (fun v10 t10 a10 e10 h => ?_)
              exact j_zreturn F rfl dX8_comes_124 h
            · refine ifE h (fun e6_5 h => ?_) (fun e6_5 h => ?_)
              · refine j_tsI F 146 dX8_comes_46 e6_5 (by decide) (by decide) rfl rfl ?_
                refine j_iload_n F 0 dX8_comes_146 rfl rfl ?_
                refine j_bipush F dX8_comes_147 cB_7 ?_
                refine j_icmp_le F 154 dX8_comes_149 rfl h (fun h => ?_) (fun h => ?_)
                · refine j_aload_n F 2 dX8_comes_154 rfl rfl ?_
                  refine j_getR F clX8 (j := 10) (lt653 rfl hN) ly50 (Nat.le_of_ble_eq_true rfl) rfl qf_X8_28 rfl dX8_comes_155 ?_
                  refine j_iload_n F 0 dX8_comes_158 rfl rfl ?_
                  refine j_aload_n F 2 dX8_comes_159 rfl rfl ?_
                  refine j_getR F clX8 (j := 0) (lt653 rfl hN) ly50 (Nat.le_of_ble_eq_true rfl) rfl qf_X8_9 rfl dX8_comes_160 ?_
                  refine j_aload_n F 2 dX8_comes_163 rfl rfl ?_
                  refine j_getI F clX8 (j := 21) (tt := 3221) (lt653 rfl hN) ly50 (Nat.le_of_ble_eq_true rfl) rfl qf_X8_81 rfl dX8_comes_164 ?_
                  refine j_iconst F dX8_comes_167 cI_2 ?_
                  refine j_iadd F dX8_comes_168 ?_
                  refine j_iald F (lt653 rfl hN) ly51 dX8_comes_169 h (fun h => ?_)
                  refine j_bipush F dX8_comes_170 cB_48 ?_
                  refine j_isub F dX8_comes_172 ?_
                  refine j_iast F (lt653 rfl hN) ly57 dX8_comes_173 h (fun h => ?_)
                  refine j_iconst F dX8_comes_174 cI_1 ?_
                  exact j_zreturn F rfl dX8_comes_175 h
                · refine j_iconst F dX8_comes_152 cI_0 ?_
                  exact j_zreturn F rfl dX8_comes_153 h
              · refine j_tsD F 190 dX8_comes_46 rfl (fun i hi => ?_) rfl ?_
                · have hi : i < 15 := hi
                  have hi : i = 0 ∨ i = 1 ∨ i = 2 ∨ i = 3 ∨ i = 4 ∨ i = 5 ∨ i = 6 ∨ i = 7 ∨ i = 8 ∨ i = 9 ∨ i = 10 ∨ i = 11 ∨ i = 12 ∨ i = 13 ∨ i = 14 := by omega
                  rcases hi with rfl | rfl | rfl | rfl | rfl | rfl | rfl | rfl | rfl | rfl | rfl | rfl | rfl | rfl | rfl
                  · exact Or.inr (by have h9 := lv_neT (a := 105) e6_0 rfl; omega)
                  · exact Or.inl rfl
                  · exact Or.inl rfl
                  · exact Or.inr (by have h9 := lv_neT (a := 108) e6_1 rfl; omega)
                  · exact Or.inl rfl
                  · exact Or.inr (by have h9 := lv_neT (a := 110) e6_2 rfl; omega)
                  · exact Or.inr (by have h9 := lv_neT (a := 111) e6_3 rfl; omega)
                  · exact Or.inl rfl
                  · exact Or.inl rfl
                  · exact Or.inl rfl
                  · exact Or.inl rfl
                  · exact Or.inr (by have h9 := lv_neT (a := 116) e6_4 rfl; omega)
                  · exact Or.inl rfl
                  · exact Or.inl rfl
                  · exact Or.inr (by have h9 := lv_neT (a := 119) e6_5 rfl; omega)
                refine j_aload_n F 2 dX8_comes_190 rfl rfl ?_
                refine j_getI F clX8 (j := 11) (tt := 3211) (lt653 rfl hN) ly50 (Nat.le_of_ble_eq_true rfl) rfl qf_X8_71 rfl dX8_comes_191 ?_
                refine j_iconst F dX8_comes_194 cI_4 ?_
                refine j_icmp_ne F 200 dX8_comes_195 rfl h (fun h => ?_) (fun h => ?_)
                · refine j_iconst F dX8_comes_198 cI_0 ?_
                  exact j_zreturn F rfl dX8_comes_199 h
                · refine j_aload_n F 2 dX8_comes_200 rfl rfl ?_
                  refine j_getR F clX8 (j := 12) (lt653 rfl hN) ly50 (Nat.le_of_ble_eq_true rfl) rfl qf_X8_31 rfl dX8_comes_201 ?_
                  refine j_aload_n F 2 dX8_comes_204 rfl rfl ?_
                  refine j_dup F dX8_comes_205 rfl ?_
                  refine j_getI F clX8 (j := 11) (tt := 3211) (lt653 rfl hN) ly50 (Nat.le_of_ble_eq_true rfl) rfl qf_X8_71 rfl dX8_comes_206 ?_
                  refine j_dup_x1 F dX8_comes_209 rfl rfl ?_
                  refine j_iconst F dX8_comes_210 cI_1 ?_
                  refine j_iadd F dX8_comes_211 ?_
                  refine j_putI F clX8 (j := 11) (tt := 3211) (lt653 rfl hN) ly50 (Nat.le_of_ble_eq_true rfl) rfl qf_X8_71 rfl rfl rfl dX8_comes_212 ?_
                  refine j_aload_n F 2 dX8_comes_215 rfl rfl ?_
                  refine j_getR F clX8 (j := 0) (lt653 rfl hN) ly50 (Nat.le_of_ble_eq_true rfl) rfl qf_X8_9 rfl dX8_comes_216 ?_
                  refine j_aload_n F 2 dX8_comes_219 rfl rfl ?_
                  refine j_getI F clX8 (j := 21) (tt := 3221) (lt653 rfl hN) ly50 (Nat.le_of_ble_eq_true rfl) rfl qf_X8_81 rfl dX8_comes_220 ?_
                  refine j_iald F (lt653 rfl hN) ly51 dX8_comes_223 h (fun h => ?_)
                  refine j_iast F (lt653 rfl hN) ly58 dX8_comes_224 h (fun h => ?_)
                  refine j_iconst F dX8_comes_225 cI_1 ?_
                  exact j_zreturn F rfl dX8_comes_226 h
def fX8_count (nF : Nat) (x1 : Int32) (t : sT) (a : sA) : Rs := if x1 = (0 : Int32) then (some (t 3207, t, a)) else (if x1 = (1 : Int32) then (some (t 3211, t, a)) else (if x1 = (2 : Int32) then (some (t 3215, t, a)) else (if x1 = (3 : Int32) then (some (t 3203, t, a)) else (if x1 = (4 : Int32) then (some (t 3201, t, a)) else (if x1 = (5 : Int32) then (some (t 3213, t, a)) else (if x1 = (6 : Int32) then (some (t 3214, t, a)) else (if x1 = (7 : Int32) then (cal (fX8_weightOf nF (255 : Int32) t a) (fun v2 t2 a2 => some (v2, t2, a2))) else (if x1 = (8 : Int32) then (some (t 3205, t, a)) else (cal (fX8_in nF x1 (11 : Int32) (16 : Int32) t a) (fun v3 t3 a3 => if v3 = 0 then (some ((-9 : Int32), t3, a3)) else (bnd (x1 - (10 : Int32)) 8 (some (a3 54 (x1 - (10 : Int32)).toNatClampNeg, t3, a3)))))))))))))
set_option maxRecDepth 100000 in
set_option maxHeartbeats 4000000 in
theorem kX8_count (l : Launch) {x : Cx} {N : Nat} {u0 v0 : Option Nat} {nF : Nat} {x1 : Int32} {t : sT} {a : sA} {rv : Int32} {rt : sT} {ra : sA} (hN : 653 ≤ N) (h : fX8_count nF x1 t a = some (rv, rt, ra)) : Met l yX8_count [.code yX8_count cX8_count 2 (some .int)] (k2_rm 1 23) (Pre x N (rho u0 v0) t a [.ref (cz x + 50), .int x1]) (PostI x N (rho u0 v0) rt ra rv) 0 0 (cA x) := by
  refine j_entry (by decide) rfl (Nat.le_of_ble_eq_true rfl) ?_
  intro p e s m below meth c F hsz hnm
  have F : Fx p s m meth c cX8_count 2 RX8 (some .int) x := F
  unfold fX8_count at h
  show J p l e _ s m _ below meth c x N (rho u0 v0) 2 0 0 _ 0 [(0, .ref (cz x + 50)), (1, .int x1)] [] t a
  refine j_iload_n F 1 dX8_count_0 rfl rfl ?_
  refine ifE h (fun e1_0 h => ?_) (fun e1_0 h => ?_)
  · refine j_tsI F 52 dX8_count_1 e1_0 (by decide) (by decide) rfl rfl ?_
    refine j_aload_n F 0 dX8_count_52 rfl rfl ?_
    refine j_getI F clX8 (j := 7) (tt := 3207) (lt653 rfl hN) ly50 (Nat.le_of_ble_eq_true rfl) rfl qf_X8_67 rfl dX8_count_53 ?_
    exact j_ireturn F rfl dX8_count_56 h
  · refine ifE h (fun e1_1 h => ?_) (fun e1_1 h => ?_)
    · refine j_tsI F 57 dX8_count_1 e1_1 (by decide) (by decide) rfl rfl ?_
      refine j_aload_n F 0 dX8_count_57 rfl rfl ?_
      refine j_getI F clX8 (j := 11) (tt := 3211) (lt653 rfl hN) ly50 (Nat.le_of_ble_eq_true rfl) rfl qf_X8_71 rfl dX8_count_58 ?_
      exact j_ireturn F rfl dX8_count_61 h
    · refine ifE h (fun e1_2 h => ?_) (fun e1_2 h => ?_)
      · refine j_tsI F 62 dX8_count_1 e1_2 (by decide) (by decide) rfl rfl ?_
        refine j_aload_n F 0 dX8_count_62 rfl rfl ?_
        refine j_getI F clX8 (j := 15) (tt := 3215) (lt653 rfl hN) ly50 (Nat.le_of_ble_eq_true rfl) rfl qf_X8_230 rfl dX8_count_63 ?_
        exact j_ireturn F rfl dX8_count_66 h
      · refine ifE h (fun e1_3 h => ?_) (fun e1_3 h => ?_)
        · refine j_tsI F 67 dX8_count_1 e1_3 (by decide) (by decide) rfl rfl ?_
          refine j_aload_n F 0 dX8_count_67 rfl rfl ?_
          refine j_getI F clX8 (j := 3) (tt := 3203) (lt653 rfl hN) ly50 (Nat.le_of_ble_eq_true rfl) rfl qf_X8_139 rfl dX8_count_68 ?_
          exact j_ireturn F rfl dX8_count_71 h
        · refine ifE h (fun e1_4 h => ?_) (fun e1_4 h => ?_)
          · refine j_tsI F 72 dX8_count_1 e1_4 (by decide) (by decide) rfl rfl ?_
            refine j_aload_n F 0 dX8_count_72 rfl rfl ?_
            refine j_getI F clX8 (j := 1) (tt := 3201) (lt653 rfl hN) ly50 (Nat.le_of_ble_eq_true rfl) rfl qf_X8_78 rfl dX8_count_73 ?_
            exact j_ireturn F rfl dX8_count_76 h
          · refine ifE h (fun e1_5 h => ?_) (fun e1_5 h => ?_)
            · refine j_tsI F 77 dX8_count_1 e1_5 (by decide) (by decide) rfl rfl ?_
              refine j_aload_n F 0 dX8_count_77 rfl rfl ?_
              refine j_getI F clX8 (j := 13) (tt := 3213) (lt653 rfl hN) ly50 (Nat.le_of_ble_eq_true rfl) rfl qf_X8_111 rfl dX8_count_78 ?_
              exact j_ireturn F rfl dX8_count_81 h
            · refine ifE h (fun e1_6 h => ?_) (fun e1_6 h => ?_)
              · refine j_tsI F 82 dX8_count_1 e1_6 (by decide) (by decide) rfl rfl ?_
                refine j_aload_n F 0 dX8_count_82 rfl rfl ?_
                refine j_getI F clX8 (j := 14) (tt := 3214) (lt653 rfl hN) ly50 (Nat.le_of_ble_eq_true rfl) rfl qf_X8_136 rfl dX8_count_83 ?_
                exact j_ireturn F rfl dX8_count_86 h
              · refine ifE h (fun e1_7 h => ?_) (fun e1_7 h => ?_)
                · refine j_tsI F 87 dX8_count_1 e1_7 (by decide) (by decide) rfl rfl ?_
                  refine j_aload_n F 0 dX8_count_87 rfl rfl ?_
                  refine j_sipush F dX8_count_88 cS_255 ?_
                  refine j_callVi F mwX8_weightOf ql_X8_181 clX8 (lt653 rfl hN) ly50 [.int (255 : Int32)] rfl ⟨rfl, rfl, Nat.le_of_ble_eq_true rfl, Nat.le_of_ble_eq_true rfl⟩ ⟨Nat.le_refl 0, Nat.le_refl 0⟩ rfl (Nat.le_of_ble_eq_true rfl) dX8_count_91 (fun _ _ _ h9 => kX8_weightOf l hN  h9) h (fun v2 t2 a2 e2 h => ?_)
                  exact j_ireturn F rfl dX8_count_94 h
                · refine ifE h (fun e1_8 h => ?_) (fun e1_8 h => ?_)
                  · refine j_tsI F 95 dX8_count_1 e1_8 (by decide) (by decide) rfl rfl ?_
                    refine j_aload_n F 0 dX8_count_95 rfl rfl ?_
                    refine j_getI F clX8 (j := 5) (tt := 3205) (lt653 rfl hN) ly50 (Nat.le_of_ble_eq_true rfl) rfl qf_X8_218 rfl dX8_count_96 ?_
                    exact j_ireturn F rfl dX8_count_99 h
                  · refine j_tsD F 100 dX8_count_1 rfl (fun i hi => ?_) rfl ?_
                    · have hi : i < 9 := hi
                      have hi : i = 0 ∨ i = 1 ∨ i = 2 ∨ i = 3 ∨ i = 4 ∨ i = 5 ∨ i = 6 ∨ i = 7 ∨ i = 8 := by omega
                      rcases hi with rfl | rfl | rfl | rfl | rfl | rfl | rfl | rfl | rfl
                      · exact Or.inr (by have h9 := lv_neT (a := 0) e1_0 rfl; omega)
                      · exact Or.inr (by have h9 := lv_neT (a := 1) e1_1 rfl; omega)
                      · exact Or.inr (by have h9 := lv_neT (a := 2) e1_2 rfl; omega)
                      · exact Or.inr (by have h9 := lv_neT (a := 3) e1_3 rfl; omega)
                      · exact Or.inr (by have h9 := lv_neT (a := 4) e1_4 rfl; omega)
                      · exact Or.inr (by have h9 := lv_neT (a := 5) e1_5 rfl; omega)
                      · exact Or.inr (by have h9 := lv_neT (a := 6) e1_6 rfl; omega)
                      · exact Or.inr (by have h9 := lv_neT (a := 7) e1_7 rfl; omega)
                      · exact Or.inr (by have h9 := lv_neT (a := 8) e1_8 rfl; omega)
                    refine j_iload_n F 1 dX8_count_100 rfl rfl ?_
                    refine j_bipush F dX8_count_101 cB_11 ?_
                    refine j_bipush F dX8_count_103 cB_16 ?_
                    refine j_callSi F mwX8_in ql_X8_63 [.int x1, .int (11 : Int32), .int (16 : Int32)] rfl ⟨rfl, rfl, Nat.le_of_ble_eq_true rfl, Nat.le_of_ble_eq_true rfl⟩ ⟨Nat.le_refl 0, Nat.le_refl 0⟩ rfl (Nat.le_of_ble_eq_true rfl) dX8_count_105 (fun _ _ _ h9 => kX8_in l hN  h9) h (fun v3 t3 a3 e3 h => ?_)
                    refine j_if_eq F 123 dX8_count_108 rfl h (fun h => ?_) (fun h => ?_)
                    · refine j_bipush F dX8_count_123 cB_m9 ?_
                      exact j_ireturn F rfl dX8_count_125 h
                    · refine j_aload_n F 0 dX8_count_111 rfl rfl ?_
                      refine j_getR F clX8 (j := 6) (lt653 rfl hN) ly50 (Nat.le_of_ble_eq_true rfl) rfl qf_X8_19 rfl dX8_count_112 ?_
                      refine j_iload_n F 1 dX8_count_115 rfl rfl ?_
                      refine j_bipush F dX8_count_116 cB_10 ?_
                      refine j_isub F dX8_count_118 ?_
                      refine j_iald F (lt653 rfl hN) ly54 dX8_count_119 h (fun h => ?_)
                      refine j_goto F 125 dX8_count_120 rfl ?_
                      exact j_ireturn F rfl dX8_count_125 h
def fX8_digit (nF : Nat) (t : sT) (a : sA) : Rs := cal (fX8_seesDigit nF t a) (fun v1 t1 a1 => if v1 = 0 then (zok v1 (some (v1, va_up t1 3221 ((t1 3221) + (0 : Int32)), a1))) else (zok v1 (some (v1, va_up t1 3221 ((t1 3221) + (1 : Int32)), a1))))
set_option maxRecDepth 100000 in
set_option maxHeartbeats 4000000 in
theorem kX8_digit (l : Launch) {x : Cx} {N : Nat} {u0 v0 : Option Nat} {nF : Nat} {t : sT} {a : sA} {rv : Int32} {rt : sT} {ra : sA} (hN : 653 ≤ N) (h : fX8_digit nF t a = some (rv, rt, ra)) : Met l yX8_digit [.code yX8_digit cX8_digit 2 (some .boolean)] (k2_rm 1 20) (Pre x N (rho u0 v0) t a [.ref (cz x + 50)]) (PostI x N (rho u0 v0) rt ra rv) 0 0 (cA x) := by
  refine j_entry (by decide) rfl (Nat.le_of_ble_eq_true rfl) ?_
  intro p e s m below meth c F hsz hnm
  have F : Fx p s m meth c cX8_digit 2 RX8 (some .boolean) x := F
  unfold fX8_digit at h
  show J p l e _ s m _ below meth c x N (rho u0 v0) 2 0 0 _ 0 [(0, .ref (cz x + 50))] [] t a
  refine j_aload_n F 0 dX8_digit_0 rfl rfl ?_
  refine j_callVi F mwX8_seesDigit ql_X8_84 clX8 (lt653 rfl hN) ly50 [] rfl ⟨rfl, rfl, Nat.le_of_ble_eq_true rfl, Nat.le_of_ble_eq_true rfl⟩ ⟨Nat.le_refl 0, Nat.le_refl 0⟩ rfl (Nat.le_of_ble_eq_true rfl) dX8_digit_1 (fun _ _ _ h9 => kX8_seesDigit l hN  h9) h (fun v1 t1 a1 e1 h => ?_)
  refine j_istore_n F (lv' := [(1, .int v1), (0, .ref (cz x + 50))]) dX8_digit_4 rfl (Nat.le_of_ble_eq_true rfl) rfl ?_
  refine j_aload_n F 1 dX8_digit_5 rfl rfl ?_
  refine j_dup F dX8_digit_6 rfl ?_
  refine j_getI F clX8 (j := 21) (tt := 3221) (lt653 rfl hN) ly50 (Nat.le_of_ble_eq_true rfl) rfl qf_X8_81 rfl dX8_digit_7 ?_
  refine j_iload_n F 0 dX8_digit_10 rfl rfl ?_
  refine j_if_eq F 18 dX8_digit_11 rfl h (fun h => ?_) (fun h => ?_)
  · refine j_iconst F dX8_digit_18 cI_0 ?_
    refine j_iadd F dX8_digit_19 ?_
    refine j_putI F clX8 (j := 21) (tt := 3221) (lt653 rfl hN) ly50 (Nat.le_of_ble_eq_true rfl) rfl qf_X8_81 rfl rfl rfl dX8_digit_20 ?_
    refine j_iload_n F 0 dX8_digit_23 rfl rfl ?_
    exact j_zreturn F rfl dX8_digit_24 h
  · refine j_iconst F dX8_digit_14 cI_1 ?_
    refine j_goto F 19 dX8_digit_15 rfl ?_
    refine j_iadd F dX8_digit_19 ?_
    refine j_putI F clX8 (j := 21) (tt := 3221) (lt653 rfl hN) ly50 (Nat.le_of_ble_eq_true rfl) rfl qf_X8_81 rfl rfl rfl dX8_digit_20 ?_
    refine j_iload_n F 0 dX8_digit_23 rfl rfl ?_
    exact j_zreturn F rfl dX8_digit_24 h
def fX8_follows (nF : Nat) (x1 : Int32) (x2 : Int32) (t : sT) (a : sA) : Rs := if x1 < 0 then (cal (fX8_refuse nF (-4 : Int32) t a) (fun v1 t1 a1 => some (v1, t1, a1))) else (if 0 ≤ x2 then (if (6 : Int32) < x1 then (cal (fX8_refuse nF (-6 : Int32) t a) (fun v2 t2 a2 => some (v2, t2, a2))) else (if x2 ≤ x1 then (cal (fX8_idleOf nF 52 6 (t 3203) t a) (fun v3 t3 a3 => cal (fX8_mayFollow nF (t 3213) (t 3203) v3 x1 x2 t3 a3) (fun v4 t4 a4 => if v4 = 0 then (some ((0 : Int32), va_up t4 3203 (0 : Int32), a4)) else (some ((1 : Int32), va_up t4 3203 (0 : Int32), a4))))) else (cal (fX8_refuse nF (-6 : Int32) t a) (fun v5 t5 a5 => some (v5, t5, a5))))) else (cal (fX8_refuse nF (-4 : Int32) t a) (fun v6 t6 a6 => some (v6, t6, a6))))
set_option maxRecDepth 100000 in
set_option maxHeartbeats 4000000 in
theorem kX8_follows (l : Launch) {x : Cx} {N : Nat} {u0 v0 : Option Nat} {nF : Nat} {x1 : Int32} {x2 : Int32} {t : sT} {a : sA} {rv : Int32} {rt : sT} {ra : sA} (hN : 653 ≤ N) (h : fX8_follows nF x1 x2 t a = some (rv, rt, ra)) : Met l yX8_follows [.code yX8_follows cX8_follows 4 (some .int)] (k2_rm 1 24) (Pre x N (rho u0 v0) t a [.ref (cz x + 50), .int x1, .int x2]) (PostI x N (rho u0 v0) rt ra rv) 0 0 (cA x) := by
  refine j_entry (by decide) rfl (Nat.le_of_ble_eq_true rfl) ?_
  intro p e s m below meth c F hsz hnm
  have F : Fx p s m meth c cX8_follows 4 RX8 (some .int) x := F
  unfold fX8_follows at h
  show J p l e _ s m _ below meth c x N (rho u0 v0) 4 0 0 _ 0 [(0, .ref (cz x + 50)), (1, .int x1), (2, .int x2)] [] t a
  refine j_iload_n F 1 dX8_follows_0 rfl rfl ?_
  refine j_if_lt F 8 dX8_follows_1 rfl h (fun h => ?_) (fun h => ?_)
  · refine j_aload_n F 0 dX8_follows_8 rfl rfl ?_
    refine j_bipush F dX8_follows_9 cB_m4 ?_
    refine j_callVi F mwX8_refuse ql_X8_74 clX8 (lt653 rfl hN) ly50 [.int (-4 : Int32)] rfl ⟨rfl, rfl, Nat.le_of_ble_eq_true rfl, Nat.le_of_ble_eq_true rfl⟩ ⟨Nat.le_refl 0, Nat.le_refl 0⟩ rfl (Nat.le_of_ble_eq_true rfl) dX8_follows_11 (fun _ _ _ h9 => kX8_refuse l hN  h9) h (fun v1 t1 a1 e1 h => ?_)
    exact j_ireturn F rfl dX8_follows_14 h
  · refine j_iload_n F 2 dX8_follows_4 rfl rfl ?_
    refine j_if_ge F 15 dX8_follows_5 rfl h (fun h => ?_) (fun h => ?_)
    · refine j_iload_n F 1 dX8_follows_15 rfl rfl ?_
      refine j_bipush F dX8_follows_16 cB_6 ?_
      refine j_icmp_gt F 26 dX8_follows_18 rfl h (fun h => ?_) (fun h => ?_)
      · refine j_aload_n F 0 dX8_follows_26 rfl rfl ?_
        refine j_bipush F dX8_follows_27 cB_m6 ?_
        refine j_callVi F mwX8_refuse ql_X8_74 clX8 (lt653 rfl hN) ly50 [.int (-6 : Int32)] rfl ⟨rfl, rfl, Nat.le_of_ble_eq_true rfl, Nat.le_of_ble_eq_true rfl⟩ ⟨Nat.le_refl 0, Nat.le_refl 0⟩ rfl (Nat.le_of_ble_eq_true rfl) dX8_follows_29 (fun _ _ _ h9 => kX8_refuse l hN  h9) h (fun v2 t2 a2 e2 h => ?_)
        exact j_ireturn F rfl dX8_follows_32 h
      · refine j_iload_n F 2 dX8_follows_21 rfl rfl ?_
        refine j_iload_n F 1 dX8_follows_22 rfl rfl ?_
        refine j_icmp_le F 33 dX8_follows_23 rfl h (fun h => ?_) (fun h => ?_)
        · refine j_aload_n F 0 dX8_follows_33 rfl rfl ?_
          refine j_getI F clX8 (j := 13) (tt := 3213) (lt653 rfl hN) ly50 (Nat.le_of_ble_eq_true rfl) rfl qf_X8_111 rfl dX8_follows_34 ?_
          refine j_aload_n F 0 dX8_follows_37 rfl rfl ?_
          refine j_getI F clX8 (j := 3) (tt := 3203) (lt653 rfl hN) ly50 (Nat.le_of_ble_eq_true rfl) rfl qf_X8_139 rfl dX8_follows_38 ?_
          refine j_aload_n F 0 dX8_follows_41 rfl rfl ?_
          refine j_aload_n F 0 dX8_follows_42 rfl rfl ?_
          refine j_getR F clX8 (j := 2) (lt653 rfl hN) ly50 (Nat.le_of_ble_eq_true rfl) rfl qf_X8_13 rfl dX8_follows_43 ?_
          refine j_aload_n F 0 dX8_follows_46 rfl rfl ?_
          refine j_getI F clX8 (j := 3) (tt := 3203) (lt653 rfl hN) ly50 (Nat.le_of_ble_eq_true rfl) rfl qf_X8_139 rfl dX8_follows_47 ?_
          refine j_callVi F mwX8_idleOf ql_X8_146 clX8 (lt653 rfl hN) ly50 [.ref (cz x + 52), .int (t 3203)] rfl ⟨rfl, rfl, Nat.le_of_ble_eq_true rfl, Nat.le_of_ble_eq_true rfl⟩ ⟨Nat.le_refl 0, Nat.le_refl 0⟩ rfl (Nat.le_of_ble_eq_true rfl) dX8_follows_50 (fun _ _ _ h9 => kX8_idleOf l hN (lt653 rfl hN) ly52 h9) h (fun v3 t3 a3 e3 h => ?_)
          refine j_iload_n F 1 dX8_follows_53 rfl rfl ?_
          refine j_iload_n F 2 dX8_follows_54 rfl rfl ?_
          refine j_callSi F mwX8_mayFollow ql_X8_149 [.int (t 3213), .int (t 3203), .int v3, .int x1, .int x2] rfl ⟨rfl, rfl, Nat.le_of_ble_eq_true rfl, Nat.le_of_ble_eq_true rfl⟩ ⟨Nat.le_refl 0, Nat.le_refl 0⟩ rfl (Nat.le_of_ble_eq_true rfl) dX8_follows_55 (fun _ _ _ h9 => kX8_mayFollow l hN  h9) h (fun v4 t4 a4 e4 h => ?_)
          refine j_istore_n F (lv' := [(3, .int v4), (0, .ref (cz x + 50)), (1, .int x1), (2, .int x2)]) dX8_follows_58 rfl (Nat.le_of_ble_eq_true rfl) rfl ?_
          refine j_aload_n F 1 dX8_follows_59 rfl rfl ?_
          refine j_iconst F dX8_follows_60 cI_0 ?_
          refine j_putI F clX8 (j := 3) (tt := 3203) (lt653 rfl hN) ly50 (Nat.le_of_ble_eq_true rfl) rfl qf_X8_139 rfl rfl rfl dX8_follows_61 ?_
          refine j_iload_n F 0 dX8_follows_64 rfl rfl ?_
          refine j_if_eq F 72 dX8_follows_65 rfl h (fun h => ?_) (fun h => ?_)
          · refine j_iconst F dX8_follows_72 cI_0 ?_
            exact j_ireturn F rfl dX8_follows_73 h
          · refine j_iconst F dX8_follows_68 cI_1 ?_
            refine j_goto F 73 dX8_follows_69 rfl ?_
            exact j_ireturn F rfl dX8_follows_73 h
        · refine j_aload_n F 0 dX8_follows_26 rfl rfl ?_
          refine j_bipush F dX8_follows_27 cB_m6 ?_
          refine j_callVi F mwX8_refuse ql_X8_74 clX8 (lt653 rfl hN) ly50 [.int (-6 : Int32)] rfl ⟨rfl, rfl, Nat.le_of_ble_eq_true rfl, Nat.le_of_ble_eq_true rfl⟩ ⟨Nat.le_refl 0, Nat.le_refl 0⟩ rfl (Nat.le_of_ble_eq_true rfl) dX8_follows_29 (fun _ _ _ h9 => kX8_refuse l hN  h9) h (fun v5 t5 a5 e5 h => ?_)
          exact j_ireturn F rfl dX8_follows_32 h
    · refine j_aload_n F 0 dX8_follows_8 rfl rfl ?_
      refine j_bipush F dX8_follows_9 cB_m4 ?_
      refine j_callVi F mwX8_refuse ql_X8_74 clX8 (lt653 rfl hN) ly50 [.int (-4 : Int32)] rfl ⟨rfl, rfl, Nat.le_of_ble_eq_true rfl, Nat.le_of_ble_eq_true rfl⟩ ⟨Nat.le_refl 0, Nat.le_refl 0⟩ rfl (Nat.le_of_ble_eq_true rfl) dX8_follows_11 (fun _ _ _ h9 => kX8_refuse l hN  h9) h (fun v6 t6 a6 e6 h => ?_)
      exact j_ireturn F rfl dX8_follows_14 h
