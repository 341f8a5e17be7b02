/-! 13.m4.lean.txt: functions and contracts, by program (wip/whole/gen.py) -/
def fX8_refuse (nF : Nat) (x1 : Int32) (t : sT) (a : sA) : Rs := bnd (-x1) 8 (bnd (-x1) 8 (some (x1, t, va_up a 54 (upd (a 54) (-x1).toNatClampNeg ((a 54 (-x1).toNatClampNeg) + (1 : Int32))))))
set_option maxRecDepth 100000 in
set_option maxHeartbeats 4000000 in
theorem kX8_refuse (l : Launch) {x : Cx} {N : Nat} {u0 v0 : Option Nat} {nF : Nat} {x1 : Int32} {t : sT} {a : sA} {rv : Int32} {rt : sT} {ra : sA} (hN : 653 ≤ N) (h : fX8_refuse nF x1 t a = some (rv, rt, ra)) : Met l yX8_refuse [.code yX8_refuse cX8_refuse 2 (some .int)] (k2_rm 0 0) (Pre x N (rho u0 v0) t a [.ref (cz x + 50), .int x1]) (PostI x N (rho u0 v0) rt ra rv) 0 0 (cA x) := by
  refine j_entry (by decide) rfl (Nat.le_of_ble_eq_true rfl) ?_
  intro p e s m below meth c F hsz hnm
  have F : Fx p s m meth c cX8_refuse 2 RX8 (some .int) x := F
  unfold fX8_refuse at h
  show J p l e _ s m _ below meth c x N (rho u0 v0) 2 0 0 _ 0 [(0, .ref (cz x + 50)), (1, .int x1)] [] t a
  refine j_aload_n F 0 dX8_refuse_0 rfl rfl ?_
  refine j_getR F clX8 (j := 6) (lt653 rfl hN) ly50 (Nat.le_of_ble_eq_true rfl) rfl qf_X8_19 rfl dX8_refuse_1 ?_
  refine j_iload_n F 1 dX8_refuse_4 rfl rfl ?_
  refine j_ineg F dX8_refuse_5 ?_
  refine j_dup2 F dX8_refuse_6 rfl rfl ?_
  refine j_iald F (lt653 rfl hN) ly54 dX8_refuse_7 h (fun h => ?_)
  refine j_iconst F dX8_refuse_8 cI_1 ?_
  refine j_iadd F dX8_refuse_9 ?_
  refine j_iast F (lt653 rfl hN) ly54 dX8_refuse_10 h (fun h => ?_)
  refine j_iload_n F 1 dX8_refuse_11 rfl rfl ?_
  exact j_ireturn F rfl dX8_refuse_12 h
def fX8_row (nF : Nat) (x1 : Int32) (t : sT) (a : sA) : Rs := cal (fX8_isWord nF x1 t a) (fun v1 t1 a1 => if v1 = 0 then (cal (fX8_refuse nF (-1 : Int32) t1 a1) (fun v3 t3 a3 => some (v3, t3, a3))) else (if (t1 3203) = (6 : Int32) then (cal (fX8_refuse nF (-6 : Int32) t1 a1) (fun v2 t2 a2 => some (v2, t2, a2))) else (bnd (t1 3203) 6 (some ((va_up t1 3203 ((t1 3203) + (1 : Int32))) 3203, va_up t1 3203 ((t1 3203) + (1 : Int32)), va_up a1 52 (upd (a1 52) (t1 3203).toNatClampNeg x1))))))
set_option maxRecDepth 100000 in
set_option maxHeartbeats 4000000 in
theorem kX8_row (l : Launch) {x : Cx} {N : Nat} {u0 v0 : Option Nat} {nF : Nat} {x1 : Int32} {t : sT} {a : sA} {rv : Int32} {rt : sT} {ra : sA} (hN : 653 ≤ N) (h : fX8_row nF x1 t a = some (rv, rt, ra)) : Met l yX8_row [.code yX8_row cX8_row 2 (some .int)] (k2_rm 2 43) (Pre x N (rho u0 v0) t a [.ref (cz x + 50), .int x1]) (PostI x N (rho u0 v0) rt ra rv) 0 0 (cA x) := by
  refine j_entry (by decide) rfl (Nat.le_of_ble_eq_true rfl) ?_
  intro p e s m below meth c F hsz hnm
  have F : Fx p s m meth c cX8_row 2 RX8 (some .int) x := F
  unfold fX8_row at h
  show J p l e _ s m _ below meth c x N (rho u0 v0) 2 0 0 _ 0 [(0, .ref (cz x + 50)), (1, .int x1)] [] t a
  refine j_aload_n F 0 dX8_row_0 rfl rfl ?_
  refine j_iload_n F 1 dX8_row_1 rfl rfl ?_
  refine j_callVi F mwX8_isWord ql_X8_130 clX8 (lt653 rfl hN) ly50 [.int x1] rfl ⟨rfl, rfl, Nat.le_of_ble_eq_true rfl, Nat.le_of_ble_eq_true rfl⟩ ⟨Nat.le_refl 0, Nat.le_refl 0⟩ rfl (Nat.le_of_ble_eq_true rfl) dX8_row_2 (fun _ _ _ h9 => kX8_isWord l hN  h9) h (fun v1 t1 a1 e1 h => ?_)
  refine j_if_ne F 14 dX8_row_5 rfl h (fun h => ?_) (fun h => ?_)
  · refine j_aload_n F 0 dX8_row_8 rfl rfl ?_
    refine j_iconst F dX8_row_9 cI_m1 ?_
    refine j_callVi F mwX8_refuse ql_X8_74 clX8 (lt653 rfl hN) ly50 [.int (-1 : Int32)] rfl ⟨rfl, rfl, Nat.le_of_ble_eq_true rfl, Nat.le_of_ble_eq_true rfl⟩ ⟨Nat.le_refl 0, Nat.le_refl 0⟩ rfl (Nat.le_of_ble_eq_true rfl) dX8_row_10 (fun _ _ _ h9 => kX8_refuse l hN  h9) h (fun v3 t3 a3 e3 h => ?_)
    exact j_ireturn F rfl dX8_row_13 h
  · refine j_aload_n F 0 dX8_row_14 rfl rfl ?_
    refine j_getI F clX8 (j := 3) (tt := 3203) (lt653 rfl hN) ly50 (Nat.le_of_ble_eq_true rfl) rfl qf_X8_139 rfl dX8_row_15 ?_
    refine j_bipush F dX8_row_18 cB_6 ?_
    refine j_icmp_ne F 30 dX8_row_20 rfl h (fun h => ?_) (fun h => ?_)
    · refine j_aload_n F 0 dX8_row_23 rfl rfl ?_
      refine j_bipush F dX8_row_24 cB_m6 ?_
      refine j_callVi F mwX8_refuse ql_X8_74 clX8 (lt653 rfl hN) ly50 [.int (-6 : Int32)] rfl ⟨rfl, rfl, Nat.le_of_ble_eq_true rfl, Nat.le_of_ble_eq_true rfl⟩ ⟨Nat.le_refl 0, Nat.le_refl 0⟩ rfl (Nat.le_of_ble_eq_true rfl) dX8_row_26 (fun _ _ _ h9 => kX8_refuse l hN  h9) h (fun v2 t2 a2 e2 h => ?_)
      exact j_ireturn F rfl dX8_row_29 h
    · refine j_aload_n F 0 dX8_row_30 rfl rfl ?_
      refine j_getR F clX8 (j := 2) (lt653 rfl hN) ly50 (Nat.le_of_ble_eq_true rfl) rfl qf_X8_13 rfl dX8_row_31 ?_
      refine j_aload_n F 0 dX8_row_34 rfl rfl ?_
      refine j_dup F dX8_row_35 rfl ?_
      refine j_getI F clX8 (j := 3) (tt := 3203) (lt653 rfl hN) ly50 (Nat.le_of_ble_eq_true rfl) rfl qf_X8_139 rfl dX8_row_36 ?_
      refine j_dup_x1 F dX8_row_39 rfl rfl ?_
      refine j_iconst F dX8_row_40 cI_1 ?_
      refine j_iadd F dX8_row_41 ?_
      refine j_putI F clX8 (j := 3) (tt := 3203) (lt653 rfl hN) ly50 (Nat.le_of_ble_eq_true rfl) rfl qf_X8_139 rfl rfl rfl dX8_row_42 ?_
      refine j_iload_n F 1 dX8_row_45 rfl rfl ?_
      refine j_iast F (lt653 rfl hN) ly52 dX8_row_46 h (fun h => ?_)
      refine j_aload_n F 0 dX8_row_47 rfl rfl ?_
      refine j_getI F clX8 (j := 3) (tt := 3203) (lt653 rfl hN) ly50 (Nat.le_of_ble_eq_true rfl) rfl qf_X8_139 rfl dX8_row_48 ?_
      exact j_ireturn F rfl dX8_row_51 h
def fX8_say (nF : Nat) (t : sT) (a : sA) : Rs := cal (fX8_idleOf nF 52 6 (t 3203) t a) (fun v1 t1 a1 => if (t1 3215) ≤ 0 then (if (t1 3215) = (12 : Int32) then (cal (fX8_refuse nF (-6 : Int32) t1 a1) (fun v3 t3 a3 => some (v3, t3, a3))) else (bnd (t1 3215) 12 (cal (fX8_meaning nF 52 6 (t1 3203) t1 (va_up a1 59 (upd (a1 59) (t1 3215).toNatClampNeg (t1 3203)))) (fun v2 t2 a2 => bnd (t1 3215) 12 (bnd (t2 3215) 12 (some ((va_up (va_up t2 3215 ((t2 3215) + (1 : Int32))) 3203 (0 : Int32)) 3215, va_up (va_up t2 3215 ((t2 3215) + (1 : Int32))) 3203 (0 : Int32), va_up (va_up a2 60 (upd (a2 60) (t1 3215).toNatClampNeg v2)) 61 (upd ((va_up a2 60 (upd (a2 60) (t1 3215).toNatClampNeg v2)) 61) (t2 3215).toNatClampNeg v1)))))))) else (bnd ((t1 3215) - (1 : Int32)) 12 (bnd ((t1 3215) - (1 : Int32)) 12 (cal (fX8_mayFollow nF (t1 3213) (t1 3203) v1 (a1 59 ((t1 3215) - (1 : Int32)).toNatClampNeg) (a1 61 ((t1 3215) - (1 : Int32)).toNatClampNeg) t1 a1) (fun v4 t4 a4 => if v4 = 0 then (cal (fX8_refuse nF (-3 : Int32) t4 a4) (fun v7 t7 a7 => some (v7, t7, a7))) else (if (t4 3215) = (12 : Int32) then (cal (fX8_refuse nF (-6 : Int32) t4 a4) (fun v6 t6 a6 => some (v6, t6, a6))) else (bnd (t4 3215) 12 (cal (fX8_meaning nF 52 6 (t4 3203) t4 (va_up a4 59 (upd (a4 59) (t4 3215).toNatClampNeg (t4 3203)))) (fun v5 t5 a5 => bnd (t4 3215) 12 (bnd (t5 3215) 12 (some ((va_up (va_up t5 3215 ((t5 3215) + (1 : Int32))) 3203 (0 : Int32)) 3215, va_up (va_up t5 3215 ((t5 3215) + (1 : Int32))) 3203 (0 : Int32), va_up (va_up a5 60 (upd (a5 60) (t4 3215).toNatClampNeg v5)) 61 (upd ((va_up a5 60 (upd (a5 60) (t4 3215).toNatClampNeg v5)) 61) (t5 3215).toNatClampNeg v1)))))))))))))
set_option maxRecDepth 100000 in
set_option maxHeartbeats 4000000 in
theorem kX8_say (l : Launch) {x : Cx} {N : Nat} {u0 v0 : Option Nat} {nF : Nat} {t : sT} {a : sA} {rv : Int32} {rt : sT} {ra : sA} (hN : 653 ≤ N) (h : fX8_say nF t a = some (rv, rt, ra)) : Met l yX8_say [.code yX8_say cX8_say 3 (some .int)] (k2_rm 1 29) (Pre x N (rho u0 v0) t a [.ref (cz x + 50)]) (PostI x N (rho u0 v0) rt ra rv) 0 0 (cA x) := by
  refine j_entry (by decide) rfl (Nat.le_of_ble_eq_true rfl) ?_
  intro p e s m below meth c F hsz hnm
  have F : Fx p s m meth c cX8_say 3 RX8 (some .int) x := F
  unfold fX8_say at h
  show J p l e _ s m _ below meth c x N (rho u0 v0) 3 0 0 _ 0 [(0, .ref (cz x + 50))] [] t a
  refine j_aload_n F 0 dX8_say_0 rfl rfl ?_
  refine j_aload_n F 0 dX8_say_1 rfl rfl ?_
  refine j_getR F clX8 (j := 2) (lt653 rfl hN) ly50 (Nat.le_of_ble_eq_true rfl) rfl qf_X8_13 rfl dX8_say_2 ?_
  refine j_aload_n F 0 dX8_say_5 rfl rfl ?_
  refine j_getI F clX8 (j := 3) (tt := 3203) (lt653 rfl hN) ly50 (Nat.le_of_ble_eq_true rfl) rfl qf_X8_139 rfl dX8_say_6 ?_
  refine j_callVi F mwX8_idleOf ql_X8_146 clX8 (lt653 rfl hN) ly50 [.ref (cz x + 52), .int (t 3203)] rfl ⟨rfl, rfl, Nat.le_of_ble_eq_true rfl, Nat.le_of_ble_eq_true rfl⟩ ⟨Nat.le_refl 0, Nat.le_refl 0⟩ rfl (Nat.le_of_ble_eq_true rfl) dX8_say_9 (fun _ _ _ h9 => kX8_idleOf l hN (lt653 rfl hN) ly52 h9) h (fun v1 t1 a1 e1 h => ?_)
  refine j_istore_n F (lv' := [(1, .int v1), (0, .ref (cz x + 50))]) dX8_say_12 rfl (Nat.le_of_ble_eq_true rfl) rfl ?_
  refine j_aload_n F 1 dX8_say_13 rfl rfl ?_
  refine j_getI F clX8 (j := 15) (tt := 3215) (lt653 rfl hN) ly50 (Nat.le_of_ble_eq_true rfl) rfl qf_X8_230 rfl dX8_say_14 ?_
  refine j_iconst F dX8_say_17 cI_1 ?_
  refine j_isub F dX8_say_18 ?_
  refine j_istore_n F (lv' := [(2, .int ((t1 3215) - (1 : Int32))), (1, .int v1), (0, .ref (cz x + 50))]) dX8_say_19 rfl (Nat.le_of_ble_eq_true rfl) rfl ?_
  refine j_aload_n F 2 dX8_say_20 rfl rfl ?_
  refine j_getI F clX8 (j := 15) (tt := 3215) (lt653 rfl hN) ly50 (Nat.le_of_ble_eq_true rfl) rfl qf_X8_230 rfl dX8_say_21 ?_
  refine j_if_le F 61 dX8_say_24 rfl h (fun h => ?_) (fun h => ?_)
  · refine j_aload_n F 2 dX8_say_61 rfl rfl ?_
    refine j_getI F clX8 (j := 15) (tt := 3215) (lt653 rfl hN) ly50 (Nat.le_of_ble_eq_true rfl) rfl qf_X8_230 rfl dX8_say_62 ?_
    refine j_bipush F dX8_say_65 cB_12 ?_
    refine j_icmp_ne F 77 dX8_say_67 rfl h (fun h => ?_) (fun h => ?_)
    · refine j_aload_n F 2 dX8_say_70 rfl rfl ?_
      refine j_bipush F dX8_say_71 cB_m6 ?_
      refine j_callVi F mwX8_refuse ql_X8_74 clX8 (lt653 rfl hN) ly50 [.int (-6 : Int32)] rfl ⟨rfl, rfl, Nat.le_of_ble_eq_true rfl, Nat.le_of_ble_eq_true rfl⟩ ⟨Nat.le_refl 0, Nat.le_refl 0⟩ rfl (Nat.le_of_ble_eq_true rfl) dX8_say_73 (fun _ _ _ h9 => kX8_refuse l hN  h9) h (fun v3 t3 a3 e3 h => ?_)
      exact j_ireturn F rfl dX8_say_76 h
    · refine j_aload_n F 2 dX8_say_77 rfl rfl ?_
      refine j_getR F clX8 (j := 16) (lt653 rfl hN) ly50 (Nat.le_of_ble_eq_true rfl) rfl qf_X8_34 rfl dX8_say_78 ?_
      refine j_aload_n F 2 dX8_say_81 rfl rfl ?_
      refine j_getI F clX8 (j := 15) (tt := 3215) (lt653 rfl hN) ly50 (Nat.le_of_ble_eq_true rfl) rfl qf_X8_230 rfl dX8_say_82 ?_
      refine j_aload_n F 2 dX8_say_85 rfl rfl ?_
      refine j_getI F clX8 (j := 3) (tt := 3203) (lt653 rfl hN) ly50 (Nat.le_of_ble_eq_true rfl) rfl qf_X8_139 rfl dX8_say_86 ?_
      refine j_iast F (lt653 rfl hN) ly59 dX8_say_89 h (fun h => ?_)
      refine j_aload_n F 2 dX8_say_90 rfl rfl ?_
      refine j_getR F clX8 (j := 17) (lt653 rfl hN) ly50 (Nat.le_of_ble_eq_true rfl) rfl qf_X8_37 rfl dX8_say_91 ?_
      refine j_aload_n F 2 dX8_say_94 rfl rfl ?_
      refine j_getI F clX8 (j := 15) (tt := 3215) (lt653 rfl hN) ly50 (Nat.le_of_ble_eq_true rfl) rfl qf_X8_230 rfl dX8_say_95 ?_
      refine j_aload_n F 2 dX8_say_98 rfl rfl ?_
      refine j_aload_n F 2 dX8_say_99 rfl rfl ?_
      refine j_getR F clX8 (j := 2) (lt653 rfl hN) ly50 (Nat.le_of_ble_eq_true rfl) rfl qf_X8_13 rfl dX8_say_100 ?_
      refine j_aload_n F 2 dX8_say_103 rfl rfl ?_
      refine j_getI F clX8 (j := 3) (tt := 3203) (lt653 rfl hN) ly50 (Nat.le_of_ble_eq_true rfl) rfl qf_X8_139 rfl dX8_say_104 ?_
      refine j_callVi F mwX8_meaning ql_X8_142 clX8 (lt653 rfl hN) ly50 [.ref (cz x + 52), .int (t1 3203)] rfl ⟨rfl, rfl, Nat.le_of_ble_eq_true rfl, Nat.le_of_ble_eq_true rfl⟩ ⟨Nat.le_refl 0, Nat.le_refl 0⟩ rfl (Nat.le_of_ble_eq_true rfl) dX8_say_107 (fun _ _ _ h9 => kX8_meaning l hN (lt653 rfl hN) ly52 h9) h (fun v2 t2 a2 e2 h => ?_)
      refine j_iast F (lt653 rfl hN) ly60 dX8_say_110 h (fun h => ?_)
      refine j_aload_n F 2 dX8_say_111 rfl rfl ?_
      refine j_getR F clX8 (j := 18) (lt653 rfl hN) ly50 (Nat.le_of_ble_eq_true rfl) rfl qf_X8_40 rfl dX8_say_112 ?_
      refine j_aload_n F 2 dX8_say_115 rfl rfl ?_
      refine j_dup F dX8_say_116 rfl ?_
      refine j_getI F clX8 (j := 15) (tt := 3215) (lt653 rfl hN) ly50 (Nat.le_of_ble_eq_true rfl) rfl qf_X8_230 rfl dX8_say_117 ?_
      refine j_dup_x1 F dX8_say_120 rfl rfl ?_
      refine j_iconst F dX8_say_121 cI_1 ?_
      refine j_iadd F dX8_say_122 ?_
      refine j_putI F clX8 (j := 15) (tt := 3215) (lt653 rfl hN) ly50 (Nat.le_of_ble_eq_true rfl) rfl qf_X8_230 rfl rfl rfl dX8_say_123 ?_
      refine j_iload_n F 1 dX8_say_126 rfl rfl ?_
      refine j_iast F (lt653 rfl hN) ly61 dX8_say_127 h (fun h => ?_)
      refine j_aload_n F 2 dX8_say_128 rfl rfl ?_
      refine j_iconst F dX8_say_129 cI_0 ?_
      refine j_putI F clX8 (j := 3) (tt := 3203) (lt653 rfl hN) ly50 (Nat.le_of_ble_eq_true rfl) rfl qf_X8_139 rfl rfl rfl dX8_say_130 ?_
      refine j_aload_n F 2 dX8_say_133 rfl rfl ?_
      refine j_getI F clX8 (j := 15) (tt := 3215) (lt653 rfl hN) ly50 (Nat.le_of_ble_eq_true rfl) rfl qf_X8_230 rfl dX8_say_134 ?_
      exact j_ireturn F rfl dX8_say_137 h
  · refine j_aload_n F 2 dX8_say_27 rfl rfl ?_
    refine j_getI F clX8 (j := 13) (tt := 3213) (lt653 rfl hN) ly50 (Nat.le_of_ble_eq_true rfl) rfl qf_X8_111 rfl dX8_say_28 ?_
    refine j_aload_n F 2 dX8_say_31 rfl rfl ?_
    refine j_getI F clX8 (j := 3) (tt := 3203) (lt653 rfl hN) ly50 (Nat.le_of_ble_eq_true rfl) rfl qf_X8_139 rfl dX8_say_32 ?_
    refine j_iload_n F 1 dX8_say_35 rfl rfl ?_
    refine j_aload_n F 2 dX8_say_36 rfl rfl ?_
    refine j_getR F clX8 (j := 16) (lt653 rfl hN) ly50 (Nat.le_of_ble_eq_true rfl) rfl qf_X8_34 rfl dX8_say_37 ?_
    refine j_iload_n F 0 dX8_say_40 rfl rfl ?_
    refine j_iald F (lt653 rfl hN) ly59 dX8_say_41 h (fun h => ?_)
    refine j_aload_n F 2 dX8_say_42 rfl rfl ?_
    refine j_getR F clX8 (j := 18) (lt653 rfl hN) ly50 (Nat.le_of_ble_eq_true rfl) rfl qf_X8_40 rfl dX8_say_43 ?_
    refine j_iload_n F 0 dX8_say_46 rfl rfl ?_
    refine j_iald F (lt653 rfl hN) ly61 dX8_say_47 h (fun h => ?_)
    refine j_callSi F mwX8_mayFollow ql_X8_149 [.int (t1 3213), .int (t1 3203), .int v1, .int (a1 59 ((t1 3215) - (1 : Int32)).toNatClampNeg), .int (a1 61 ((t1 3215) - (1 : Int32)).toNatClampNeg)] rfl ⟨rfl, rfl, Nat.le_of_ble_eq_true rfl, Nat.le_of_ble_eq_true rfl⟩ ⟨Nat.le_refl 0, Nat.le_refl 0⟩ rfl (Nat.le_of_ble_eq_true rfl) dX8_say_48 (fun _ _ _ h9 => kX8_mayFollow l hN  h9) h (fun v4 t4 a4 e4 h => ?_)
    refine j_if_ne F 61 dX8_say_51 rfl h (fun h => ?_) (fun h => ?_)
    · refine j_aload_n F 2 dX8_say_54 rfl rfl ?_
      refine j_bipush F dX8_say_55 cB_m3 ?_
      refine j_callVi F mwX8_refuse ql_X8_74 clX8 (lt653 rfl hN) ly50 [.int (-3 : Int32)] rfl ⟨rfl, rfl, Nat.le_of_ble_eq_true rfl, Nat.le_of_ble_eq_true rfl⟩ ⟨Nat.le_refl 0, Nat.le_refl 0⟩ rfl (Nat.le_of_ble_eq_true rfl) dX8_say_57 (fun _ _ _ h9 => kX8_refuse l hN  h9) h (fun v7 t7 a7 e7 h => ?_)
      exact j_ireturn F rfl dX8_say_60 h
    · refine j_aload_n F 2 dX8_say_61 rfl rfl ?_
      refine j_getI F clX8 (j := 15) (tt := 3215) (lt653 rfl hN) ly50 (Nat.le_of_ble_eq_true rfl) rfl qf_X8_230 rfl dX8_say_62 ?_
      refine j_bipush F dX8_say_65 cB_12 ?_
      refine j_icmp_ne F 77 dX8_say_67 rfl h (fun h => ?_) (fun h => ?_)
      · refine j_aload_n F 2 dX8_say_70 rfl rfl ?_
        refine j_bipush F dX8_say_71 cB_m6 ?_
        refine j_callVi F mwX8_refuse ql_X8_74 clX8 (lt653 rfl hN) ly50 [.int (-6 : Int32)] rfl ⟨rfl, rfl, Nat.le_of_ble_eq_true rfl, Nat.le_of_ble_eq_true rfl⟩ ⟨Nat.le_refl 0, Nat.le_refl 0⟩ rfl (Nat.le_of_ble_eq_true rfl) dX8_say_73 (fun _ _ _ h9 => kX8_refuse l hN  h9) h (fun v6 t6 a6 e6 h => ?_)
        exact j_ireturn F rfl dX8_say_76 h
      · refine j_aload_n F 2 dX8_say_77 rfl rfl ?_
        refine j_getR F clX8 (j := 16) (lt653 rfl hN) ly50 (Nat.le_of_ble_eq_true rfl) rfl qf_X8_34 rfl dX8_say_78 ?_
        refine j_aload_n F 2 dX8_say_81 rfl rfl ?_
        refine j_getI F clX8 (j := 15) (tt := 3215) (lt653 rfl hN) ly50 (Nat.le_of_ble_eq_true rfl) rfl qf_X8_230 rfl dX8_say_82 ?_
        refine j_aload_n F 2 dX8_say_85 rfl rfl ?_
        refine j_getI F clX8 (j := 3) (tt := 3203) (lt653 rfl hN) ly50 (Nat.le_of_ble_eq_true rfl) rfl qf_X8_139 rfl dX8_say_86 ?_
        refine j_iast F (lt653 rfl hN) ly59 dX8_say_89 h (fun h => ?_)
        refine j_aload_n F 2 dX8_say_90 rfl rfl ?_
        refine j_getR F clX8 (j := 17) (lt653 rfl hN) ly50 (Nat.le_of_ble_eq_true rfl) rfl qf_X8_37 rfl dX8_say_91 ?_
        refine j_aload_n F 2 dX8_say_94 rfl rfl ?_
        refine j_getI F clX8 (j := 15) (tt := 3215) (lt653 rfl hN) ly50 (Nat.le_of_ble_eq_true rfl) rfl qf_X8_230 rfl dX8_say_95 ?_
        refine j_aload_n F 2 dX8_say_98 rfl rfl ?_
        refine j_aload_n F 2 dX8_say_99 rfl rfl ?_
        refine j_getR F clX8 (j := 2) (lt653 rfl hN) ly50 (Nat.le_of_ble_eq_true rfl) rfl qf_X8_13 rfl dX8_say_100 ?_
        refine j_aload_n F 2 dX8_say_103 rfl rfl ?_
        refine j_getI F clX8 (j := 3) (tt := 3203) (lt653 rfl hN) ly50 (Nat.le_of_ble_eq_true rfl) rfl qf_X8_139 rfl dX8_say_104 ?_
        refine j_callVi F mwX8_meaning ql_X8_142 clX8 (lt653 rfl hN) ly50 [.ref (cz x + 52), .int (t4 3203)] rfl ⟨rfl, rfl, Nat.le_of_ble_eq_true rfl, Nat.le_of_ble_eq_true rfl⟩ ⟨Nat.le_refl 0, Nat.le_refl 0⟩ rfl (Nat.le_of_ble_eq_true rfl) dX8_say_107 (fun _ _ _ h9 => kX8_meaning l hN (lt653 rfl hN) ly52 h9) h (fun v5 t5 a5 e5 h => ?_)
        refine j_iast F (lt653 rfl hN) ly60 dX8_say_110 h (fun h => ?_)
        refine j_aload_n F 2 dX8_say_111 rfl rfl ?_
        refine j_getR F clX8 (j := 18) (lt653 rfl hN) ly50 (Nat.le_of_ble_eq_true rfl) rfl qf_X8_40 rfl dX8_say_112 ?_
        refine j_aload_n F 2 dX8_say_115 rfl rfl ?_
        refine j_dup F dX8_say_116 rfl ?_
        refine j_getI F clX8 (j := 15) (tt := 3215) (lt653 rfl hN) ly50 (Nat.le_of_ble_eq_true rfl) rfl qf_X8_230 rfl dX8_say_117 ?_
        refine j_dup_x1 F dX8_say_120 rfl rfl ?_
        refine j_iconst F dX8_say_121 cI_1 ?_
        refine j_iadd F dX8_say_122 ?_
        refine j_putI F clX8 (j := 15) (tt := 3215) (lt653 rfl hN) ly50 (Nat.le_of_ble_eq_true rfl) rfl qf_X8_230 rfl rfl rfl dX8_say_123 ?_
        refine j_iload_n F 1 dX8_say_126 rfl rfl ?_
        refine j_iast F (lt653 rfl hN) ly61 dX8_say_127 h (fun h => ?_)
        refine j_aload_n F 2 dX8_say_128 rfl rfl ?_
        refine j_iconst F dX8_say_129 cI_0 ?_
        refine j_putI F clX8 (j := 3) (tt := 3203) (lt653 rfl hN) ly50 (Nat.le_of_ble_eq_true rfl) rfl qf_X8_139 rfl rfl rfl dX8_say_130 ?_
        refine j_aload_n F 2 dX8_say_133 rfl rfl ?_
        refine j_getI F clX8 (j := 15) (tt := 3215) (lt653 rfl hN) ly50 (Nat.le_of_ble_eq_true rfl) rfl qf_X8_230 rfl dX8_say_134 ?_
        exact j_ireturn F rfl dX8_say_137 h
def fX8_saying (nF : Nat) (x1 : Int32) (x2 : Int32) (t : sT) (a : sA) : Rs := cal (fX8_in nF x1 (0 : Int32) ((t 3215) - (1 : Int32)) t a) (fun v1 t1 a1 => if v1 = 0 then (cal (fX8_refuse nF (-1 : Int32) t1 a1) (fun v4 t4 a4 => some (v4, t4, a4))) else (cal (fX8_in nF x2 (0 : Int32) (2 : Int32) t1 a1) (fun v2 t2 a2 => if v2 = 0 then (cal (fX8_refuse nF (-2 : Int32) t2 a2) (fun v3 t3 a3 => some (v3, t3, a3))) else (if x2 = 0 then (bnd x1 12 (some (a2 59 x1.toNatClampNeg, t2, a2))) else (if x2 = (1 : Int32) then (bnd x1 12 (some (a2 60 x1.toNatClampNeg, t2, a2))) else (bnd x1 12 (some (a2 61 x1.toNatClampNeg, t2, a2))))))))
set_option maxRecDepth 100000 in
set_option maxHeartbeats 4000000 in
theorem kX8_saying (l : Launch) {x : Cx} {N : Nat} {u0 v0 : Option Nat} {nF : Nat} {x1 : Int32} {x2 : Int32} {t : sT} {a : sA} {rv : Int32} {rt : sT} {ra : sA} (hN : 653 ≤ N) (h : fX8_saying nF x1 x2 t a = some (rv, rt, ra)) : Met l yX8_saying [.code yX8_saying cX8_saying 3 (some .int)] (k2_rm 1 22) (Pre x N (rho u0 v0) t a [.ref (cz x + 50), .int x1, .int x2]) (PostI x N (rho u0 v0) rt ra rv) 0 0 (cA x) := by
  refine j_entry (by decide) rfl (Nat.le_of_ble_eq_true rfl) ?_
  intro p e s m below meth c F hsz hnm
  have F : Fx p s m meth c cX8_saying 3 RX8 (some .int) x := F
  unfold fX8_saying at h
  show J p l e _ s m _ below meth c x N (rho u0 v0) 3 0 0 _ 0 [(0, .ref (cz x + 50)), (1, .int x1), (2, .int x2)] [] t a
  refine j_iload_n F 1 dX8_saying_0 rfl rfl ?_
  refine j_iconst F dX8_saying_1 cI_0 ?_
  refine j_aload_n F 0 dX8_saying_2 rfl rfl ?_
  refine j_getI F clX8 (j := 15) (tt := 3215) (lt653 rfl hN) ly50 (Nat.le_of_ble_eq_true rfl) rfl qf_X8_230 rfl dX8_saying_3 ?_
  refine j_iconst F dX8_saying_6 cI_1 ?_
  refine j_isub F dX8_saying_7 ?_
  refine j_callSi F mwX8_in ql_X8_63 [.int x1, .int (0 : Int32), .int ((t 3215) - (1 : Int32))] rfl ⟨rfl, rfl, Nat.le_of_ble_eq_true rfl, Nat.le_of_ble_eq_true rfl⟩ ⟨Nat.le_refl 0, Nat.le_refl 0⟩ rfl (Nat.le_of_ble_eq_true rfl) dX8_saying_8 (fun _ _ _ h9 => kX8_in l hN  h9) h (fun v1 t1 a1 e1 h => ?_)
  refine j_if_ne F 20 dX8_saying_11 rfl h (fun h => ?_) (fun h => ?_)
  · refine j_aload_n F 0 dX8_saying_14 rfl rfl ?_
    refine j_iconst F dX8_saying_15 cI_m1 ?_
    refine j_callVi F mwX8_refuse ql_X8_74 clX8 (lt653 rfl hN) ly50 [.int (-1 : Int32)] rfl ⟨rfl, rfl, Nat.le_of_ble_eq_true rfl, Nat.le_of_ble_eq_true rfl⟩ ⟨Nat.le_refl 0, Nat.le_refl 0⟩ rfl (Nat.le_of_ble_eq_true rfl) dX8_saying_16 (fun _ _ _ h9 => kX8_refuse l hN  h9) h (fun v4 t4 a4 e4 h => ?_)
    exact j_ireturn F rfl dX8_saying_19 h
  · refine j_iload_n F 2 dX8_saying_20 rfl rfl ?_
    refine j_iconst F dX8_saying_21 cI_0 ?_
    refine j_iconst F dX8_saying_22 cI_2 ?_
    refine j_callSi F mwX8_in ql_X8_63 [.int x2, .int (0 : Int32), .int (2 : Int32)] rfl ⟨rfl, rfl, Nat.le_of_ble_eq_true rfl, Nat.le_of_ble_eq_true rfl⟩ ⟨Nat.le_refl 0, Nat.le_refl 0⟩ rfl (Nat.le_of_ble_eq_true rfl) dX8_saying_23 (fun _ _ _ h9 => kX8_in l hN  h9) h (fun v2 t2 a2 e2 h => ?_)
    refine j_if_ne F 36 dX8_saying_26 rfl h (fun h => ?_) (fun h => ?_)
    · refine j_aload_n F 0 dX8_saying_29 rfl rfl ?_
      refine j_bipush F dX8_saying_30 cB_m2 ?_
      refine j_callVi F mwX8_refuse ql_X8_74 clX8 (lt653 rfl hN) ly50 [.int (-2 : Int32)] rfl ⟨rfl, rfl, Nat.le_of_ble_eq_true rfl, Nat.le_of_ble_eq_true rfl⟩ ⟨Nat.le_refl 0, Nat.le_refl 0⟩ rfl (Nat.le_of_ble_eq_true rfl) dX8_saying_32 (fun _ _ _ h9 => kX8_refuse l hN  h9) h (fun v3 t3 a3 e3 h => ?_)
      exact j_ireturn F rfl dX8_saying_35 h
    · refine j_iload_n F 2 dX8_saying_36 rfl rfl ?_
      refine j_if_ne F 49 dX8_saying_37 rfl h (fun h => ?_) (fun h => ?_)
      · refine j_aload_n F 0 dX8_saying_40 rfl rfl ?_
        refine j_getR F clX8 (j := 16) (lt653 rfl hN) ly50 (Nat.le_of_ble_eq_true rfl) rfl qf_X8_34 rfl dX8_saying_41 ?_
        refine j_iload_n F 1 dX8_saying_44 rfl rfl ?_
        refine j_iald F (lt653 rfl hN) ly59 dX8_saying_45 h (fun h => ?_)
        refine j_goto F 69 dX8_saying_46 rfl ?_
        exact j_ireturn F rfl dX8_saying_69 h
      · refine j_iload_n F 2 dX8_saying_49 rfl rfl ?_
        refine j_iconst F dX8_saying_50 cI_1 ?_
        refine j_icmp_ne F 63 dX8_saying_51 rfl h (fun h => ?_) (fun h => ?_)
        · refine j_aload_n F 0 dX8_saying_54 rfl rfl ?_
          refine j_getR F clX8 (j := 17) (lt653 rfl hN) ly50 (Nat.le_of_ble_eq_true rfl) rfl qf_X8_37 rfl dX8_saying_55 ?_
          refine j_iload_n F 1 dX8_saying_58 rfl rfl ?_
          refine j_iald F (lt653 rfl hN) ly60 dX8_saying_59 h (fun h => ?_)
          refine j_goto F 69 dX8_saying_60 rfl ?_
          exact j_ireturn F rfl dX8_saying_69 h
        · refine j_aload_n F 0 dX8_saying_63 rfl rfl ?_
          refine j_getR F clX8 (j := 18) (lt653 rfl hN) ly50 (Nat.le_of_ble_eq_true rfl) rfl qf_X8_40 rfl dX8_saying_64 ?_
          refine j_iload_n F 1 dX8_saying_67 rfl rfl ?_
          refine j_iald F (lt653 rfl hN) ly61 dX8_saying_68 h (fun h => ?_)
          exact j_ireturn F rfl dX8_saying_69 h
def fX8_sees (nF : Nat) (x1 : Int32) (t : sT) (a : sA) : Rs := if (t 3201) ≤ (t 3221) then (zok (0 : Int32) (some ((0 : Int32), t, a))) else (bnd (t 3221) 64 (if (a 51 (t 3221).toNatClampNeg) = x1 then (zok (1 : Int32) (some ((1 : Int32), t, a))) else (zok (0 : Int32) (some ((0 : Int32), t, a)))))
set_option maxRecDepth 100000 in
set_option maxHeartbeats 4000000 in
theorem kX8_sees (l : Launch) {x : Cx} {N : Nat} {u0 v0 : Option Nat} {nF : Nat} {x1 : Int32} {t : sT} {a : sA} {rv : Int32} {rt : sT} {ra : sA} (hN : 653 ≤ N) (h : fX8_sees nF x1 t a = some (rv, rt, ra)) : Met l yX8_sees [.code yX8_sees cX8_sees 2 (some .boolean)] (k2_rm 0 0) (Pre x N (rho u0 v0) t a [.ref (cz x + 50), .int x1]) (PostI x N (rho u0 v0) rt ra rv) 0 0 (cA x) := by
  refine j_entry (by decide) rfl (Nat.le_of_ble_eq_true rfl) ?_
  intro p e s m below meth c F hsz hnm
  have F : Fx p s m meth c cX8_sees 2 RX8 (some .boolean) x := F
  unfold fX8_sees at h
  show J p l e _ s m _ below meth c x N (rho u0 v0) 2 0 0 _ 0 [(0, .ref (cz x + 50)), (1, .int x1)] [] t a
  refine j_aload_n F 0 dX8_sees_0 rfl rfl ?_
  refine j_getI F clX8 (j := 21) (tt := 3221) (lt653 rfl hN) ly50 (Nat.le_of_ble_eq_true rfl) rfl qf_X8_81 rfl dX8_sees_1 ?_
  refine j_aload_n F 0 dX8_sees_4 rfl rfl ?_
  refine j_getI F clX8 (j := 1) (tt := 3201) (lt653 rfl hN) ly50 (Nat.le_of_ble_eq_true rfl) rfl qf_X8_78 rfl dX8_sees_5 ?_
  refine j_icmp_ge F 28 dX8_sees_8 rfl h (fun h => ?_) (fun h => ?_)
  · refine j_iconst F dX8_sees_28 cI_0 ?_
    exact j_zreturn F rfl dX8_sees_29 h
  · refine j_aload_n F 0 dX8_sees_11 rfl rfl ?_
    refine j_getR F clX8 (j := 0) (lt653 rfl hN) ly50 (Nat.le_of_ble_eq_true rfl) rfl qf_X8_9 rfl dX8_sees_12 ?_
    refine j_aload_n F 0 dX8_sees_15 rfl rfl ?_
    refine j_getI F clX8 (j := 21) (tt := 3221) (lt653 rfl hN) ly50 (Nat.le_of_ble_eq_true rfl) rfl qf_X8_81 rfl dX8_sees_16 ?_
    refine j_iald F (lt653 rfl hN) ly51 dX8_sees_19 h (fun h => ?_)
    refine j_iload_n F 1 dX8_sees_20 rfl rfl ?_
    refine j_icmp_ne F 28 dX8_sees_21 rfl h (fun h => ?_) (fun h => ?_)
    · refine j_iconst F dX8_sees_24 cI_1 ?_
      refine j_goto F 29 dX8_sees_25 rfl ?_
      exact j_zreturn F rfl dX8_sees_29 h
    · refine j_iconst F dX8_sees_28 cI_0 ?_
      exact j_zreturn F rfl dX8_sees_29 h
def fX8_seesDigit (nF : Nat) (t : sT) (a : sA) : Rs := if (t 3201) ≤ (t 3221) then (zok (0 : Int32) (some ((0 : Int32), t, a))) else (bnd (t 3221) 64 (if (a 51 (t 3221).toNatClampNeg) < (48 : Int32) then (zok (0 : Int32) (some ((0 : Int32), t, a))) else (bnd (t 3221) 64 (if (57 : Int32) < (a 51 (t 3221).toNatClampNeg) then (zok (0 : Int32) (some ((0 : Int32), t, a))) else (zok (1 : Int32) (some ((1 : Int32), t, a)))))))
set_option maxRecDepth 100000 in
set_option maxHeartbeats 4000000 in
theorem kX8_seesDigit (l : Launch) {x : Cx} {N : Nat} {u0 v0 : Option Nat} {nF : Nat} {t : sT} {a : sA} {rv : Int32} {rt : sT} {ra : sA} (hN : 653 ≤ N) (h : fX8_seesDigit nF t a = some (rv, rt, ra)) : Met l yX8_seesDigit [.code yX8_seesDigit cX8_seesDigit 1 (some .boolean)] (k2_rm 0 0) (Pre x N (rho u0 v0) t a [.ref (cz x + 50)]) (PostI x N (rho u0 v0) rt ra rv) 0 0 (cA x) := by
  refine j_entry (by decide) rfl (Nat.le_of_ble_eq_true rfl) ?_
  intro p e s m below meth c F hsz hnm
  have F : Fx p s m meth c cX8_seesDigit 1 RX8 (some .boolean) x := F
  unfold fX8_seesDigit at h
  show J p l e _ s m _ below meth c x N (rho u0 v0) 1 0 0 _ 0 [(0, .ref (cz x + 50))] [] t a
  refine j_aload_n F 0 dX8_seesDigit_0 rfl rfl ?_
  refine j_getI F clX8 (j := 21) (tt := 3221) (lt653 rfl hN) ly50 (Nat.le_of_ble_eq_true rfl) rfl qf_X8_81 rfl dX8_seesDigit_1 ?_
  refine j_aload_n F 0 dX8_seesDigit_4 rfl rfl ?_
  refine j_getI F clX8 (j := 1) (tt := 3201) (lt653 rfl hN) ly50 (Nat.le_of_ble_eq_true rfl) rfl qf_X8_78 rfl dX8_seesDigit_5 ?_
  refine j_icmp_ge F 43 dX8_seesDigit_8 rfl h (fun h => ?_) (fun h => ?_)
  · refine j_iconst F dX8_seesDigit_43 cI_0 ?_
    exact j_zreturn F rfl dX8_seesDigit_44 h
  · refine j_aload_n F 0 dX8_seesDigit_11 rfl rfl ?_
    refine j_getR F clX8 (j := 0) (lt653 rfl hN) ly50 (Nat.le_of_ble_eq_true rfl) rfl qf_X8_9 rfl dX8_seesDigit_12 ?_
    refine j_aload_n F 0 dX8_seesDigit_15 rfl rfl ?_
    refine j_getI F clX8 (j := 21) (tt := 3221) (lt653 rfl hN) ly50 (Nat.le_of_ble_eq_true rfl) rfl qf_X8_81 rfl dX8_seesDigit_16 ?_
    refine j_iald F (lt653 rfl hN) ly51 dX8_seesDigit_19 h (fun h => ?_)
    refine j_bipush F dX8_seesDigit_20 cB_48 ?_
    refine j_icmp_lt F 43 dX8_seesDigit_22 rfl h (fun h => ?_) (fun h => ?_)
    · refine j_iconst F dX8_seesDigit_43 cI_0 ?_
      exact j_zreturn F rfl dX8_seesDigit_44 h
    · refine j_aload_n F 0 dX8_seesDigit_25 rfl rfl ?_
      refine j_getR F clX8 (j := 0) (lt653 rfl hN) ly50 (Nat.le_of_ble_eq_true rfl) rfl qf_X8_9 rfl dX8_seesDigit_26 ?_
      refine j_aload_n F 0 dX8_seesDigit_29 rfl rfl ?_
      refine j_getI F clX8 (j := 21) (tt := 3221) (lt653 rfl hN) ly50 (Nat.le_of_ble_eq_true rfl) rfl qf_X8_81 rfl dX8_seesDigit_30 ?_
      refine j_iald F (lt653 rfl hN) ly51 dX8_seesDigit_33 h (fun h => ?_)
      refine j_bipush F dX8_seesDigit_34 cB_57 ?_
      refine j_icmp_gt F 43 dX8_seesDigit_36 rfl h (fun h => ?_) (fun h => ?_)
      · refine j_iconst F dX8_seesDigit_43 cI_0 ?_
        exact j_zreturn F rfl dX8_seesDigit_44 h
      · refine j_iconst F dX8_seesDigit_39 cI_1 ?_
        refine j_goto F 44 dX8_seesDigit_40 rfl ?_
        exact j_zreturn F rfl dX8_seesDigit_44 h
def fX8_seesTalker (nF : Nat) (t : sT) (a : sA) : Rs := cal (fX8_sees nF (104 : Int32) t a) (fun v1 t1 a1 => if v1 = 0 then (cal (fX8_sees nF (111 : Int32) t1 a1) (fun v2 t2 a2 => if v2 = 0 then (cal (fX8_sees nF (98 : Int32) t2 a2) (fun v3 t3 a3 => if v3 = 0 then (cal (fX8_sees nF (103 : Int32) t3 a3) (fun v4 t4 a4 => if v4 = 0 then (cal (fX8_sees nF (102 : Int32) t4 a4) (fun v5 t5 a5 => if v5 = 0 then (zok (0 : Int32) (some ((0 : Int32), t5, a5))) else (zok (1 : Int32) (some ((1 : Int32), t5, a5))))) else (zok (1 : Int32) (some ((1 : Int32), t4, a4))))) else (zok (1 : Int32) (some ((1 : Int32), t3, a3))))) else (zok (1 : Int32) (some ((1 : Int32), t2, a2))))) else (zok (1 : Int32) (some ((1 : Int32), t1, a1))))
set_option maxRecDepth 100000 in
set_option maxHeartbeats 4000000 in
theorem kX8_seesTalker (l : Launch) {x : Cx} {N : Nat} {u0 v0 : Option Nat} {nF : Nat} {t : sT} {a : sA} {rv : Int32} {rt : sT} {ra : sA} (hN : 653 ≤ N) (h : fX8_seesTalker nF t a = some (rv, rt, ra)) : Met l yX8_seesTalker [.code yX8_seesTalker cX8_seesTalker 1 (some .boolean)] (k2_rm 1 21) (Pre x N (rho u0 v0) t a [.ref (cz x + 50)]) (PostI x N (rho u0 v0) rt ra rv) 0 0 (cA x) := by
  refine j_entry (by decide) rfl (Nat.le_of_ble_eq_true rfl) ?_
  intro p e s m below meth c F hsz hnm
  have F : Fx p s m meth c cX8_seesTalker 1 RX8 (some .boolean) x := F
  unfold fX8_seesTalker at h
  show J p l e _ s m _ below meth c x N (rho u0 v0) 1 0 0 _ 0 [(0, .ref (cz x + 50))] [] t a
  refine j_aload_n F 0 dX8_seesTalker_0 rfl rfl ?_
  refine j_bipush F dX8_seesTalker_1 cB_104 ?_
  refine j_callVi F mwX8_sees ql_X8_88 clX8 (lt653 rfl hN) ly50 [.int (104 : Int32)] rfl ⟨rfl, rfl, Nat.le_of_ble_eq_true rfl, Nat.le_of_ble_eq_true rfl⟩ ⟨Nat.le_refl 0, Nat.le_refl 0⟩ rfl (Nat.le_of_ble_eq_true rfl) dX8_seesTalker_3 (fun _ _ _ h9 => kX8_sees l hN  h9) h (fun v1 t1 a1 e1 h => ?_)
  refine j_if_ne F 45 dX8_seesTalker_6 rfl h (fun h => ?_) (fun h => ?_)
  · refine j_aload_n F 0 dX8_seesTalker_9 rfl rfl ?_
    refine j_bipush F dX8_seesTalker_10 cB_111 ?_
    refine j_callVi F mwX8_sees ql_X8_88 clX8 (lt653 rfl hN) ly50 [.int (111 : Int32)] rfl ⟨rfl, rfl, Nat.le_of_ble_eq_true rfl, Nat.le_of_ble_eq_true rfl⟩ ⟨Nat.le_refl 0, Nat.le_refl 0⟩ rfl (Nat.le_of_ble_eq_true rfl) dX8_seesTalker_12 (fun _ _ _ h9 => kX8_sees l hN  h9) h (fun v2 t2 a2 e2 h => ?_)
    refine j_if_ne F 45 dX8_seesTalker_15 rfl h (fun h => ?_) (fun h => ?_)
    · refine j_aload_n F 0 dX8_seesTalker_18 rfl rfl ?_
      refine j_bipush F dX8_seesTalker_19 cB_98 ?_
      refine j_callVi F mwX8_sees ql_X8_88 clX8 (lt653 rfl hN) ly50 [.int (98 : Int32)] rfl ⟨rfl, rfl, Nat.le_of_ble_eq_true rfl, Nat.le_of_ble_eq_true rfl⟩ ⟨Nat.le_refl 0, Nat.le_refl 0⟩ rfl (Nat.le_of_ble_eq_true rfl) dX8_seesTalker_21 (fun _ _ _ h9 => kX8_sees l hN  h9) h (fun v3 t3 a3 e3 h => ?_)
      refine j_if_ne F 45 dX8_seesTalker_24 rfl h (fun h => ?_) (fun h => ?_)
      · refine j_aload_n F 0 dX8_seesTalker_27 rfl rfl ?_
        refine j_bipush F dX8_seesTalker_28 cB_103 ?_
        refine j_callVi F mwX8_sees ql_X8_88 clX8 (lt653 rfl hN) ly50 [.int (103 : Int32)] rfl ⟨rfl, rfl, Nat.le_of_ble_eq_true rfl, Nat.le_of_ble_eq_true rfl⟩ ⟨Nat.le_refl 0, Nat.le_refl 0⟩ rfl (Nat.le_of_ble_eq_true rfl) dX8_seesTalker_30 (fun _ _ _ h9 => kX8_sees l hN  h9) h (fun v4 t4 a4 e4 h => ?_)
        refine j_if_ne F 45 dX8_seesTalker_33 rfl h (fun h => ?_) (fun h => ?_)
        · refine j_aload_n F 0 dX8_seesTalker_36 rfl rfl ?_
          refine j_bipush F dX8_seesTalker_37 cB_102 ?_
          refine j_callVi F mwX8_sees ql_X8_88 clX8 (lt653 rfl hN) ly50 [.int (102 : Int32)] rfl ⟨rfl, rfl, Nat.le_of_ble_eq_true rfl, Nat.le_of_ble_eq_true rfl⟩ ⟨Nat.le_refl 0, Nat.le_refl 0⟩ rfl (Nat.le_of_ble_eq_true rfl) dX8_seesTalker_39 (fun _ _ _ h9 => kX8_sees l hN  h9) h (fun v5 t5 a5 e5 h => ?_)
          refine j_if_eq F 49 dX8_seesTalker_42 rfl h (fun h => ?_) (fun h => ?_)
          · refine j_iconst F dX8_seesTalker_49 cI_0 ?_
            exact j_zreturn F rfl dX8_seesTalker_50 h
          · refine j_iconst F dX8_seesTalker_45 cI_1 ?_
            refine j_goto F 50 dX8_seesTalker_46 rfl ?_
            exact j_zreturn F rfl dX8_seesTalker_50 h
        · refine j_iconst F dX8_seesTalker_45 cI_1 ?_
          refine j_goto F 50 dX8_seesTalker_46 rfl ?_
          exact j_zreturn F rfl dX8_seesTalker_50 h
      · refine j_iconst F dX8_seesTalker_45 cI_1 ?_
        refine j_goto F 50 dX8_seesTalker_46 rfl ?_
        exact j_zreturn F rfl dX8_seesTalker_50 h
    · refine j_iconst F dX8_seesTalker_45 cI_1 ?_
      refine j_goto F 50 dX8_seesTalker_46 rfl ?_
      exact j_zreturn F rfl dX8_seesTalker_50 h
  · refine j_iconst F dX8_seesTalker_45 cI_1 ?_
    refine j_goto F 50 dX8_seesTalker_46 rfl ?_
    exact j_zreturn F rfl dX8_seesTalker_50 h
def fX8_settles (nF : Nat) (x1 : Int32) (t : sT) (a : sA) : Rs := cal (fX8_isSet nF x1 t a) (fun v1 t1 a1 => if v1 = 0 then (cal (fX8_refuse nF (-1 : Int32) t1 a1) (fun v4 t4 a4 => some (v4, t4, a4))) else (cal (fX8_meaning nF 52 6 (t1 3203) t1 a1) (fun v2 t2 a2 => cal (fX8_doesSettle nF x1 v2 t2 a2) (fun v3 t3 a3 => if v3 = 0 then (some ((0 : Int32), va_up t3 3203 (0 : Int32), a3)) else (some ((1 : Int32), va_up t3 3203 (0 : Int32), a3))))))
set_option maxRecDepth 100000 in
set_option maxHeartbeats 4000000 in
theorem kX8_settles (l : Launch) {x : Cx} {N : Nat} {u0 v0 : Option Nat} {nF : Nat} {x1 : Int32} {t : sT} {a : sA} {rv : Int32} {rt : sT} {ra : sA} (hN : 653 ≤ N) (h : fX8_settles nF x1 t a = some (rv, rt, ra)) : Met l yX8_settles [.code yX8_settles cX8_settles 3 (some .int)] (k2_rm 2 42) (Pre x N (rho u0 v0) t a [.ref (cz x + 50), .int x1]) (PostI x N (rho u0 v0) rt ra rv) 0 0 (cA x) := by
  refine j_entry (by decide) rfl (Nat.le_of_ble_eq_true rfl) ?_
  intro p e s m below meth c F hsz hnm
  have F : Fx p s m meth c cX8_settles 3 RX8 (some .int) x := F
  unfold fX8_settles at h
  show J p l e _ s m _ below meth c x N (rho u0 v0) 3 0 0 _ 0 [(0, .ref (cz x + 50)), (1, .int x1)] [] t a
  refine j_iload_n F 1 dX8_settles_0 rfl rfl ?_
  refine j_callSi F mwX8_isSet ql_X8_153 [.int x1] rfl ⟨rfl, rfl, Nat.le_of_ble_eq_true rfl, Nat.le_of_ble_eq_true rfl⟩ ⟨Nat.le_refl 0, Nat.le_refl 0⟩ rfl (Nat.le_of_ble_eq_true rfl) dX8_settles_1 (fun _ _ _ h9 => kX8_isSet l hN  h9) h (fun v1 t1 a1 e1 h => ?_)
  refine j_if_ne F 13 dX8_settles_4 rfl h (fun h => ?_) (fun h => ?_)
  · refine j_aload_n F 0 dX8_settles_7 rfl rfl ?_
    refine j_iconst F dX8_settles_8 cI_m1 ?_
    refine j_callVi F mwX8_refuse ql_X8_74 clX8 (lt653 rfl hN) ly50 [.int (-1 : Int32)] rfl ⟨rfl, rfl, Nat.le_of_ble_eq_true rfl, Nat.le_of_ble_eq_true rfl⟩ ⟨Nat.le_refl 0, Nat.le_refl 0⟩ rfl (Nat.le_of_ble_eq_true rfl) dX8_settles_9 (fun _ _ _ h9 => kX8_refuse l hN  h9) h (fun v4 t4 a4 e4 h => ?_)
    exact j_ireturn F rfl dX8_settles_12 h
  · refine j_iload_n F 1 dX8_settles_13 rfl rfl ?_
    refine j_aload_n F 0 dX8_settles_14 rfl rfl ?_
    refine j_aload_n F 0 dX8_settles_15 rfl rfl ?_
    refine j_getR F clX8 (j := 2) (lt653 rfl hN) ly50 (Nat.le_of_ble_eq_true rfl) rfl qf_X8_13 rfl dX8_settles_16 ?_
    refine j_aload_n F 0 dX8_settles_19 rfl rfl ?_
    refine j_getI F clX8 (j := 3) (tt := 3203) (lt653 rfl hN) ly50 (Nat.le_of_ble_eq_true rfl) rfl qf_X8_139 rfl dX8_settles_20 ?_
    refine j_callVi F mwX8_meaning ql_X8_142 clX8 (lt653 rfl hN) ly50 [.ref (cz x + 52), .int (t1 3203)] rfl ⟨rfl, rfl, Nat.le_of_ble_eq_true rfl, Nat.le_of_ble_eq_true rfl⟩ ⟨Nat.le_refl 0, Nat.le_refl 0⟩ rfl (Nat.le_of_ble_eq_true rfl) dX8_settles_23 (fun _ _ _ h9 => kX8_meaning l hN (lt653 rfl hN) ly52 h9) h (fun v2 t2 a2 e2 h => ?_)
    refine j_callSi F mwX8_doesSettle ql_X8_156 [.int x1, .int v2] rfl ⟨rfl, rfl, Nat.le_of_ble_eq_true rfl, Nat.le_of_ble_eq_true rfl⟩ ⟨Nat.le_refl 0, Nat.le_refl 0⟩ rfl (Nat.le_of_ble_eq_true rfl) dX8_settles_26 (fun _ _ _ h9 => kX8_doesSettle l hN  h9) h (fun v3 t3 a3 e3 h => ?_)
    refine j_istore_n F (lv' := [(2, .int v3), (0, .ref (cz x + 50)), (1, .int x1)]) dX8_settles_29 rfl (Nat.le_of_ble_eq_true rfl) rfl ?_
    refine j_aload_n F 1 dX8_settles_30 rfl rfl ?_
    refine j_iconst F dX8_settles_31 cI_0 ?_
    refine j_putI F clX8 (j := 3) (tt := 3203) (lt653 rfl hN) ly50 (Nat.le_of_ble_eq_true rfl) rfl qf_X8_139 rfl rfl rfl dX8_settles_32 ?_
    refine j_iload_n F 0 dX8_settles_35 rfl rfl ?_
    refine j_if_eq F 43 dX8_settles_36 rfl h (fun h => ?_) (fun h => ?_)
    · refine j_iconst F dX8_settles_43 cI_0 ?_
      exact j_ireturn F rfl dX8_settles_44 h
    · refine j_iconst F dX8_settles_39 cI_1 ?_
      refine j_goto F 44 dX8_settles_40 rfl ?_
      exact j_ireturn F rfl dX8_settles_44 h
def fX8_silence (nF : Nat) (t : sT) (a : sA) : Rs := some (t 3215, va_up t 3215 (0 : Int32), a)
set_option maxRecDepth 100000 in
set_option maxHeartbeats 4000000 in
theorem kX8_silence (l : Launch) {x : Cx} {N : Nat} {u0 v0 : Option Nat} {nF : Nat} {t : sT} {a : sA} {rv : Int32} {rt : sT} {ra : sA} (hN : 653 ≤ N) (h : fX8_silence nF t a = some (rv, rt, ra)) : Met l yX8_silence [.code yX8_silence cX8_silence 2 (some .int)] (k2_rm 0 0) (Pre x N (rho u0 v0) t a [.ref (cz x + 50)]) (PostI x N (rho u0 v0) rt ra rv) 0 0 (cA x) := by
  refine j_entry (by decide) rfl (Nat.le_of_ble_eq_true rfl) ?_
  intro p e s m below meth c F hsz hnm
  have F : Fx p s m meth c cX8_silence 2 RX8 (some .int) x := F
  unfold fX8_silence at h
  show J p l e _ s m _ below meth c x N (rho u0 v0) 2 0 0 _ 0 [(0, .ref (cz x + 50))] [] t a
  refine j_aload_n F 0 dX8_silence_0 rfl rfl ?_
  refine j_getI F clX8 (j := 15) (tt := 3215) (lt653 rfl hN) ly50 (Nat.le_of_ble_eq_true rfl) rfl qf_X8_230 rfl dX8_silence_1 ?_
  refine j_istore_n F (lv' := [(1, .int (t 3215)), (0, .ref (cz x + 50))]) dX8_silence_4 rfl (Nat.le_of_ble_eq_true rfl) rfl ?_
  refine j_aload_n F 1 dX8_silence_5 rfl rfl ?_
  refine j_iconst F dX8_silence_6 cI_0 ?_
  refine j_putI F clX8 (j := 15) (tt := 3215) (lt653 rfl hN) ly50 (Nat.le_of_ble_eq_true rfl) rfl qf_X8_230 rfl rfl rfl dX8_silence_7 ?_
  refine j_iload_n F 0 dX8_silence_10 rfl rfl ?_
  exact j_ireturn F rfl dX8_silence_11 h
def gX8_tellingComes_4 (nF : Nat) (r4 : Int32 → Int32 → sT → sA → Rs) (x1 x2 : Int32) (t : sT) (a : sA) : Rs := cal (fX8_seesDigit nF t a) (fun v1 t1 a1 => if v1 = 0 then (cal (fX8_addWord nF (0 : Int32) x1 t1 a1) (fun v2 t2 a2 => zok v2 (some (v2, t2, a2)))) else (bnd (t1 3221) 64 (if (7 : Int32) < ((a1 51 (t1 3221).toNatClampNeg) - (48 : Int32)) then (zok (0 : Int32) (some ((0 : Int32), t1, a1))) else (if x2 < ((a1 51 (t1 3221).toNatClampNeg) - (48 : Int32)) then (r4 (x1 ||| ((1 : Int32) <<< (((a1 51 (t1 3221).toNatClampNeg) - (48 : Int32)) &&& 31))) ((a1 51 (t1 3221).toNatClampNeg) - (48 : Int32)) (va_up t1 3221 ((t1 3221) + (1 : Int32))) a1) else (zok (0 : Int32) (some ((0 : Int32), t1, a1)))))))
def gX8_tellingComes (nF : Nat) : Nat → (Int32 → Int32 → sT → sA → Rs)
  | 0 => (fun _ _ _ _ => none)
  | n9 + 1 => (gX8_tellingComes_4 nF (gX8_tellingComes nF n9))
def fX8_tellingComes (nF : Nat) (t : sT) (a : sA) : Rs := (gX8_tellingComes nF nF) (0 : Int32) (-1 : Int32) t a
set_option maxRecDepth 100000 in
set_option maxHeartbeats 4000000 in
theorem hX8_tellingComes {p : Program} {l : Launch} {e : Env} {s : State} {m : MethodId} {args : Array Value} {below : List Frame} {meth : Method} {c : Code} {x : Cx} {N : Nat} {u0 v0 : Option Nat} {nF : Nat} (F : Fx p s m meth c cX8_tellingComes 4 RX8 (some .boolean) x) (hsz : s.heap.size = cz x + N) (hN : 653 ≤ N) {rv : Int32} {rt : sT} {ra : sA} : ∀ n9 : Nat, (∀ (x1 x2 : Int32) (t : sT) (a : sA), (gX8_tellingComes nF n9) x1 x2 t a = some (rv, rt, ra) → J p l e (k2_rm 1 22) s m args below meth c x N (rho u0 v0) 4 0 0 (MQ below (PostI x N (rho u0 v0) rt ra rv) args s 0 0 (cA x)) 4 [(0, .ref (cz x + 50)), (1, .int x1), (2, .int x2)] [] t a) := by
  intro n9
  induction n9 with
  | zero => exact fun _ _ _ _ h => (by cases h)
  | succ n9 ih =>
    intro x1 x2 t a h
    have h : gX8_tellingComes_4 nF (gX8_tellingComes nF n9) x1 x2 t a = some (rv, rt, ra) := h
    unfold gX8_tellingComes_4 at h
    refine j_aload_n F 0 dX8_tellingComes_4 rfl rfl ?_
    refine j_callVi F mwX8_seesDigit ql_X8_84 clX8 (lt653 rfl hN) ly50 [] rfl ⟨rfl, rfl, Nat.le_of_ble_eq_true rfl, Nat.le_of_ble_eq_true rfl⟩ ⟨Nat.le_refl 0, Nat.le_refl 0⟩ rfl (Nat.le_of_ble_eq_true rfl) dX8_tellingComes_5 (fun _ _ _ h9 => kX8_seesDigit l hN  h9) h (fun v1 t1 a1 e1 h => ?_)
    refine j_if_eq F 58 dX8_tellingComes_8 rfl h (fun h => ?_) (fun h => ?_)
    · refine j_aload_n F 0 dX8_tellingComes_58 rfl rfl ?_
      refine j_iconst F dX8_tellingComes_59 cI_0 ?_
      refine j_iload_n F 1 dX8_tellingComes_60 rfl rfl ?_
      refine j_callVi F mwX8_addWord ql_X8_104 clX8 (lt653 rfl hN) ly50 [.int (0 : Int32), .int x1] rfl ⟨rfl, rfl, Nat.le_of_ble_eq_true rfl, Nat.le_of_ble_eq_true rfl⟩ ⟨Nat.le_refl 0, Nat.le_refl 0⟩ rfl (Nat.le_of_ble_eq_true rfl) dX8_tellingComes_61 (fun _ _ _ h9 => kX8_addWord l hN  h9) h (fun v2 t2 a2 e2 h => ?_)
      exact j_zreturn F rfl dX8_tellingComes_64 h
    · refine j_aload_n F 0 dX8_tellingComes_11 rfl rfl ?_
      refine j_getR F clX8 (j := 0) (lt653 rfl hN) ly50 (Nat.le_of_ble_eq_true rfl) rfl qf_X8_9 rfl dX8_tellingComes_12 ?_
      refine j_aload_n F 0 dX8_tellingComes_15 rfl rfl ?_
      refine j_getI F clX8 (j := 21) (tt := 3221) (lt653 rfl hN) ly50 (Nat.le_of_ble_eq_true rfl) rfl qf_X8_81 rfl dX8_tellingComes_16 ?_
      refine j_iald F (lt653 rfl hN) ly51 dX8_tellingComes_19 h (fun h => ?_)
      refine j_bipush F dX8_tellingComes_20 cB_48 ?_
      refine j_isub F dX8_tellingComes_22 ?_
      refine j_istore_n F (lv' := [(3, .int ((a1 51 (t1 3221).toNatClampNeg) - (48 : Int32))), (0, .ref (cz x + 50)), (1, .int x1), (2, .int x2)]) dX8_tellingComes_23 rfl (Nat.le_of_ble_eq_true rfl) rfl ?_
      refine j_iload_n F 0 dX8_tellingComes_24 rfl rfl ?_
      refine j_bipush F dX8_tellingComes_25 cB_7 ?_
      refine j_icmp_gt F 35 dX8_tellingComes_27 rfl h (fun h => ?_) (fun h => ?_)
      · refine j_iconst F dX8_tellingComes_35 cI_0 ?_
        exact j_zreturn F rfl dX8_tellingComes_36 h
      · refine j_iload_n F 0 dX8_tellingComes_30 rfl rfl ?_
        refine j_iload_n F 3 dX8_tellingComes_31 rfl rfl ?_
        refine j_icmp_gt F 37 dX8_tellingComes_32 rfl h (fun h => ?_) (fun h => ?_)
        · refine j_iload_n F 2 dX8_tellingComes_37 rfl rfl ?_
          refine j_iconst F dX8_tellingComes_38 cI_1 ?_
          refine j_iload_n F 0 dX8_tellingComes_39 rfl rfl ?_
          refine j_ishl F dX8_tellingComes_40 ?_
          refine j_ior F dX8_tellingComes_41 ?_
          refine j_istore_n F (lv' := [(1, .int (x1 ||| ((1 : Int32) <<< (((a1 51 (t1 3221).toNatClampNeg) - (48 : Int32)) &&& 31)))), (3, .int ((a1 51 (t1 3221).toNatClampNeg) - (48 : Int32))), (0, .ref (cz x + 50)), (2, .int x2)]) dX8_tellingComes_42 rfl (Nat.le_of_ble_eq_true rfl) rfl ?_
          refine j_iload_n F 1 dX8_tellingComes_43 rfl rfl ?_
          refine j_istore_n F (lv' := [(2, .int ((a1 51 (t1 3221).toNatClampNeg) - (48 : Int32))), (1, .int (x1 ||| ((1 : Int32) <<< (((a1 51 (t1 3221).toNatClampNeg) - (48 : Int32)) &&& 31)))), (3, .int ((a1 51 (t1 3221).toNatClampNeg) - (48 : Int32))), (0, .ref (cz x + 50))]) dX8_tellingComes_44 rfl (Nat.le_of_ble_eq_true rfl) rfl ?_
          refine j_aload_n F 3 dX8_tellingComes_45 rfl rfl ?_
          refine j_dup F dX8_tellingComes_46 rfl ?_
          refine j_getI F clX8 (j := 21) (tt := 3221) (lt653 rfl hN) ly50 (Nat.le_of_ble_eq_true rfl) rfl qf_X8_81 rfl dX8_tellingComes_47 ?_
          refine j_iconst F dX8_tellingComes_50 cI_1 ?_
          refine j_iadd F dX8_tellingComes_51 ?_
          refine j_putI F clX8 (j := 21) (tt := 3221) (lt653 rfl hN) ly50 (Nat.le_of_ble_eq_true rfl) rfl qf_X8_81 rfl rfl rfl dX8_tellingComes_52 ?_
          refine j_goto F 4 dX8_tellingComes_55 rfl ?_
          exact j_lv [3, 1, 0] rfl (ih _ _ _ _ h)
        · refine j_iconst F dX8_tellingComes_35 cI_0 ?_
          exact j_zreturn F rfl dX8_tellingComes_36 h
set_option maxRecDepth 100000 in
set_option maxHeartbeats 4000000 in
theorem kX8_tellingComes (l : Launch) {x : Cx} {N : Nat} {u0 v0 : Option Nat} {nF : Nat} {t : sT} {a : sA} {rv : Int32} {rt : sT} {ra : sA} (hN : 653 ≤ N) (h : fX8_tellingComes nF t a = some (rv, rt, ra)) : Met l yX8_tellingComes [.code yX8_tellingComes cX8_tellingComes 4 (some .boolean)] (k2_rm 1 22) (Pre x N (rho u0 v0) t a [.ref (cz x + 50)]) (PostI x N (rho u0 v0) rt ra rv) 0 0 (cA x) := by
  refine j_entry (by decide) rfl (Nat.le_of_ble_eq_true rfl) ?_
  intro p e s m below meth c F hsz hnm
  have F : Fx p s m meth c cX8_tellingComes 4 RX8 (some .boolean) x := F
  unfold fX8_tellingComes at h
  show J p l e _ s m _ below meth c x N (rho u0 v0) 4 0 0 _ 0 [(0, .ref (cz x + 50))] [] t a
  refine j_iconst F dX8_tellingComes_0 cI_0 ?_
  refine j_istore_n F (lv' := [(1, .int (0 : Int32)), (0, .ref (cz x + 50))]) dX8_tellingComes_1 rfl (Nat.le_of_ble_eq_true rfl) rfl ?_
  refine j_iconst F dX8_tellingComes_2 cI_m1 ?_
  refine j_istore_n F (lv' := [(2, .int (-1 : Int32)), (1, .int (0 : Int32)), (0, .ref (cz x + 50))]) dX8_tellingComes_3 rfl (Nat.le_of_ble_eq_true rfl) rfl ?_
  exact j_lv [2, 1, 0] rfl ((hX8_tellingComes F hsz hN nF) _ _ _ _ h)
def fX8_told (nF : Nat) (x1 : Int32) (t : sT) (a : sA) : Rs := cal (fX8_isWord nF x1 t a) (fun v1 t1 a1 => if v1 = 0 then (cal (fX8_refuse nF (-1 : Int32) t1 a1) (fun v3 t3 a3 => some (v3, t3, a3))) else (if (t1 3205) = (6 : Int32) then (cal (fX8_refuse nF (-6 : Int32) t1 a1) (fun v2 t2 a2 => some (v2, t2, a2))) else (bnd (t1 3205) 6 (some ((va_up t1 3205 ((t1 3205) + (1 : Int32))) 3205, va_up t1 3205 ((t1 3205) + (1 : Int32)), va_up a1 53 (upd (a1 53) (t1 3205).toNatClampNeg x1))))))
set_option maxRecDepth 100000 in
set_option maxHeartbeats 4000000 in
theorem kX8_told (l : Launch) {x : Cx} {N : Nat} {u0 v0 : Option Nat} {nF : Nat} {x1 : Int32} {t : sT} {a : sA} {rv : Int32} {rt : sT} {ra : sA} (hN : 653 ≤ N) (h : fX8_told nF x1 t a = some (rv, rt, ra)) : Met l yX8_told [.code yX8_told cX8_told 2 (some .int)] (k2_rm 2 43) (Pre x N (rho u0 v0) t a [.ref (cz x + 50), .int x1]) (PostI x N (rho u0 v0) rt ra rv) 0 0 (cA x) := by
  refine j_entry (by decide) rfl (Nat.le_of_ble_eq_true rfl) ?_
  intro p e s m below meth c F hsz hnm
  have F : Fx p s m meth c cX8_told 2 RX8 (some .int) x := F
  unfold fX8_told at h
  show J p l e _ s m _ below meth c x N (rho u0 v0) 2 0 0 _ 0 [(0, .ref (cz x + 50)), (1, .int x1)] [] t a
  refine j_aload_n F 0 dX8_told_0 rfl rfl ?_
  refine j_iload_n F 1 dX8_told_1 rfl rfl ?_
  refine j_callVi F mwX8_isWord ql_X8_130 clX8 (lt653 rfl hN) ly50 [.int x1] rfl ⟨rfl, rfl, Nat.le_of_ble_eq_true rfl, Nat.le_of_ble_eq_true rfl⟩ ⟨Nat.le_refl 0, Nat.le_refl 0⟩ rfl (Nat.le_of_ble_eq_true rfl) dX8_told_2 (fun _ _ _ h9 => kX8_isWord l hN  h9) h (fun v1 t1 a1 e1 h => ?_)
  refine j_if_ne F 14 dX8_told_5 rfl h (fun h => ?_) (fun h => ?_)
  · refine j_aload_n F 0 dX8_told_8 rfl rfl ?_
    refine j_iconst F dX8_told_9 cI_m1 ?_
    refine j_callVi F mwX8_refuse ql_X8_74 clX8 (lt653 rfl hN) ly50 [.int (-1 : Int32)] rfl ⟨rfl, rfl, Nat.le_of_ble_eq_true rfl, Nat.le_of_ble_eq_true rfl⟩ ⟨Nat.le_refl 0, Nat.le_refl 0⟩ rfl (Nat.le_of_ble_eq_true rfl) dX8_told_10 (fun _ _ _ h9 => kX8_refuse l hN  h9) h (fun v3 t3 a3 e3 h => ?_)
    exact j_ireturn F rfl dX8_told_13 h
  · refine j_aload_n F 0 dX8_told_14 rfl rfl ?_
    refine j_getI F clX8 (j := 5) (tt := 3205) (lt653 rfl hN) ly50 (Nat.le_of_ble_eq_true rfl) rfl qf_X8_218 rfl dX8_told_15 ?_
    refine j_bipush F dX8_told_18 cB_6 ?_
    refine j_icmp_ne F 30 dX8_told_20 rfl h (fun h => ?_) (fun h => ?_)
    · refine j_aload_n F 0 dX8_told_23 rfl rfl ?_
      refine j_bipush F dX8_told_24 cB_m6 ?_
      refine j_callVi F mwX8_refuse ql_X8_74 clX8 (lt653 rfl hN) ly50 [.int (-6 : Int32)] rfl ⟨rfl, rfl, Nat.le_of_ble_eq_true rfl, Nat.le_of_ble_eq_true rfl⟩ ⟨Nat.le_refl 0, Nat.le_refl 0⟩ rfl (Nat.le_of_ble_eq_true rfl) dX8_told_26 (fun _ _ _ h9 => kX8_refuse l hN  h9) h (fun v2 t2 a2 e2 h => ?_)
      exact j_ireturn F rfl dX8_told_29 h
    · refine j_aload_n F 0 dX8_told_30 rfl rfl ?_
      refine j_getR F clX8 (j := 4) (lt653 rfl hN) ly50 (Nat.le_of_ble_eq_true rfl) rfl qf_X8_16 rfl dX8_told_31 ?_
      refine j_aload_n F 0 dX8_told_34 rfl rfl ?_
      refine j_dup F dX8_told_35 rfl ?_
      refine j_getI F clX8 (j := 5) (tt := 3205) (lt653 rfl hN) ly50 (Nat.le_of_ble_eq_true rfl) rfl qf_X8_218 rfl dX8_told_36 ?_
      refine j_dup_x1 F dX8_told_39 rfl rfl ?_
      refine j_iconst F dX8_told_40 cI_1 ?_
      refine j_iadd F dX8_told_41 ?_
      refine j_putI F clX8 (j := 5) (tt := 3205) (lt653 rfl hN) ly50 (Nat.le_of_ble_eq_true rfl) rfl qf_X8_218 rfl rfl rfl dX8_told_42 ?_
      refine j_iload_n F 1 dX8_told_45 rfl rfl ?_
      refine j_iast F (lt653 rfl hN) ly53 dX8_told_46 h (fun h => ?_)
      refine j_aload_n F 0 dX8_told_47 rfl rfl ?_
      refine j_getI F clX8 (j := 5) (tt := 3205) (lt653 rfl hN) ly50 (Nat.le_of_ble_eq_true rfl) rfl qf_X8_218 rfl dX8_told_48 ?_
      exact j_ireturn F rfl dX8_told_51 h
def fX8_truth (nF : Nat) (x1 : Int32) (t : sT) (a : sA) : Rs := cal (fX8_isCase nF x1 t a) (fun v1 t1 a1 => if v1 = 0 then (cal (fX8_refuse nF (-1 : Int32) t1 a1) (fun v2 t2 a2 => some (v2, t2, a2))) else (some (t1 3214, va_up t1 3214 x1, a1)))
set_option maxRecDepth 100000 in
set_option maxHeartbeats 4000000 in
theorem kX8_truth (l : Launch) {x : Cx} {N : Nat} {u0 v0 : Option Nat} {nF : Nat} {x1 : Int32} {t : sT} {a : sA} {rv : Int32} {rt : sT} {ra : sA} (hN : 653 ≤ N) (h : fX8_truth nF x1 t a = some (rv, rt, ra)) : Met l yX8_truth [.code yX8_truth cX8_truth 3 (some .int)] (k2_rm 2 42) (Pre x N (rho u0 v0) t a [.ref (cz x + 50), .int x1]) (PostI x N (rho u0 v0) rt ra rv) 0 0 (cA x) := by
  refine j_entry (by decide) rfl (Nat.le_of_ble_eq_true rfl) ?_
  intro p e s m below meth c F hsz hnm
  have F : Fx p s m meth c cX8_truth 3 RX8 (some .int) x := F
  unfold fX8_truth at h
  show J p l e _ s m _ below meth c x N (rho u0 v0) 3 0 0 _ 0 [(0, .ref (cz x + 50)), (1, .int x1)] [] t a
  refine j_iload_n F 1 dX8_truth_0 rfl rfl ?_
  refine j_callSi F mwX8_isCase ql_X8_133 [.int x1] rfl ⟨rfl, rfl, Nat.le_of_ble_eq_true rfl, Nat.le_of_ble_eq_true rfl⟩ ⟨Nat.le_refl 0, Nat.le_refl 0⟩ rfl (Nat.le_of_ble_eq_true rfl) dX8_truth_1 (fun _ _ _ h9 => kX8_isCase l hN  h9) h (fun v1 t1 a1 e1 h => ?_)
  refine j_if_ne F 13 dX8_truth_4 rfl h (fun h => ?_) (fun h => ?_)
  · refine j_aload_n F 0 dX8_truth_7 rfl rfl ?_
    refine j_iconst F dX8_truth_8 cI_m1 ?_
    refine j_callVi F mwX8_refuse ql_X8_74 clX8 (lt653 rfl hN) ly50 [.int (-1 : Int32)] rfl ⟨rfl, rfl, Nat.le_of_ble_eq_true rfl, Nat.le_of_ble_eq_true rfl⟩ ⟨Nat.le_refl 0, Nat.le_refl 0⟩ rfl (Nat.le_of_ble_eq_true rfl) dX8_truth_9 (fun _ _ _ h9 => kX8_refuse l hN  h9) h (fun v2 t2 a2 e2 h => ?_)
    exact j_ireturn F rfl dX8_truth_12 h
  · refine j_aload_n F 0 dX8_truth_13 rfl rfl ?_
    refine j_getI F clX8 (j := 14) (tt := 3214) (lt653 rfl hN) ly50 (Nat.le_of_ble_eq_true rfl) rfl qf_X8_136 rfl dX8_truth_14 ?_
    refine j_istore_n F (lv' := [(2, .int (t1 3214)), (0, .ref (cz x + 50)), (1, .int x1)]) dX8_truth_17 rfl (Nat.le_of_ble_eq_true rfl) rfl ?_
    refine j_aload_n F 1 dX8_truth_18 rfl rfl ?_
    refine j_iload_n F 2 dX8_truth_19 rfl rfl ?_
    refine j_putI F clX8 (j := 14) (tt := 3214) (lt653 rfl hN) ly50 (Nat.le_of_ble_eq_true rfl) rfl qf_X8_136 rfl rfl rfl dX8_truth_20 ?_
    refine j_iload_n F 0 dX8_truth_23 rfl rfl ?_
    exact j_ireturn F rfl dX8_truth_24 h
def fX8_weight (nF : Nat) (x1 : Int32) (t : sT) (a : sA) : Rs := cal (fX8_isCase nF x1 t a) (fun v1 t1 a1 => if v1 = 0 then (cal (fX8_refuse nF (-1 : Int32) t1 a1) (fun v2 t2 a2 => some (v2, t2, a2))) else (bnd x1 8 (some (a1 57 x1.toNatClampNeg, t1, a1))))
set_option maxRecDepth 100000 in
set_option maxHeartbeats 4000000 in
theorem kX8_weight (l : Launch) {x : Cx} {N : Nat} {u0 v0 : Option Nat} {nF : Nat} {x1 : Int32} {t : sT} {a : sA} {rv : Int32} {rt : sT} {ra : sA} (hN : 653 ≤ N) (h : fX8_weight nF x1 t a = some (rv, rt, ra)) : Met l yX8_weight [.code yX8_weight cX8_weight 2 (some .int)] (k2_rm 2 42) (Pre x N (rho u0 v0) t a [.ref (cz x + 50), .int x1]) (PostI x N (rho u0 v0) rt ra rv) 0 0 (cA x) := by
  refine j_entry (by decide) rfl (Nat.le_of_ble_eq_true rfl) ?_
  intro p e s m below meth c F hsz hnm
  have F : Fx p s m meth c cX8_weight 2 RX8 (some .int) x := F
  unfold fX8_weight at h
  show J p l e _ s m _ below meth c x N (rho u0 v0) 2 0 0 _ 0 [(0, .ref (cz x + 50)), (1, .int x1)] [] t a
  refine j_iload_n F 1 dX8_weight_0 rfl rfl ?_
  refine j_callSi F mwX8_isCase ql_X8_133 [.int x1] rfl ⟨rfl, rfl, Nat.le_of_ble_eq_true rfl, Nat.le_of_ble_eq_true rfl⟩ ⟨Nat.le_refl 0, Nat.le_refl 0⟩ rfl (Nat.le_of_ble_eq_true rfl) dX8_weight_1 (fun _ _ _ h9 => kX8_isCase l hN  h9) h (fun v1 t1 a1 e1 h => ?_)
  refine j_if_eq F 16 dX8_weight_4 rfl h (fun h => ?_) (fun h => ?_)
  · refine j_aload_n F 0 dX8_weight_16 rfl rfl ?_
    refine j_iconst F dX8_weight_17 cI_m1 ?_
    refine j_callVi F mwX8_refuse ql_X8_74 clX8 (lt653 rfl hN) ly50 [.int (-1 : Int32)] rfl ⟨rfl, rfl, Nat.le_of_ble_eq_true rfl, Nat.le_of_ble_eq_true rfl⟩ ⟨Nat.le_refl 0, Nat.le_refl 0⟩ rfl (Nat.le_of_ble_eq_true rfl) dX8_weight_18 (fun _ _ _ h9 => kX8_refuse l hN  h9) h (fun v2 t2 a2 e2 h => ?_)
    exact j_ireturn F rfl dX8_weight_21 h
  · refine j_aload_n F 0 dX8_weight_7 rfl rfl ?_
    refine j_getR F clX8 (j := 10) (lt653 rfl hN) ly50 (Nat.le_of_ble_eq_true rfl) rfl qf_X8_28 rfl dX8_weight_8 ?_
    refine j_iload_n F 1 dX8_weight_11 rfl rfl ?_
    refine j_iald F (lt653 rfl hN) ly57 dX8_weight_12 h (fun h => ?_)
    refine j_goto F 21 dX8_weight_13 rfl ?_
    exact j_ireturn F rfl dX8_weight_21 h
def gX8_weightOf_4 (nF : Nat) (r4 : Int32 → Int32 → Int32 → sT → sA → Rs) (x1 x2 x3 : Int32) (t : sT) (a : sA) : Rs := if (8 : Int32) ≤ x3 then (some (x2, t, a)) else (if ((x1 >>> (x3 &&& 31)) &&& (1 : Int32)) = 0 then (r4 x1 (x2 + (0 : Int32)) (x3 + (1 : Int32)) t a) else (bnd x3 8 (r4 x1 (x2 + (a 57 x3.toNatClampNeg)) (x3 + (1 : Int32)) t a)))
def gX8_weightOf (nF : Nat) : Nat → (Int32 → Int32 → Int32 → sT → sA → Rs)
  | 0 => (fun _ _ _ _ _ => none)
  | n9 + 1 => (gX8_weightOf_4 nF (gX8_weightOf nF n9))
def fX8_weightOf (nF : Nat) (x1 : Int32) (t : sT) (a : sA) : Rs := (gX8_weightOf nF nF) x1 (0 : Int32) (0 : Int32) t a
set_option maxRecDepth 100000 in
set_option maxHeartbeats 4000000 in
theorem hX8_weightOf {p : Program} {l : Launch} {e : Env} {s : State} {m : MethodId} {args : Array Value} {below : List Frame} {meth : Method} {c : Code} {x : Cx} {N : Nat} {u0 v0 : Option Nat} {nF : Nat} (F : Fx p s m meth c cX8_weightOf 4 RX8 (some .int) x) (hsz : s.heap.size = cz x + N) (hN : 653 ≤ N) {rv : Int32} {rt : sT} {ra : sA} : ∀ n9 : Nat, (∀ (x1 x2 x3 : Int32) (t : sT) (a : sA), (gX8_weightOf nF n9) x1 x2 x3 t a = some (rv, rt, ra) → J p l e (k2_rm 0 0) s m args below meth c x N (rho u0 v0) 4 0 0 (MQ below (PostI x N (rho u0 v0) rt ra rv) args s 0 0 (cA x)) 4 [(0, .ref (cz x + 50)), (1, .int x1), (2, .int x2), (3, .int x3)] [] t a) := by
  intro n9
  induction n9 with
  | zero => exact fun _ _ _ _ _ h => (by cases h)
  | succ n9 ih =>
    intro x1 x2 x3 t a h
    have h : gX8_weightOf_4 nF (gX8_weightOf nF n9) x1 x2 x3 t a = some (rv, rt, ra) := h
    unfold gX8_weightOf_4 at h
    refine j_iload_n F 3 dX8_weightOf_4 rfl rfl ?_
    refine j_bipush F dX8_weightOf_5 cB_8 ?_
    refine j_icmp_ge F 37 dX8_weightOf_7 rfl h (fun h => ?_) (fun h => ?_)
    · refine j_iload_n F 2 dX8_weightOf_37 rfl rfl ?_
      exact j_ireturn F rfl dX8_weightOf_38 h
    · refine j_iload_n F 2 dX8_weightOf_10 rfl rfl ?_
      refine j_iload_n F 1 dX8_weightOf_11 rfl rfl ?_
      refine j_iload_n F 3 dX8_weightOf_12 rfl rfl ?_
      refine j_ishr F dX8_weightOf_13 ?_
      refine j_iconst F dX8_weightOf_14 cI_1 ?_
      refine j_iand F dX8_weightOf_15 ?_
      refine j_if_eq F 28 dX8_weightOf_16 rfl h (fun h => ?_) (fun h => ?_)
      · refine j_iconst F dX8_weightOf_28 cI_0 ?_
        refine j_iadd F dX8_weightOf_29 ?_
        refine j_istore_n F (lv' := [(2, .int (x2 + (0 : Int32))), (0, .ref (cz x + 50)), (1, .int x1), (3, .int x3)]) dX8_weightOf_30 rfl (Nat.le_of_ble_eq_true rfl) rfl ?_
        refine j_iinc F (v := x3 + (1 : Int32)) (lv' := [(3, .int (x3 + (1 : Int32))), (2, .int (x2 + (0 : Int32))), (0, .ref (cz x + 50)), (1, .int x1)]) dX8_weightOf_31 3 rfl (congrArg (fun z => x3 + z) cI_1) (Nat.le_of_ble_eq_true rfl) rfl ?_
        refine j_goto F 4 dX8_weightOf_34 rfl ?_
        exact j_lv [2, 3, 1, 0] rfl (ih _ _ _ _ _ h)
      · refine j_aload_n F 0 dX8_weightOf_19 rfl rfl ?_
        refine j_getR F clX8 (j := 10) (lt653 rfl hN) ly50 (Nat.le_of_ble_eq_true rfl) rfl qf_X8_28 rfl dX8_weightOf_20 ?_
        refine j_iload_n F 3 dX8_weightOf_23 rfl rfl ?_
        refine j_iald F (lt653 rfl hN) ly57 dX8_weightOf_24 h (fun h => ?_)
        refine j_goto F 29 dX8_weightOf_25 rfl ?_
        refine j_iadd F dX8_weightOf_29 ?_
        refine j_istore_n F (lv' := [(2, .int (x2 + (a 57 x3.toNatClampNeg))), (0, .ref (cz x + 50)), (1, .int x1), (3, .int x3)]) dX8_weightOf_30 rfl (Nat.le_of_ble_eq_true rfl) rfl ?_
        refine j_iinc F (v := x3 + (1 : Int32)) (lv' := [(3, .int (x3 + (1 : Int32))), (2, .int (x2 + (a 57 x3.toNatClampNeg))), (0, .ref (cz x + 50)), (1, .int x1)]) dX8_weightOf_31 3 rfl (congrArg (fun z => x3 + z) cI_1) (Nat.le_of_ble_eq_true rfl) rfl ?_
        refine j_goto F 4 dX8_weightOf_34 rfl ?_
        exact j_lv [2, 3, 1, 0] rfl (ih _ _ _ _ _ h)
set_option maxRecDepth 100000 in
set_option maxHeartbeats 4000000 in
theorem kX8_weightOf (l : Launch) {x : Cx} {N : Nat} {u0 v0 : Option Nat} {nF : Nat} {x1 : Int32} {t : sT} {a : sA} {rv : Int32} {rt : sT} {ra : sA} (hN : 653 ≤ N) (h : fX8_weightOf nF x1 t a = some (rv, rt, ra)) : Met l yX8_weightOf [.code yX8_weightOf cX8_weightOf 4 (some .int)] (k2_rm 0 0) (Pre x N (rho u0 v0) t a [.ref (cz x + 50), .int x1]) (PostI x N (rho u0 v0) rt ra rv) 0 0 (cA x) := by
  refine j_entry (by decide) rfl (Nat.le_of_ble_eq_true rfl) ?_
  intro p e s m below meth c F hsz hnm
  have F : Fx p s m meth c cX8_weightOf 4 RX8 (some .int) x := F
  unfold fX8_weightOf at h
  show J p l e _ s m _ below meth c x N (rho u0 v0) 4 0 0 _ 0 [(0, .ref (cz x + 50)), (1, .int x1)] [] t a
  refine j_iconst F dX8_weightOf_0 cI_0 ?_
  refine j_istore_n F (lv' := [(2, .int (0 : Int32)), (0, .ref (cz x + 50)), (1, .int x1)]) dX8_weightOf_1 rfl (Nat.le_of_ble_eq_true rfl) rfl ?_
  refine j_iconst F dX8_weightOf_2 cI_0 ?_
  refine j_istore_n F (lv' := [(3, .int (0 : Int32)), (2, .int (0 : Int32)), (0, .ref (cz x + 50)), (1, .int x1)]) dX8_weightOf_3 rfl (Nat.le_of_ble_eq_true rfl) rfl ?_
  exact j_lv [2, 3, 1, 0] rfl ((hX8_weightOf F hsz hN nF) _ _ _ _ _ h)
def fX8_word (nF : Nat) (x1 : Int32) (x2 : Int32) (t : sT) (a : sA) : Rs := cal (fX8_isWord nF x1 t a) (fun v1 t1 a1 => if v1 = 0 then (cal (fX8_refuse nF (-1 : Int32) t1 a1) (fun v4 t4 a4 => some (v4, t4, a4))) else (cal (fX8_in nF x2 (0 : Int32) (1 : Int32) t1 a1) (fun v2 t2 a2 => if v2 = 0 then (cal (fX8_refuse nF (-2 : Int32) t2 a2) (fun v3 t3 a3 => some (v3, t3, a3))) else (if x2 = 0 then (bnd x1 8 (some (a2 55 x1.toNatClampNeg, t2, a2))) else (bnd x1 8 (some (a2 56 x1.toNatClampNeg, t2, a2)))))))
set_option maxRecDepth 100000 in
set_option maxHeartbeats 4000000 in
theorem kX8_word (l : Launch) {x : Cx} {N : Nat} {u0 v0 : Option Nat} {nF : Nat} {x1 : Int32} {x2 : Int32} {t : sT} {a : sA} {rv : Int32} {rt : sT} {ra : sA} (hN : 653 ≤ N) (h : fX8_word nF x1 x2 t a = some (rv, rt, ra)) : Met l yX8_word [.code yX8_word cX8_word 3 (some .int)] (k2_rm 2 43) (Pre x N (rho u0 v0) t a [.ref (cz x + 50), .int x1, .int x2]) (PostI x N (rho u0 v0) rt ra rv) 0 0 (cA x) := by
  refine j_entry (by decide) rfl (Nat.le_of_ble_eq_true rfl) ?_
  intro p e s m below meth c F hsz hnm
  have F : Fx p s m meth c cX8_word 3 RX8 (some .int) x := F
  unfold fX8_word at h
  show J p l e _ s m _ below meth c x N (rho u0 v0) 3 0 0 _ 0 [(0, .ref (cz x + 50)), (1, .int x1), (2, .int x2)] [] t a
  refine j_aload_n F 0 dX8_word_0 rfl rfl ?_
  refine j_iload_n F 1 dX8_word_1 rfl rfl ?_
  refine j_callVi F mwX8_isWord ql_X8_130 clX8 (lt653 rfl hN) ly50 [.int x1] rfl ⟨rfl, rfl, Nat.le_of_ble_eq_true rfl, Nat.le_of_ble_eq_true rfl⟩ ⟨Nat.le_refl 0, Nat.le_refl 0⟩ rfl (Nat.le_of_ble_eq_true rfl) dX8_word_2 (fun _ _ _ h9 => kX8_isWord l hN  h9) h (fun v1 t1 a1 e1 h => ?_)
  refine j_if_ne F 14 dX8_word_5 rfl h (fun h => ?_) (fun h => ?_)
  · refine j_aload_n F 0 dX8_word_8 rfl rfl ?_
    refine j_iconst F dX8_word_9 cI_m1 ?_
    refine j_callVi F mwX8_refuse ql_X8_74 clX8 (lt653 rfl hN) ly50 [.int (-1 : Int32)] rfl ⟨rfl, rfl, Nat.le_of_ble_eq_true rfl, Nat.le_of_ble_eq_true rfl⟩ ⟨Nat.le_refl 0, Nat.le_refl 0⟩ rfl (Nat.le_of_ble_eq_true rfl) dX8_word_10 (fun _ _ _ h9 => kX8_refuse l hN  h9) h (fun v4 t4 a4 e4 h => ?_)
    exact j_ireturn F rfl dX8_word_13 h
  · refine j_iload_n F 2 dX8_word_14 rfl rfl ?_
    refine j_iconst F dX8_word_15 cI_0 ?_
    refine j_iconst F dX8_word_16 cI_1 ?_
    refine j_callSi F mwX8_in ql_X8_63 [.int x2, .int (0 : Int32), .int (1 : Int32)] rfl ⟨rfl, rfl, Nat.le_of_ble_eq_true rfl, Nat.le_of_ble_eq_true rfl⟩ ⟨Nat.le_refl 0, Nat.le_refl 0⟩ rfl (Nat.le_of_ble_eq_true rfl) dX8_word_17 (fun _ _ _ h9 => kX8_in l hN  h9) h (fun v2 t2 a2 e2 h => ?_)
    refine j_if_ne F 30 dX8_word_20 rfl h (fun h => ?_) (fun h => ?_)
    · refine j_aload_n F 0 dX8_word_23 rfl rfl ?_
      refine j_bipush F dX8_word_24 cB_m2 ?_
      refine j_callVi F mwX8_refuse ql_X8_74 clX8 (lt653 rfl hN) ly50 [.int (-2 : Int32)] rfl ⟨rfl, rfl, Nat.le_of_ble_eq_true rfl, Nat.le_of_ble_eq_true rfl⟩ ⟨Nat.le_refl 0, Nat.le_refl 0⟩ rfl (Nat.le_of_ble_eq_true rfl) dX8_word_26 (fun _ _ _ h9 => kX8_refuse l hN  h9) h (fun v3 t3 a3 e3 h => ?_)
      exact j_ireturn F rfl dX8_word_29 h
    · refine j_iload_n F 2 dX8_word_30 rfl rfl ?_
      refine j_if_ne F 43 dX8_word_31 rfl h (fun h => ?_) (fun h => ?_)
      · refine j_aload_n F 0 dX8_word_34 rfl rfl ?_
        refine j_getR F clX8 (j := 8) (lt653 rfl hN) ly50 (Nat.le_of_ble_eq_true rfl) rfl qf_X8_22 rfl dX8_word_35 ?_
        refine j_iload_n F 1 dX8_word_38 rfl rfl ?_
        refine j_iald F (lt653 rfl hN) ly55 dX8_word_39 h (fun h => ?_)
        refine j_goto F 49 dX8_word_40 rfl ?_
        exact j_ireturn F rfl dX8_word_49 h
      · refine j_aload_n F 0 dX8_word_43 rfl rfl ?_
        refine j_getR F clX8 (j := 9) (lt653 rfl hN) ly50 (Nat.le_of_ble_eq_true rfl) rfl qf_X8_25 rfl dX8_word_44 ?_
        refine j_iload_n F 1 dX8_word_47 rfl rfl ?_
        refine j_iald F (lt653 rfl hN) ly56 dX8_word_48 h (fun h => ?_)
        exact j_ireturn F rfl dX8_word_49 h
def gX1_behindTelling_6 (nF : Nat) (r6 : Int32 → Int32 → Int32 → sT → sA → Rs) (x1 x2 x3 : Int32) (t : sT) (a : sA) : Rs := if (8 : Int32) ≤ x3 then (if x2 = (x1 + (1 : Int32)) then (some ((-1000 : Int32) - x2, t, a)) else (cal (fX1_sign nF x2 t a) (fun v1 t1 a1 => if v1 = (59 : Int32) then (some (x2 + (1 : Int32), t1, a1)) else (some ((-1000 : Int32) - x2, t1, a1))))) else (cal (fX1_sign nF x2 t a) (fun v2 t2 a2 => cal (fX1_isDigit nF v2 t2 a2) (fun v3 t3 a3 => if v3 = 0 then (if x2 = (x1 + (1 : Int32)) then (some ((-1000 : Int32) - x2, t3, a3)) else (cal (fX1_sign nF x2 t3 a3) (fun v4 t4 a4 => if v4 = (59 : Int32) then (some (x2 + (1 : Int32), t4, a4)) else (some ((-1000 : Int32) - x2, t4, a4))))) else (r6 x1 (x2 + (1 : Int32)) (x3 + (1 : Int32)) t3 a3))))
def gX1_behindTelling (nF : Nat) : Nat → (Int32 → Int32 → Int32 → sT → sA → Rs)
  | 0 => (fun _ _ _ _ _ => none)
  | n9 + 1 => (gX1_behindTelling_6 nF (gX1_behindTelling nF n9))
def fX1_behindTelling (nF : Nat) (x1 : Int32) (t : sT) (a : sA) : Rs := (gX1_behindTelling nF nF) x1 (x1 + (1 : Int32)) (0 : Int32) t a
set_option maxRecDepth 100000 in
set_option maxHeartbeats 4000000 in
theorem hX1_behindTelling {p : Program} {l : Launch} {e : Env} {s : State} {m : MethodId} {args : Array Value} {below : List Frame} {meth : Method} {c : Code} {x : Cx} {N : Nat} {u0 v0 : Option Nat} {nF : Nat} (F : Fx p s m meth c cX1_behindTelling 4 RX1 (some .int) x) (hsz : s.heap.size = cz x + N) (hN : 653 ≤ N) {rv : Int32} {rt : sT} {ra : sA} : ∀ n9 : Nat, (∀ (x1 x2 x3 : Int32) (t : sT) (a : sA), (gX1_behindTelling nF n9) x1 x2 x3 t a = some (rv, rt, ra) → J p l e (k2_rm 1 21) s m args below meth c x N (rho u0 v0) 4 0 0 (MQ below (PostI x N (rho u0 v0) rt ra rv) args s 0 0 (cA x)) 6 [(0, .ref (cz x + 1)), (1, .int x1), (2, .int x2), (3, .int x3)] [] t a) := by
  intro n9
  induction n9 with
  | zero => exact fun _ _ _ _ _ h => (by cases h)
  | succ n9 ih =>
    intro x1 x2 x3 t a h
    have h : gX1_behindTelling_6 nF (gX1_behindTelling nF n9) x1 x2 x3 t a = some (rv, rt, ra) := h
    unfold gX1_behindTelling_6 at h
    refine j_iload_n F 3 dX1_behindTelling_6 rfl rfl ?_
    refine j_bipush F dX1_behindTelling_7 cB_8 ?_
    refine j_icmp_ge F 32 dX1_behindTelling_9 rfl h (fun h => ?_) (fun h => ?_)
    · refine j_iload_n F 2 dX1_behindTelling_32 rfl rfl ?_
      refine j_iload_n F 1 dX1_behindTelling_33 rfl rfl ?_
      refine j_iconst F dX1_behindTelling_34 cI_1 ?_
      refine j_iadd F dX1_behindTelling_35 ?_
      refine j_icmp_eq F 49 dX1_behindTelling_36 rfl h (fun h => ?_) (fun h => ?_)
      · refine j_sipush F dX1_behindTelling_49 cS_m1000 ?_
        refine j_iload_n F 2 dX1_behindTelling_52 rfl rfl ?_
        refine j_isub F dX1_behindTelling_53 ?_
        exact j_ireturn F rfl dX1_behindTelling_54 h
      · refine j_aload_n F 0 dX1_behindTelling_39 rfl rfl ?_
        refine j_iload_n F 2 dX1_behindTelling_40 rfl rfl ?_
        refine j_callVi F mwX1_sign ql_X1_27 clX1 (lt653 rfl hN) ly1 [.int x2] rfl ⟨rfl, rfl, Nat.le_of_ble_eq_true rfl, Nat.le_of_ble_eq_true rfl⟩ ⟨Nat.le_refl 0, Nat.le_refl 0⟩ rfl (Nat.le_of_ble_eq_true rfl) dX1_behindTelling_41 (fun _ _ _ h9 => kX1_sign l hN  h9) h (fun v1 t1 a1 e1 h => ?_)
        refine j_bipush F dX1_behindTelling_44 cB_59 ?_
        refine j_icmp_eq F 55 dX1_behindTelling_46 rfl h (fun h => ?_) (fun h => ?_)
        · refine j_iload_n F 2 dX1_behindTelling_55 rfl rfl ?_
          refine j_iconst F dX1_behindTelling_56 cI_1 ?_
          refine j_iadd F dX1_behindTelling_57 ?_
          exact j_ireturn F rfl dX1_behindTelling_58 h
        · refine j_sipush F dX1_behindTelling_49 cS_m1000 ?_
          refine j_iload_n F 2 dX1_behindTelling_52 rfl rfl ?_
          refine j_isub F dX1_behindTelling_53 ?_
          exact j_ireturn F rfl dX1_behindTelling_54 h
    · refine j_aload_n F 0 dX1_behindTelling_12 rfl rfl ?_
      refine j_iload_n F 2 dX1_behindTelling_13 rfl rfl ?_
      refine j_callVi F mwX1_sign ql_X1_27 clX1 (lt653 rfl hN) ly1 [.int x2] rfl ⟨rfl, rfl, Nat.le_of_ble_eq_true rfl, Nat.le_of_ble_eq_true rfl⟩ ⟨Nat.le_refl 0, Nat.le_refl 0⟩ rfl (Nat.le_of_ble_eq_true rfl) dX1_behindTelling_14 (fun _ _ _ h9 => kX1_sign l hN  h9) h (fun v2 t2 a2 e2 h => ?_)
      refine j_callSi F mwX1_isDigit ql_X1_41 [.int v2] rfl ⟨rfl, rfl, Nat.le_of_ble_eq_true rfl, Nat.le_of_ble_eq_true rfl⟩ ⟨Nat.le_refl 0, Nat.le_refl 0⟩ rfl (Nat.le_of_ble_eq_true rfl) dX1_behindTelling_17 (fun _ _ _ h9 => kX1_isDigit l hN  h9) h (fun v3 t3 a3 e3 h => ?_)
      refine j_if_eq F 32 dX1_behindTelling_20 rfl h (fun h => ?_) (fun h => ?_)
      · refine j_iload_n F 2 dX1_behindTelling_32 rfl rfl ?_
        refine j_iload_n F 1 dX1_behindTelling_33 rfl rfl ?_
        refine j_iconst F dX1_behindTelling_34 cI_1 ?_
        refine j_iadd F dX1_behindTelling_35 ?_
        refine j_icmp_eq F 49 dX1_behindTelling_36 rfl h (fun h => ?_) (fun h => ?_)
        · refine j_sipush F dX1_behindTelling_49 cS_m1000 ?_
          refine j_iload_n F 2 dX1_behindTelling_52 rfl rfl ?_
          refine j_isub F dX1_behindTelling_53 ?_
          exact j_ireturn F rfl dX1_behindTelling_54 h
        · refine j_aload_n F 0 dX1_behindTelling_39 rfl rfl ?_
          refine j_iload_n F 2 dX1_behindTelling_40 rfl rfl ?_
          refine j_callVi F mwX1_sign ql_X1_27 clX1 (lt653 rfl hN) ly1 [.int x2] rfl ⟨rfl, rfl, Nat.le_of_ble_eq_true rfl, Nat.le_of_ble_eq_true rfl⟩ ⟨Nat.le_refl 0, Nat.le_refl 0⟩ rfl (Nat.le_of_ble_eq_true rfl) dX1_behindTelling_41 (fun _ _ _ h9 => kX1_sign l hN  h9) h (fun v4 t4 a4 e4 h => ?_)
          refine j_bipush F dX1_behindTelling_44 cB_59 ?_
          refine j_icmp_eq F 55 dX1_behindTelling_46 rfl h (fun h => ?_) (fun h => ?_)
          · refine j_iload_n F 2 dX1_behindTelling_55 rfl rfl ?_
            refine j_iconst F dX1_behindTelling_56 cI_1 ?_
            refine j_iadd F dX1_behindTelling_57 ?_
            exact j_ireturn F rfl dX1_behindTelling_58 h
          · refine j_sipush F dX1_behindTelling_49 cS_m1000 ?_
            refine j_iload_n F 2 dX1_behindTelling_52 rfl rfl ?_
            refine j_isub F dX1_behindTelling_53 ?_
            exact j_ireturn F rfl dX1_behindTelling_54 h
      · refine j_iinc F (v := x2 + (1 : Int32)) (lv' := [(2, .int (x2 + (1 : Int32))), (0, .ref (cz x + 1)), (1, .int x1), (3, .int x3)]) dX1_behindTelling_23 2 rfl (congrArg (fun z => x2 + z) cI_1) (Nat.le_of_ble_eq_true rfl) rfl ?_
        refine j_iinc F (v := x3 + (1 : Int32)) (lv' := [(3, .int (x3 + (1 : Int32))), (2, .int (x2 + (1 : Int32))), (0, .ref (cz x + 1)), (1, .int x1)]) dX1_behindTelling_26 3 rfl (congrArg (fun z => x3 + z) cI_1) (Nat.le_of_ble_eq_true rfl) rfl ?_
        refine j_goto F 6 dX1_behindTelling_29 rfl ?_
        exact j_lv [2, 3, 1, 0] rfl (ih _ _ _ _ _ h)
set_option maxRecDepth 100000 in
set_option maxHeartbeats 4000000 in
theorem kX1_behindTelling (l : Launch) {x : Cx} {N : Nat} {u0 v0 : Option Nat} {nF : Nat} {x1 : Int32} {t : sT} {a : sA} {rv : Int32} {rt : sT} {ra : sA} (hN : 653 ≤ N) (h : fX1_behindTelling nF x1 t a = some (rv, rt, ra)) : Met l yX1_behindTelling [.code yX1_behindTelling cX1_behindTelling 4 (some .int)] (k2_rm 1 21) (Pre x N (rho u0 v0) t a [.ref (cz x + 1), .int x1]) (PostI x N (rho u0 v0) rt ra rv) 0 0 (cA x) := by
  refine j_entry (by decide) rfl (Nat.le_of_ble_eq_true rfl) ?_
  intro p e s m below meth c F hsz hnm
  have F : Fx p s m meth c cX1_behindTelling 4 RX1 (some .int) x := F
  unfold fX1_behindTelling at h
  show J p l e _ s m _ below meth c x N (rho u0 v0) 4 0 0 _ 0 [(0, .ref (cz x + 1)), (1, .int x1)] [] t a
  refine j_iload_n F 1 dX1_behindTelling_0 rfl rfl ?_
  refine j_iconst F dX1_behindTelling_1 cI_1 ?_
  refine j_iadd F dX1_behindTelling_2 ?_
  refine j_istore_n F (lv' := [(2, .int (x1 + (1 : Int32))), (0, .ref (cz x + 1)), (1, .int x1)]) dX1_behindTelling_3 rfl (Nat.le_of_ble_eq_true rfl) rfl ?_
  refine j_iconst F dX1_behindTelling_4 cI_0 ?_
  refine j_istore_n F (lv' := [(3, .int (0 : Int32)), (2, .int (x1 + (1 : Int32))), (0, .ref (cz x + 1)), (1, .int x1)]) dX1_behindTelling_5 rfl (Nat.le_of_ble_eq_true rfl) rfl ?_
  exact j_lv [2, 3, 1, 0] rfl ((hX1_behindTelling F hsz hN nF) _ _ _ _ _ h)
def fX1_digit (nF : Nat) (x1 : Int32) (t : sT) (a : sA) : Rs := cal (fX1_sign nF x1 t a) (fun v1 t1 a1 => some (v1 - (48 : Int32), t1, a1))
set_option maxRecDepth 100000 in
set_option maxHeartbeats 4000000 in
theorem kX1_digit (l : Launch) {x : Cx} {N : Nat} {u0 v0 : Option Nat} {nF : Nat} {x1 : Int32} {t : sT} {a : sA} {rv : Int32} {rt : sT} {ra : sA} (hN : 653 ≤ N) (h : fX1_digit nF x1 t a = some (rv, rt, ra)) : Met l yX1_digit [.code yX1_digit cX1_digit 2 (some .int)] (k2_rm 1 21) (Pre x N (rho u0 v0) t a [.ref (cz x + 1), .int x1]) (PostI x N (rho u0 v0) rt ra rv) 0 0 (cA x) := by
  refine j_entry (by decide) rfl (Nat.le_of_ble_eq_true rfl) ?_
  intro p e s m below meth c F hsz hnm
  have F : Fx p s m meth c cX1_digit 2 RX1 (some .int) x := F
  unfold fX1_digit at h
  show J p l e _ s m _ below meth c x N (rho u0 v0) 2 0 0 _ 0 [(0, .ref (cz x + 1)), (1, .int x1)] [] t a
  refine j_aload_n F 0 dX1_digit_0 rfl rfl ?_
  refine j_iload_n F 1 dX1_digit_1 rfl rfl ?_
  refine j_callVi F mwX1_sign ql_X1_27 clX1 (lt653 rfl hN) ly1 [.int x1] rfl ⟨rfl, rfl, Nat.le_of_ble_eq_true rfl, Nat.le_of_ble_eq_true rfl⟩ ⟨Nat.le_refl 0, Nat.le_refl 0⟩ rfl (Nat.le_of_ble_eq_true rfl) dX1_digit_2 (fun _ _ _ h9 => kX1_sign l hN  h9) h (fun v1 t1 a1 e1 h => ?_)
  refine j_bipush F dX1_digit_5 cB_48 ?_
  refine j_isub F dX1_digit_7 ?_
  exact j_ireturn F rfl dX1_digit_8 h
def gX1_tellWord_9 (nF : Nat) (k1 : Nat) (r9 : Int32 → Int32 → Int32 → Int32 → sT → sA → Rs) (x3 x4 x5 x6 : Int32) (t : sT) (a : sA) : Rs := if x3 ≤ x6 then (cal (fX6_addWord nF k1 (0 : Int32) x4 t a) (fun v1 t1 a1 => zok v1 (some (v1, t1, a1)))) else (cal (fX1_digit nF x6 t a) (fun v2 t2 a2 => if v2 ≤ x5 then (zok (0 : Int32) (some ((0 : Int32), t2, a2))) else (cal (fX7_isCase nF v2 t2 a2) (fun v3 t3 a3 => if v3 = 0 then (zok (0 : Int32) (some ((0 : Int32), t3, a3))) else (r9 x3 (x4 ||| ((1 : Int32) <<< (v2 &&& 31))) v2 (x6 + (1 : Int32)) t3 a3)))))
def gX1_tellWord (nF : Nat) (k1 : Nat) : Nat → (Int32 → Int32 → Int32 → Int32 → sT → sA → Rs)
  | 0 => (fun _ _ _ _ _ _ => none)
  | n9 + 1 => (gX1_tellWord_9 nF k1 (gX1_tellWord nF k1 n9))
def fX1_tellWord (nF : Nat) (k1 : Nat) (x2 : Int32) (x3 : Int32) (t : sT) (a : sA) : Rs := (gX1_tellWord nF k1 nF) x3 (0 : Int32) (-1 : Int32) x2 t a
set_option maxRecDepth 100000 in
set_option maxHeartbeats 4000000 in
theorem hX1_tellWord {p : Program} {l : Launch} {e : Env} {s : State} {m : MethodId} {args : Array Value} {below : List Frame} {meth : Method} {c : Code} {x : Cx} {N : Nat} {u0 v0 : Option Nat} {nF : Nat} {k1 : Nat} (F : Fx p s m meth c cX1_tellWord 8 RX1 (some .boolean) x) (hsz : s.heap.size = cz x + N) (hN : 653 ≤ N) (hk1 : isTg k1) {rv : Int32} {rt : sT} {ra : sA} : ∀ n9 : Nat, (∀ (x3 x4 x5 x6 : Int32) (t : sT) (a : sA), (gX1_tellWord nF k1 n9) x3 x4 x5 x6 t a = some (rv, rt, ra) → J p l e (k2_rm 2 42) s m args below meth c x N (rho u0 v0) 8 0 0 (MQ below (PostI x N (rho u0 v0) rt ra rv) args s 0 0 (cA x)) 9 [(0, .ref (cz x + 1)), (1, .ref (cz x + k1)), (3, .int x3), (4, .int x4), (5, .int x5), (6, .int x6)] [] t a) := by
  intro n9
  induction n9 with
  | zero => exact fun _ _ _ _ _ _ h => (by cases h)
  | succ n9 ih =>
    intro x3 x4 x5 x6 t a h
    have h : gX1_tellWord_9 nF k1 (gX1_tellWord nF k1 n9) x3 x4 x5 x6 t a = some (rv, rt, ra) := h
    unfold gX1_tellWord_9 at h
    refine j_iload F 5 dX1_tellWord_9 rfl ?_
    refine j_iload_n F 2 dX1_tellWord_11 rfl rfl ?_
    refine j_icmp_ge F 59 dX1_tellWord_12 rfl h (fun h => ?_) (fun h => ?_)
    · refine j_aload_n F 1 dX1_tellWord_59 rfl rfl ?_
      refine j_iconst F dX1_tellWord_60 cI_0 ?_
      refine j_iload F 3 dX1_tellWord_61 rfl ?_
      refine j_callVi F mwX6_addWord ql_X1_79 clX6 (Tg_lt hk1 hN) (Tg_l hk1) [.int (0 : Int32), .int x4] rfl ⟨rfl, rfl, Nat.le_of_ble_eq_true rfl, Nat.le_of_ble_eq_true rfl⟩ ⟨Nat.le_refl 0, Nat.le_refl 0⟩ rfl (Nat.le_of_ble_eq_true rfl) dX1_tellWord_63 (fun _ _ _ h9 => kX6_addWord l hN hk1 h9) h (fun v1 t1 a1 e1 h => ?_)
      exact j_zreturn F rfl dX1_tellWord_66 h
    · refine j_aload_n F 0 dX1_tellWord_15 rfl rfl ?_
      refine j_iload F 5 dX1_tellWord_16 rfl ?_
      refine j_callVi F mwX1_digit ql_X1_85 clX1 (lt653 rfl hN) ly1 [.int x6] rfl ⟨rfl, rfl, Nat.le_of_ble_eq_true rfl, Nat.le_of_ble_eq_true rfl⟩ ⟨Nat.le_refl 0, Nat.le_refl 0⟩ rfl (Nat.le_of_ble_eq_true rfl) dX1_tellWord_18 (fun _ _ _ h9 => kX1_digit l hN  h9) h (fun v2 t2 a2 e2 h => ?_)
      refine j_istore F (k := 0) (lv' := [(7, .int v2), (0, .ref (cz x + 1)), (1, .ref (cz x + k1)), (3, .int x3), (4, .int x4), (5, .int x5), (6, .int x6)]) dX1_tellWord_21 (Nat.le_of_ble_eq_true rfl) rfl ?_
      refine j_iload F 0 dX1_tellWord_23 rfl ?_
      refine j_iload F 5 dX1_tellWord_25 rfl ?_
      refine j_icmp_le F 38 dX1_tellWord_27 rfl h (fun h => ?_) (fun h => ?_)
      · refine j_iconst F dX1_tellWord_38 cI_0 ?_
        exact j_zreturn F rfl dX1_tellWord_39 h
      · refine j_iload F 0 dX1_tellWord_30 rfl ?_
        refine j_callNi F mwX7_isCase qn_X1_97 [.int v2] rfl ⟨rfl, rfl, Nat.le_of_ble_eq_true rfl, Nat.le_of_ble_eq_true rfl⟩ ⟨Nat.le_refl 0, Nat.le_refl 0⟩ rfl (Nat.le_of_ble_eq_true rfl) dX1_tellWord_32 (fun _ _ _ h9 => kX7_isCase l hN  h9) h (fun v3 t3 a3 e3 h => ?_)
        refine j_if_ne F 40 dX1_tellWord_35 rfl h (fun h => ?_) (fun h => ?_)
        · refine j_iconst F dX1_tellWord_38 cI_0 ?_
          exact j_zreturn F rfl dX1_tellWord_39 h
        · refine j_iload F 4 dX1_tellWord_40 rfl ?_
          refine j_iconst F dX1_tellWord_42 cI_1 ?_
          refine j_iload F 0 dX1_tellWord_43 rfl ?_
          refine j_ishl F dX1_tellWord_45 ?_
          refine j_ior F dX1_tellWord_46 ?_
          refine j_istore F (k := 0) (lv' := [(4, .int (x4 ||| ((1 : Int32) <<< (v2 &&& 31)))), (7, .int v2), (0, .ref (cz x + 1)), (1, .ref (cz x + k1)), (3, .int x3), (5, .int x5), (6, .int x6)]) dX1_tellWord_47 (Nat.le_of_ble_eq_true rfl) rfl ?_
          refine j_iload F 1 dX1_tellWord_49 rfl ?_
          refine j_istore F (k := 0) (lv' := [(5, .int v2), (4, .int (x4 ||| ((1 : Int32) <<< (v2 &&& 31)))), (7, .int v2), (0, .ref (cz x + 1)), (1, .ref (cz x + k1)), (3, .int x3), (6, .int x6)]) dX1_tellWord_51 (Nat.le_of_ble_eq_true rfl) rfl ?_
          refine j_iinc F (v := x6 + (1 : Int32)) (lv' := [(6, .int (x6 + (1 : Int32))), (5, .int v2), (4, .int (x4 ||| ((1 : Int32) <<< (v2 &&& 31)))), (7, .int v2), (0, .ref (cz x + 1)), (1, .ref (cz x + k1)), (3, .int x3)]) dX1_tellWord_53 6 rfl (congrArg (fun z => x6 + z) cI_1) (Nat.le_of_ble_eq_true rfl) rfl ?_
          refine j_goto F 9 dX1_tellWord_56 rfl ?_
          exact j_lv [4, 5, 6, 2, 1, 0] rfl (ih _ _ _ _ _ _ h)
set_option maxRecDepth 100000 in
set_option maxHeartbeats 4000000 in
theorem kX1_tellWord (l : Launch) {x : Cx} {N : Nat} {u0 v0 : Option Nat} {nF : Nat} {k1 : Nat} {x2 : Int32} {x3 : Int32} {t : sT} {a : sA} {rv : Int32} {rt : sT} {ra : sA} (hN : 653 ≤ N) (hk1 : isTg k1) (h : fX1_tellWord nF k1 x2 x3 t a = some (rv, rt, ra)) : Met l yX1_tellWord [.code yX1_tellWord cX1_tellWord 8 (some .boolean)] (k2_rm 2 42) (Pre x N (rho u0 v0) t a [.ref (cz x + 1), .ref (cz x + k1), .int x2, .int x3]) (PostI x N (rho u0 v0) rt ra rv) 0 0 (cA x) := by
  refine j_entry (by decide) rfl (Nat.le_of_ble_eq_true rfl) ?_
  intro p e s m below meth c F hsz hnm
  have F : Fx p s m meth c cX1_tellWord 8 RX1 (some .boolean) x := F
  unfold fX1_tellWord at h
  show J p l e _ s m _ below meth c x N (rho u0 v0) 8 0 0 _ 0 [(0, .ref (cz x + 1)), (1, .ref (cz x + k1)), (2, .int x2), (3, .int x3)] [] t a
  refine j_iconst F dX1_tellWord_0 cI_0 ?_
  refine j_istore F (k := 0) (lv' := [(4, .int (0 : Int32)), (0, .ref (cz x + 1)), (1, .ref (cz x + k1)), (2, .int x2), (3, .int x3)]) dX1_tellWord_1 (Nat.le_of_ble_eq_true rfl) rfl ?_
  refine j_iconst F dX1_tellWord_3 cI_m1 ?_
  refine j_istore F (k := 0) (lv' := [(5, .int (-1 : Int32)), (4, .int (0 : Int32)), (0, .ref (cz x + 1)), (1, .ref (cz x + k1)), (2, .int x2), (3, .int x3)]) dX1_tellWord_4 (Nat.le_of_ble_eq_true rfl) rfl ?_
  refine j_iload_n F 4 dX1_tellWord_6 rfl rfl ?_
  refine j_istore F (k := 0) (lv' := [(6, .int x2), (5, .int (-1 : Int32)), (4, .int (0 : Int32)), (0, .ref (cz x + 1)), (1, .ref (cz x + k1)), (2, .int x2), (3, .int x3)]) dX1_tellWord_7 (Nat.le_of_ble_eq_true rfl) rfl ?_
  exact j_lv [3, 4, 6, 2, 1, 0] rfl ((hX1_tellWord F hsz hN hk1 nF) _ _ _ _ _ _ h)
def gX3_forcesAnswer_10 (nF : Nat) (k0 : Nat) (r10 : Int32 → Int32 → Int32 → Int32 → sT → sA → Rs) (x1 x2 x3 x4 : Int32) (t : sT) (a : sA) : Rs := if (t (64 * k0 + 15)) ≤ x4 then (if (x2 &&& (x3 ^^^ (-1 : Int32))) = 0 then (zok (1 : Int32) (some ((1 : Int32), t, a))) else (zok (0 : Int32) (some ((0 : Int32), t, a)))) else (bnd x4 585 (bnd (a (k0 + 7) x4.toNatClampNeg) 585 (cal (fX4_meaning nF (a (k0 + 2) (a (k0 + 7) x4.toNatClampNeg).toNatClampNeg) t a) (fun v2 t2 a2 => if (v2 &&& x2) = 0 then (r10 x1 x2 x3 (x4 + (1 : Int32)) t2 a2) else (cal (fX7_isOnOneSide nF v2 x1 t2 a2) (fun v3 t3 a3 => if v3 = 0 then (zok (0 : Int32) (some ((0 : Int32), t3, a3))) else (r10 x1 x2 (x3 ||| v2) (x4 + (1 : Int32)) t3 a3)))))))
def gX3_forcesAnswer (nF : Nat) (k0 : Nat) : Nat → (Int32 → Int32 → Int32 → Int32 → sT → sA → Rs)
  | 0 => (fun _ _ _ _ _ _ => none)
  | n9 + 1 => (gX3_forcesAnswer_10 nF k0 (gX3_forcesAnswer nF k0 n9))
def fX3_forcesAnswer (nF : Nat) (k0 : Nat) (x1 : Int32) (t : sT) (a : sA) : Rs := cal (fX3_casesWithWeight nF k0 t a) (fun v1 t1 a1 => (gX3_forcesAnswer nF k0 nF) x1 v1 (0 : Int32) (0 : Int32) t1 a1)
set_option maxRecDepth 100000 in
set_option maxHeartbeats 4000000 in
theorem hX3_forcesAnswer {p : Program} {l : Launch} {e : Env} {s : State} {m : MethodId} {args : Array Value} {below : List Frame} {meth : Method} {c : Code} {x : Cx} {N : Nat} {u0 v0 : Option Nat} {nF : Nat} {k0 : Nat} (F : Fx p s m meth c cX3_forcesAnswer 6 RX3 (some .boolean) x) (hsz : s.heap.size = cz x + N) (hN : 653 ≤ N) (hk0 : isSy k0) {rv : Int32} {rt : sT} {ra : sA} : ∀ n9 : Nat, (∀ (x1 x2 x3 x4 : Int32) (t : sT) (a : sA), (gX3_forcesAnswer nF k0 n9) x1 x2 x3 x4 t a = some (rv, rt, ra) → J p l e (k2_rm 1 22) s m args below meth c x N (rho u0 v0) 6 0 0 (MQ below (PostI x N (rho u0 v0) rt ra rv) args s 0 0 (cA x)) 10 [(0, .ref (cz x + k0)), (1, .int x1), (2, .int x2), (3, .int x3), (4, .int x4)] [] t a) := by
  intro n9
  induction n9 with
  | zero => exact fun _ _ _ _ _ _ h => (by cases h)
  | succ n9 ih =>
    intro x1 x2 x3 x4 t a h
    have h : gX3_forcesAnswer_10 nF k0 (gX3_forcesAnswer nF k0 n9) x1 x2 x3 x4 t a = some (rv, rt, ra) := h
    unfold gX3_forcesAnswer_10 at h
    refine j_iload F 4 dX3_forcesAnswer_10 rfl ?_
    refine j_aload_n F 0 dX3_forcesAnswer_12 rfl rfl ?_
    refine j_getI F clX3 (j := 15) (tt := (64 * k0 + 15)) (Sy_lt hk0 hN) (Sy_l hk0) (Nat.le_of_ble_eq_true rfl) rfl qf_X3_66 rfl dX3_forcesAnswer_13 ?_
    refine j_icmp_ge F 65 dX3_forcesAnswer_16 rfl h (fun h => ?_) (fun h => ?_)
    · refine j_iload_n F 2 dX3_forcesAnswer_65 rfl rfl ?_
      refine j_iload_n F 3 dX3_forcesAnswer_66 rfl rfl ?_
      refine j_iconst F dX3_forcesAnswer_67 cI_m1 ?_
      refine j_ixor F dX3_forcesAnswer_68 ?_
      refine j_iand F dX3_forcesAnswer_69 ?_
      refine j_if_ne F 77 dX3_forcesAnswer_70 rfl h (fun h => ?_) (fun h => ?_)
      · refine j_iconst F dX3_forcesAnswer_73 cI_1 ?_
        refine j_goto F 78 dX3_forcesAnswer_74 rfl ?_
        exact j_zreturn F rfl dX3_forcesAnswer_78 h
      · refine j_iconst F dX3_forcesAnswer_77 cI_0 ?_
        exact j_zreturn F rfl dX3_forcesAnswer_78 h
    · refine j_aload_n F 0 dX3_forcesAnswer_19 rfl rfl ?_
      refine j_getR F clX3 (j := 3) (Sy_lt hk0 hN) (Sy_l hk0) (Nat.le_of_ble_eq_true rfl) rfl qf_X3_15 (Sy_r3 hk0) dX3_forcesAnswer_20 ?_
      refine j_aload_n F 0 dX3_forcesAnswer_23 rfl rfl ?_
      refine j_getR F clX3 (j := 8) (Sy_lt hk0 hN) (Sy_l hk0) (Nat.le_of_ble_eq_true rfl) rfl qf_X3_30 (Sy_r8 hk0) dX3_forcesAnswer_24 ?_
      refine j_iload F 4 dX3_forcesAnswer_27 rfl ?_
      refine j_iald F (Sy_lt7 hk0 hN) (Sy_l7 hk0) dX3_forcesAnswer_29 h (fun h => ?_)
      refine j_iald F (Sy_lt2 hk0 hN) (Sy_l2 hk0) dX3_forcesAnswer_30 h (fun h => ?_)
      refine j_callSi F mwX4_meaning ql_X3_73 [.int (a (k0 + 2) (a (k0 + 7) x4.toNatClampNeg).toNatClampNeg)] rfl ⟨rfl, rfl, Nat.le_of_ble_eq_true rfl, Nat.le_of_ble_eq_true rfl⟩ ⟨Nat.le_refl 0, Nat.le_refl 0⟩ rfl (Nat.le_of_ble_eq_true rfl) dX3_forcesAnswer_31 (fun _ _ _ h9 => kX4_meaning l hN  h9) h (fun v2 t2 a2 e2 h => ?_)
      refine j_istore F (k := 0) (lv' := [(5, .int v2), (0, .ref (cz x + k0)), (1, .int x1), (2, .int x2), (3, .int x3), (4, .int x4)]) dX3_forcesAnswer_34 (Nat.le_of_ble_eq_true rfl) rfl ?_
      refine j_iload F 0 dX3_forcesAnswer_36 rfl ?_
      refine j_iload_n F 3 dX3_forcesAnswer_38 rfl rfl ?_
      refine j_iand F dX3_forcesAnswer_39 ?_
      refine j_if_eq F 59 dX3_forcesAnswer_40 rfl h (fun h => ?_) (fun h => ?_)
      · refine j_iinc F (v := x4 + (1 : Int32)) (lv' := [(4, .int (x4 + (1 : Int32))), (5, .int v2), (0, .ref (cz x + k0)), (1, .int x1), (2, .int x2), (3, .int x3)]) dX3_forcesAnswer_59 5 rfl (congrArg (fun z => x4 + z) cI_1) (Nat.le_of_ble_eq_true rfl) rfl ?_
        refine j_goto F 10 dX3_forcesAnswer_62 rfl ?_
        exact j_lv [2, 3, 4, 5, 0] rfl (ih _ _ _ _ _ _ h)
      · refine j_iload F 0 dX3_forcesAnswer_43 rfl ?_
        refine j_iload_n F 2 dX3_forcesAnswer_45 rfl rfl ?_
        refine j_callNi F mwX7_isOnOneSide qn_X3_180 [.int v2, .int x1] rfl ⟨rfl, rfl, Nat.le_of_ble_eq_true rfl, Nat.le_of_ble_eq_true rfl⟩ ⟨Nat.le_refl 0, Nat.le_refl 0⟩ rfl (Nat.le_of_ble_eq_true rfl) dX3_forcesAnswer_46 (fun _ _ _ h9 => kX7_isOnOneSide l hN  h9) h (fun v3 t3 a3 e3 h => ?_)
        refine j_if_ne F 54 dX3_forcesAnswer_49 rfl h (fun h => ?_) (fun h => ?_)
        · refine j_iconst F dX3_forcesAnswer_52 cI_0 ?_
          exact j_zreturn F rfl dX3_forcesAnswer_53 h
        · refine j_iload_n F 4 dX3_forcesAnswer_54 rfl rfl ?_
          refine j_iload F 0 dX3_forcesAnswer_55 rfl ?_
          refine j_ior F dX3_forcesAnswer_57 ?_
          refine j_istore_n F (lv' := [(3, .int (x3 ||| v2)), (5, .int v2), (0, .ref (cz x + k0)), (1, .int x1), (2, .int x2), (4, .int x4)]) dX3_forcesAnswer_58 rfl (Nat.le_of_ble_eq_true rfl) rfl ?_
          refine j_iinc F (v := x4 + (1 : Int32)) (lv' := [(4, .int (x4 + (1 : Int32))), (3, .int (x3 ||| v2)), (5, .int v2), (0, .ref (cz x + k0)), (1, .int x1), (2, .int x2)]) dX3_forcesAnswer_59 5 rfl (congrArg (fun z => x4 + z) cI_1) (Nat.le_of_ble_eq_true rfl) rfl ?_
          refine j_goto F 10 dX3_forcesAnswer_62 rfl ?_
          exact j_lv [3, 4, 5, 1, 0] rfl (ih _ _ _ _ _ _ h)
set_option maxRecDepth 100000 in
set_option maxHeartbeats 4000000 in
theorem kX3_forcesAnswer (l : Launch) {x : Cx} {N : Nat} {u0 v0 : Option Nat} {nF : Nat} {k0 : Nat} {x1 : Int32} {t : sT} {a : sA} {rv : Int32} {rt : sT} {ra : sA} (hN : 653 ≤ N) (hk0 : isSy k0) (h : fX3_forcesAnswer nF k0 x1 t a = some (rv, rt, ra)) : Met l yX3_forcesAnswer [.code yX3_forcesAnswer cX3_forcesAnswer 6 (some .boolean)] (k2_rm 1 22) (Pre x N (rho u0 v0) t a [.ref (cz x + k0), .int x1]) (PostI x N (rho u0 v0) rt ra rv) 0 0 (cA x) := by
  refine j_entry (by decide) rfl (Nat.le_of_ble_eq_true rfl) ?_
  intro p e s m below meth c F hsz hnm
  have F : Fx p s m meth c cX3_forcesAnswer 6 RX3 (some .boolean) x := F
  unfold fX3_forcesAnswer at h
  show J p l e _ s m _ below meth c x N (rho u0 v0) 6 0 0 _ 0 [(0, .ref (cz x + k0)), (1, .int x1)] [] t a
  refine j_aload_n F 0 dX3_forcesAnswer_0 rfl rfl ?_
  refine j_callVi F mwX3_casesWithWeight ql_X3_176 clX3 (Sy_lt hk0 hN) (Sy_l hk0) [] rfl ⟨rfl, rfl, Nat.le_of_ble_eq_true rfl, Nat.le_of_ble_eq_true rfl⟩ ⟨Nat.le_refl 0, Nat.le_refl 0⟩ rfl (Nat.le_of_ble_eq_true rfl) dX3_forcesAnswer_1 (fun _ _ _ h9 => kX3_casesWithWeight l hN hk0 h9) h (fun v1 t1 a1 e1 h => ?_)
  refine j_istore_n F (lv' := [(2, .int v1), (0, .ref (cz x + k0)), (1, .int x1)]) dX3_forcesAnswer_4 rfl (Nat.le_of_ble_eq_true rfl) rfl ?_
  refine j_iconst F dX3_forcesAnswer_5 cI_0 ?_
  refine j_istore_n F (lv' := [(3, .int (0 : Int32)), (2, .int v1), (0, .ref (cz x + k0)), (1, .int x1)]) dX3_forcesAnswer_6 rfl (Nat.le_of_ble_eq_true rfl) rfl ?_
  refine j_iconst F dX3_forcesAnswer_7 cI_0 ?_
  refine j_istore F (k := 0) (lv' := [(4, .int (0 : Int32)), (3, .int (0 : Int32)), (2, .int v1), (0, .ref (cz x + k0)), (1, .int x1)]) dX3_forcesAnswer_8 (Nat.le_of_ble_eq_true rfl) rfl ?_
  exact j_lv [3, 4, 2, 1, 0] rfl ((hX3_forcesAnswer F hsz hN hk0 nF) _ _ _ _ _ _ h)
def gX3_gather_13 (nF : Nat) (k0 : Nat) (r13 : Int32 → Int32 → Int32 → Int32 → sT → sA → Rs) (x1 x2 x3 x4 : Int32) (t : sT) (a : sA) : Rs := if (t (64 * k0 + 14)) ≤ x4 then (some (0, t, a)) else (bnd x4 585 (cal (fX4_meaning nF (a (k0 + 2) x4.toNatClampNeg) t a) (fun v2 t2 a2 => cal (fX7_isSettled nF x3 v2 t2 a2) (fun v3 t3 a3 => if v3 = 0 then (r13 x1 x2 x3 (x4 + (1 : Int32)) t3 a3) else (cal (fX7_mayFollow nF x2 (a (k0 + 2) x4.toNatClampNeg) x1 t3 a3) (fun v4 t4 a4 => if v4 = 0 then (r13 x1 x2 x3 (x4 + (1 : Int32)) t4 a4) else (bnd (t4 (64 * k0 + 15)) 585 (r13 x1 x2 x3 (x4 + (1 : Int32)) (va_up t4 (64 * k0 + 15) ((t4 (64 * k0 + 15)) + (1 : Int32))) (va_up a4 (k0 + 7) (upd (a4 (k0 + 7)) (t4 (64 * k0 + 15)).toNatClampNeg x4))))))))))
def gX3_gather (nF : Nat) (k0 : Nat) : Nat → (Int32 → Int32 → Int32 → Int32 → sT → sA → Rs)
  | 0 => (fun _ _ _ _ _ _ => none)
  | n9 + 1 => (gX3_gather_13 nF k0 (gX3_gather nF k0 n9))
def fX3_gather (nF : Nat) (k0 : Nat) (x1 : Int32) (x2 : Int32) (t : sT) (a : sA) : Rs := cal (fX4_meaning nF x1 t a) (fun v1 t1 a1 => (gX3_gather nF k0 nF) x1 x2 v1 (0 : Int32) (va_up t1 (64 * k0 + 15) (0 : Int32)) a1)
set_option maxRecDepth 100000 in
set_option maxHeartbeats 4000000 in
theorem hX3_gather {p : Program} {l : Launch} {e : Env} {s : State} {m : MethodId} {args : Array Value} {below : List Frame} {meth : Method} {c : Code} {x : Cx} {N : Nat} {u0 v0 : Option Nat} {nF : Nat} {k0 : Nat} (F : Fx p s m meth c cX3_gather 6 RX3 none x) (hsz : s.heap.size = cz x + N) (hN : 653 ≤ N) (hk0 : isSy k0) {rv : Int32} {rt : sT} {ra : sA} : ∀ n9 : Nat, (∀ (x1 x2 x3 x4 : Int32) (t : sT) (a : sA), (gX3_gather nF k0 n9) x1 x2 x3 x4 t a = some (rv, rt, ra) → J p l e (k2_rm 2 44) s m args below meth c x N (rho u0 v0) 6 0 0 (MQ below (PostV x N (rho u0 v0) rt ra) args s 0 0 (cA x)) 13 [(0, .ref (cz x + k0)), (1, .int x1), (2, .int x2), (3, .int x3), (4, .int x4)] [] t a) := by
  intro n9
  induction n9 with
  | zero => exact fun _ _ _ _ _ _ h => (by cases h)
  | succ n9 ih =>
    intro x1 x2 x3 x4 t a h
    have h : gX3_gather_13 nF k0 (gX3_gather nF k0 n9) x1 x2 x3 x4 t a = some (rv, rt, ra) := h
    unfold gX3_gather_13 at h
    refine j_iload F 4 dX3_gather_13 rfl ?_
    refine j_aload_n F 0 dX3_gather_15 rfl rfl ?_
    refine j_getI F clX3 (j := 14) (tt := (64 * k0 + 14)) (Sy_lt hk0 hN) (Sy_l hk0) (Nat.le_of_ble_eq_true rfl) rfl qf_X3_92 rfl dX3_gather_16 ?_
    refine j_icmp_ge F 80 dX3_gather_19 rfl h (fun h => ?_) (fun h => ?_)
    · exact j_vreturn F rfl dX3_gather_80 h
    · refine j_aload_n F 0 dX3_gather_22 rfl rfl ?_
      refine j_getR F clX3 (j := 3) (Sy_lt hk0 hN) (Sy_l hk0) (Nat.le_of_ble_eq_true rfl) rfl qf_X3_15 (Sy_r3 hk0) dX3_gather_23 ?_
      refine j_iload F 4 dX3_gather_26 rfl ?_
      refine j_iald F (Sy_lt2 hk0 hN) (Sy_l2 hk0) dX3_gather_28 h (fun h => ?_)
      refine j_istore F (k := 0) (lv' := [(5, .int (a (k0 + 2) x4.toNatClampNeg)), (0, .ref (cz x + k0)), (1, .int x1), (2, .int x2), (3, .int x3), (4, .int x4)]) dX3_gather_29 (Nat.le_of_ble_eq_true rfl) rfl ?_
      refine j_iload_n F 4 dX3_gather_31 rfl rfl ?_
      refine j_iload F 0 dX3_gather_32 rfl ?_
      refine j_callSi F mwX4_meaning ql_X3_73 [.int (a (k0 + 2) x4.toNatClampNeg)] rfl ⟨rfl, rfl, Nat.le_of_ble_eq_true rfl, Nat.le_of_ble_eq_true rfl⟩ ⟨Nat.le_refl 0, Nat.le_refl 0⟩ rfl (Nat.le_of_ble_eq_true rfl) dX3_gather_34 (fun _ _ _ h9 => kX4_meaning l hN  h9) h (fun v2 t2 a2 e2 h => ?_)
      refine j_callNi F mwX7_isSettled qn_X3_163 [.int x3, .int v2] rfl ⟨rfl, rfl, Nat.le_of_ble_eq_true rfl, Nat.le_of_ble_eq_true rfl⟩ ⟨Nat.le_refl 0, Nat.le_refl 0⟩ rfl (Nat.le_of_ble_eq_true rfl) dX3_gather_37 (fun _ _ _ h9 => kX7_isSettled l hN  h9) h (fun v3 t3 a3 e3 h => ?_)
      refine j_if_eq F 74 dX3_gather_40 rfl h (fun h => ?_) (fun h => ?_)
      · refine j_iinc F (v := x4 + (1 : Int32)) (lv' := [(4, .int (x4 + (1 : Int32))), (5, .int (a (k0 + 2) x4.toNatClampNeg)), (0, .ref (cz x + k0)), (1, .int x1), (2, .int x2), (3, .int x3)]) dX3_gather_74 5 rfl (congrArg (fun z => x4 + z) cI_1) (Nat.le_of_ble_eq_true rfl) rfl ?_
        refine j_goto F 13 dX3_gather_77 rfl ?_
        exact j_lv [2, 3, 4, 5, 0] rfl (ih _ _ _ _ _ _ h)
      · refine j_iload_n F 3 dX3_gather_43 rfl rfl ?_
        refine j_iload F 0 dX3_gather_44 rfl ?_
        refine j_iload_n F 2 dX3_gather_46 rfl rfl ?_
        refine j_callNi F mwX7_mayFollow qn_X3_166 [.int x2, .int (a (k0 + 2) x4.toNatClampNeg), .int x1] rfl ⟨rfl, rfl, Nat.le_of_ble_eq_true rfl, Nat.le_of_ble_eq_true rfl⟩ ⟨Nat.le_refl 0, Nat.le_refl 0⟩ rfl (Nat.le_of_ble_eq_true rfl) dX3_gather_47 (fun _ _ _ h9 => kX7_mayFollow l hN  h9) h (fun v4 t4 a4 e4 h => ?_)
        refine j_if_eq F 74 dX3_gather_50 rfl h (fun h => ?_) (fun h => ?_)
        · refine j_iinc F (v := x4 + (1 : Int32)) (lv' := [(4, .int (x4 + (1 : Int32))), (5, .int (a (k0 + 2) x4.toNatClampNeg)), (0, .ref (cz x + k0)), (1, .int x1), (2, .int x2), (3, .int x3)]) dX3_gather_74 5 rfl (congrArg (fun z => x4 + z) cI_1) (Nat.le_of_ble_eq_true rfl) rfl ?_
          refine j_goto F 13 dX3_gather_77 rfl ?_
          exact j_lv [2, 3, 4, 5, 0] rfl (ih _ _ _ _ _ _ h)
        · refine j_aload_n F 1 dX3_gather_53 rfl rfl ?_
          refine j_getR F clX3 (j := 8) (Sy_lt hk0 hN) (Sy_l hk0) (Nat.le_of_ble_eq_true rfl) rfl qf_X3_30 (Sy_r8 hk0) dX3_gather_54 ?_
          refine j_aload_n F 1 dX3_gather_57 rfl rfl ?_
          refine j_getI F clX3 (j := 15) (tt := (64 * k0 + 15)) (Sy_lt hk0 hN) (Sy_l hk0) (Nat.le_of_ble_eq_true rfl) rfl qf_X3_66 rfl dX3_gather_58 ?_
          refine j_iload F 5 dX3_gather_61 rfl ?_
          refine j_iast F (Sy_lt7 hk0 hN) (Sy_l7 hk0) dX3_gather_63 h (fun h => ?_)
          refine j_aload_n F 1 dX3_gather_64 rfl rfl ?_
          refine j_dup F dX3_gather_65 rfl ?_
          refine j_getI F clX3 (j := 15) (tt := (64 * k0 + 15)) (Sy_lt hk0 hN) (Sy_l hk0) (Nat.le_of_ble_eq_true rfl) rfl qf_X3_66 rfl dX3_gather_66 ?_
          refine j_iconst F dX3_gather_69 cI_1 ?_
          refine j_iadd F dX3_gather_70 ?_
          refine j_putI F clX3 (j := 15) (tt := (64 * k0 + 15)) (Sy_lt hk0 hN) (Sy_l hk0) (Nat.le_of_ble_eq_true rfl) rfl qf_X3_66 rfl rfl rfl dX3_gather_71 ?_
          refine j_iinc F (v := x4 + (1 : Int32)) (lv' := [(4, .int (x4 + (1 : Int32))), (5, .int (a (k0 + 2) x4.toNatClampNeg)), (0, .ref (cz x + k0)), (1, .int x1), (2, .int x2), (3, .int x3)]) dX3_gather_74 5 rfl (congrArg (fun z => x4 + z) cI_1) (Nat.le_of_ble_eq_true rfl) rfl ?_
          refine j_goto F 13 dX3_gather_77 rfl ?_
          exact j_lv [2, 3, 4, 5, 0] rfl (ih _ _ _ _ _ _ h)
set_option maxRecDepth 100000 in
set_option maxHeartbeats 4000000 in
theorem kX3_gather (l : Launch) {x : Cx} {N : Nat} {u0 v0 : Option Nat} {nF : Nat} {k0 : Nat} {x1 : Int32} {x2 : Int32} {t : sT} {a : sA} {rv : Int32} {rt : sT} {ra : sA} (hN : 653 ≤ N) (hk0 : isSy k0) (h : fX3_gather nF k0 x1 x2 t a = some (rv, rt, ra)) : Met l yX3_gather [.code yX3_gather cX3_gather 6 none] (k2_rm 2 44) (Pre x N (rho u0 v0) t a [.ref (cz x + k0), .int x1, .int x2]) (PostV x N (rho u0 v0) rt ra) 0 0 (cA x) := by
  refine j_entry (by decide) rfl (Nat.le_of_ble_eq_true rfl) ?_
  intro p e s m below meth c F hsz hnm
  have F : Fx p s m meth c cX3_gather 6 RX3 none x := F
  unfold fX3_gather at h
  show J p l e _ s m _ below meth c x N (rho u0 v0) 6 0 0 _ 0 [(0, .ref (cz x + k0)), (1, .int x1), (2, .int x2)] [] t a
  refine j_iload_n F 1 dX3_gather_0 rfl rfl ?_
  refine j_callSi F mwX4_meaning ql_X3_73 [.int x1] rfl ⟨rfl, rfl, Nat.le_of_ble_eq_true rfl, Nat.le_of_ble_eq_true rfl⟩ ⟨Nat.le_refl 0, Nat.le_refl 0⟩ rfl (Nat.le_of_ble_eq_true rfl) dX3_gather_1 (fun _ _ _ h9 => kX4_meaning l hN  h9) h (fun v1 t1 a1 e1 h => ?_)
  refine j_istore_n F (lv' := [(3, .int v1), (0, .ref (cz x + k0)), (1, .int x1), (2, .int x2)]) dX3_gather_4 rfl (Nat.le_of_ble_eq_true rfl) rfl ?_
  refine j_aload_n F 1 dX3_gather_5 rfl rfl ?_
  refine j_iconst F dX3_gather_6 cI_0 ?_
  refine j_putI F clX3 (j := 15) (tt := (64 * k0 + 15)) (Sy_lt hk0 hN) (Sy_l hk0) (Nat.le_of_ble_eq_true rfl) rfl qf_X3_66 rfl rfl rfl dX3_gather_7 ?_
  refine j_iconst F dX3_gather_10 cI_0 ?_
  refine j_istore F (k := 0) (lv' := [(4, .int (0 : Int32)), (3, .int v1), (0, .ref (cz x + k0)), (1, .int x1), (2, .int x2)]) dX3_gather_11 (Nat.le_of_ble_eq_true rfl) rfl ?_
  exact j_lv [2, 3, 4, 1, 0] rfl ((hX3_gather F hsz hN hk0 nF) _ _ _ _ _ _ h)
def fX3_isLiked (nF : Nat) (k0 : Nat) (x1 : Int32) (x2 : Int32) (x3 : Int32) (t : sT) (a : sA) : Rs := bnd x2 585 (bnd x3 585 (bnd x2 585 (cal (fX4_length nF (a (k0 + 2) x2.toNatClampNeg) t a) (fun v1 t1 a1 => bnd x3 585 (cal (fX4_length nF (a1 (k0 + 2) x3.toNatClampNeg) t1 a1) (fun v2 t2 a2 => if x1 = (0 : Int32) then (if ((a (k0 + 5) x2.toNatClampNeg) - (a (k0 + 5) x3.toNatClampNeg)) ≤ 0 then (zok (0 : Int32) (some ((0 : Int32), t2, a2))) else (zok (1 : Int32) (some ((1 : Int32), t2, a2)))) else (if x1 = (1 : Int32) then (if 0 ≤ ((a (k0 + 5) x2.toNatClampNeg) - (a (k0 + 5) x3.toNatClampNeg)) then (zok (0 : Int32) (some ((0 : Int32), t2, a2))) else (zok (1 : Int32) (some ((1 : Int32), t2, a2)))) else (if x1 = (2 : Int32) then (if (v1 - v2) < 0 then (zok (1 : Int32) (some ((1 : Int32), t2, a2))) else (if (v1 - v2) = 0 then (if ((a (k0 + 5) x2.toNatClampNeg) - (a (k0 + 5) x3.toNatClampNeg)) ≤ 0 then (zok (0 : Int32) (some ((0 : Int32), t2, a2))) else (zok (1 : Int32) (some ((1 : Int32), t2, a2)))) else (zok (0 : Int32) (some ((0 : Int32), t2, a2))))) else (if x1 = (3 : Int32) then (if 0 < (v1 - v2) then (zok (1 : Int32) (some ((1 : Int32), t2, a2))) else (if (v1 - v2) = 0 then (if 0 ≤ ((a (k0 + 5) x2.toNatClampNeg) - (a (k0 + 5) x3.toNatClampNeg)) then (zok (0 : Int32) (some ((0 : Int32), t2, a2))) else (zok (1 : Int32) (some ((1 : Int32), t2, a2)))) else (zok (0 : Int32) (some ((0 : Int32), t2, a2))))) else (zok (0 : Int32) (some ((0 : Int32), t2, a2))))))))))))
set_option maxRecDepth 100000 in
set_option maxHeartbeats 4000000 in
theorem kX3_isLiked (l : Launch) {x : Cx} {N : Nat} {u0 v0 : Option Nat} {nF : Nat} {k0 : Nat} {x1 : Int32} {x2 : Int32} {x3 : Int32} {t : sT} {a : sA} {rv : Int32} {rt : sT} {ra : sA} (hN : 653 ≤ N) (hk0 : isSy k0) (h : fX3_isLiked nF k0 x1 x2 x3 t a = some (rv, rt, ra)) : Met l yX3_isLiked [.code yX3_isLiked cX3_isLiked 6 (some .boolean)] (k2_rm 1 20) (Pre x N (rho u0 v0) t a [.ref (cz x + k0), .int x1, .int x2, .int x3]) (PostI x N (rho u0 v0) rt ra rv) 0 0 (cA x) := by
  refine j_entry (by decide) rfl (Nat.le_of_ble_eq_true rfl) ?_
  intro p e s m below meth c F hsz hnm
  have F : Fx p s m meth c cX3_isLiked 6 RX3 (some .boolean) x := F
  unfold fX3_isLiked at h
  show J p l e _ s m _ below meth c x N (rho u0 v0) 6 0 0 _ 0 [(0, .ref (cz x + k0)), (1, .int x1), (2, .int x2), (3, .int x3)] [] t a
  refine j_aload_n F 0 dX3_isLiked_0 rfl rfl ?_
  refine j_getR F clX3 (j := 6) (Sy_lt hk0 hN) (Sy_l hk0) (Nat.le_of_ble_eq_true rfl) rfl qf_X3_24 (Sy_r6 hk0) dX3_isLiked_1 ?_
  refine j_iload_n F 2 dX3_isLiked_4 rfl rfl ?_
  refine j_iald F (Sy_lt5 hk0 hN) (Sy_l5 hk0) dX3_isLiked_5 h (fun h => ?_)
  refine j_aload_n F 0 dX3_isLiked_6 rfl rfl ?_
  refine j_getR F clX3 (j := 6) (Sy_lt hk0 hN) (Sy_l hk0) (Nat.le_of_ble_eq_true rfl) rfl qf_X3_24 (Sy_r6 hk0) dX3_isLiked_7 ?_
  refine j_iload_n F 3 dX3_isLiked_10 rfl rfl ?_
  refine j_iald F (Sy_lt5 hk0 hN) (Sy_l5 hk0) dX3_isLiked_11 h (fun h => ?_)
  refine j_isub F dX3_isLiked_12 ?_
  refine j_istore F (k := 0) (lv' := [(4, .int ((a (k0 + 5) x2.toNatClampNeg) - (a (k0 + 5) x3.toNatClampNeg))), (0, .ref (cz x + k0)), (1, .int x1), (2, .int x2), (3, .int x3)]) dX3_isLiked_13 (Nat.le_of_ble_eq_true rfl) rfl ?_
  refine j_aload_n F 1 dX3_isLiked_15 rfl rfl ?_
  refine j_getR F clX3 (j := 3) (Sy_lt hk0 hN) (Sy_l hk0) (Nat.le_of_ble_eq_true rfl) rfl qf_X3_15 (Sy_r3 hk0) dX3_isLiked_16 ?_
  refine j_iload_n F 3 dX3_isLiked_19 rfl rfl ?_
  refine j_iald F (Sy_lt2 hk0 hN) (Sy_l2 hk0) dX3_isLiked_20 h (fun h => ?_)
  refine j_callSi F mwX4_length ql_X3_151 [.int (a (k0 + 2) x2.toNatClampNeg)] rfl ⟨rfl, rfl, Nat.le_of_ble_eq_true rfl, Nat.le_of_ble_eq_true rfl⟩ ⟨Nat.le_refl 0, Nat.le_refl 0⟩ rfl (Nat.le_of_ble_eq_true rfl) dX3_isLiked_21 (fun _ _ _ h9 => kX4_length l hN  h9) h (fun v1 t1 a1 e1 h => ?_)
  refine j_aload_n F 1 dX3_isLiked_24 rfl rfl ?_
  refine j_getR F clX3 (j := 3) (Sy_lt hk0 hN) (Sy_l hk0) (Nat.le_of_ble_eq_true rfl) rfl qf_X3_15 (Sy_r3 hk0) dX3_isLiked_25 ?_
  refine j_iload_n F 4 dX3_isLiked_28 rfl rfl ?_
  refine j_iald F (Sy_lt2 hk0 hN) (Sy_l2 hk0) dX3_isLiked_29 h (fun h => ?_)
  refine j_callSi F mwX4_length ql_X3_151 [.int (a1 (k0 + 2) x3.toNatClampNeg)] rfl ⟨rfl, rfl, Nat.le_of_ble_eq_true rfl, Nat.le_of_ble_eq_true rfl⟩ ⟨Nat.le_refl 0, Nat.le_refl 0⟩ rfl (Nat.le_of_ble_eq_true rfl) dX3_isLiked_30 (fun _ _ _ h9 => kX4_length l hN  h9) h (fun v2 t2 a2 e2 h => ?_)
  refine j_isub F dX3_isLiked_33 ?_
  refine j_istore F (k := 0) (lv' := [(5, .int (v1 - v2)), (4, .int ((a (k0 + 5) x2.toNatClampNeg) - (a (k0 + 5) x3.toNatClampNeg))), (0, .ref (cz x + k0)), (1, .int x1), (2, .int x2), (3, .int x3)]) dX3_isLiked_34 (Nat.le_of_ble_eq_true rfl) rfl ?_
  refine j_iload_n F 3 dX3_isLiked_36 rfl rfl ?_
  refine ifE h (fun e3_0 h => ?_) (fun e3_0 h => ?_)
  · refine j_tsI F 68 dX3_isLiked_37 e3_0 (by decide) (by decide) rfl rfl ?_
    refine j_iload F 1 dX3_isLiked_68 rfl ?_
    refine j_if_le F 77 dX3_isLiked_70 rfl h (fun h => ?_) (fun h => ?_)
    · refine j_iconst F dX3_isLiked_77 cI_0 ?_
      exact j_zreturn F rfl dX3_isLiked_78 h
    · refine j_iconst F dX3_isLiked_73 cI_1 ?_
      refine j_goto F 78 dX3_isLiked_74 rfl ?_
      exact j_zreturn F rfl dX3_isLiked_78 h
  · refine ifE h (fun e3_1 h => ?_) (fun e3_1 h => ?_)
    · refine j_tsI F 79 dX3_isLiked_37 e3_1 (by decide) (by decide) rfl rfl ?_
      refine j_iload F 1 dX3_isLiked_79 rfl ?_
      refine j_if_ge F 88 dX3_isLiked_81 rfl h (fun h => ?_) (fun h => ?_)
      · refine j_iconst F dX3_isLiked_88 cI_0 ?_
        exact j_zreturn F rfl dX3_isLiked_89 h
      · refine j_iconst F dX3_isLiked_84 cI_1 ?_
        refine j_goto F 89 dX3_isLiked_85 rfl ?_
        exact j_zreturn F rfl dX3_isLiked_89 h
    · refine ifE h (fun e3_2 h => ?_) (fun e3_2 h => ?_)
      · refine j_tsI F 90 dX3_isLiked_37 e3_2 (by decide) (by decide) rfl rfl ?_
        refine j_iload F 0 dX3_isLiked_90 rfl ?_
        refine j_if_lt F 105 dX3_isLiked_92 rfl h (fun h => ?_) (fun h => ?_)
        · refine j_iconst F dX3_isLiked_105 cI_1 ?_
          refine j_goto F 110 dX3_isLiked_106 rfl ?_
          exact j_zreturn F rfl dX3_isLiked_110 h
        · refine j_iload F 0 dX3_isLiked_95 rfl ?_
          refine j_if_ne F 109 dX3_isLiked_97 rfl h (fun h => ?_) (fun h => ?_)
          · refine j_iload F 1 dX3_isLiked_100 rfl ?_
            refine j_if_le F 109 dX3_isLiked_102 rfl h (fun h => ?_) (fun h => ?_)
            · refine j_iconst F dX3_isLiked_109 cI_0 ?_
              exact j_zreturn F rfl dX3_isLiked_110 h
            · refine j_iconst F dX3_isLiked_105 cI_1 ?_
              refine j_goto F 110 dX3_isLiked_106 rfl ?_
              exact j_zreturn F rfl dX3_isLiked_110 h
          · refine j_iconst F dX3_isLiked_109 cI_0 ?_
            exact j_zreturn F rfl dX3_isLiked_110 h
      · refine ifE h (fun e3_3 h => ?_) (fun e3_3 h => ?_)
        · refine j_tsI F 111 dX3_isLiked_37 e3_3 (by decide) (by decide) rfl rfl ?_
          refine j_iload F 0 dX3_isLiked_111 rfl ?_
          refine j_if_gt F 126 dX3_isLiked_113 rfl h (fun h => ?_) (fun h => ?_)
          · refine j_iconst F dX3_isLiked_126 cI_1 ?_
            refine j_goto F 131 dX3_isLiked_127 rfl ?_
            exact j_zreturn F rfl dX3_isLiked_131 h
          · refine j_iload F 0 dX3_isLiked_116 rfl ?_
            refine j_if_ne F 130 dX3_isLiked_118 rfl h (fun h => ?_) (fun h => ?_)
            · refine j_iload F 1 dX3_isLiked_121 rfl ?_
              refine j_if_ge F 130 dX3_isLiked_123 rfl h (fun h => ?_) (fun h => ?_)
              · refine j_iconst F dX3_isLiked_130 cI_0 ?_
                exact j_zreturn F rfl dX3_isLiked_131 h
              · refine j_iconst F dX3_isLiked_126 cI_1 ?_
                refine j_goto F 131 dX3_isLiked_127 rfl ?_
                exact j_zreturn F rfl dX3_isLiked_131 h
            · refine j_iconst F dX3_isLiked_130 cI_0 ?_
              exact j_zreturn F rfl dX3_isLiked_131 h
        · refine j_tsD F 132 dX3_isLiked_37 rfl (fun i hi => ?_) rfl ?_
          · have hi : i < 4 := hi
            have hi : i = 0 ∨ i = 1 ∨ i = 2 ∨ i = 3 := by omega
            rcases hi with rfl | rfl | rfl | rfl
            · exact Or.inr (by have h9 := lv_neT (a := 0) e3_0 rfl; omega)
            · exact Or.inr (by have h9 := lv_neT (a := 1) e3_1 rfl; omega)
            · exact Or.inr (by have h9 := lv_neT (a := 2) e3_2 rfl; omega)
            · exact Or.inr (by have h9 := lv_neT (a := 3) e3_3 rfl; omega)
          refine j_iconst F dX3_isLiked_132 cI_0 ?_
          exact j_zreturn F rfl dX3_isLiked_133 h
