/-! 12.m3.lean.txt: functions and contracts, by program (wip/whole/gen.py) -/
def fX7_truth (nF : Nat) (x1 : Int32) (t : sT) (a : sA) : Rs := cal (fX7_isCase nF x1 t a) (fun v1 t1 a1 => if v1 = 0 then (cal (fX7_refuse nF (-1 : Int32) t1 a1) (fun v2 t2 a2 => some (v2, t2, a2))) else (some (t1 199, va_up t1 199 x1, a1)))
set_option maxRecDepth 100000 in
set_option maxHeartbeats 4000000 in
theorem kX7_truth (l : Launch) {x : Cx} {N : Nat} {u0 v0 : Option Nat} {nF : Nat} {x1 : Int32} {t : sT} {a : sA} {rv : Int32} {rt : sT} {ra : sA} (hN : 653 ≤ N) (h : fX7_truth nF x1 t a = some (rv, rt, ra)) : Met l yX7_truth [.code yX7_truth cX7_truth 3 (some .int)] (k2_rm 1 21) (Pre x N (rho u0 v0) t a [.ref (cz x + 0), .int x1]) (PostI x N (rho u0 v0) rt ra rv) 0 0 (cA x) := by
  refine j_entry (by decide) rfl (Nat.le_of_ble_eq_true rfl) ?_
  intro p e s m below meth c F hsz hnm
  have F : Fx p s m meth c cX7_truth 3 RX7 (some .int) x := F
  unfold fX7_truth at h
  show J p l e _ s m _ below meth c x N (rho u0 v0) 3 0 0 _ 0 [(0, .ref (cz x + 0)), (1, .int x1)] [] t a
  refine j_iload_n F 1 dX7_truth_0 rfl rfl ?_
  refine j_callSi F mwX7_isCase ql_X7_103 [.int x1] rfl ⟨rfl, rfl, Nat.le_of_ble_eq_true rfl, Nat.le_of_ble_eq_true rfl⟩ ⟨Nat.le_refl 0, Nat.le_refl 0⟩ rfl (Nat.le_of_ble_eq_true rfl) dX7_truth_1 (fun _ _ _ h9 => kX7_isCase l hN  h9) h (fun v1 t1 a1 e1 h => ?_)
  refine j_if_ne F 13 dX7_truth_4 rfl h (fun h => ?_) (fun h => ?_)
  · refine j_aload_n F 0 dX7_truth_7 rfl rfl ?_
    refine j_iconst F dX7_truth_8 cI_m1 ?_
    refine j_callVi F mwX7_refuse ql_X7_66 clX7 (lt653 rfl hN) ly0 [.int (-1 : Int32)] rfl ⟨rfl, rfl, Nat.le_of_ble_eq_true rfl, Nat.le_of_ble_eq_true rfl⟩ ⟨Nat.le_refl 0, Nat.le_refl 0⟩ rfl (Nat.le_of_ble_eq_true rfl) dX7_truth_9 (fun _ _ _ h9 => kX7_refuse l hN  h9) h (fun v2 t2 a2 e2 h => ?_)
    exact j_ireturn F rfl dX7_truth_12 h
  · refine j_aload_n F 0 dX7_truth_13 rfl rfl ?_
    refine j_getR F clX7 (j := 1) (lt653 rfl hN) ly0 (Nat.le_of_ble_eq_true rfl) rfl qf_X7_19 rfl dX7_truth_14 ?_
    refine j_getI F clX6 (j := 7) (tt := 199) (lt653 rfl hN) ly3 (Nat.le_of_ble_eq_true rfl) rfl qf_X7_109 rfl dX7_truth_17 ?_
    refine j_istore_n F (lv' := [(2, .int (t1 199)), (0, .ref (cz x + 0)), (1, .int x1)]) dX7_truth_20 rfl (Nat.le_of_ble_eq_true rfl) rfl ?_
    refine j_aload_n F 1 dX7_truth_21 rfl rfl ?_
    refine j_getR F clX7 (j := 1) (lt653 rfl hN) ly0 (Nat.le_of_ble_eq_true rfl) rfl qf_X7_19 rfl dX7_truth_22 ?_
    refine j_iload_n F 2 dX7_truth_25 rfl rfl ?_
    refine j_putI F clX6 (j := 7) (tt := 199) (lt653 rfl hN) ly3 (Nat.le_of_ble_eq_true rfl) rfl qf_X7_109 rfl rfl rfl dX7_truth_26 ?_
    refine j_iload_n F 0 dX7_truth_29 rfl rfl ?_
    exact j_ireturn F rfl dX7_truth_30 h
def fX7_weight (nF : Nat) (x1 : Int32) (t : sT) (a : sA) : Rs := cal (fX7_isCase nF x1 t a) (fun v1 t1 a1 => if v1 = 0 then (cal (fX7_refuse nF (-1 : Int32) t1 a1) (fun v2 t2 a2 => some (v2, t2, a2))) else (bnd x1 8 (some (a1 6 x1.toNatClampNeg, t1, a1))))
set_option maxRecDepth 100000 in
set_option maxHeartbeats 4000000 in
theorem kX7_weight (l : Launch) {x : Cx} {N : Nat} {u0 v0 : Option Nat} {nF : Nat} {x1 : Int32} {t : sT} {a : sA} {rv : Int32} {rt : sT} {ra : sA} (hN : 653 ≤ N) (h : fX7_weight nF x1 t a = some (rv, rt, ra)) : Met l yX7_weight [.code yX7_weight cX7_weight 2 (some .int)] (k2_rm 1 21) (Pre x N (rho u0 v0) t a [.ref (cz x + 0), .int x1]) (PostI x N (rho u0 v0) rt ra rv) 0 0 (cA x) := by
  refine j_entry (by decide) rfl (Nat.le_of_ble_eq_true rfl) ?_
  intro p e s m below meth c F hsz hnm
  have F : Fx p s m meth c cX7_weight 2 RX7 (some .int) x := F
  unfold fX7_weight at h
  show J p l e _ s m _ below meth c x N (rho u0 v0) 2 0 0 _ 0 [(0, .ref (cz x + 0)), (1, .int x1)] [] t a
  refine j_iload_n F 1 dX7_weight_0 rfl rfl ?_
  refine j_callSi F mwX7_isCase ql_X7_103 [.int x1] rfl ⟨rfl, rfl, Nat.le_of_ble_eq_true rfl, Nat.le_of_ble_eq_true rfl⟩ ⟨Nat.le_refl 0, Nat.le_refl 0⟩ rfl (Nat.le_of_ble_eq_true rfl) dX7_weight_1 (fun _ _ _ h9 => kX7_isCase l hN  h9) h (fun v1 t1 a1 e1 h => ?_)
  refine j_if_eq F 19 dX7_weight_4 rfl h (fun h => ?_) (fun h => ?_)
  · refine j_aload_n F 0 dX7_weight_19 rfl rfl ?_
    refine j_iconst F dX7_weight_20 cI_m1 ?_
    refine j_callVi F mwX7_refuse ql_X7_66 clX7 (lt653 rfl hN) ly0 [.int (-1 : Int32)] rfl ⟨rfl, rfl, Nat.le_of_ble_eq_true rfl, Nat.le_of_ble_eq_true rfl⟩ ⟨Nat.le_refl 0, Nat.le_refl 0⟩ rfl (Nat.le_of_ble_eq_true rfl) dX7_weight_21 (fun _ _ _ h9 => kX7_refuse l hN  h9) h (fun v2 t2 a2 e2 h => ?_)
    exact j_ireturn F rfl dX7_weight_24 h
  · refine j_aload_n F 0 dX7_weight_7 rfl rfl ?_
    refine j_getR F clX7 (j := 1) (lt653 rfl hN) ly0 (Nat.le_of_ble_eq_true rfl) rfl qf_X7_19 rfl dX7_weight_8 ?_
    refine j_getR F clX6 (j := 2) (lt653 rfl hN) ly3 (Nat.le_of_ble_eq_true rfl) rfl qf_X7_106 rfl dX7_weight_11 ?_
    refine j_iload_n F 1 dX7_weight_14 rfl rfl ?_
    refine j_iald F (lt653 rfl hN) ly6 dX7_weight_15 h (fun h => ?_)
    refine j_goto F 24 dX7_weight_16 rfl ?_
    exact j_ireturn F rfl dX7_weight_24 h
def fX7_word (nF : Nat) (x1 : Int32) (x2 : Int32) (t : sT) (a : sA) : Rs := cal (fX6_hasWord nF 3 x1 t a) (fun v1 t1 a1 => if v1 = 0 then (cal (fX7_refuse nF (-1 : Int32) t1 a1) (fun v4 t4 a4 => some (v4, t4, a4))) else (if x2 = (0 : Int32) then (bnd x1 8 (some (a1 4 x1.toNatClampNeg, t1, a1))) else (if x2 = (1 : Int32) then (bnd x1 8 (some (a1 5 x1.toNatClampNeg, t1, a1))) else (cal (fX7_refuse nF (-2 : Int32) t1 a1) (fun v3 t3 a3 => some (v3, t3, a3))))))
set_option maxRecDepth 100000 in
set_option maxHeartbeats 4000000 in
theorem kX7_word (l : Launch) {x : Cx} {N : Nat} {u0 v0 : Option Nat} {nF : Nat} {x1 : Int32} {x2 : Int32} {t : sT} {a : sA} {rv : Int32} {rt : sT} {ra : sA} (hN : 653 ≤ N) (h : fX7_word nF x1 x2 t a = some (rv, rt, ra)) : Met l yX7_word [.code yX7_word cX7_word 3 (some .int)] (k2_rm 1 21) (Pre x N (rho u0 v0) t a [.ref (cz x + 0), .int x1, .int x2]) (PostI x N (rho u0 v0) rt ra rv) 0 0 (cA x) := by
  refine j_entry (by decide) rfl (Nat.le_of_ble_eq_true rfl) ?_
  intro p e s m below meth c F hsz hnm
  have F : Fx p s m meth c cX7_word 3 RX7 (some .int) x := F
  unfold fX7_word at h
  show J p l e _ s m _ below meth c x N (rho u0 v0) 3 0 0 _ 0 [(0, .ref (cz x + 0)), (1, .int x1), (2, .int x2)] [] t a
  refine j_aload_n F 0 dX7_word_0 rfl rfl ?_
  refine j_getR F clX7 (j := 1) (lt653 rfl hN) ly0 (Nat.le_of_ble_eq_true rfl) rfl qf_X7_19 rfl dX7_word_1 ?_
  refine j_iload_n F 1 dX7_word_4 rfl rfl ?_
  refine j_callVi F mwX6_hasWord ql_X7_93 clX6 (lt653 rfl hN) ly3 [.int x1] rfl ⟨rfl, rfl, Nat.le_of_ble_eq_true rfl, Nat.le_of_ble_eq_true rfl⟩ ⟨Nat.le_refl 0, Nat.le_refl 0⟩ rfl (Nat.le_of_ble_eq_true rfl) dX7_word_5 (fun _ _ _ h9 => kX6_hasWord l hN tg3 h9) h (fun v1 t1 a1 e1 h => ?_)
  refine j_if_ne F 17 dX7_word_8 rfl h (fun h => ?_) (fun h => ?_)
  · refine j_aload_n F 0 dX7_word_11 rfl rfl ?_
    refine j_iconst F dX7_word_12 cI_m1 ?_
    refine j_callVi F mwX7_refuse ql_X7_66 clX7 (lt653 rfl hN) ly0 [.int (-1 : Int32)] rfl ⟨rfl, rfl, Nat.le_of_ble_eq_true rfl, Nat.le_of_ble_eq_true rfl⟩ ⟨Nat.le_refl 0, Nat.le_refl 0⟩ rfl (Nat.le_of_ble_eq_true rfl) dX7_word_13 (fun _ _ _ h9 => kX7_refuse l hN  h9) h (fun v4 t4 a4 e4 h => ?_)
    exact j_ireturn F rfl dX7_word_16 h
  · refine j_iload_n F 2 dX7_word_17 rfl rfl ?_
    refine ifE h (fun e2_0 h => ?_) (fun e2_0 h => ?_)
    · refine j_lsw F 44 (off := 26) dX7_word_18 rfl (by rw [e2_0]; rfl) rfl ?_
      refine j_aload_n F 0 dX7_word_44 rfl rfl ?_
      refine j_getR F clX7 (j := 1) (lt653 rfl hN) ly0 (Nat.le_of_ble_eq_true rfl) rfl qf_X7_19 rfl dX7_word_45 ?_
      refine j_getR F clX6 (j := 0) (lt653 rfl hN) ly3 (Nat.le_of_ble_eq_true rfl) rfl qf_X7_97 rfl dX7_word_48 ?_
      refine j_iload_n F 1 dX7_word_51 rfl rfl ?_
      refine j_iald F (lt653 rfl hN) ly4 dX7_word_52 h (fun h => ?_)
      exact j_ireturn F rfl dX7_word_53 h
    · refine ifE h (fun e2_1 h => ?_) (fun e2_1 h => ?_)
      · refine j_lsw F 54 (off := 36) dX7_word_18 rfl (by rw [e2_1]; rfl) rfl ?_
        refine j_aload_n F 0 dX7_word_54 rfl rfl ?_
        refine j_getR F clX7 (j := 1) (lt653 rfl hN) ly0 (Nat.le_of_ble_eq_true rfl) rfl qf_X7_19 rfl dX7_word_55 ?_
        refine j_getR F clX6 (j := 1) (lt653 rfl hN) ly3 (Nat.le_of_ble_eq_true rfl) rfl qf_X7_100 rfl dX7_word_58 ?_
        refine j_iload_n F 1 dX7_word_61 rfl rfl ?_
        refine j_iald F (lt653 rfl hN) ly5 dX7_word_62 h (fun h => ?_)
        exact j_ireturn F rfl dX7_word_63 h
      · refine j_lsw F 64 (off := 46) dX7_word_18 rfl ((lv_osw e2_0 rfl).trans ((lv_osw e2_1 rfl).trans rfl)) rfl ?_
        refine j_aload_n F 0 dX7_word_64 rfl rfl ?_
        refine j_bipush F dX7_word_65 cB_m2 ?_
        refine j_callVi F mwX7_refuse ql_X7_66 clX7 (lt653 rfl hN) ly0 [.int (-2 : Int32)] rfl ⟨rfl, rfl, Nat.le_of_ble_eq_true rfl, Nat.le_of_ble_eq_true rfl⟩ ⟨Nat.le_refl 0, Nat.le_refl 0⟩ rfl (Nat.le_of_ble_eq_true rfl) dX7_word_67 (fun _ _ _ h9 => kX7_refuse l hN  h9) h (fun v3 t3 a3 e3 h => ?_)
        exact j_ireturn F rfl dX7_word_70 h
def fX8_addWord (nF : Nat) (x1 : Int32) (x2 : Int32) (t : sT) (a : sA) : Rs := if (t 3207) = (8 : Int32) then (zok (0 : Int32) (some ((0 : Int32), t, a))) else (bnd (t 3207) 8 (bnd (t 3207) 8 (zok (1 : Int32) (some ((1 : Int32), va_up t 3207 ((t 3207) + (1 : Int32)), va_up (va_up a 55 (upd (a 55) (t 3207).toNatClampNeg x1)) 56 (upd ((va_up a 55 (upd (a 55) (t 3207).toNatClampNeg x1)) 56) (t 3207).toNatClampNeg x2))))))
set_option maxRecDepth 100000 in
set_option maxHeartbeats 4000000 in
theorem kX8_addWord (l : Launch) {x : Cx} {N : Nat} {u0 v0 : Option Nat} {nF : Nat} {x1 : Int32} {x2 : Int32} {t : sT} {a : sA} {rv : Int32} {rt : sT} {ra : sA} (hN : 653 ≤ N) (h : fX8_addWord nF x1 x2 t a = some (rv, rt, ra)) : Met l yX8_addWord [.code yX8_addWord cX8_addWord 3 (some .boolean)] (k2_rm 0 0) (Pre x N (rho u0 v0) t a [.ref (cz x + 50), .int x1, .int x2]) (PostI x N (rho u0 v0) rt ra rv) 0 0 (cA x) := by
  refine j_entry (by decide) rfl (Nat.le_of_ble_eq_true rfl) ?_
  intro p e s m below meth c F hsz hnm
  have F : Fx p s m meth c cX8_addWord 3 RX8 (some .boolean) x := F
  unfold fX8_addWord at h
  show J p l e _ s m _ below meth c x N (rho u0 v0) 3 0 0 _ 0 [(0, .ref (cz x + 50)), (1, .int x1), (2, .int x2)] [] t a
  refine j_aload_n F 0 dX8_addWord_0 rfl rfl ?_
  refine j_getI F clX8 (j := 7) (tt := 3207) (lt653 rfl hN) ly50 (Nat.le_of_ble_eq_true rfl) rfl qf_X8_67 rfl dX8_addWord_1 ?_
  refine j_bipush F dX8_addWord_4 cB_8 ?_
  refine j_icmp_ne F 11 dX8_addWord_6 rfl h (fun h => ?_) (fun h => ?_)
  · refine j_iconst F dX8_addWord_9 cI_0 ?_
    exact j_zreturn F rfl dX8_addWord_10 h
  · refine j_aload_n F 0 dX8_addWord_11 rfl rfl ?_
    refine j_getR F clX8 (j := 8) (lt653 rfl hN) ly50 (Nat.le_of_ble_eq_true rfl) rfl qf_X8_22 rfl dX8_addWord_12 ?_
    refine j_aload_n F 0 dX8_addWord_15 rfl rfl ?_
    refine j_getI F clX8 (j := 7) (tt := 3207) (lt653 rfl hN) ly50 (Nat.le_of_ble_eq_true rfl) rfl qf_X8_67 rfl dX8_addWord_16 ?_
    refine j_iload_n F 1 dX8_addWord_19 rfl rfl ?_
    refine j_iast F (lt653 rfl hN) ly55 dX8_addWord_20 h (fun h => ?_)
    refine j_aload_n F 0 dX8_addWord_21 rfl rfl ?_
    refine j_getR F clX8 (j := 9) (lt653 rfl hN) ly50 (Nat.le_of_ble_eq_true rfl) rfl qf_X8_25 rfl dX8_addWord_22 ?_
    refine j_aload_n F 0 dX8_addWord_25 rfl rfl ?_
    refine j_dup F dX8_addWord_26 rfl ?_
    refine j_getI F clX8 (j := 7) (tt := 3207) (lt653 rfl hN) ly50 (Nat.le_of_ble_eq_true rfl) rfl qf_X8_67 rfl dX8_addWord_27 ?_
    refine j_dup_x1 F dX8_addWord_30 rfl rfl ?_
    refine j_iconst F dX8_addWord_31 cI_1 ?_
    refine j_iadd F dX8_addWord_32 ?_
    refine j_putI F clX8 (j := 7) (tt := 3207) (lt653 rfl hN) ly50 (Nat.le_of_ble_eq_true rfl) rfl qf_X8_67 rfl rfl rfl dX8_addWord_33 ?_
    refine j_iload_n F 2 dX8_addWord_36 rfl rfl ?_
    refine j_iast F (lt653 rfl hN) ly56 dX8_addWord_37 h (fun h => ?_)
    refine j_iconst F dX8_addWord_38 cI_1 ?_
    exact j_zreturn F rfl dX8_addWord_39 h
def fX8_asks (nF : Nat) (x1 : Int32) (x2 : Int32) (x3 : Int32) (x4 : Int32) (t : sT) (a : sA) : Rs := some (0, va_up (va_up (va_up (va_up t 3228 x1) 3229 x2) 3230 x3) 3231 x4, a)
set_option maxRecDepth 100000 in
set_option maxHeartbeats 4000000 in
theorem kX8_asks (l : Launch) {x : Cx} {N : Nat} {u0 v0 : Option Nat} {nF : Nat} {x1 : Int32} {x2 : Int32} {x3 : Int32} {x4 : Int32} {t : sT} {a : sA} {rv : Int32} {rt : sT} {ra : sA} (hN : 653 ≤ N) (h : fX8_asks nF x1 x2 x3 x4 t a = some (rv, rt, ra)) : Met l yX8_asks [.code yX8_asks cX8_asks 5 none] (k2_rm 0 0) (Pre x N (rho u0 v0) t a [.ref (cz x + 50), .int x1, .int x2, .int x3, .int x4]) (PostV x N (rho u0 v0) rt ra) 0 0 (cA x) := by
  refine j_entry (by decide) rfl (Nat.le_of_ble_eq_true rfl) ?_
  intro p e s m below meth c F hsz hnm
  have F : Fx p s m meth c cX8_asks 5 RX8 none x := F
  unfold fX8_asks at h
  show J p l e _ s m _ below meth c x N (rho u0 v0) 5 0 0 _ 0 [(0, .ref (cz x + 50)), (1, .int x1), (2, .int x2), (3, .int x3), (4, .int x4)] [] t a
  refine j_aload_n F 0 dX8_asks_0 rfl rfl ?_
  refine j_iload_n F 1 dX8_asks_1 rfl rfl ?_
  refine j_putI F clX8 (j := 28) (tt := 3228) (lt653 rfl hN) ly50 (Nat.le_of_ble_eq_true rfl) rfl qf_X8_166 rfl rfl rfl dX8_asks_2 ?_
  refine j_aload_n F 0 dX8_asks_5 rfl rfl ?_
  refine j_iload_n F 2 dX8_asks_6 rfl rfl ?_
  refine j_putI F clX8 (j := 29) (tt := 3229) (lt653 rfl hN) ly50 (Nat.le_of_ble_eq_true rfl) rfl qf_X8_169 rfl rfl rfl dX8_asks_7 ?_
  refine j_aload_n F 0 dX8_asks_10 rfl rfl ?_
  refine j_iload_n F 3 dX8_asks_11 rfl rfl ?_
  refine j_putI F clX8 (j := 30) (tt := 3230) (lt653 rfl hN) ly50 (Nat.le_of_ble_eq_true rfl) rfl qf_X8_172 rfl rfl rfl dX8_asks_12 ?_
  refine j_aload_n F 0 dX8_asks_15 rfl rfl ?_
  refine j_iload F 4 dX8_asks_16 rfl ?_
  refine j_putI F clX8 (j := 31) (tt := 3231) (lt653 rfl hN) ly50 (Nat.le_of_ble_eq_true rfl) rfl qf_X8_175 rfl rfl rfl dX8_asks_18 ?_
  exact j_vreturn F rfl dX8_asks_21 h
def gX8_common_4 (nF : Nat) (r4 : Int32 → Int32 → sT → sA → Rs) (x2 x3 : Int32) (t : sT) (a : sA) : Rs := if x3 = 0 then (some (x2, t, a)) else (dvz x3 (r4 x3 (x2 - x2 / x3 * x3) t a))
def gX8_common (nF : Nat) : Nat → (Int32 → Int32 → sT → sA → Rs)
  | 0 => (fun _ _ _ _ => none)
  | n9 + 1 => (gX8_common_4 nF (gX8_common nF n9))
def fX8_common (nF : Nat) (x0 : Int32) (x1 : Int32) (t : sT) (a : sA) : Rs := (gX8_common nF nF) x0 x1 t a
set_option maxRecDepth 100000 in
set_option maxHeartbeats 4000000 in
theorem hX8_common {p : Program} {l : Launch} {e : Env} {s : State} {m : MethodId} {args : Array Value} {below : List Frame} {meth : Method} {c : Code} {x : Cx} {N : Nat} {u0 v0 : Option Nat} {nF : Nat} (F : Fx p s m meth c cX8_common 5 RX8 (some .int) x) (hsz : s.heap.size = cz x + N) (hN : 653 ≤ N) {rv : Int32} {rt : sT} {ra : sA} : ∀ n9 : Nat, (∀ (x2 x3 : Int32) (t : sT) (a : sA), (gX8_common nF n9) x2 x3 t a = some (rv, rt, ra) → J p l e (k2_rm 0 0) s m args below meth c x N (rho u0 v0) 5 0 0 (MQ below (PostI x N (rho u0 v0) rt ra rv) args s 0 0 (cA x)) 4 [(2, .int x2), (3, .int x3)] [] t a) := by
  intro n9
  induction n9 with
  | zero => exact fun _ _ _ _ h => (by cases h)
  | succ n9 ih =>
    intro x2 x3 t a h
    have h : gX8_common_4 nF (gX8_common nF n9) x2 x3 t a = some (rv, rt, ra) := h
    unfold gX8_common_4 at h
    refine j_iload_n F 1 dX8_common_4 rfl rfl ?_
    refine j_if_eq F 21 dX8_common_5 rfl h (fun h => ?_) (fun h => ?_)
    · refine j_iload_n F 0 dX8_common_21 rfl rfl ?_
      exact j_ireturn F rfl dX8_common_22 h
    · refine j_iload_n F 0 dX8_common_8 rfl rfl ?_
      refine j_iload_n F 1 dX8_common_9 rfl rfl ?_
      refine j_irem F dX8_common_10 h (fun h => ?_)
      refine j_istore F (k := 0) (lv' := [(4, .int (x2 - x2 / x3 * x3)), (2, .int x2), (3, .int x3)]) dX8_common_11 (Nat.le_of_ble_eq_true rfl) rfl ?_
      refine j_iload_n F 2 dX8_common_13 rfl rfl ?_
      refine j_istore_n F (lv' := [(2, .int x3), (4, .int (x2 - x2 / x3 * x3)), (3, .int x3)]) dX8_common_14 rfl (Nat.le_of_ble_eq_true rfl) rfl ?_
      refine j_iload F 1 dX8_common_15 rfl ?_
      refine j_istore_n F (lv' := [(3, .int (x2 - x2 / x3 * x3)), (2, .int x3), (4, .int (x2 - x2 / x3 * x3))]) dX8_common_17 rfl (Nat.le_of_ble_eq_true rfl) rfl ?_
      refine j_goto F 4 dX8_common_18 rfl ?_
      exact j_lv [1, 0] rfl (ih _ _ _ _ h)
set_option maxRecDepth 100000 in
set_option maxHeartbeats 4000000 in
theorem kX8_common (l : Launch) {x : Cx} {N : Nat} {u0 v0 : Option Nat} {nF : Nat} {x0 : Int32} {x1 : Int32} {t : sT} {a : sA} {rv : Int32} {rt : sT} {ra : sA} (hN : 653 ≤ N) (h : fX8_common nF x0 x1 t a = some (rv, rt, ra)) : Met l yX8_common [.code yX8_common cX8_common 5 (some .int)] (k2_rm 0 0) (Pre x N (rho u0 v0) t a [.int x0, .int x1]) (PostI x N (rho u0 v0) rt ra rv) 0 0 (cA x) := by
  refine j_entry (by decide) rfl (Nat.le_of_ble_eq_true rfl) ?_
  intro p e s m below meth c F hsz hnm
  have F : Fx p s m meth c cX8_common 5 RX8 (some .int) x := F
  unfold fX8_common at h
  show J p l e _ s m _ below meth c x N (rho u0 v0) 5 0 0 _ 0 [(0, .int x0), (1, .int x1)] [] t a
  refine j_iload_n F 0 dX8_common_0 rfl rfl ?_
  refine j_istore_n F (lv' := [(2, .int x0), (0, .int x0), (1, .int x1)]) dX8_common_1 rfl (Nat.le_of_ble_eq_true rfl) rfl ?_
  refine j_iload_n F 2 dX8_common_2 rfl rfl ?_
  refine j_istore_n F (lv' := [(3, .int x1), (2, .int x0), (0, .int x0), (1, .int x1)]) dX8_common_3 rfl (Nat.le_of_ble_eq_true rfl) rfl ?_
  exact j_lv [1, 0] rfl ((hX8_common F hsz hN nF) _ _ _ _ h)
def fX8_doesSettle (nF : Nat) (x0 : Int32) (x1 : Int32) (t : sT) (a : sA) : Rs := if x1 = 0 then (zok (0 : Int32) (some ((0 : Int32), t, a))) else (if (x1 &&& (x0 ^^^ (-1 : Int32))) = 0 then (zok (1 : Int32) (some ((1 : Int32), t, a))) else (if (x1 &&& x0) = 0 then (zok (1 : Int32) (some ((1 : Int32), t, a))) else (zok (0 : Int32) (some ((0 : Int32), t, a)))))
set_option maxRecDepth 100000 in
set_option maxHeartbeats 4000000 in
theorem kX8_doesSettle (l : Launch) {x : Cx} {N : Nat} {u0 v0 : Option Nat} {nF : Nat} {x0 : Int32} {x1 : Int32} {t : sT} {a : sA} {rv : Int32} {rt : sT} {ra : sA} (hN : 653 ≤ N) (h : fX8_doesSettle nF x0 x1 t a = some (rv, rt, ra)) : Met l yX8_doesSettle [.code yX8_doesSettle cX8_doesSettle 2 (some .boolean)] (k2_rm 0 0) (Pre x N (rho u0 v0) t a [.int x0, .int x1]) (PostI x N (rho u0 v0) rt ra rv) 0 0 (cA x) := by
  refine j_entry (by decide) rfl (Nat.le_of_ble_eq_true rfl) ?_
  intro p e s m below meth c F hsz hnm
  have F : Fx p s m meth c cX8_doesSettle 2 RX8 (some .boolean) x := F
  unfold fX8_doesSettle at h
  show J p l e _ s m _ below meth c x N (rho u0 v0) 2 0 0 _ 0 [(0, .int x0), (1, .int x1)] [] t a
  refine j_iload_n F 1 dX8_doesSettle_0 rfl rfl ?_
  refine j_if_eq F 22 dX8_doesSettle_1 rfl h (fun h => ?_) (fun h => ?_)
  · refine j_iconst F dX8_doesSettle_22 cI_0 ?_
    exact j_zreturn F rfl dX8_doesSettle_23 h
  · refine j_iload_n F 1 dX8_doesSettle_4 rfl rfl ?_
    refine j_iload_n F 0 dX8_doesSettle_5 rfl rfl ?_
    refine j_iconst F dX8_doesSettle_6 cI_m1 ?_
    refine j_ixor F dX8_doesSettle_7 ?_
    refine j_iand F dX8_doesSettle_8 ?_
    refine j_if_eq F 18 dX8_doesSettle_9 rfl h (fun h => ?_) (fun h => ?_)
    · refine j_iconst F dX8_doesSettle_18 cI_1 ?_
      refine j_goto F 23 dX8_doesSettle_19 rfl ?_
      exact j_zreturn F rfl dX8_doesSettle_23 h
    · refine j_iload_n F 1 dX8_doesSettle_12 rfl rfl ?_
      refine j_iload_n F 0 dX8_doesSettle_13 rfl rfl ?_
      refine j_iand F dX8_doesSettle_14 ?_
      refine j_if_ne F 22 dX8_doesSettle_15 rfl h (fun h => ?_) (fun h => ?_)
      · refine j_iconst F dX8_doesSettle_18 cI_1 ?_
        refine j_goto F 23 dX8_doesSettle_19 rfl ?_
        exact j_zreturn F rfl dX8_doesSettle_23 h
      · refine j_iconst F dX8_doesSettle_22 cI_0 ?_
        exact j_zreturn F rfl dX8_doesSettle_23 h
def fX8_draw (nF : Nat) (x1 : Int32) (t : sT) (a : sA) : Rs := dvz (256 : Int32) (dvz x1 (some (((((va_up t 3234 (((t 3234) * (1664525 : Int32)) + (1013904223 : Int32))) 3234) &&& (2147483647 : Int32)) / (256 : Int32)) - ((((va_up t 3234 (((t 3234) * (1664525 : Int32)) + (1013904223 : Int32))) 3234) &&& (2147483647 : Int32)) / (256 : Int32)) / x1 * x1, va_up t 3234 (((t 3234) * (1664525 : Int32)) + (1013904223 : Int32)), a)))
set_option maxRecDepth 100000 in
set_option maxHeartbeats 4000000 in
theorem kX8_draw (l : Launch) {x : Cx} {N : Nat} {u0 v0 : Option Nat} {nF : Nat} {x1 : Int32} {t : sT} {a : sA} {rv : Int32} {rt : sT} {ra : sA} (hN : 653 ≤ N) (h : fX8_draw nF x1 t a = some (rv, rt, ra)) : Met l yX8_draw [.code yX8_draw cX8_draw 2 (some .int)] (k2_rm 0 0) (Pre x N (rho u0 v0) t a [.ref (cz x + 50), .int x1]) (PostI x N (rho u0 v0) rt ra rv) 0 0 (cA x) := by
  refine j_entry (by decide) rfl (Nat.le_of_ble_eq_true rfl) ?_
  intro p e s m below meth c F hsz hnm
  have F : Fx p s m meth c cX8_draw 2 RX8 (some .int) x := F
  unfold fX8_draw at h
  show J p l e _ s m _ below meth c x N (rho u0 v0) 2 0 0 _ 0 [(0, .ref (cz x + 50)), (1, .int x1)] [] t a
  refine j_aload_n F 0 dX8_draw_0 rfl rfl ?_
  refine j_aload_n F 0 dX8_draw_1 rfl rfl ?_
  refine j_getI F clX8 (j := 34) (tt := 3234) (lt653 rfl hN) ly50 (Nat.le_of_ble_eq_true rfl) rfl qf_X8_234 rfl dX8_draw_2 ?_
  refine j_ldc F dX8_draw_5 qc_X8_237 ?_
  refine j_imul F dX8_draw_7 ?_
  refine j_ldc F dX8_draw_8 qc_X8_238 ?_
  refine j_iadd F dX8_draw_10 ?_
  refine j_putI F clX8 (j := 34) (tt := 3234) (lt653 rfl hN) ly50 (Nat.le_of_ble_eq_true rfl) rfl qf_X8_234 rfl rfl rfl dX8_draw_11 ?_
  refine j_aload_n F 0 dX8_draw_14 rfl rfl ?_
  refine j_getI F clX8 (j := 34) (tt := 3234) (lt653 rfl hN) ly50 (Nat.le_of_ble_eq_true rfl) rfl qf_X8_234 rfl dX8_draw_15 ?_
  refine j_ldc F dX8_draw_18 qc_X8_239 ?_
  refine j_iand F dX8_draw_20 ?_
  refine j_sipush F dX8_draw_21 cS_256 ?_
  refine j_idiv F dX8_draw_24 h (fun h => ?_)
  refine j_iload_n F 1 dX8_draw_25 rfl rfl ?_
  refine j_irem F dX8_draw_26 h (fun h => ?_)
  exact j_ireturn F rfl dX8_draw_27 h
def gX8_goesOn_2 (nF : Nat) (r2 : Int32 → sT → sA → Rs) (x1 : Int32) (t : sT) (a : sA) : Rs := if x1 < 0 then (if x1 < 0 then (if x1 < 0 then (zok (0 : Int32) (some ((0 : Int32), t, a))) else (zok (1 : Int32) (some ((1 : Int32), t, a)))) else (bnd x1 4 (bnd x1 4 (if x1 < 0 then (zok (0 : Int32) (some ((0 : Int32), t, va_up a 651 (upd (a 651) x1.toNatClampNeg ((a 651 x1.toNatClampNeg) + (1 : Int32)))))) else (zok (1 : Int32) (some ((1 : Int32), t, va_up a 651 (upd (a 651) x1.toNatClampNeg ((a 651 x1.toNatClampNeg) + (1 : Int32)))))))))) else (bnd x1 4 (if (a 651 x1.toNatClampNeg) = ((t 3207) - (1 : Int32)) then (bnd x1 4 (r2 (x1 + (-1 : Int32)) t (va_up a 651 (upd (a 651) x1.toNatClampNeg (0 : Int32))))) else (if x1 < 0 then (if x1 < 0 then (zok (0 : Int32) (some ((0 : Int32), t, a))) else (zok (1 : Int32) (some ((1 : Int32), t, a)))) else (bnd x1 4 (bnd x1 4 (if x1 < 0 then (zok (0 : Int32) (some ((0 : Int32), t, va_up a 651 (upd (a 651) x1.toNatClampNeg ((a 651 x1.toNatClampNeg) + (1 : Int32)))))) else (zok (1 : Int32) (some ((1 : Int32), t, va_up a 651 (upd (a 651) x1.toNatClampNeg ((a 651 x1.toNatClampNeg) + (1 : Int32))))))))))))
def gX8_goesOn (nF : Nat) : Nat → (Int32 → sT → sA → Rs)
  | 0 => (fun _ _ _ => none)
  | n9 + 1 => (gX8_goesOn_2 nF (gX8_goesOn nF n9))
def fX8_goesOn (nF : Nat) (t : sT) (a : sA) : Rs := (gX8_goesOn nF nF) (3 : Int32) t a
set_option maxRecDepth 100000 in
set_option maxHeartbeats 4000000 in
theorem hX8_goesOn {p : Program} {l : Launch} {e : Env} {s : State} {m : MethodId} {args : Array Value} {below : List Frame} {meth : Method} {c : Code} {x : Cx} {N : Nat} {u0 v0 : Option Nat} {nF : Nat} (F : Fx p s m meth c cX8_goesOn 2 RX8 (some .boolean) x) (hsz : s.heap.size = cz x + N) (hN : 653 ≤ N) {rv : Int32} {rt : sT} {ra : sA} : ∀ n9 : Nat, (∀ (x1 : Int32) (t : sT) (a : sA), (gX8_goesOn nF n9) x1 t a = some (rv, rt, ra) → J p l e (k2_rm 0 0) s m args below meth c x N (rho u0 v0) 2 0 0 (MQ below (PostI x N (rho u0 v0) rt ra rv) args s 0 0 (cA x)) 2 [(0, .ref (cz x + 50)), (1, .int x1)] [] t a) := by
  intro n9
  induction n9 with
  | zero => exact fun _ _ _ h => (by cases h)
  | succ n9 ih =>
    intro x1 t a h
    have h : gX8_goesOn_2 nF (gX8_goesOn nF n9) x1 t a = some (rv, rt, ra) := h
    unfold gX8_goesOn_2 at h
    refine j_iload_n F 1 dX8_goesOn_2 rfl rfl ?_
    refine j_if_lt F 34 dX8_goesOn_3 rfl h (fun h => ?_) (fun h => ?_)
    · refine j_iload_n F 1 dX8_goesOn_34 rfl rfl ?_
      refine j_if_lt F 48 dX8_goesOn_35 rfl h (fun h => ?_) (fun h => ?_)
      · refine j_iload_n F 1 dX8_goesOn_48 rfl rfl ?_
        refine j_if_lt F 56 dX8_goesOn_49 rfl h (fun h => ?_) (fun h => ?_)
        · refine j_iconst F dX8_goesOn_56 cI_0 ?_
          exact j_zreturn F rfl dX8_goesOn_57 h
        · refine j_iconst F dX8_goesOn_52 cI_1 ?_
          refine j_goto F 57 dX8_goesOn_53 rfl ?_
          exact j_zreturn F rfl dX8_goesOn_57 h
      · refine j_aload_n F 0 dX8_goesOn_38 rfl rfl ?_
        refine j_getR F clX8 (j := 32) (lt653 rfl hN) ly50 (Nat.le_of_ble_eq_true rfl) rfl qf_X8_57 rfl dX8_goesOn_39 ?_
        refine j_iload_n F 1 dX8_goesOn_42 rfl rfl ?_
        refine j_dup2 F dX8_goesOn_43 rfl rfl ?_
        refine j_iald F (lt653 rfl hN) ly651 dX8_goesOn_44 h (fun h => ?_)
        refine j_iconst F dX8_goesOn_45 cI_1 ?_
        refine j_iadd F dX8_goesOn_46 ?_
        refine j_iast F (lt653 rfl hN) ly651 dX8_goesOn_47 h (fun h => ?_)
        refine j_iload_n F 1 dX8_goesOn_48 rfl rfl ?_
        refine j_if_lt F 56 dX8_goesOn_49 rfl h (fun h => ?_) (fun h => ?_)
        · refine j_iconst F dX8_goesOn_56 cI_0 ?_
          exact j_zreturn F rfl dX8_goesOn_57 h
        · refine j_iconst F dX8_goesOn_52 cI_1 ?_
          refine j_goto F 57 dX8_goesOn_53 rfl ?_
          exact j_zreturn F rfl dX8_goesOn_57 h
    · refine j_aload_n F 0 dX8_goesOn_6 rfl rfl ?_
      refine j_getR F clX8 (j := 32) (lt653 rfl hN) ly50 (Nat.le_of_ble_eq_true rfl) rfl qf_X8_57 rfl dX8_goesOn_7 ?_
      refine j_iload_n F 1 dX8_goesOn_10 rfl rfl ?_
      refine j_iald F (lt653 rfl hN) ly651 dX8_goesOn_11 h (fun h => ?_)
      refine j_aload_n F 0 dX8_goesOn_12 rfl rfl ?_
      refine j_getI F clX8 (j := 7) (tt := 3207) (lt653 rfl hN) ly50 (Nat.le_of_ble_eq_true rfl) rfl qf_X8_67 rfl dX8_goesOn_13 ?_
      refine j_iconst F dX8_goesOn_16 cI_1 ?_
      refine j_isub F dX8_goesOn_17 ?_
      refine j_icmp_ne F 34 dX8_goesOn_18 rfl h (fun h => ?_) (fun h => ?_)
      · refine j_aload_n F 0 dX8_goesOn_21 rfl rfl ?_
        refine j_getR F clX8 (j := 32) (lt653 rfl hN) ly50 (Nat.le_of_ble_eq_true rfl) rfl qf_X8_57 rfl dX8_goesOn_22 ?_
        refine j_iload_n F 1 dX8_goesOn_25 rfl rfl ?_
        refine j_iconst F dX8_goesOn_26 cI_0 ?_
        refine j_iast F (lt653 rfl hN) ly651 dX8_goesOn_27 h (fun h => ?_)
        refine j_iinc F (v := x1 + (-1 : Int32)) (lv' := [(1, .int (x1 + (-1 : Int32))), (0, .ref (cz x + 50))]) dX8_goesOn_28 1 rfl (congrArg (fun z => x1 + z) cI_m1) (Nat.le_of_ble_eq_true rfl) rfl ?_
        refine j_goto F 2 dX8_goesOn_31 rfl ?_
        exact j_lv [1, 0] rfl (ih _ _ _ h)
      · refine j_iload_n F 1 dX8_goesOn_34 rfl rfl ?_
        refine j_if_lt F 48 dX8_goesOn_35 rfl h (fun h => ?_) (fun h => ?_)
        · refine j_iload_n F 1 dX8_goesOn_48 rfl rfl ?_
          refine j_if_lt F 56 dX8_goesOn_49 rfl h (fun h => ?_) (fun h => ?_)
          · refine j_iconst F dX8_goesOn_56 cI_0 ?_
            exact j_zreturn F rfl dX8_goesOn_57 h
          · refine j_iconst F dX8_goesOn_52 cI_1 ?_
            refine j_goto F 57 dX8_goesOn_53 rfl ?_
            exact j_zreturn F rfl dX8_goesOn_57 h
        · refine j_aload_n F 0 dX8_goesOn_38 rfl rfl ?_
          refine j_getR F clX8 (j := 32) (lt653 rfl hN) ly50 (Nat.le_of_ble_eq_true rfl) rfl qf_X8_57 rfl dX8_goesOn_39 ?_
          refine j_iload_n F 1 dX8_goesOn_42 rfl rfl ?_
          refine j_dup2 F dX8_goesOn_43 rfl rfl ?_
          refine j_iald F (lt653 rfl hN) ly651 dX8_goesOn_44 h (fun h => ?_)
          refine j_iconst F dX8_goesOn_45 cI_1 ?_
          refine j_iadd F dX8_goesOn_46 ?_
          refine j_iast F (lt653 rfl hN) ly651 dX8_goesOn_47 h (fun h => ?_)
          refine j_iload_n F 1 dX8_goesOn_48 rfl rfl ?_
          refine j_if_lt F 56 dX8_goesOn_49 rfl h (fun h => ?_) (fun h => ?_)
          · refine j_iconst F dX8_goesOn_56 cI_0 ?_
            exact j_zreturn F rfl dX8_goesOn_57 h
          · refine j_iconst F dX8_goesOn_52 cI_1 ?_
            refine j_goto F 57 dX8_goesOn_53 rfl ?_
            exact j_zreturn F rfl dX8_goesOn_57 h
set_option maxRecDepth 100000 in
set_option maxHeartbeats 4000000 in
theorem kX8_goesOn (l : Launch) {x : Cx} {N : Nat} {u0 v0 : Option Nat} {nF : Nat} {t : sT} {a : sA} {rv : Int32} {rt : sT} {ra : sA} (hN : 653 ≤ N) (h : fX8_goesOn nF t a = some (rv, rt, ra)) : Met l yX8_goesOn [.code yX8_goesOn cX8_goesOn 2 (some .boolean)] (k2_rm 0 0) (Pre x N (rho u0 v0) t a [.ref (cz x + 50)]) (PostI x N (rho u0 v0) rt ra rv) 0 0 (cA x) := by
  refine j_entry (by decide) rfl (Nat.le_of_ble_eq_true rfl) ?_
  intro p e s m below meth c F hsz hnm
  have F : Fx p s m meth c cX8_goesOn 2 RX8 (some .boolean) x := F
  unfold fX8_goesOn at h
  show J p l e _ s m _ below meth c x N (rho u0 v0) 2 0 0 _ 0 [(0, .ref (cz x + 50))] [] t a
  refine j_iconst F dX8_goesOn_0 cI_3 ?_
  refine j_istore_n F (lv' := [(1, .int (3 : Int32)), (0, .ref (cz x + 50))]) dX8_goesOn_1 rfl (Nat.le_of_ble_eq_true rfl) rfl ?_
  exact j_lv [1, 0] rfl ((hX8_goesOn F hsz hN nF) _ _ _ h)
def gX8_idleOf_5 (nF : Nat) (k1 n1 : Nat) (r5 : Int32 → Int32 → Int32 → sT → sA → Rs) (x2 x3 x4 : Int32) (t : sT) (a : sA) : Rs := if x2 ≤ x4 then (some (x3, t, a)) else (bnd x4 n1 (bnd (a k1 x4.toNatClampNeg) 8 (if (a 55 (a k1 x4.toNatClampNeg).toNatClampNeg) = (3 : Int32) then (r5 x2 (x3 + (1 : Int32)) (x4 + (1 : Int32)) t a) else (r5 x2 (x3 + (0 : Int32)) (x4 + (1 : Int32)) t a))))
def gX8_idleOf (nF : Nat) (k1 n1 : Nat) : Nat → (Int32 → Int32 → Int32 → sT → sA → Rs)
  | 0 => (fun _ _ _ _ _ => none)
  | n9 + 1 => (gX8_idleOf_5 nF k1 n1 (gX8_idleOf nF k1 n1 n9))
def fX8_idleOf (nF : Nat) (k1 n1 : Nat) (x2 : Int32) (t : sT) (a : sA) : Rs := (gX8_idleOf nF k1 n1 nF) x2 (0 : Int32) (0 : Int32) t a
set_option maxRecDepth 100000 in
set_option maxHeartbeats 4000000 in
theorem hX8_idleOf {p : Program} {l : Launch} {e : Env} {s : State} {m : MethodId} {args : Array Value} {below : List Frame} {meth : Method} {c : Code} {x : Cx} {N : Nat} {u0 v0 : Option Nat} {nF : Nat} {k1 n1 : Nat} (F : Fx p s m meth c cX8_idleOf 5 RX8 (some .int) x) (hsz : s.heap.size = cz x + N) (hN : 653 ≤ N) (hk1 : k1 < N) (hl1 : lay k1 = (1, n1)) {rv : Int32} {rt : sT} {ra : sA} : ∀ n9 : Nat, (∀ (x2 x3 x4 : Int32) (t : sT) (a : sA), (gX8_idleOf nF k1 n1 n9) x2 x3 x4 t a = some (rv, rt, ra) → J p l e (k2_rm 0 0) s m args below meth c x N (rho u0 v0) 5 0 0 (MQ below (PostI x N (rho u0 v0) rt ra rv) args s 0 0 (cA x)) 5 [(0, .ref (cz x + 50)), (1, .ref (cz x + k1)), (2, .int x2), (3, .int x3), (4, .int x4)] [] t a) := by
  intro n9
  induction n9 with
  | zero => exact fun _ _ _ _ _ h => (by cases h)
  | succ n9 ih =>
    intro x2 x3 x4 t a h
    have h : gX8_idleOf_5 nF k1 n1 (gX8_idleOf nF k1 n1 n9) x2 x3 x4 t a = some (rv, rt, ra) := h
    unfold gX8_idleOf_5 at h
    refine j_iload F 4 dX8_idleOf_5 rfl ?_
    refine j_iload_n F 2 dX8_idleOf_7 rfl rfl ?_
    refine j_icmp_ge F 38 dX8_idleOf_8 rfl h (fun h => ?_) (fun h => ?_)
    · refine j_iload_n F 3 dX8_idleOf_38 rfl rfl ?_
      exact j_ireturn F rfl dX8_idleOf_39 h
    · refine j_iload_n F 3 dX8_idleOf_11 rfl rfl ?_
      refine j_aload_n F 0 dX8_idleOf_12 rfl rfl ?_
      refine j_getR F clX8 (j := 8) (lt653 rfl hN) ly50 (Nat.le_of_ble_eq_true rfl) rfl qf_X8_22 rfl dX8_idleOf_13 ?_
      refine j_aload_n F 1 dX8_idleOf_16 rfl rfl ?_
      refine j_iload F 4 dX8_idleOf_17 rfl ?_
      refine j_iald F hk1 hl1 dX8_idleOf_19 h (fun h => ?_)
      refine j_iald F (lt653 rfl hN) ly55 dX8_idleOf_20 h (fun h => ?_)
      refine j_iconst F dX8_idleOf_21 cI_3 ?_
      refine j_icmp_ne F 29 dX8_idleOf_22 rfl h (fun h => ?_) (fun h => ?_)
      · refine j_iconst F dX8_idleOf_25 cI_1 ?_
        refine j_goto F 30 dX8_idleOf_26 rfl ?_
        refine j_iadd F dX8_idleOf_30 ?_
        refine j_istore_n F (lv' := [(3, .int (x3 + (1 : Int32))), (0, .ref (cz x + 50)), (1, .ref (cz x + k1)), (2, .int x2), (4, .int x4)]) dX8_idleOf_31 rfl (Nat.le_of_ble_eq_true rfl) rfl ?_
        refine j_iinc F (v := x4 + (1 : Int32)) (lv' := [(4, .int (x4 + (1 : Int32))), (3, .int (x3 + (1 : Int32))), (0, .ref (cz x + 50)), (1, .ref (cz x + k1)), (2, .int x2)]) dX8_idleOf_32 4 rfl (congrArg (fun z => x4 + z) cI_1) (Nat.le_of_ble_eq_true rfl) rfl ?_
        refine j_goto F 5 dX8_idleOf_35 rfl ?_
        exact j_lv [2, 3, 4, 1, 0] rfl (ih _ _ _ _ _ h)
      · refine j_iconst F dX8_idleOf_29 cI_0 ?_
        refine j_iadd F dX8_idleOf_30 ?_
        refine j_istore_n F (lv' := [(3, .int (x3 + (0 : Int32))), (0, .ref (cz x + 50)), (1, .ref (cz x + k1)), (2, .int x2), (4, .int x4)]) dX8_idleOf_31 rfl (Nat.le_of_ble_eq_true rfl) rfl ?_
        refine j_iinc F (v := x4 + (1 : Int32)) (lv' := [(4, .int (x4 + (1 : Int32))), (3, .int (x3 + (0 : Int32))), (0, .ref (cz x + 50)), (1, .ref (cz x + k1)), (2, .int x2)]) dX8_idleOf_32 4 rfl (congrArg (fun z => x4 + z) cI_1) (Nat.le_of_ble_eq_true rfl) rfl ?_
        refine j_goto F 5 dX8_idleOf_35 rfl ?_
        exact j_lv [2, 3, 4, 1, 0] rfl (ih _ _ _ _ _ h)
set_option maxRecDepth 100000 in
set_option maxHeartbeats 4000000 in
theorem kX8_idleOf (l : Launch) {x : Cx} {N : Nat} {u0 v0 : Option Nat} {nF : Nat} {k1 n1 : Nat} {x2 : Int32} {t : sT} {a : sA} {rv : Int32} {rt : sT} {ra : sA} (hN : 653 ≤ N) (hk1 : k1 < N) (hl1 : lay k1 = (1, n1)) (h : fX8_idleOf nF k1 n1 x2 t a = some (rv, rt, ra)) : Met l yX8_idleOf [.code yX8_idleOf cX8_idleOf 5 (some .int)] (k2_rm 0 0) (Pre x N (rho u0 v0) t a [.ref (cz x + 50), .ref (cz x + k1), .int x2]) (PostI x N (rho u0 v0) rt ra rv) 0 0 (cA x) := by
  refine j_entry (by decide) rfl (Nat.le_of_ble_eq_true rfl) ?_
  intro p e s m below meth c F hsz hnm
  have F : Fx p s m meth c cX8_idleOf 5 RX8 (some .int) x := F
  unfold fX8_idleOf at h
  show J p l e _ s m _ below meth c x N (rho u0 v0) 5 0 0 _ 0 [(0, .ref (cz x + 50)), (1, .ref (cz x + k1)), (2, .int x2)] [] t a
  refine j_iconst F dX8_idleOf_0 cI_0 ?_
  refine j_istore_n F (lv' := [(3, .int (0 : Int32)), (0, .ref (cz x + 50)), (1, .ref (cz x + k1)), (2, .int x2)]) dX8_idleOf_1 rfl (Nat.le_of_ble_eq_true rfl) rfl ?_
  refine j_iconst F dX8_idleOf_2 cI_0 ?_
  refine j_istore F (k := 0) (lv' := [(4, .int (0 : Int32)), (3, .int (0 : Int32)), (0, .ref (cz x + 50)), (1, .ref (cz x + k1)), (2, .int x2)]) dX8_idleOf_3 (Nat.le_of_ble_eq_true rfl) rfl ?_
  exact j_lv [2, 3, 4, 1, 0] rfl ((hX8_idleOf F hsz hN hk1 hl1 nF) _ _ _ _ _ h)
def fX8_in (nF : Nat) (x0 : Int32) (x1 : Int32) (x2 : Int32) (t : sT) (a : sA) : Rs := if x0 < x1 then (zok (0 : Int32) (some ((0 : Int32), t, a))) else (if x2 < x0 then (zok (0 : Int32) (some ((0 : Int32), t, a))) else (zok (1 : Int32) (some ((1 : Int32), t, a))))
set_option maxRecDepth 100000 in
set_option maxHeartbeats 4000000 in
theorem kX8_in (l : Launch) {x : Cx} {N : Nat} {u0 v0 : Option Nat} {nF : Nat} {x0 : Int32} {x1 : Int32} {x2 : Int32} {t : sT} {a : sA} {rv : Int32} {rt : sT} {ra : sA} (hN : 653 ≤ N) (h : fX8_in nF x0 x1 x2 t a = some (rv, rt, ra)) : Met l yX8_in [.code yX8_in cX8_in 3 (some .boolean)] (k2_rm 0 0) (Pre x N (rho u0 v0) t a [.int x0, .int x1, .int x2]) (PostI x N (rho u0 v0) rt ra rv) 0 0 (cA x) := by
  refine j_entry (by decide) rfl (Nat.le_of_ble_eq_true rfl) ?_
  intro p e s m below meth c F hsz hnm
  have F : Fx p s m meth c cX8_in 3 RX8 (some .boolean) x := F
  unfold fX8_in at h
  show J p l e _ s m _ below meth c x N (rho u0 v0) 3 0 0 _ 0 [(0, .int x0), (1, .int x1), (2, .int x2)] [] t a
  refine j_iload_n F 0 dX8_in_0 rfl rfl ?_
  refine j_iload_n F 1 dX8_in_1 rfl rfl ?_
  refine j_icmp_lt F 14 dX8_in_2 rfl h (fun h => ?_) (fun h => ?_)
  · refine j_iconst F dX8_in_14 cI_0 ?_
    exact j_zreturn F rfl dX8_in_15 h
  · refine j_iload_n F 0 dX8_in_5 rfl rfl ?_
    refine j_iload_n F 2 dX8_in_6 rfl rfl ?_
    refine j_icmp_gt F 14 dX8_in_7 rfl h (fun h => ?_) (fun h => ?_)
    · refine j_iconst F dX8_in_14 cI_0 ?_
      exact j_zreturn F rfl dX8_in_15 h
    · refine j_iconst F dX8_in_10 cI_1 ?_
      refine j_goto F 15 dX8_in_11 rfl ?_
      exact j_zreturn F rfl dX8_in_15 h
def fX8_isCase (nF : Nat) (x0 : Int32) (t : sT) (a : sA) : Rs := cal (fX8_in nF x0 (0 : Int32) (7 : Int32) t a) (fun v1 t1 a1 => zok v1 (some (v1, t1, a1)))
set_option maxRecDepth 100000 in
set_option maxHeartbeats 4000000 in
theorem kX8_isCase (l : Launch) {x : Cx} {N : Nat} {u0 v0 : Option Nat} {nF : Nat} {x0 : Int32} {t : sT} {a : sA} {rv : Int32} {rt : sT} {ra : sA} (hN : 653 ≤ N) (h : fX8_isCase nF x0 t a = some (rv, rt, ra)) : Met l yX8_isCase [.code yX8_isCase cX8_isCase 1 (some .boolean)] (k2_rm 1 22) (Pre x N (rho u0 v0) t a [.int x0]) (PostI x N (rho u0 v0) rt ra rv) 0 0 (cA x) := by
  refine j_entry (by decide) rfl (Nat.le_of_ble_eq_true rfl) ?_
  intro p e s m below meth c F hsz hnm
  have F : Fx p s m meth c cX8_isCase 1 RX8 (some .boolean) x := F
  unfold fX8_isCase at h
  show J p l e _ s m _ below meth c x N (rho u0 v0) 1 0 0 _ 0 [(0, .int x0)] [] t a
  refine j_iload_n F 0 dX8_isCase_0 rfl rfl ?_
  refine j_iconst F dX8_isCase_1 cI_0 ?_
  refine j_bipush F dX8_isCase_2 cB_7 ?_
  refine j_callSi F mwX8_in ql_X8_63 [.int x0, .int (0 : Int32), .int (7 : Int32)] rfl ⟨rfl, rfl, Nat.le_of_ble_eq_true rfl, Nat.le_of_ble_eq_true rfl⟩ ⟨Nat.le_refl 0, Nat.le_refl 0⟩ rfl (Nat.le_of_ble_eq_true rfl) dX8_isCase_4 (fun _ _ _ h9 => kX8_in l hN  h9) h (fun v1 t1 a1 e1 h => ?_)
  exact j_zreturn F rfl dX8_isCase_7 h
def fX8_isPerson (nF : Nat) (x1 : Int32) (t : sT) (a : sA) : Rs := cal (fX8_in nF x1 (0 : Int32) ((t 3211) - (1 : Int32)) t a) (fun v1 t1 a1 => zok v1 (some (v1, t1, a1)))
set_option maxRecDepth 100000 in
set_option maxHeartbeats 4000000 in
theorem kX8_isPerson (l : Launch) {x : Cx} {N : Nat} {u0 v0 : Option Nat} {nF : Nat} {x1 : Int32} {t : sT} {a : sA} {rv : Int32} {rt : sT} {ra : sA} (hN : 653 ≤ N) (h : fX8_isPerson nF x1 t a = some (rv, rt, ra)) : Met l yX8_isPerson [.code yX8_isPerson cX8_isPerson 2 (some .boolean)] (k2_rm 1 22) (Pre x N (rho u0 v0) t a [.ref (cz x + 50), .int x1]) (PostI x N (rho u0 v0) rt ra rv) 0 0 (cA x) := by
  refine j_entry (by decide) rfl (Nat.le_of_ble_eq_true rfl) ?_
  intro p e s m below meth c F hsz hnm
  have F : Fx p s m meth c cX8_isPerson 2 RX8 (some .boolean) x := F
  unfold fX8_isPerson at h
  show J p l e _ s m _ below meth c x N (rho u0 v0) 2 0 0 _ 0 [(0, .ref (cz x + 50)), (1, .int x1)] [] t a
  refine j_iload_n F 1 dX8_isPerson_0 rfl rfl ?_
  refine j_iconst F dX8_isPerson_1 cI_0 ?_
  refine j_aload_n F 0 dX8_isPerson_2 rfl rfl ?_
  refine j_getI F clX8 (j := 11) (tt := 3211) (lt653 rfl hN) ly50 (Nat.le_of_ble_eq_true rfl) rfl qf_X8_71 rfl dX8_isPerson_3 ?_
  refine j_iconst F dX8_isPerson_6 cI_1 ?_
  refine j_isub F dX8_isPerson_7 ?_
  refine j_callSi F mwX8_in ql_X8_63 [.int x1, .int (0 : Int32), .int ((t 3211) - (1 : Int32))] rfl ⟨rfl, rfl, Nat.le_of_ble_eq_true rfl, Nat.le_of_ble_eq_true rfl⟩ ⟨Nat.le_refl 0, Nat.le_refl 0⟩ rfl (Nat.le_of_ble_eq_true rfl) dX8_isPerson_8 (fun _ _ _ h9 => kX8_in l hN  h9) h (fun v1 t1 a1 e1 h => ?_)
  exact j_zreturn F rfl dX8_isPerson_11 h
def fX8_isSet (nF : Nat) (x0 : Int32) (t : sT) (a : sA) : Rs := cal (fX8_in nF x0 (0 : Int32) (255 : Int32) t a) (fun v1 t1 a1 => zok v1 (some (v1, t1, a1)))
set_option maxRecDepth 100000 in
set_option maxHeartbeats 4000000 in
theorem kX8_isSet (l : Launch) {x : Cx} {N : Nat} {u0 v0 : Option Nat} {nF : Nat} {x0 : Int32} {t : sT} {a : sA} {rv : Int32} {rt : sT} {ra : sA} (hN : 653 ≤ N) (h : fX8_isSet nF x0 t a = some (rv, rt, ra)) : Met l yX8_isSet [.code yX8_isSet cX8_isSet 1 (some .boolean)] (k2_rm 1 22) (Pre x N (rho u0 v0) t a [.int x0]) (PostI x N (rho u0 v0) rt ra rv) 0 0 (cA x) := by
  refine j_entry (by decide) rfl (Nat.le_of_ble_eq_true rfl) ?_
  intro p e s m below meth c F hsz hnm
  have F : Fx p s m meth c cX8_isSet 1 RX8 (some .boolean) x := F
  unfold fX8_isSet at h
  show J p l e _ s m _ below meth c x N (rho u0 v0) 1 0 0 _ 0 [(0, .int x0)] [] t a
  refine j_iload_n F 0 dX8_isSet_0 rfl rfl ?_
  refine j_iconst F dX8_isSet_1 cI_0 ?_
  refine j_sipush F dX8_isSet_2 cS_255 ?_
  refine j_callSi F mwX8_in ql_X8_63 [.int x0, .int (0 : Int32), .int (255 : Int32)] rfl ⟨rfl, rfl, Nat.le_of_ble_eq_true rfl, Nat.le_of_ble_eq_true rfl⟩ ⟨Nat.le_refl 0, Nat.le_refl 0⟩ rfl (Nat.le_of_ble_eq_true rfl) dX8_isSet_5 (fun _ _ _ h9 => kX8_in l hN  h9) h (fun v1 t1 a1 e1 h => ?_)
  exact j_zreturn F rfl dX8_isSet_8 h
def gX8_isTold_17 (nF : Nat) (r17 : Int32 → Int32 → sT → sA → Rs) (x1 x2 : Int32) (t : sT) (a : sA) : Rs := if (t 3205) ≤ x2 then (zok (1 : Int32) (some ((1 : Int32), t, a))) else (bnd x1 585 (bnd x2 3 (bnd x2 6 (if (a (64 + x1.toNatClampNeg) x2.toNatClampNeg) = (a 53 x2.toNatClampNeg) then (r17 x1 (x2 + (1 : Int32)) t a) else (zok (0 : Int32) (some ((0 : Int32), t, a)))))))
def gX8_isTold (nF : Nat) : Nat → (Int32 → Int32 → sT → sA → Rs)
  | 0 => (fun _ _ _ _ => none)
  | n9 + 1 => (gX8_isTold_17 nF (gX8_isTold nF n9))
def fX8_isTold (nF : Nat) (x1 : Int32) (t : sT) (a : sA) : Rs := bnd x1 585 (if (a 62 x1.toNatClampNeg) = (t 3205) then ((gX8_isTold nF nF) x1 (0 : Int32) t a) else (zok (0 : Int32) (some ((0 : Int32), t, a))))
set_option maxRecDepth 100000 in
set_option maxHeartbeats 4000000 in
theorem hX8_isTold {p : Program} {l : Launch} {e : Env} {s : State} {m : MethodId} {args : Array Value} {below : List Frame} {meth : Method} {c : Code} {x : Cx} {N : Nat} {u0 v0 : Option Nat} {nF : Nat} (F : Fx p s m meth c cX8_isTold 3 RX8 (some .boolean) x) (hsz : s.heap.size = cz x + N) (hN : 653 ≤ N) {rv : Int32} {rt : sT} {ra : sA} : ∀ n9 : Nat, (∀ (x1 x2 : Int32) (t : sT) (a : sA), (gX8_isTold nF n9) x1 x2 t a = some (rv, rt, ra) → J p l e (k2_rm 0 0) s m args below meth c x N (rho u0 v0) 3 0 0 (MQ below (PostI x N (rho u0 v0) rt ra rv) args s 0 0 (cA x)) 17 [(0, .ref (cz x + 50)), (1, .int x1), (2, .int x2)] [] t a) := by
  intro n9
  induction n9 with
  | zero => exact fun _ _ _ _ h => (by cases h)
  | succ n9 ih =>
    intro x1 x2 t a h
    have h : gX8_isTold_17 nF (gX8_isTold nF n9) x1 x2 t a = some (rv, rt, ra) := h
    unfold gX8_isTold_17 at h
    refine j_iload_n F 2 dX8_isTold_17 rfl rfl ?_
    refine j_aload_n F 0 dX8_isTold_18 rfl rfl ?_
    refine j_getI F clX8 (j := 5) (tt := 3205) (lt653 rfl hN) ly50 (Nat.le_of_ble_eq_true rfl) rfl qf_X8_218 rfl dX8_isTold_19 ?_
    refine j_icmp_ge F 50 dX8_isTold_22 rfl h (fun h => ?_) (fun h => ?_)
    · refine j_iconst F dX8_isTold_50 cI_1 ?_
      exact j_zreturn F rfl dX8_isTold_51 h
    · refine j_aload_n F 0 dX8_isTold_25 rfl rfl ?_
      refine j_getR F clX8 (j := 24) (lt653 rfl hN) ly50 (Nat.le_of_ble_eq_true rfl) rfl qf_X8_48 rfl dX8_isTold_26 ?_
      refine j_iload_n F 1 dX8_isTold_29 rfl rfl ?_
      refine j_aald F (lt653 rfl hN) ly63 rh63 dX8_isTold_30 h (fun hr1 h => ?_)
      refine j_iload_n F 2 dX8_isTold_31 rfl rfl ?_
      refine j_iald F (rowlt hr1 hN) (lyRow hr1) dX8_isTold_32 h (fun h => ?_)
      refine j_aload_n F 0 dX8_isTold_33 rfl rfl ?_
      refine j_getR F clX8 (j := 4) (lt653 rfl hN) ly50 (Nat.le_of_ble_eq_true rfl) rfl qf_X8_16 rfl dX8_isTold_34 ?_
      refine j_iload_n F 2 dX8_isTold_37 rfl rfl ?_
      refine j_iald F (lt653 rfl hN) ly53 dX8_isTold_38 h (fun h => ?_)
      refine j_icmp_eq F 44 dX8_isTold_39 rfl h (fun h => ?_) (fun h => ?_)
      · refine j_iinc F (v := x2 + (1 : Int32)) (lv' := [(2, .int (x2 + (1 : Int32))), (0, .ref (cz x + 50)), (1, .int x1)]) dX8_isTold_44 2 rfl (congrArg (fun z => x2 + z) cI_1) (Nat.le_of_ble_eq_true rfl) rfl ?_
        refine j_goto F 17 dX8_isTold_47 rfl ?_
        exact j_lv [1, 2, 0] rfl (ih _ _ _ _ h)
      · refine j_iconst F dX8_isTold_42 cI_0 ?_
        exact j_zreturn F rfl dX8_isTold_43 h
set_option maxRecDepth 100000 in
set_option maxHeartbeats 4000000 in
theorem kX8_isTold (l : Launch) {x : Cx} {N : Nat} {u0 v0 : Option Nat} {nF : Nat} {x1 : Int32} {t : sT} {a : sA} {rv : Int32} {rt : sT} {ra : sA} (hN : 653 ≤ N) (h : fX8_isTold nF x1 t a = some (rv, rt, ra)) : Met l yX8_isTold [.code yX8_isTold cX8_isTold 3 (some .boolean)] (k2_rm 0 0) (Pre x N (rho u0 v0) t a [.ref (cz x + 50), .int x1]) (PostI x N (rho u0 v0) rt ra rv) 0 0 (cA x) := by
  refine j_entry (by decide) rfl (Nat.le_of_ble_eq_true rfl) ?_
  intro p e s m below meth c F hsz hnm
  have F : Fx p s m meth c cX8_isTold 3 RX8 (some .boolean) x := F
  unfold fX8_isTold at h
  show J p l e _ s m _ below meth c x N (rho u0 v0) 3 0 0 _ 0 [(0, .ref (cz x + 50)), (1, .int x1)] [] t a
  refine j_aload_n F 0 dX8_isTold_0 rfl rfl ?_
  refine j_getR F clX8 (j := 23) (lt653 rfl hN) ly50 (Nat.le_of_ble_eq_true rfl) rfl qf_X8_43 rfl dX8_isTold_1 ?_
  refine j_iload_n F 1 dX8_isTold_4 rfl rfl ?_
  refine j_iald F (lt653 rfl hN) ly62 dX8_isTold_5 h (fun h => ?_)
  refine j_aload_n F 0 dX8_isTold_6 rfl rfl ?_
  refine j_getI F clX8 (j := 5) (tt := 3205) (lt653 rfl hN) ly50 (Nat.le_of_ble_eq_true rfl) rfl qf_X8_218 rfl dX8_isTold_7 ?_
  refine j_icmp_eq F 15 dX8_isTold_10 rfl h (fun h => ?_) (fun h => ?_)
  · refine j_iconst F dX8_isTold_15 cI_0 ?_
    refine j_istore_n F (lv' := [(2, .int (0 : Int32)), (0, .ref (cz x + 50)), (1, .int x1)]) dX8_isTold_16 rfl (Nat.le_of_ble_eq_true rfl) rfl ?_
    exact j_lv [1, 2, 0] rfl ((hX8_isTold F hsz hN nF) _ _ _ _ h)
  · refine j_iconst F dX8_isTold_13 cI_0 ?_
    exact j_zreturn F rfl dX8_isTold_14 h
def fX8_isWord (nF : Nat) (x1 : Int32) (t : sT) (a : sA) : Rs := cal (fX8_in nF x1 (0 : Int32) ((t 3207) - (1 : Int32)) t a) (fun v1 t1 a1 => zok v1 (some (v1, t1, a1)))
set_option maxRecDepth 100000 in
set_option maxHeartbeats 4000000 in
theorem kX8_isWord (l : Launch) {x : Cx} {N : Nat} {u0 v0 : Option Nat} {nF : Nat} {x1 : Int32} {t : sT} {a : sA} {rv : Int32} {rt : sT} {ra : sA} (hN : 653 ≤ N) (h : fX8_isWord nF x1 t a = some (rv, rt, ra)) : Met l yX8_isWord [.code yX8_isWord cX8_isWord 2 (some .boolean)] (k2_rm 1 22) (Pre x N (rho u0 v0) t a [.ref (cz x + 50), .int x1]) (PostI x N (rho u0 v0) rt ra rv) 0 0 (cA x) := by
  refine j_entry (by decide) rfl (Nat.le_of_ble_eq_true rfl) ?_
  intro p e s m below meth c F hsz hnm
  have F : Fx p s m meth c cX8_isWord 2 RX8 (some .boolean) x := F
  unfold fX8_isWord at h
  show J p l e _ s m _ below meth c x N (rho u0 v0) 2 0 0 _ 0 [(0, .ref (cz x + 50)), (1, .int x1)] [] t a
  refine j_iload_n F 1 dX8_isWord_0 rfl rfl ?_
  refine j_iconst F dX8_isWord_1 cI_0 ?_
  refine j_aload_n F 0 dX8_isWord_2 rfl rfl ?_
  refine j_getI F clX8 (j := 7) (tt := 3207) (lt653 rfl hN) ly50 (Nat.le_of_ble_eq_true rfl) rfl qf_X8_67 rfl dX8_isWord_3 ?_
  refine j_iconst F dX8_isWord_6 cI_1 ?_
  refine j_isub F dX8_isWord_7 ?_
  refine j_callSi F mwX8_in ql_X8_63 [.int x1, .int (0 : Int32), .int ((t 3207) - (1 : Int32))] rfl ⟨rfl, rfl, Nat.le_of_ble_eq_true rfl, Nat.le_of_ble_eq_true rfl⟩ ⟨Nat.le_refl 0, Nat.le_refl 0⟩ rfl (Nat.le_of_ble_eq_true rfl) dX8_isWord_8 (fun _ _ _ h9 => kX8_in l hN  h9) h (fun v1 t1 a1 e1 h => ?_)
  exact j_zreturn F rfl dX8_isWord_11 h
def gX8_known_6 (nF : Nat) (r6 : Int32 → Int32 → sT → sA → Rs) (x1 x2 : Int32) (t : sT) (a : sA) : Rs := if (t 3215) ≤ x2 then (some (x1, t, a)) else (bnd x2 12 (r6 (x1 &&& (a 60 x2.toNatClampNeg)) (x2 + (2 : Int32)) t a))
def gX8_known (nF : Nat) : Nat → (Int32 → Int32 → sT → sA → Rs)
  | 0 => (fun _ _ _ _ => none)
  | n9 + 1 => (gX8_known_6 nF (gX8_known nF n9))
def fX8_known (nF : Nat) (t : sT) (a : sA) : Rs := (gX8_known nF nF) (255 : Int32) (1 : Int32) t a
set_option maxRecDepth 100000 in
set_option maxHeartbeats 4000000 in
theorem hX8_known {p : Program} {l : Launch} {e : Env} {s : State} {m : MethodId} {args : Array Value} {below : List Frame} {meth : Method} {c : Code} {x : Cx} {N : Nat} {u0 v0 : Option Nat} {nF : Nat} (F : Fx p s m meth c cX8_known 3 RX8 (some .int) x) (hsz : s.heap.size = cz x + N) (hN : 653 ≤ N) {rv : Int32} {rt : sT} {ra : sA} : ∀ n9 : Nat, (∀ (x1 x2 : Int32) (t : sT) (a : sA), (gX8_known nF n9) x1 x2 t a = some (rv, rt, ra) → J p l e (k2_rm 0 0) s m args below meth c x N (rho u0 v0) 3 0 0 (MQ below (PostI x N (rho u0 v0) rt ra rv) args s 0 0 (cA x)) 6 [(0, .ref (cz x + 50)), (1, .int x1), (2, .int x2)] [] t a) := by
  intro n9
  induction n9 with
  | zero => exact fun _ _ _ _ h => (by cases h)
  | succ n9 ih =>
    intro x1 x2 t a h
    have h : gX8_known_6 nF (gX8_known nF n9) x1 x2 t a = some (rv, rt, ra) := h
    unfold gX8_known_6 at h
    refine j_iload_n F 2 dX8_known_6 rfl rfl ?_
    refine j_aload_n F 0 dX8_known_7 rfl rfl ?_
    refine j_getI F clX8 (j := 15) (tt := 3215) (lt653 rfl hN) ly50 (Nat.le_of_ble_eq_true rfl) rfl qf_X8_230 rfl dX8_known_8 ?_
    refine j_icmp_ge F 29 dX8_known_11 rfl h (fun h => ?_) (fun h => ?_)
    · refine j_iload_n F 1 dX8_known_29 rfl rfl ?_
      exact j_ireturn F rfl dX8_known_30 h
    · refine j_iload_n F 1 dX8_known_14 rfl rfl ?_
      refine j_aload_n F 0 dX8_known_15 rfl rfl ?_
      refine j_getR F clX8 (j := 17) (lt653 rfl hN) ly50 (Nat.le_of_ble_eq_true rfl) rfl qf_X8_37 rfl dX8_known_16 ?_
      refine j_iload_n F 2 dX8_known_19 rfl rfl ?_
      refine j_iald F (lt653 rfl hN) ly60 dX8_known_20 h (fun h => ?_)
      refine j_iand F dX8_known_21 ?_
      refine j_istore_n F (lv' := [(1, .int (x1 &&& (a 60 x2.toNatClampNeg))), (0, .ref (cz x + 50)), (2, .int x2)]) dX8_known_22 rfl (Nat.le_of_ble_eq_true rfl) rfl ?_
      refine j_iinc F (v := x2 + (2 : Int32)) (lv' := [(2, .int (x2 + (2 : Int32))), (1, .int (x1 &&& (a 60 x2.toNatClampNeg))), (0, .ref (cz x + 50))]) dX8_known_23 2 rfl (congrArg (fun z => x2 + z) cI_2) (Nat.le_of_ble_eq_true rfl) rfl ?_
      refine j_goto F 6 dX8_known_26 rfl ?_
      exact j_lv [2, 1, 0] rfl (ih _ _ _ _ h)
set_option maxRecDepth 100000 in
set_option maxHeartbeats 4000000 in
theorem kX8_known (l : Launch) {x : Cx} {N : Nat} {u0 v0 : Option Nat} {nF : Nat} {t : sT} {a : sA} {rv : Int32} {rt : sT} {ra : sA} (hN : 653 ≤ N) (h : fX8_known nF t a = some (rv, rt, ra)) : Met l yX8_known [.code yX8_known cX8_known 3 (some .int)] (k2_rm 0 0) (Pre x N (rho u0 v0) t a [.ref (cz x + 50)]) (PostI x N (rho u0 v0) rt ra rv) 0 0 (cA x) := by
  refine j_entry (by decide) rfl (Nat.le_of_ble_eq_true rfl) ?_
  intro p e s m below meth c F hsz hnm
  have F : Fx p s m meth c cX8_known 3 RX8 (some .int) x := F
  unfold fX8_known at h
  show J p l e _ s m _ below meth c x N (rho u0 v0) 3 0 0 _ 0 [(0, .ref (cz x + 50))] [] t a
  refine j_sipush F dX8_known_0 cS_255 ?_
  refine j_istore_n F (lv' := [(1, .int (255 : Int32)), (0, .ref (cz x + 50))]) dX8_known_3 rfl (Nat.le_of_ble_eq_true rfl) rfl ?_
  refine j_iconst F dX8_known_4 cI_1 ?_
  refine j_istore_n F (lv' := [(2, .int (1 : Int32)), (1, .int (255 : Int32)), (0, .ref (cz x + 50))]) dX8_known_5 rfl (Nat.le_of_ble_eq_true rfl) rfl ?_
  exact j_lv [2, 1, 0] rfl ((hX8_known F hsz hN nF) _ _ _ _ h)
def fX8_mayFollow (nF : Nat) (x0 : Int32) (x1 : Int32) (x2 : Int32) (x3 : Int32) (x4 : Int32) (t : sT) (a : sA) : Rs := if x0 = (0 : Int32) then (if x3 ≤ x1 then (zok (0 : Int32) (some ((0 : Int32), t, a))) else (zok (1 : Int32) (some ((1 : Int32), t, a)))) else (if x0 = (1 : Int32) then (if x3 < x1 then (zok (0 : Int32) (some ((0 : Int32), t, a))) else (zok (1 : Int32) (some ((1 : Int32), t, a)))) else (if x0 = (2 : Int32) then (if (x3 - x4) ≤ (x1 - x2) then (zok (0 : Int32) (some ((0 : Int32), t, a))) else (zok (1 : Int32) (some ((1 : Int32), t, a)))) else (if x0 = (3 : Int32) then (if x1 = (x3 + (1 : Int32)) then (zok (1 : Int32) (some ((1 : Int32), t, a))) else (zok (0 : Int32) (some ((0 : Int32), t, a)))) else (zok (1 : Int32) (some ((1 : Int32), t, a))))))
set_option maxRecDepth 100000 in
set_option maxHeartbeats 4000000 in
theorem kX8_mayFollow (l : Launch) {x : Cx} {N : Nat} {u0 v0 : Option Nat} {nF : Nat} {x0 : Int32} {x1 : Int32} {x2 : Int32} {x3 : Int32} {x4 : Int32} {t : sT} {a : sA} {rv : Int32} {rt : sT} {ra : sA} (hN : 653 ≤ N) (h : fX8_mayFollow nF x0 x1 x2 x3 x4 t a = some (rv, rt, ra)) : Met l yX8_mayFollow [.code yX8_mayFollow cX8_mayFollow 5 (some .boolean)] (k2_rm 0 0) (Pre x N (rho u0 v0) t a [.int x0, .int x1, .int x2, .int x3, .int x4]) (PostI x N (rho u0 v0) rt ra rv) 0 0 (cA x) := by
  refine j_entry (by decide) rfl (Nat.le_of_ble_eq_true rfl) ?_
  intro p e s m below meth c F hsz hnm
  have F : Fx p s m meth c cX8_mayFollow 5 RX8 (some .boolean) x := F
  unfold fX8_mayFollow at h
  show J p l e _ s m _ below meth c x N (rho u0 v0) 5 0 0 _ 0 [(0, .int x0), (1, .int x1), (2, .int x2), (3, .int x3), (4, .int x4)] [] t a
  refine j_iload_n F 0 dX8_mayFollow_0 rfl rfl ?_
  refine ifE h (fun e1_0 h => ?_) (fun e1_0 h => ?_)
  · refine j_tsI F 32 dX8_mayFollow_1 e1_0 (by decide) (by decide) rfl rfl ?_
    refine j_iload_n F 1 dX8_mayFollow_32 rfl rfl ?_
    refine j_iload_n F 3 dX8_mayFollow_33 rfl rfl ?_
    refine j_icmp_ge F 41 dX8_mayFollow_34 rfl h (fun h => ?_) (fun h => ?_)
    · refine j_iconst F dX8_mayFollow_41 cI_0 ?_
      exact j_zreturn F rfl dX8_mayFollow_42 h
    · refine j_iconst F dX8_mayFollow_37 cI_1 ?_
      refine j_goto F 42 dX8_mayFollow_38 rfl ?_
      exact j_zreturn F rfl dX8_mayFollow_42 h
  · refine ifE h (fun e1_1 h => ?_) (fun e1_1 h => ?_)
    · refine j_tsI F 43 dX8_mayFollow_1 e1_1 (by decide) (by decide) rfl rfl ?_
      refine j_iload_n F 1 dX8_mayFollow_43 rfl rfl ?_
      refine j_iload_n F 3 dX8_mayFollow_44 rfl rfl ?_
      refine j_icmp_gt F 52 dX8_mayFollow_45 rfl h (fun h => ?_) (fun h => ?_)
      · refine j_iconst F dX8_mayFollow_52 cI_0 ?_
        exact j_zreturn F rfl dX8_mayFollow_53 h
      · refine j_iconst F dX8_mayFollow_48 cI_1 ?_
        refine j_goto F 53 dX8_mayFollow_49 rfl ?_
        exact j_zreturn F rfl dX8_mayFollow_53 h
    · refine ifE h (fun e1_2 h => ?_) (fun e1_2 h => ?_)
      · refine j_tsI F 54 dX8_mayFollow_1 e1_2 (by decide) (by decide) rfl rfl ?_
        refine j_iload_n F 1 dX8_mayFollow_54 rfl rfl ?_
        refine j_iload_n F 2 dX8_mayFollow_55 rfl rfl ?_
        refine j_isub F dX8_mayFollow_56 ?_
        refine j_iload_n F 3 dX8_mayFollow_57 rfl rfl ?_
        refine j_iload F 4 dX8_mayFollow_58 rfl ?_
        refine j_isub F dX8_mayFollow_60 ?_
        refine j_icmp_ge F 68 dX8_mayFollow_61 rfl h (fun h => ?_) (fun h => ?_)
        · refine j_iconst F dX8_mayFollow_68 cI_0 ?_
          exact j_zreturn F rfl dX8_mayFollow_69 h
        · refine j_iconst F dX8_mayFollow_64 cI_1 ?_
          refine j_goto F 69 dX8_mayFollow_65 rfl ?_
          exact j_zreturn F rfl dX8_mayFollow_69 h
      · refine ifE h (fun e1_3 h => ?_) (fun e1_3 h => ?_)
        · refine j_tsI F 70 dX8_mayFollow_1 e1_3 (by decide) (by decide) rfl rfl ?_
          refine j_iload_n F 1 dX8_mayFollow_70 rfl rfl ?_
          refine j_iload_n F 3 dX8_mayFollow_71 rfl rfl ?_
          refine j_iconst F dX8_mayFollow_72 cI_1 ?_
          refine j_iadd F dX8_mayFollow_73 ?_
          refine j_icmp_ne F 81 dX8_mayFollow_74 rfl h (fun h => ?_) (fun h => ?_)
          · refine j_iconst F dX8_mayFollow_77 cI_1 ?_
            refine j_goto F 82 dX8_mayFollow_78 rfl ?_
            exact j_zreturn F rfl dX8_mayFollow_82 h
          · refine j_iconst F dX8_mayFollow_81 cI_0 ?_
            exact j_zreturn F rfl dX8_mayFollow_82 h
        · refine j_tsD F 83 dX8_mayFollow_1 rfl (fun i hi => ?_) rfl ?_
          · have hi : i < 4 := hi
            have hi : i = 0 ∨ i = 1 ∨ i = 2 ∨ i = 3 := by omega
            rcases hi with rfl | rfl | rfl | rfl
            · exact Or.inr (by have h9 := lv_neT (a := 0) e1_0 rfl; omega)
            · exact Or.inr (by have h9 := lv_neT (a := 1) e1_1 rfl; omega)
            · exact Or.inr (by have h9 := lv_neT (a := 2) e1_2 rfl; omega)
            · exact Or.inr (by have h9 := lv_neT (a := 3) e1_3 rfl; omega)
          refine j_iconst F dX8_mayFollow_83 cI_1 ?_
          exact j_zreturn F rfl dX8_mayFollow_84 h
def gX8_meaning_16 (nF : Nat) (k1 n1 : Nat) (r16 : Int32 → Int32 → Int32 → Int32 → Int32 → Int32 → sT → sA → Rs) (r49 : Int32 → Int32 → Int32 → Int32 → Int32 → Int32 → Int32 → sT → sA → Rs) (r70 : Int32 → Int32 → Int32 → Int32 → Int32 → Int32 → Int32 → sT → sA → Rs) (r110 : Int32 → Int32 → Int32 → Int32 → Int32 → Int32 → sT → sA → Rs) (x2 x3 x4 x5 x6 x7 : Int32) (t : sT) (a : sA) : Rs := if x2 ≤ x7 then (some (x3, t, a)) else (bnd x7 n1 (bnd (a k1 x7.toNatClampNeg) 8 (if (a 55 (a k1 x7.toNatClampNeg).toNatClampNeg) = (1 : Int32) then (r49 x2 x3 (x4 ^^^ (1 : Int32)) x5 x6 x7 (a k1 x7.toNatClampNeg) t a) else (r49 x2 x3 (x4 ^^^ (0 : Int32)) x5 x6 x7 (a k1 x7.toNatClampNeg) t a))))
def gX8_meaning_49 (nF : Nat) (k1 n1 : Nat) (r16 : Int32 → Int32 → Int32 → Int32 → Int32 → Int32 → sT → sA → Rs) (r49 : Int32 → Int32 → Int32 → Int32 → Int32 → Int32 → Int32 → sT → sA → Rs) (r70 : Int32 → Int32 → Int32 → Int32 → Int32 → Int32 → Int32 → sT → sA → Rs) (r110 : Int32 → Int32 → Int32 → Int32 → Int32 → Int32 → sT → sA → Rs) (x2 x3 x4 x5 x6 x7 x8 : Int32) (t : sT) (a : sA) : Rs := bnd x8 8 (if (a 55 x8.toNatClampNeg) = (2 : Int32) then (r70 x2 x3 x4 (x5 ||| (1 : Int32)) x6 x7 x8 t a) else (r70 x2 x3 x4 (x5 ||| (0 : Int32)) x6 x7 x8 t a))
def gX8_meaning_70 (nF : Nat) (k1 n1 : Nat) (r16 : Int32 → Int32 → Int32 → Int32 → Int32 → Int32 → sT → sA → Rs) (r49 : Int32 → Int32 → Int32 → Int32 → Int32 → Int32 → Int32 → sT → sA → Rs) (r70 : Int32 → Int32 → Int32 → Int32 → Int32 → Int32 → Int32 → sT → sA → Rs) (r110 : Int32 → Int32 → Int32 → Int32 → Int32 → Int32 → sT → sA → Rs) (x2 x3 x4 x5 x6 x7 x8 : Int32) (t : sT) (a : sA) : Rs := bnd x8 8 (if (a 55 x8.toNatClampNeg) = 0 then (if x4 = 0 then (bnd x8 8 (r110 x2 x3 x5 x6 x7 (a 56 x8.toNatClampNeg) t a)) else (bnd x8 8 (r110 x2 x3 x5 x6 x7 ((255 : Int32) &&& ((a 56 x8.toNatClampNeg) ^^^ (-1 : Int32))) t a))) else (r16 x2 x3 x4 x5 x6 (x7 + (1 : Int32)) t a))
def gX8_meaning_110 (nF : Nat) (k1 n1 : Nat) (r16 : Int32 → Int32 → Int32 → Int32 → Int32 → Int32 → sT → sA → Rs) (r49 : Int32 → Int32 → Int32 → Int32 → Int32 → Int32 → Int32 → sT → sA → Rs) (r70 : Int32 → Int32 → Int32 → Int32 → Int32 → Int32 → Int32 → sT → sA → Rs) (r110 : Int32 → Int32 → Int32 → Int32 → Int32 → Int32 → sT → sA → Rs) (x2 x3 x5 x6 x7 x9 : Int32) (t : sT) (a : sA) : Rs := if x5 = 0 then (r16 x2 (x3 &&& x9) (0 : Int32) (0 : Int32) (0 : Int32) (x7 + (1 : Int32)) t a) else (if x6 = 0 then (r16 x2 (x3 ||| x9) (0 : Int32) (0 : Int32) (0 : Int32) (x7 + (1 : Int32)) t a) else (r16 x2 (x3 &&& x9) (0 : Int32) (0 : Int32) (0 : Int32) (x7 + (1 : Int32)) t a))
def gX8_meaning (nF : Nat) (k1 n1 : Nat) : Nat → (Int32 → Int32 → Int32 → Int32 → Int32 → Int32 → sT → sA → Rs) × (Int32 → Int32 → Int32 → Int32 → Int32 → Int32 → Int32 → sT → sA → Rs) × (Int32 → Int32 → Int32 → Int32 → Int32 → Int32 → Int32 → sT → sA → Rs) × (Int32 → Int32 → Int32 → Int32 → Int32 → Int32 → sT → sA → Rs)
  | 0 => (fun _ _ _ _ _ _ _ _ => none, fun _ _ _ _ _ _ _ _ _ => none, fun _ _ _ _ _ _ _ _ _ => none, fun _ _ _ _ _ _ _ _ => none)
  | n9 + 1 => (gX8_meaning_16 nF k1 n1 ((gX8_meaning nF k1 n1 n9).1) ((gX8_meaning nF k1 n1 n9).2.1) ((gX8_meaning nF k1 n1 n9).2.2.1) ((gX8_meaning nF k1 n1 n9).2.2.2), gX8_meaning_49 nF k1 n1 ((gX8_meaning nF k1 n1 n9).1) ((gX8_meaning nF k1 n1 n9).2.1) ((gX8_meaning nF k1 n1 n9).2.2.1) ((gX8_meaning nF k1 n1 n9).2.2.2), gX8_meaning_70 nF k1 n1 ((gX8_meaning nF k1 n1 n9).1) ((gX8_meaning nF k1 n1 n9).2.1) ((gX8_meaning nF k1 n1 n9).2.2.1) ((gX8_meaning nF k1 n1 n9).2.2.2), gX8_meaning_110 nF k1 n1 ((gX8_meaning nF k1 n1 n9).1) ((gX8_meaning nF k1 n1 n9).2.1) ((gX8_meaning nF k1 n1 n9).2.2.1) ((gX8_meaning nF k1 n1 n9).2.2.2))
def fX8_meaning (nF : Nat) (k1 n1 : Nat) (x2 : Int32) (t : sT) (a : sA) : Rs := ((gX8_meaning nF k1 n1 nF).1) x2 (255 : Int32) (0 : Int32) (0 : Int32) (1 : Int32) (0 : Int32) t a
set_option maxRecDepth 100000 in
set_option maxHeartbeats 4000000 in
theorem hX8_meaning {p : Program} {l : Launch} {e : Env} {s : State} {m : MethodId} {args : Array Value} {below : List Frame} {meth : Method} {c : Code} {x : Cx} {N : Nat} {u0 v0 : Option Nat} {nF : Nat} {k1 n1 : Nat} (F : Fx p s m meth c cX8_meaning 10 RX8 (some .int) x) (hsz : s.heap.size = cz x + N) (hN : 653 ≤ N) (hk1 : k1 < N) (hl1 : lay k1 = (1, n1)) {rv : Int32} {rt : sT} {ra : sA} : ∀ n9 : Nat, (∀ (x2 x3 x4 x5 x6 x7 : Int32) (t : sT) (a : sA), (gX8_meaning nF k1 n1 n9).1 x2 x3 x4 x5 x6 x7 t a = some (rv, rt, ra) → J p l e (k2_rm 0 0) s m args below meth c x N (rho u0 v0) 10 0 0 (MQ below (PostI x N (rho u0 v0) rt ra rv) args s 0 0 (cA x)) 16 [(0, .ref (cz x + 50)), (1, .ref (cz x + k1)), (2, .int x2), (3, .int x3), (4, .int x4), (5, .int x5), (6, .int x6), (7, .int x7)] [] t a) ∧ (∀ (x2 x3 x4 x5 x6 x7 x8 : Int32) (t : sT) (a : sA), (gX8_meaning nF k1 n1 n9).2.1 x2 x3 x4 x5 x6 x7 x8 t a = some (rv, rt, ra) → J p l e (k2_rm 0 0) s m args below meth c x N (rho u0 v0) 10 0 0 (MQ below (PostI x N (rho u0 v0) rt ra rv) args s 0 0 (cA x)) 49 [(0, .ref (cz x + 50)), (1, .ref (cz x + k1)), (2, .int x2), (3, .int x3), (4, .int x4), (5, .int x5), (6, .int x6), (7, .int x7), (8, .int x8)] [] t a) ∧ (∀ (x2 x3 x4 x5 x6 x7 x8 : Int32) (t : sT) (a : sA), (gX8_meaning nF k1 n1 n9).2.2.1 x2 x3 x4 x5 x6 x7 x8 t a = some (rv, rt, ra) → J p l e (k2_rm 0 0) s m args below meth c x N (rho u0 v0) 10 0 0 (MQ below (PostI x N (rho u0 v0) rt ra rv) args s 0 0 (cA x)) 70 [(0, .ref (cz x + 50)), (1, .ref (cz x + k1)), (2, .int x2), (3, .int x3), (4, .int x4), (5, .int x5), (6, .int x6), (7, .int x7), (8, .int x8)] [] t a) ∧ (∀ (x2 x3 x5 x6 x7 x9 : Int32) (t : sT) (a : sA), (gX8_meaning nF k1 n1 n9).2.2.2 x2 x3 x5 x6 x7 x9 t a = some (rv, rt, ra) → J p l e (k2_rm 0 0) s m args below meth c x N (rho u0 v0) 10 0 0 (MQ below (PostI x N (rho u0 v0) rt ra rv) args s 0 0 (cA x)) 110 [(0, .ref (cz x + 50)), (1, .ref (cz x + k1)), (2, .int x2), (3, .int x3), (5, .int x5), (6, .int x6), (7, .int x7), (9, .int x9)] [] t a) := by
  intro n9
  induction n9 with
  | zero => exact ⟨fun _ _ _ _ _ _ _ _ h => (by cases h), fun _ _ _ _ _ _ _ _ _ h => (by cases h), fun _ _ _ _ _ _ _ _ _ h => (by cases h), fun _ _ _ _ _ _ _ _ h => (by cases h)⟩
  | succ n9 ih =>
    refine ⟨?_, ?_, ?_, ?_⟩
    · intro x2 x3 x4 x5 x6 x7 t a h
      have h : gX8_meaning_16 nF k1 n1 ((gX8_meaning nF k1 n1 n9).1) ((gX8_meaning nF k1 n1 n9).2.1) ((gX8_meaning nF k1 n1 n9).2.2.1) ((gX8_meaning nF k1 n1 n9).2.2.2) x2 x3 x4 x5 x6 x7 t a = some (rv, rt, ra) := h
      unfold gX8_meaning_16 at h
      refine j_iload F 7 dX8_meaning_16 rfl ?_
      refine j_iload_n F 2 dX8_meaning_18 rfl rfl ?_
      refine j_icmp_ge F 147 dX8_meaning_19 rfl h (fun h => ?_) (fun h => ?_)
      · refine j_iload_n F 3 dX8_meaning_147 rfl rfl ?_
        exact j_ireturn F rfl dX8_meaning_148 h
      · refine j_aload_n F 1 dX8_meaning_22 rfl rfl ?_
        refine j_iload F 7 dX8_meaning_23 rfl ?_
        refine j_iald F hk1 hl1 dX8_meaning_25 h (fun h => ?_)
        refine j_istore F (k := 0) (lv' := [(8, .int (a k1 x7.toNatClampNeg)), (0, .ref (cz x + 50)), (1, .ref (cz x + k1)), (2, .int x2), (3, .int x3), (4, .int x4), (5, .int x5), (6, .int x6), (7, .int x7)]) dX8_meaning_26 (Nat.le_of_ble_eq_true rfl) rfl ?_
        refine j_iload F 5 dX8_meaning_28 rfl ?_
        refine j_aload_n F 1 dX8_meaning_30 rfl rfl ?_
        refine j_getR F clX8 (j := 8) (lt653 rfl hN) ly50 (Nat.le_of_ble_eq_true rfl) rfl qf_X8_22 rfl dX8_meaning_31 ?_
        refine j_iload F 0 dX8_meaning_34 rfl ?_
        refine j_iald F (lt653 rfl hN) ly55 dX8_meaning_36 h (fun h => ?_)
        refine j_iconst F dX8_meaning_37 cI_1 ?_
        refine j_icmp_ne F 45 dX8_meaning_38 rfl h (fun h => ?_) (fun h => ?_)
        · refine j_iconst F dX8_meaning_41 cI_1 ?_
          refine j_goto F 46 dX8_meaning_42 rfl ?_
          refine j_ixor F dX8_meaning_46 ?_
          refine j_istore F (k := 0) (lv' := [(4, .int (x4 ^^^ (1 : Int32))), (8, .int (a k1 x7.toNatClampNeg)), (0, .ref (cz x + 50)), (1, .ref (cz x + k1)), (2, .int x2), (3, .int x3), (5, .int x5), (6, .int x6), (7, .int x7)]) dX8_meaning_47 (Nat.le_of_ble_eq_true rfl) rfl ?_
          exact j_lv [2, 3, 4, 5, 0, 6, 7, 8, 1] rfl (ih.2.1 _ _ _ _ _ _ _ _ _ h)
        · refine j_iconst F dX8_meaning_45 cI_0 ?_
          refine j_ixor F dX8_meaning_46 ?_
          refine j_istore F (k := 0) (lv' := [(4, .int (x4 ^^^ (0 : Int32))), (8, .int (a k1 x7.toNatClampNeg)), (0, .ref (cz x + 50)), (1, .ref (cz x + k1)), (2, .int x2), (3, .int x3), (5, .int x5), (6, .int x6), (7, .int x7)]) dX8_meaning_47 (Nat.le_of_ble_eq_true rfl) rfl ?_
          exact j_lv [2, 3, 4, 5, 0, 6, 7, 8, 1] rfl (ih.2.1 _ _ _ _ _ _ _ _ _ h)
    · intro x2 x3 x4 x5 x6 x7 x8 t a h
      have h : gX8_meaning_49 nF k1 n1 ((gX8_meaning nF k1 n1 n9).1) ((gX8_meaning nF k1 n1 n9).2.1) ((gX8_meaning nF k1 n1 n9).2.2.1) ((gX8_meaning nF k1 n1 n9).2.2.2) x2 x3 x4 x5 x6 x7 x8 t a = some (rv, rt, ra) := h
      unfold gX8_meaning_49 at h
      refine j_iload F 5 dX8_meaning_49 rfl ?_
      refine j_aload_n F 0 dX8_meaning_51 rfl rfl ?_
      refine j_getR F clX8 (j := 8) (lt653 rfl hN) ly50 (Nat.le_of_ble_eq_true rfl) rfl qf_X8_22 rfl dX8_meaning_52 ?_
      refine j_iload F 8 dX8_meaning_55 rfl ?_
      refine j_iald F (lt653 rfl hN) ly55 dX8_meaning_57 h (fun h => ?_)
      refine j_iconst F dX8_meaning_58 cI_2 ?_
      refine j_icmp_ne F 66 dX8_meaning_59 rfl h (fun h => ?_) (fun h => ?_)
      · refine j_iconst F dX8_meaning_62 cI_1 ?_
        refine j_goto F 67 dX8_meaning_63 rfl ?_
        refine j_ior F dX8_meaning_67 ?_
        refine j_istore F (k := 0) (lv' := [(5, .int (x5 ||| (1 : Int32))), (0, .ref (cz x + 50)), (1, .ref (cz x + k1)), (2, .int x2), (3, .int x3), (4, .int x4), (6, .int x6), (7, .int x7), (8, .int x8)]) dX8_meaning_68 (Nat.le_of_ble_eq_true rfl) rfl ?_
        exact j_lv [1, 2, 3, 4, 5, 0, 6, 7, 8] rfl (ih.2.2.1 _ _ _ _ _ _ _ _ _ h)
      · refine j_iconst F dX8_meaning_66 cI_0 ?_
        refine j_ior F dX8_meaning_67 ?_
        refine j_istore F (k := 0) (lv' := [(5, .int (x5 ||| (0 : Int32))), (0, .ref (cz x + 50)), (1, .ref (cz x + k1)), (2, .int x2), (3, .int x3), (4, .int x4), (6, .int x6), (7, .int x7), (8, .int x8)]) dX8_meaning_68 (Nat.le_of_ble_eq_true rfl) rfl ?_
        exact j_lv [1, 2, 3, 4, 5, 0, 6, 7, 8] rfl (ih.2.2.1 _ _ _ _ _ _ _ _ _ h)
    · intro x2 x3 x4 x5 x6 x7 x8 t a h
      have h : gX8_meaning_70 nF k1 n1 ((gX8_meaning nF k1 n1 n9).1) ((gX8_meaning nF k1 n1 n9).2.1) ((gX8_meaning nF k1 n1 n9).2.2.1) ((gX8_meaning nF k1 n1 n9).2.2.2) x2 x3 x4 x5 x6 x7 x8 t a = some (rv, rt, ra) := h
      unfold gX8_meaning_70 at h
      refine j_aload_n F 0 dX8_meaning_70 rfl rfl ?_
      refine j_getR F clX8 (j := 8) (lt653 rfl hN) ly50 (Nat.le_of_ble_eq_true rfl) rfl qf_X8_22 rfl dX8_meaning_71 ?_
      refine j_iload F 8 dX8_meaning_74 rfl ?_
      refine j_iald F (lt653 rfl hN) ly55 dX8_meaning_76 h (fun h => ?_)
      refine j_if_ne F 141 dX8_meaning_77 rfl h (fun h => ?_) (fun h => ?_)
      · refine j_iload F 4 dX8_meaning_80 rfl ?_
        refine j_if_eq F 101 dX8_meaning_82 rfl h (fun h => ?_) (fun h => ?_)
        · refine j_aload_n F 0 dX8_meaning_101 rfl rfl ?_
          refine j_getR F clX8 (j := 9) (lt653 rfl hN) ly50 (Nat.le_of_ble_eq_true rfl) rfl qf_X8_25 rfl dX8_meaning_102 ?_
          refine j_iload F 8 dX8_meaning_105 rfl ?_
          refine j_iald F (lt653 rfl hN) ly56 dX8_meaning_107 h (fun h => ?_)
          refine j_istore F (k := 0) (lv' := [(9, .int (a 56 x8.toNatClampNeg)), (0, .ref (cz x + 50)), (1, .ref (cz x + k1)), (2, .int x2), (3, .int x3), (4, .int x4), (5, .int x5), (6, .int x6), (7, .int x7), (8, .int x8)]) dX8_meaning_108 (Nat.le_of_ble_eq_true rfl) rfl ?_
          exact j_lv [1, 2, 3, 4, 6, 7, 8, 0] rfl (ih.2.2.2 _ _ _ _ _ _ _ _ h)
        · refine j_sipush F dX8_meaning_85 cS_255 ?_
          refine j_aload_n F 0 dX8_meaning_88 rfl rfl ?_
          refine j_getR F clX8 (j := 9) (lt653 rfl hN) ly50 (Nat.le_of_ble_eq_true rfl) rfl qf_X8_25 rfl dX8_meaning_89 ?_
          refine j_iload F 8 dX8_meaning_92 rfl ?_
          refine j_iald F (lt653 rfl hN) ly56 dX8_meaning_94 h (fun h => ?_)
          refine j_iconst F dX8_meaning_95 cI_m1 ?_
          refine j_ixor F dX8_meaning_96 ?_
          refine j_iand F dX8_meaning_97 ?_
          refine j_goto F 108 dX8_meaning_98 rfl ?_
          refine j_istore F (k := 0) (lv' := [(9, .int ((255 : Int32) &&& ((a 56 x8.toNatClampNeg) ^^^ (-1 : Int32)))), (0, .ref (cz x + 50)), (1, .ref (cz x + k1)), (2, .int x2), (3, .int x3), (4, .int x4), (5, .int x5), (6, .int x6), (7, .int x7), (8, .int x8)]) dX8_meaning_108 (Nat.le_of_ble_eq_true rfl) rfl ?_
          exact j_lv [1, 2, 3, 4, 6, 7, 8, 0] rfl (ih.2.2.2 _ _ _ _ _ _ _ _ h)
      · refine j_iinc F (v := x7 + (1 : Int32)) (lv' := [(7, .int (x7 + (1 : Int32))), (0, .ref (cz x + 50)), (1, .ref (cz x + k1)), (2, .int x2), (3, .int x3), (4, .int x4), (5, .int x5), (6, .int x6), (8, .int x8)]) dX8_meaning_141 7 rfl (congrArg (fun z => x7 + z) cI_1) (Nat.le_of_ble_eq_true rfl) rfl ?_
        refine j_goto F 16 dX8_meaning_144 rfl ?_
        exact j_lv [1, 2, 3, 4, 5, 6, 7, 0] rfl (ih.1 _ _ _ _ _ _ _ _ h)
    · intro x2 x3 x5 x6 x7 x9 t a h
      have h : gX8_meaning_110 nF k1 n1 ((gX8_meaning nF k1 n1 n9).1) ((gX8_meaning nF k1 n1 n9).2.1) ((gX8_meaning nF k1 n1 n9).2.2.1) ((gX8_meaning nF k1 n1 n9).2.2.2) x2 x3 x5 x6 x7 x9 t a = some (rv, rt, ra) := h
      unfold gX8_meaning_110 at h
      refine j_iload F 4 dX8_meaning_110 rfl ?_
      refine j_if_eq F 127 dX8_meaning_112 rfl h (fun h => ?_) (fun h => ?_)
      · refine j_iload_n F 3 dX8_meaning_127 rfl rfl ?_
        refine j_iload F 7 dX8_meaning_128 rfl ?_
        refine j_iand F dX8_meaning_130 ?_
        refine j_istore_n F (lv' := [(3, .int (x3 &&& x9)), (0, .ref (cz x + 50)), (1, .ref (cz x + k1)), (2, .int x2), (5, .int x5), (6, .int x6), (7, .int x7), (9, .int x9)]) dX8_meaning_131 rfl (Nat.le_of_ble_eq_true rfl) rfl ?_
        refine j_iconst F dX8_meaning_132 cI_0 ?_
        refine j_istore F (k := 0) (lv' := [(4, .int (0 : Int32)), (3, .int (x3 &&& x9)), (0, .ref (cz x + 50)), (1, .ref (cz x + k1)), (2, .int x2), (5, .int x5), (6, .int x6), (7, .int x7), (9, .int x9)]) dX8_meaning_133 (Nat.le_of_ble_eq_true rfl) rfl ?_
        refine j_iconst F dX8_meaning_135 cI_0 ?_
        refine j_istore F (k := 0) (lv' := [(5, .int (0 : Int32)), (4, .int (0 : Int32)), (3, .int (x3 &&& x9)), (0, .ref (cz x + 50)), (1, .ref (cz x + k1)), (2, .int x2), (6, .int x6), (7, .int x7), (9, .int x9)]) dX8_meaning_136 (Nat.le_of_ble_eq_true rfl) rfl ?_
        refine j_iconst F dX8_meaning_138 cI_0 ?_
        refine j_istore F (k := 0) (lv' := [(6, .int (0 : Int32)), (5, .int (0 : Int32)), (4, .int (0 : Int32)), (3, .int (x3 &&& x9)), (0, .ref (cz x + 50)), (1, .ref (cz x + k1)), (2, .int x2), (7, .int x7), (9, .int x9)]) dX8_meaning_139 (Nat.le_of_ble_eq_true rfl) rfl ?_
        refine j_iinc F (v := x7 + (1 : Int32)) (lv' := [(7, .int (x7 + (1 : Int32))), (6, .int (0 : Int32)), (5, .int (0 : Int32)), (4, .int (0 : Int32)), (3, .int (x3 &&& x9)), (0, .ref (cz x + 50)), (1, .ref (cz x + k1)), (2, .int x2), (9, .int x9)]) dX8_meaning_141 7 rfl (congrArg (fun z => x7 + z) cI_1) (Nat.le_of_ble_eq_true rfl) rfl ?_
        refine j_goto F 16 dX8_meaning_144 rfl ?_
        exact j_lv [5, 6, 7, 4, 3, 2, 1, 0] rfl (ih.1 _ _ _ _ _ _ _ _ h)
      · refine j_iload F 5 dX8_meaning_115 rfl ?_
        refine j_if_ne F 127 dX8_meaning_117 rfl h (fun h => ?_) (fun h => ?_)
        · refine j_iload_n F 3 dX8_meaning_120 rfl rfl ?_
          refine j_iload F 7 dX8_meaning_121 rfl ?_
          refine j_ior F dX8_meaning_123 ?_
          refine j_goto F 131 dX8_meaning_124 rfl ?_
          refine j_istore_n F (lv' := [(3, .int (x3 ||| x9)), (0, .ref (cz x + 50)), (1, .ref (cz x + k1)), (2, .int x2), (5, .int x5), (6, .int x6), (7, .int x7), (9, .int x9)]) dX8_meaning_131 rfl (Nat.le_of_ble_eq_true rfl) rfl ?_
          refine j_iconst F dX8_meaning_132 cI_0 ?_
          refine j_istore F (k := 0) (lv' := [(4, .int (0 : Int32)), (3, .int (x3 ||| x9)), (0, .ref (cz x + 50)), (1, .ref (cz x + k1)), (2, .int x2), (5, .int x5), (6, .int x6), (7, .int x7), (9, .int x9)]) dX8_meaning_133 (Nat.le_of_ble_eq_true rfl) rfl ?_
          refine j_iconst F dX8_meaning_135 cI_0 ?_
          refine j_istore F (k := 0) (lv' := [(5, .int (0 : Int32)), (4, .int (0 : Int32)), (3, .int (x3 ||| x9)), (0, .ref (cz x + 50)), (1, .ref (cz x + k1)), (2, .int x2), (6, .int x6), (7, .int x7), (9, .int x9)]) dX8_meaning_136 (Nat.le_of_ble_eq_true rfl) rfl ?_
          refine j_iconst F dX8_meaning_138 cI_0 ?_
          refine j_istore F (k := 0) (lv' := [(6, .int (0 : Int32)), (5, .int (0 : Int32)), (4, .int (0 : Int32)), (3, .int (x3 ||| x9)), (0, .ref (cz x + 50)), (1, .ref (cz x + k1)), (2, .int x2), (7, .int x7), (9, .int x9)]) dX8_meaning_139 (Nat.le_of_ble_eq_true rfl) rfl ?_
          refine j_iinc F (v := x7 + (1 : Int32)) (lv' := [(7, .int (x7 + (1 : Int32))), (6, .int (0 : Int32)), (5, .int (0 : Int32)), (4, .int (0 : Int32)), (3, .int (x3 ||| x9)), (0, .ref (cz x + 50)), (1, .ref (cz x + k1)), (2, .int x2), (9, .int x9)]) dX8_meaning_141 7 rfl (congrArg (fun z => x7 + z) cI_1) (Nat.le_of_ble_eq_true rfl) rfl ?_
          refine j_goto F 16 dX8_meaning_144 rfl ?_
          exact j_lv [5, 6, 7, 4, 3, 2, 1, 0] rfl (ih.1 _ _ _ _ _ _ _ _ h)
        · refine j_iload_n F 3 dX8_meaning_127 rfl rfl ?_
          refine j_iload F 7 dX8_meaning_128 rfl ?_
          refine j_iand F dX8_meaning_130 ?_
          refine j_istore_n F (lv' := [(3, .int (x3 &&& x9)), (0, .ref (cz x + 50)), (1, .ref (cz x + k1)), (2, .int x2), (5, .int x5), (6, .int x6), (7, .int x7), (9, .int x9)]) dX8_meaning_131 rfl (Nat.le_of_ble_eq_true rfl) rfl ?_
          refine j_iconst F dX8_meaning_132 cI_0 ?_
          refine j_istore F (k := 0) (lv' := [(4, .int (0 : Int32)), (3, .int (x3 &&& x9)), (0, .ref (cz x + 50)), (1, .ref (cz x + k1)), (2, .int x2), (5, .int x5), (6, .int x6), (7, .int x7), (9, .int x9)]) dX8_meaning_133 (Nat.le_of_ble_eq_true rfl) rfl ?_
          refine j_iconst F dX8_meaning_135 cI_0 ?_
          refine j_istore F (k := 0) (lv' := [(5, .int (0 : Int32)), (4, .int (0 : Int32)), (3, .int (x3 &&& x9)), (0, .ref (cz x + 50)), (1, .ref (cz x + k1)), (2, .int x2), (6, .int x6), (7, .int x7), (9, .int x9)]) dX8_meaning_136 (Nat.le_of_ble_eq_true rfl) rfl ?_
          refine j_iconst F dX8_meaning_138 cI_0 ?_
          refine j_istore F (k := 0) (lv' := [(6, .int (0 : Int32)), (5, .int (0 : Int32)), (4, .int (0 : Int32)), (3, .int (x3 &&& x9)), (0, .ref (cz x + 50)), (1, .ref (cz x + k1)), (2, .int x2), (7, .int x7), (9, .int x9)]) dX8_meaning_139 (Nat.le_of_ble_eq_true rfl) rfl ?_
          refine j_iinc F (v := x7 + (1 : Int32)) (lv' := [(7, .int (x7 + (1 : Int32))), (6, .int (0 : Int32)), (5, .int (0 : Int32)), (4, .int (0 : Int32)), (3, .int (x3 &&& x9)), (0, .ref (cz x + 50)), (1, .ref (cz x + k1)), (2, .int x2), (9, .int x9)]) dX8_meaning_141 7 rfl (congrArg (fun z => x7 + z) cI_1) (Nat.le_of_ble_eq_true rfl) rfl ?_
          refine j_goto F 16 dX8_meaning_144 rfl ?_
          exact j_lv [5, 6, 7, 4, 3, 2, 1, 0] rfl (ih.1 _ _ _ _ _ _ _ _ h)
set_option maxRecDepth 100000 in
set_option maxHeartbeats 4000000 in
theorem kX8_meaning (l : Launch) {x : Cx} {N : Nat} {u0 v0 : Option Nat} {nF : Nat} {k1 n1 : Nat} {x2 : Int32} {t : sT} {a : sA} {rv : Int32} {rt : sT} {ra : sA} (hN : 653 ≤ N) (hk1 : k1 < N) (hl1 : lay k1 = (1, n1)) (h : fX8_meaning nF k1 n1 x2 t a = some (rv, rt, ra)) : Met l yX8_meaning [.code yX8_meaning cX8_meaning 10 (some .int)] (k2_rm 0 0) (Pre x N (rho u0 v0) t a [.ref (cz x + 50), .ref (cz x + k1), .int x2]) (PostI x N (rho u0 v0) rt ra rv) 0 0 (cA x) := by
  refine j_entry (by decide) rfl (Nat.le_of_ble_eq_true rfl) ?_
  intro p e s m below meth c F hsz hnm
  have F : Fx p s m meth c cX8_meaning 10 RX8 (some .int) x := F
  unfold fX8_meaning at h
  show J p l e _ s m _ below meth c x N (rho u0 v0) 10 0 0 _ 0 [(0, .ref (cz x + 50)), (1, .ref (cz x + k1)), (2, .int x2)] [] t a
  refine j_sipush F dX8_meaning_0 cS_255 ?_
  refine j_istore_n F (lv' := [(3, .int (255 : Int32)), (0, .ref (cz x + 50)), (1, .ref (cz x + k1)), (2, .int x2)]) dX8_meaning_3 rfl (Nat.le_of_ble_eq_true rfl) rfl ?_
  refine j_iconst F dX8_meaning_4 cI_0 ?_
  refine j_istore F (k := 0) (lv' := [(4, .int (0 : Int32)), (3, .int (255 : Int32)), (0, .ref (cz x + 50)), (1, .ref (cz x + k1)), (2, .int x2)]) dX8_meaning_5 (Nat.le_of_ble_eq_true rfl) rfl ?_
  refine j_iconst F dX8_meaning_7 cI_0 ?_
  refine j_istore F (k := 0) (lv' := [(5, .int (0 : Int32)), (4, .int (0 : Int32)), (3, .int (255 : Int32)), (0, .ref (cz x + 50)), (1, .ref (cz x + k1)), (2, .int x2)]) dX8_meaning_8 (Nat.le_of_ble_eq_true rfl) rfl ?_
  refine j_iconst F dX8_meaning_10 cI_1 ?_
  refine j_istore F (k := 0) (lv' := [(6, .int (1 : Int32)), (5, .int (0 : Int32)), (4, .int (0 : Int32)), (3, .int (255 : Int32)), (0, .ref (cz x + 50)), (1, .ref (cz x + k1)), (2, .int x2)]) dX8_meaning_11 (Nat.le_of_ble_eq_true rfl) rfl ?_
  refine j_iconst F dX8_meaning_13 cI_0 ?_
  refine j_istore F (k := 0) (lv' := [(7, .int (0 : Int32)), (6, .int (1 : Int32)), (5, .int (0 : Int32)), (4, .int (0 : Int32)), (3, .int (255 : Int32)), (0, .ref (cz x + 50)), (1, .ref (cz x + k1)), (2, .int x2)]) dX8_meaning_14 (Nat.le_of_ble_eq_true rfl) rfl ?_
  exact j_lv [5, 6, 7, 4, 3, 2, 1, 0] rfl ((hX8_meaning F hsz hN hk1 hl1 nF).1 _ _ _ _ _ _ _ _ h)
def fX8_means (nF : Nat) (t : sT) (a : sA) : Rs := cal (fX8_meaning nF 52 6 (t 3203) t a) (fun v1 t1 a1 => some (v1, va_up t1 3203 (0 : Int32), a1))
set_option maxRecDepth 100000 in
set_option maxHeartbeats 4000000 in
theorem kX8_means (l : Launch) {x : Cx} {N : Nat} {u0 v0 : Option Nat} {nF : Nat} {t : sT} {a : sA} {rv : Int32} {rt : sT} {ra : sA} (hN : 653 ≤ N) (h : fX8_means nF t a = some (rv, rt, ra)) : Met l yX8_means [.code yX8_means cX8_means 2 (some .int)] (k2_rm 1 29) (Pre x N (rho u0 v0) t a [.ref (cz x + 50)]) (PostI x N (rho u0 v0) rt ra rv) 0 0 (cA x) := by
  refine j_entry (by decide) rfl (Nat.le_of_ble_eq_true rfl) ?_
  intro p e s m below meth c F hsz hnm
  have F : Fx p s m meth c cX8_means 2 RX8 (some .int) x := F
  unfold fX8_means at h
  show J p l e _ s m _ below meth c x N (rho u0 v0) 2 0 0 _ 0 [(0, .ref (cz x + 50))] [] t a
  refine j_aload_n F 0 dX8_means_0 rfl rfl ?_
  refine j_aload_n F 0 dX8_means_1 rfl rfl ?_
  refine j_getR F clX8 (j := 2) (lt653 rfl hN) ly50 (Nat.le_of_ble_eq_true rfl) rfl qf_X8_13 rfl dX8_means_2 ?_
  refine j_aload_n F 0 dX8_means_5 rfl rfl ?_
  refine j_getI F clX8 (j := 3) (tt := 3203) (lt653 rfl hN) ly50 (Nat.le_of_ble_eq_true rfl) rfl qf_X8_139 rfl dX8_means_6 ?_
  refine j_callVi F mwX8_meaning ql_X8_142 clX8 (lt653 rfl hN) ly50 [.ref (cz x + 52), .int (t 3203)] rfl ⟨rfl, rfl, Nat.le_of_ble_eq_true rfl, Nat.le_of_ble_eq_true rfl⟩ ⟨Nat.le_refl 0, Nat.le_refl 0⟩ rfl (Nat.le_of_ble_eq_true rfl) dX8_means_9 (fun _ _ _ h9 => kX8_meaning l hN (lt653 rfl hN) ly52 h9) h (fun v1 t1 a1 e1 h => ?_)
  refine j_istore_n F (lv' := [(1, .int v1), (0, .ref (cz x + 50))]) dX8_means_12 rfl (Nat.le_of_ble_eq_true rfl) rfl ?_
  refine j_aload_n F 1 dX8_means_13 rfl rfl ?_
  refine j_iconst F dX8_means_14 cI_0 ?_
  refine j_putI F clX8 (j := 3) (tt := 3203) (lt653 rfl hN) ly50 (Nat.le_of_ble_eq_true rfl) rfl qf_X8_139 rfl rfl rfl dX8_means_15 ?_
  refine j_iload_n F 0 dX8_means_18 rfl rfl ?_
  exact j_ireturn F rfl dX8_means_19 h
def gX8_over_2 (nF : Nat) (k0 n0 : Nat) (k1 n1 : Nat) (r2 : Int32 → sT → sA → Rs) (x2 : Int32) (t : sT) (a : sA) : Rs := if (Int32.ofNat n0) ≤ x2 then (some (0, t, a)) else (bnd x2 n0 (bnd x2 n1 (r2 (x2 + (1 : Int32)) t (va_up a k1 (upd (a k1) x2.toNatClampNeg (a k0 x2.toNatClampNeg))))))
def gX8_over (nF : Nat) (k0 n0 : Nat) (k1 n1 : Nat) : Nat → (Int32 → sT → sA → Rs)
  | 0 => (fun _ _ _ => none)
  | n9 + 1 => (gX8_over_2 nF k0 n0 k1 n1 (gX8_over nF k0 n0 k1 n1 n9))
def fX8_over (nF : Nat) (k0 n0 : Nat) (k1 n1 : Nat) (t : sT) (a : sA) : Rs := (gX8_over nF k0 n0 k1 n1 nF) (0 : Int32) t a
set_option maxRecDepth 100000 in
set_option maxHeartbeats 4000000 in
theorem hX8_over {p : Program} {l : Launch} {e : Env} {s : State} {m : MethodId} {args : Array Value} {below : List Frame} {meth : Method} {c : Code} {x : Cx} {N : Nat} {u0 v0 : Option Nat} {nF : Nat} {k0 n0 : Nat} {k1 n1 : Nat} (F : Fx p s m meth c cX8_over 3 RX8 none x) (hsz : s.heap.size = cz x + N) (hN : 653 ≤ N) (hk0 : k0 < N) (hl0 : lay k0 = (1, n0)) (hk1 : k1 < N) (hl1 : lay k1 = (1, n1)) {rv : Int32} {rt : sT} {ra : sA} : ∀ n9 : Nat, (∀ (x2 : Int32) (t : sT) (a : sA), (gX8_over nF k0 n0 k1 n1 n9) x2 t a = some (rv, rt, ra) → J p l e (k2_rm 0 0) s m args below meth c x N (rho u0 v0) 3 0 0 (MQ below (PostV x N (rho u0 v0) rt ra) args s 0 0 (cA x)) 2 [(0, .ref (cz x + k0)), (1, .ref (cz x + k1)), (2, .int x2)] [] t a) := by
  intro n9
  induction n9 with
  | zero => exact fun _ _ _ h => (by cases h)
  | succ n9 ih =>
    intro x2 t a h
    have h : gX8_over_2 nF k0 n0 k1 n1 (gX8_over nF k0 n0 k1 n1 n9) x2 t a = some (rv, rt, ra) := h
    unfold gX8_over_2 at h
    refine j_iload_n F 2 dX8_over_2 rfl rfl ?_
    refine j_aload_n F 0 dX8_over_3 rfl rfl ?_
    refine j_alen F hk0 hl0 rfl dX8_over_4 ?_
    refine j_icmp_ge F 20 dX8_over_5 rfl h (fun h => ?_) (fun h => ?_)
    · exact j_vreturn F rfl dX8_over_20 h
    · refine j_aload_n F 1 dX8_over_8 rfl rfl ?_
      refine j_iload_n F 2 dX8_over_9 rfl rfl ?_
      refine j_aload_n F 0 dX8_over_10 rfl rfl ?_
      refine j_iload_n F 2 dX8_over_11 rfl rfl ?_
      refine j_iald F hk0 hl0 dX8_over_12 h (fun h => ?_)
      refine j_iast F hk1 hl1 dX8_over_13 h (fun h => ?_)
      refine j_iinc F (v := x2 + (1 : Int32)) (lv' := [(2, .int (x2 + (1 : Int32))), (0, .ref (cz x + k0)), (1, .ref (cz x + k1))]) dX8_over_14 2 rfl (congrArg (fun z => x2 + z) cI_1) (Nat.le_of_ble_eq_true rfl) rfl ?_
      refine j_goto F 2 dX8_over_17 rfl ?_
      exact j_lv [1, 2, 0] rfl (ih _ _ _ h)
set_option maxRecDepth 100000 in
set_option maxHeartbeats 4000000 in
theorem kX8_over (l : Launch) {x : Cx} {N : Nat} {u0 v0 : Option Nat} {nF : Nat} {k0 n0 : Nat} {k1 n1 : Nat} {t : sT} {a : sA} {rv : Int32} {rt : sT} {ra : sA} (hN : 653 ≤ N) (hk0 : k0 < N) (hl0 : lay k0 = (1, n0)) (hk1 : k1 < N) (hl1 : lay k1 = (1, n1)) (h : fX8_over nF k0 n0 k1 n1 t a = some (rv, rt, ra)) : Met l yX8_over [.code yX8_over cX8_over 3 none] (k2_rm 0 0) (Pre x N (rho u0 v0) t a [.ref (cz x + k0), .ref (cz x + k1)]) (PostV x N (rho u0 v0) rt ra) 0 0 (cA x) := by
  refine j_entry (by decide) rfl (Nat.le_of_ble_eq_true rfl) ?_
  intro p e s m below meth c F hsz hnm
  have F : Fx p s m meth c cX8_over 3 RX8 none x := F
  unfold fX8_over at h
  show J p l e _ s m _ below meth c x N (rho u0 v0) 3 0 0 _ 0 [(0, .ref (cz x + k0)), (1, .ref (cz x + k1))] [] t a
  refine j_iconst F dX8_over_0 cI_0 ?_
  refine j_istore_n F (lv' := [(2, .int (0 : Int32)), (0, .ref (cz x + k0)), (1, .ref (cz x + k1))]) dX8_over_1 rfl (Nat.le_of_ble_eq_true rfl) rfl ?_
  exact j_lv [1, 2, 0] rfl ((hX8_over F hsz hN hk0 hl0 hk1 hl1 nF) _ _ _ h)
