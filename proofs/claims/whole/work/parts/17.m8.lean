/-! 17.m8.lean.txt: functions and contracts, by program (wip/whole/gen.py) -/
def fX7_lots (nF : Nat) (x1 : Int32) (x2 : Int32) (x3 : Int32) (t : sT) (a : sA) : Rs := cal (fX6_hasPerson nF 3 x1 t a) (fun v1 t1 a1 => if v1 = 0 then (cal (fX7_refuse nF (-1 : Int32) t1 a1) (fun v7 t7 a7 => some (v7, t7, a7))) else (if (1 : Int32) ≤ x2 then (if x2 ≤ (30 : Int32) then (if (t1 196) = 0 then (cal (fX7_refuse nF (-3 : Int32) t1 a1) (fun v4 t4 a4 => some (v4, t4, a4))) else (bnd x1 4 (cal (fX7_leftByLots nF (a1 7 x1.toNatClampNeg) x2 x3 t1 a1) (fun v2 t2 a2 => cal (fX6_weightOf nF 3 v2 t2 a2) (fun v3 t3 a3 => some (v3, t3, a3)))))) else (cal (fX7_refuse nF (-6 : Int32) t1 a1) (fun v5 t5 a5 => some (v5, t5, a5)))) else (cal (fX7_refuse nF (-4 : Int32) t1 a1) (fun v6 t6 a6 => some (v6, t6, a6)))))
set_option maxRecDepth 100000 in
set_option maxHeartbeats 4000000 in
theorem kX7_lots (l : Launch) {x : Cx} {N : Nat} {u0 v0 : Option Nat} {nF : Nat} {x1 : Int32} {x2 : Int32} {x3 : Int32} {t : sT} {a : sA} {rv : Int32} {rt : sT} {ra : sA} (hN : 653 ≤ N) (h : fX7_lots nF x1 x2 x3 t a = some (rv, rt, ra)) : Met l yX7_lots [.code yX7_lots cX7_lots 4 (some .int)] (k2_rm 6 145) (Pre x N (rho u0 v0) t a [.ref (cz x + 0), .int x1, .int x2, .int x3]) (PostI x N (rho u0 v0) rt ra rv) 0 0 (cA x) := by
  refine j_entry (by decide) rfl (Nat.le_of_ble_eq_true rfl) ?_
  intro p e s m below meth c F hsz hnm
  have F : Fx p s m meth c cX7_lots 4 RX7 (some .int) x := F
  unfold fX7_lots at h
  show J p l e _ s m _ below meth c x N (rho u0 v0) 4 0 0 _ 0 [(0, .ref (cz x + 0)), (1, .int x1), (2, .int x2), (3, .int x3)] [] t a
  refine j_aload_n F 0 dX7_lots_0 rfl rfl ?_
  refine j_getR F clX7 (j := 1) (lt653 rfl hN) ly0 (Nat.le_of_ble_eq_true rfl) rfl qf_X7_19 rfl dX7_lots_1 ?_
  refine j_iload_n F 1 dX7_lots_4 rfl rfl ?_
  refine j_callVi F mwX6_hasPerson ql_X7_149 clX6 (lt653 rfl hN) ly3 [.int x1] rfl ⟨rfl, rfl, Nat.le_of_ble_eq_true rfl, Nat.le_of_ble_eq_true rfl⟩ ⟨Nat.le_refl 0, Nat.le_refl 0⟩ rfl (Nat.le_of_ble_eq_true rfl) dX7_lots_5 (fun _ _ _ h9 => kX6_hasPerson l hN tg3 h9) h (fun v1 t1 a1 e1 h => ?_)
  refine j_if_ne F 17 dX7_lots_8 rfl h (fun h => ?_) (fun h => ?_)
  · refine j_aload_n F 0 dX7_lots_11 rfl rfl ?_
    refine j_iconst F dX7_lots_12 cI_m1 ?_
    refine j_callVi F mwX7_refuse ql_X7_66 clX7 (lt653 rfl hN) ly0 [.int (-1 : Int32)] rfl ⟨rfl, rfl, Nat.le_of_ble_eq_true rfl, Nat.le_of_ble_eq_true rfl⟩ ⟨Nat.le_refl 0, Nat.le_refl 0⟩ rfl (Nat.le_of_ble_eq_true rfl) dX7_lots_13 (fun _ _ _ h9 => kX7_refuse l hN  h9) h (fun v7 t7 a7 e7 h => ?_)
    exact j_ireturn F rfl dX7_lots_16 h
  · refine j_iload_n F 2 dX7_lots_17 rfl rfl ?_
    refine j_iconst F dX7_lots_18 cI_1 ?_
    refine j_icmp_ge F 29 dX7_lots_19 rfl h (fun h => ?_) (fun h => ?_)
    · refine j_iload_n F 2 dX7_lots_29 rfl rfl ?_
      refine j_bipush F dX7_lots_30 cB_30 ?_
      refine j_icmp_le F 42 dX7_lots_32 rfl h (fun h => ?_) (fun h => ?_)
      · refine j_aload_n F 0 dX7_lots_42 rfl rfl ?_
        refine j_getR F clX7 (j := 1) (lt653 rfl hN) ly0 (Nat.le_of_ble_eq_true rfl) rfl qf_X7_19 rfl dX7_lots_43 ?_
        refine j_getI F clX6 (j := 4) (tt := 196) (lt653 rfl hN) ly3 (Nat.le_of_ble_eq_true rfl) rfl qf_X7_174 rfl dX7_lots_46 ?_
        refine j_if_ne F 59 dX7_lots_49 rfl h (fun h => ?_) (fun h => ?_)
        · refine j_aload_n F 0 dX7_lots_52 rfl rfl ?_
          refine j_bipush F dX7_lots_53 cB_m3 ?_
          refine j_callVi F mwX7_refuse ql_X7_66 clX7 (lt653 rfl hN) ly0 [.int (-3 : Int32)] rfl ⟨rfl, rfl, Nat.le_of_ble_eq_true rfl, Nat.le_of_ble_eq_true rfl⟩ ⟨Nat.le_refl 0, Nat.le_refl 0⟩ rfl (Nat.le_of_ble_eq_true rfl) dX7_lots_55 (fun _ _ _ h9 => kX7_refuse l hN  h9) h (fun v4 t4 a4 e4 h => ?_)
          exact j_ireturn F rfl dX7_lots_58 h
        · refine j_aload_n F 0 dX7_lots_59 rfl rfl ?_
          refine j_getR F clX7 (j := 1) (lt653 rfl hN) ly0 (Nat.le_of_ble_eq_true rfl) rfl qf_X7_19 rfl dX7_lots_60 ?_
          refine j_aload_n F 0 dX7_lots_63 rfl rfl ?_
          refine j_aload_n F 0 dX7_lots_64 rfl rfl ?_
          refine j_getR F clX7 (j := 1) (lt653 rfl hN) ly0 (Nat.le_of_ble_eq_true rfl) rfl qf_X7_19 rfl dX7_lots_65 ?_
          refine j_getR F clX6 (j := 3) (lt653 rfl hN) ly3 (Nat.le_of_ble_eq_true rfl) rfl qf_X7_155 rfl dX7_lots_68 ?_
          refine j_iload_n F 1 dX7_lots_71 rfl rfl ?_
          refine j_iald F (lt653 rfl hN) ly7 dX7_lots_72 h (fun h => ?_)
          refine j_iload_n F 2 dX7_lots_73 rfl rfl ?_
          refine j_iload_n F 3 dX7_lots_74 rfl rfl ?_
          refine j_callVi F mwX7_leftByLots ql_X7_227 clX7 (lt653 rfl hN) ly0 [.int (a1 7 x1.toNatClampNeg), .int x2, .int x3] rfl ⟨rfl, rfl, Nat.le_of_ble_eq_true rfl, Nat.le_of_ble_eq_true rfl⟩ ⟨Nat.le_refl 0, Nat.le_refl 0⟩ rfl (Nat.le_of_ble_eq_true rfl) dX7_lots_75 (fun _ _ _ h9 => kX7_leftByLots l hN  h9) h (fun v2 t2 a2 e2 h => ?_)
          refine j_callVi F mwX6_weightOf ql_X7_197 clX6 (lt653 rfl hN) ly3 [.int v2] rfl ⟨rfl, rfl, Nat.le_of_ble_eq_true rfl, Nat.le_of_ble_eq_true rfl⟩ ⟨Nat.le_refl 0, Nat.le_refl 0⟩ rfl (Nat.le_of_ble_eq_true rfl) dX7_lots_78 (fun _ _ _ h9 => kX6_weightOf l hN tg3 h9) h (fun v3 t3 a3 e3 h => ?_)
          exact j_ireturn F rfl dX7_lots_81 h
      · refine j_aload_n F 0 dX7_lots_35 rfl rfl ?_
        refine j_bipush F dX7_lots_36 cB_m6 ?_
        refine j_callVi F mwX7_refuse ql_X7_66 clX7 (lt653 rfl hN) ly0 [.int (-6 : Int32)] rfl ⟨rfl, rfl, Nat.le_of_ble_eq_true rfl, Nat.le_of_ble_eq_true rfl⟩ ⟨Nat.le_refl 0, Nat.le_refl 0⟩ rfl (Nat.le_of_ble_eq_true rfl) dX7_lots_38 (fun _ _ _ h9 => kX7_refuse l hN  h9) h (fun v5 t5 a5 e5 h => ?_)
        exact j_ireturn F rfl dX7_lots_41 h
    · refine j_aload_n F 0 dX7_lots_22 rfl rfl ?_
      refine j_bipush F dX7_lots_23 cB_m4 ?_
      refine j_callVi F mwX7_refuse ql_X7_66 clX7 (lt653 rfl hN) ly0 [.int (-4 : Int32)] rfl ⟨rfl, rfl, Nat.le_of_ble_eq_true rfl, Nat.le_of_ble_eq_true rfl⟩ ⟨Nat.le_refl 0, Nat.le_refl 0⟩ rfl (Nat.le_of_ble_eq_true rfl) dX7_lots_25 (fun _ _ _ h9 => kX7_refuse l hN  h9) h (fun v6 t6 a6 e6 h => ?_)
      exact j_ireturn F rfl dX7_lots_28 h
def fX7_means (nF : Nat) (t : sT) (a : sA) : Rs := cal (fX7_takeRow nF t a) (fun v1 t1 a1 => cal (fX4_meaning nF v1 t1 a1) (fun v2 t2 a2 => some (v2, t2, a2)))
set_option maxRecDepth 100000 in
set_option maxHeartbeats 4000000 in
theorem kX7_means (l : Launch) {x : Cx} {N : Nat} {u0 v0 : Option Nat} {nF : Nat} {t : sT} {a : sA} {rv : Int32} {rt : sT} {ra : sA} (hN : 653 ≤ N) (h : fX7_means nF t a = some (rv, rt, ra)) : Met l yX7_means [.code yX7_means cX7_means 1 (some .int)] (k2_rm 5 113) (Pre x N (rho u0 v0) t a [.ref (cz x + 0)]) (PostI x N (rho u0 v0) rt ra rv) 0 0 (cA x) := by
  refine j_entry (by decide) rfl (Nat.le_of_ble_eq_true rfl) ?_
  intro p e s m below meth c F hsz hnm
  have F : Fx p s m meth c cX7_means 1 RX7 (some .int) x := F
  unfold fX7_means at h
  show J p l e _ s m _ below meth c x N (rho u0 v0) 1 0 0 _ 0 [(0, .ref (cz x + 0))] [] t a
  refine j_aload_n F 0 dX7_means_0 rfl rfl ?_
  refine j_callVi F mwX7_takeRow ql_X7_122 clX7 (lt653 rfl hN) ly0 [] rfl ⟨rfl, rfl, Nat.le_of_ble_eq_true rfl, Nat.le_of_ble_eq_true rfl⟩ ⟨Nat.le_refl 0, Nat.le_refl 0⟩ rfl (Nat.le_of_ble_eq_true rfl) dX7_means_1 (fun _ _ _ h9 => kX7_takeRow l hN  h9) h (fun v1 t1 a1 e1 h => ?_)
  refine j_callSi F mwX4_meaning ql_X7_125 [.int v1] rfl ⟨rfl, rfl, Nat.le_of_ble_eq_true rfl, Nat.le_of_ble_eq_true rfl⟩ ⟨Nat.le_refl 0, Nat.le_refl 0⟩ rfl (Nat.le_of_ble_eq_true rfl) dX7_means_4 (fun _ _ _ h9 => kX4_meaning l hN  h9) h (fun v2 t2 a2 e2 h => ?_)
  exact j_ireturn F rfl dX7_means_7 h
def fX7_meant (nF : Nat) (x1 : Int32) (t : sT) (a : sA) : Rs := cal (fX6_hasPerson nF 3 x1 t a) (fun v1 t1 a1 => if v1 = 0 then (cal (fX7_refuse nF (-1 : Int32) t1 a1) (fun v5 t5 a5 => some (v5, t5, a5))) else (cal (fX3_numberOf nF 19 15 t1 a1) (fun v2 t2 a2 => cal (fX7_takeRow nF (va_up t2 961 (0 : Int32)) a2) (fun v3 t3 a3 => bnd x1 4 (cal (fX3_casesAnsweredBy nF 19 v2 v3 (a3 7 x1.toNatClampNeg) t3 a3) (fun v4 t4 a4 => some ((va_up t4 10 v4) 10, va_up t4 10 v4, a4)))))))
set_option maxRecDepth 100000 in
set_option maxHeartbeats 4000000 in
theorem kX7_meant (l : Launch) {x : Cx} {N : Nat} {u0 v0 : Option Nat} {nF : Nat} {x1 : Int32} {t : sT} {a : sA} {rv : Int32} {rt : sT} {ra : sA} (hN : 653 ≤ N) (h : fX7_meant nF x1 t a = some (rv, rt, ra)) : Met l yX7_meant [.code yX7_meant cX7_meant 3 (some .int)] (k2_rm 5 118) (Pre x N (rho u0 v0) t a [.ref (cz x + 0), .int x1]) (PostI x N (rho u0 v0) rt ra rv) 0 0 (cA x) := by
  refine j_entry (by decide) rfl (Nat.le_of_ble_eq_true rfl) ?_
  intro p e s m below meth c F hsz hnm
  have F : Fx p s m meth c cX7_meant 3 RX7 (some .int) x := F
  unfold fX7_meant at h
  show J p l e _ s m _ below meth c x N (rho u0 v0) 3 0 0 _ 0 [(0, .ref (cz x + 0)), (1, .int x1)] [] t a
  refine j_aload_n F 0 dX7_meant_0 rfl rfl ?_
  refine j_getR F clX7 (j := 1) (lt653 rfl hN) ly0 (Nat.le_of_ble_eq_true rfl) rfl qf_X7_19 rfl dX7_meant_1 ?_
  refine j_iload_n F 1 dX7_meant_4 rfl rfl ?_
  refine j_callVi F mwX6_hasPerson ql_X7_149 clX6 (lt653 rfl hN) ly3 [.int x1] rfl ⟨rfl, rfl, Nat.le_of_ble_eq_true rfl, Nat.le_of_ble_eq_true rfl⟩ ⟨Nat.le_refl 0, Nat.le_refl 0⟩ rfl (Nat.le_of_ble_eq_true rfl) dX7_meant_5 (fun _ _ _ h9 => kX6_hasPerson l hN tg3 h9) h (fun v1 t1 a1 e1 h => ?_)
  refine j_if_ne F 17 dX7_meant_8 rfl h (fun h => ?_) (fun h => ?_)
  · refine j_aload_n F 0 dX7_meant_11 rfl rfl ?_
    refine j_iconst F dX7_meant_12 cI_m1 ?_
    refine j_callVi F mwX7_refuse ql_X7_66 clX7 (lt653 rfl hN) ly0 [.int (-1 : Int32)] rfl ⟨rfl, rfl, Nat.le_of_ble_eq_true rfl, Nat.le_of_ble_eq_true rfl⟩ ⟨Nat.le_refl 0, Nat.le_refl 0⟩ rfl (Nat.le_of_ble_eq_true rfl) dX7_meant_13 (fun _ _ _ h9 => kX7_refuse l hN  h9) h (fun v5 t5 a5 e5 h => ?_)
    exact j_ireturn F rfl dX7_meant_16 h
  · refine j_aload_n F 0 dX7_meant_17 rfl rfl ?_
    refine j_getR F clX7 (j := 6) (lt653 rfl hN) ly0 (Nat.le_of_ble_eq_true rfl) rfl qf_X7_48 rfl dX7_meant_18 ?_
    refine j_aload_n F 0 dX7_meant_21 rfl rfl ?_
    refine j_getR F clX7 (j := 4) (lt653 rfl hN) ly0 (Nat.le_of_ble_eq_true rfl) rfl qf_X7_33 rfl dX7_meant_22 ?_
    refine j_callVi F mwX3_numberOf ql_X7_186 clX3 (lt653 rfl hN) ly19 [.ref (cz x + 15)] rfl ⟨rfl, rfl, Nat.le_of_ble_eq_true rfl, Nat.le_of_ble_eq_true rfl⟩ ⟨Nat.le_refl 0, Nat.le_refl 0⟩ rfl (Nat.le_of_ble_eq_true rfl) dX7_meant_25 (fun _ _ _ h9 => kX3_numberOf l hN sy19 rw15 h9) h (fun v2 t2 a2 e2 h => ?_)
    refine j_istore_n F (lv' := [(2, .int v2), (0, .ref (cz x + 0)), (1, .int x1)]) dX7_meant_28 rfl (Nat.le_of_ble_eq_true rfl) rfl ?_
    refine j_aload_n F 1 dX7_meant_29 rfl rfl ?_
    refine j_getR F clX7 (j := 4) (lt653 rfl hN) ly0 (Nat.le_of_ble_eq_true rfl) rfl qf_X7_33 rfl dX7_meant_30 ?_
    refine j_iconst F dX7_meant_33 cI_0 ?_
    refine j_putI F clX2 (j := 1) (tt := 961) (lt653 rfl hN) ly15 (Nat.le_of_ble_eq_true rfl) rfl qf_X7_190 rfl rfl rfl dX7_meant_34 ?_
    refine j_aload_n F 1 dX7_meant_37 rfl rfl ?_
    refine j_aload_n F 1 dX7_meant_38 rfl rfl ?_
    refine j_getR F clX7 (j := 6) (lt653 rfl hN) ly0 (Nat.le_of_ble_eq_true rfl) rfl qf_X7_48 rfl dX7_meant_39 ?_
    refine j_iload_n F 0 dX7_meant_42 rfl rfl ?_
    refine j_aload_n F 1 dX7_meant_43 rfl rfl ?_
    refine j_callVi F mwX7_takeRow ql_X7_122 clX7 (lt653 rfl hN) ly0 [] rfl ⟨rfl, rfl, Nat.le_of_ble_eq_true rfl, Nat.le_of_ble_eq_true rfl⟩ ⟨Nat.le_refl 0, Nat.le_refl 0⟩ rfl (Nat.le_of_ble_eq_true rfl) dX7_meant_44 (fun _ _ _ h9 => kX7_takeRow l hN  h9) h (fun v3 t3 a3 e3 h => ?_)
    refine j_aload_n F 1 dX7_meant_47 rfl rfl ?_
    refine j_getR F clX7 (j := 1) (lt653 rfl hN) ly0 (Nat.le_of_ble_eq_true rfl) rfl qf_X7_19 rfl dX7_meant_48 ?_
    refine j_getR F clX6 (j := 3) (lt653 rfl hN) ly3 (Nat.le_of_ble_eq_true rfl) rfl qf_X7_155 rfl dX7_meant_51 ?_
    refine j_iload_n F 2 dX7_meant_54 rfl rfl ?_
    refine j_iald F (lt653 rfl hN) ly7 dX7_meant_55 h (fun h => ?_)
    refine j_callVi F mwX3_casesAnsweredBy ql_X7_191 clX3 (lt653 rfl hN) ly19 [.int v2, .int v3, .int (a3 7 x1.toNatClampNeg)] rfl ⟨rfl, rfl, Nat.le_of_ble_eq_true rfl, Nat.le_of_ble_eq_true rfl⟩ ⟨Nat.le_refl 0, Nat.le_refl 0⟩ rfl (Nat.le_of_ble_eq_true rfl) dX7_meant_56 (fun _ _ _ h9 => kX3_casesAnsweredBy l hN sy19 h9) h (fun v4 t4 a4 e4 h => ?_)
    refine j_putI F clX7 (j := 10) (tt := 10) (lt653 rfl hN) ly0 (Nat.le_of_ble_eq_true rfl) rfl qf_X7_194 rfl rfl rfl dX7_meant_59 ?_
    refine j_aload_n F 1 dX7_meant_62 rfl rfl ?_
    refine j_getI F clX7 (j := 10) (tt := 10) (lt653 rfl hN) ly0 (Nat.le_of_ble_eq_true rfl) rfl qf_X7_194 rfl dX7_meant_63 ?_
    exact j_ireturn F rfl dX7_meant_66 h
def fX7_settles (nF : Nat) (x1 : Int32) (t : sT) (a : sA) : Rs := cal (fX7_isSet nF x1 t a) (fun v1 t1 a1 => if v1 = 0 then (cal (fX7_refuse nF (-1 : Int32) t1 a1) (fun v6 t6 a6 => some (v6, t6, a6))) else (cal (fX7_takeRow nF t1 a1) (fun v2 t2 a2 => cal (fX4_meaning nF v2 t2 a2) (fun v3 t3 a3 => cal (fX7_isSettled nF x1 v3 t3 a3) (fun v4 t4 a4 => cal (fX7_asBit nF v4 t4 a4) (fun v5 t5 a5 => some (v5, t5, a5)))))))
set_option maxRecDepth 100000 in
set_option maxHeartbeats 4000000 in
theorem kX7_settles (l : Launch) {x : Cx} {N : Nat} {u0 v0 : Option Nat} {nF : Nat} {x1 : Int32} {t : sT} {a : sA} {rv : Int32} {rt : sT} {ra : sA} (hN : 653 ≤ N) (h : fX7_settles nF x1 t a = some (rv, rt, ra)) : Met l yX7_settles [.code yX7_settles cX7_settles 2 (some .int)] (k2_rm 5 113) (Pre x N (rho u0 v0) t a [.ref (cz x + 0), .int x1]) (PostI x N (rho u0 v0) rt ra rv) 0 0 (cA x) := by
  refine j_entry (by decide) rfl (Nat.le_of_ble_eq_true rfl) ?_
  intro p e s m below meth c F hsz hnm
  have F : Fx p s m meth c cX7_settles 2 RX7 (some .int) x := F
  unfold fX7_settles at h
  show J p l e _ s m _ below meth c x N (rho u0 v0) 2 0 0 _ 0 [(0, .ref (cz x + 0)), (1, .int x1)] [] t a
  refine j_iload_n F 1 dX7_settles_0 rfl rfl ?_
  refine j_callSi F mwX7_isSet ql_X7_142 [.int x1] rfl ⟨rfl, rfl, Nat.le_of_ble_eq_true rfl, Nat.le_of_ble_eq_true rfl⟩ ⟨Nat.le_refl 0, Nat.le_refl 0⟩ rfl (Nat.le_of_ble_eq_true rfl) dX7_settles_1 (fun _ _ _ h9 => kX7_isSet l hN  h9) h (fun v1 t1 a1 e1 h => ?_)
  refine j_if_ne F 13 dX7_settles_4 rfl h (fun h => ?_) (fun h => ?_)
  · refine j_aload_n F 0 dX7_settles_7 rfl rfl ?_
    refine j_iconst F dX7_settles_8 cI_m1 ?_
    refine j_callVi F mwX7_refuse ql_X7_66 clX7 (lt653 rfl hN) ly0 [.int (-1 : Int32)] rfl ⟨rfl, rfl, Nat.le_of_ble_eq_true rfl, Nat.le_of_ble_eq_true rfl⟩ ⟨Nat.le_refl 0, Nat.le_refl 0⟩ rfl (Nat.le_of_ble_eq_true rfl) dX7_settles_9 (fun _ _ _ h9 => kX7_refuse l hN  h9) h (fun v6 t6 a6 e6 h => ?_)
    exact j_ireturn F rfl dX7_settles_12 h
  · refine j_iload_n F 1 dX7_settles_13 rfl rfl ?_
    refine j_aload_n F 0 dX7_settles_14 rfl rfl ?_
    refine j_callVi F mwX7_takeRow ql_X7_122 clX7 (lt653 rfl hN) ly0 [] rfl ⟨rfl, rfl, Nat.le_of_ble_eq_true rfl, Nat.le_of_ble_eq_true rfl⟩ ⟨Nat.le_refl 0, Nat.le_refl 0⟩ rfl (Nat.le_of_ble_eq_true rfl) dX7_settles_15 (fun _ _ _ h9 => kX7_takeRow l hN  h9) h (fun v2 t2 a2 e2 h => ?_)
    refine j_callSi F mwX4_meaning ql_X7_125 [.int v2] rfl ⟨rfl, rfl, Nat.le_of_ble_eq_true rfl, Nat.le_of_ble_eq_true rfl⟩ ⟨Nat.le_refl 0, Nat.le_refl 0⟩ rfl (Nat.le_of_ble_eq_true rfl) dX7_settles_18 (fun _ _ _ h9 => kX4_meaning l hN  h9) h (fun v3 t3 a3 e3 h => ?_)
    refine j_callSi F mwX7_isSettled ql_X7_145 [.int x1, .int v3] rfl ⟨rfl, rfl, Nat.le_of_ble_eq_true rfl, Nat.le_of_ble_eq_true rfl⟩ ⟨Nat.le_refl 0, Nat.le_refl 0⟩ rfl (Nat.le_of_ble_eq_true rfl) dX7_settles_21 (fun _ _ _ h9 => kX7_isSettled l hN  h9) h (fun v4 t4 a4 e4 h => ?_)
    refine j_callSi F mwX7_asBit ql_X7_138 [.int v4] rfl ⟨rfl, rfl, Nat.le_of_ble_eq_true rfl, Nat.le_of_ble_eq_true rfl⟩ ⟨Nat.le_refl 0, Nat.le_refl 0⟩ rfl (Nat.le_of_ble_eq_true rfl) dX7_settles_24 (fun _ _ _ h9 => kX7_asBit l hN  h9) h (fun v5 t5 a5 e5 h => ?_)
    exact j_ireturn F rfl dX7_settles_27 h
def fX7_under (nF : Nat) (x1 : Int32) (x2 : Int32) (t : sT) (a : sA) : Rs := cal (fX6_hasPerson nF 3 x1 t a) (fun v1 t1 a1 => if v1 = 0 then (cal (fX7_refuse nF (-1 : Int32) t1 a1) (fun v5 t5 a5 => some (v5, t5, a5))) else (cal (fX7_isLaw nF x2 t1 a1) (fun v2 t2 a2 => if v2 = 0 then (cal (fX7_refuse nF (-2 : Int32) t2 a2) (fun v4 t4 a4 => some (v4, t4, a4))) else (if (t2 196) = 0 then (some ((-9 : Int32), t2, a2)) else (bnd x1 4 (cal (fX3_leftOfBest nF 19 (a2 7 x1.toNatClampNeg) x2 t2 a2) (fun v3 t3 a3 => some (v3, t3, a3))))))))
set_option maxRecDepth 100000 in
set_option maxHeartbeats 4000000 in
theorem kX7_under (l : Launch) {x : Cx} {N : Nat} {u0 v0 : Option Nat} {nF : Nat} {x1 : Int32} {x2 : Int32} {t : sT} {a : sA} {rv : Int32} {rt : sT} {ra : sA} (hN : 653 ≤ N) (h : fX7_under nF x1 x2 t a = some (rv, rt, ra)) : Met l yX7_under [.code yX7_under cX7_under 3 (some .int)] (k2_rm 6 145) (Pre x N (rho u0 v0) t a [.ref (cz x + 0), .int x1, .int x2]) (PostI x N (rho u0 v0) rt ra rv) 0 0 (cA x) := by
  refine j_entry (by decide) rfl (Nat.le_of_ble_eq_true rfl) ?_
  intro p e s m below meth c F hsz hnm
  have F : Fx p s m meth c cX7_under 3 RX7 (some .int) x := F
  unfold fX7_under at h
  show J p l e _ s m _ below meth c x N (rho u0 v0) 3 0 0 _ 0 [(0, .ref (cz x + 0)), (1, .int x1), (2, .int x2)] [] t a
  refine j_aload_n F 0 dX7_under_0 rfl rfl ?_
  refine j_getR F clX7 (j := 1) (lt653 rfl hN) ly0 (Nat.le_of_ble_eq_true rfl) rfl qf_X7_19 rfl dX7_under_1 ?_
  refine j_iload_n F 1 dX7_under_4 rfl rfl ?_
  refine j_callVi F mwX6_hasPerson ql_X7_149 clX6 (lt653 rfl hN) ly3 [.int x1] rfl ⟨rfl, rfl, Nat.le_of_ble_eq_true rfl, Nat.le_of_ble_eq_true rfl⟩ ⟨Nat.le_refl 0, Nat.le_refl 0⟩ rfl (Nat.le_of_ble_eq_true rfl) dX7_under_5 (fun _ _ _ h9 => kX6_hasPerson l hN tg3 h9) h (fun v1 t1 a1 e1 h => ?_)
  refine j_if_ne F 17 dX7_under_8 rfl h (fun h => ?_) (fun h => ?_)
  · refine j_aload_n F 0 dX7_under_11 rfl rfl ?_
    refine j_iconst F dX7_under_12 cI_m1 ?_
    refine j_callVi F mwX7_refuse ql_X7_66 clX7 (lt653 rfl hN) ly0 [.int (-1 : Int32)] rfl ⟨rfl, rfl, Nat.le_of_ble_eq_true rfl, Nat.le_of_ble_eq_true rfl⟩ ⟨Nat.le_refl 0, Nat.le_refl 0⟩ rfl (Nat.le_of_ble_eq_true rfl) dX7_under_13 (fun _ _ _ h9 => kX7_refuse l hN  h9) h (fun v5 t5 a5 e5 h => ?_)
    exact j_ireturn F rfl dX7_under_16 h
  · refine j_iload_n F 2 dX7_under_17 rfl rfl ?_
    refine j_callSi F mwX7_isLaw ql_X7_112 [.int x2] rfl ⟨rfl, rfl, Nat.le_of_ble_eq_true rfl, Nat.le_of_ble_eq_true rfl⟩ ⟨Nat.le_refl 0, Nat.le_refl 0⟩ rfl (Nat.le_of_ble_eq_true rfl) dX7_under_18 (fun _ _ _ h9 => kX7_isLaw l hN  h9) h (fun v2 t2 a2 e2 h => ?_)
    refine j_if_ne F 31 dX7_under_21 rfl h (fun h => ?_) (fun h => ?_)
    · refine j_aload_n F 0 dX7_under_24 rfl rfl ?_
      refine j_bipush F dX7_under_25 cB_m2 ?_
      refine j_callVi F mwX7_refuse ql_X7_66 clX7 (lt653 rfl hN) ly0 [.int (-2 : Int32)] rfl ⟨rfl, rfl, Nat.le_of_ble_eq_true rfl, Nat.le_of_ble_eq_true rfl⟩ ⟨Nat.le_refl 0, Nat.le_refl 0⟩ rfl (Nat.le_of_ble_eq_true rfl) dX7_under_27 (fun _ _ _ h9 => kX7_refuse l hN  h9) h (fun v4 t4 a4 e4 h => ?_)
      exact j_ireturn F rfl dX7_under_30 h
    · refine j_aload_n F 0 dX7_under_31 rfl rfl ?_
      refine j_getR F clX7 (j := 1) (lt653 rfl hN) ly0 (Nat.le_of_ble_eq_true rfl) rfl qf_X7_19 rfl dX7_under_32 ?_
      refine j_getI F clX6 (j := 4) (tt := 196) (lt653 rfl hN) ly3 (Nat.le_of_ble_eq_true rfl) rfl qf_X7_174 rfl dX7_under_35 ?_
      refine j_if_ne F 46 dX7_under_38 rfl h (fun h => ?_) (fun h => ?_)
      · refine j_bipush F dX7_under_41 cB_m9 ?_
        refine j_goto F 63 dX7_under_43 rfl ?_
        exact j_ireturn F rfl dX7_under_63 h
      · refine j_aload_n F 0 dX7_under_46 rfl rfl ?_
        refine j_getR F clX7 (j := 6) (lt653 rfl hN) ly0 (Nat.le_of_ble_eq_true rfl) rfl qf_X7_48 rfl dX7_under_47 ?_
        refine j_aload_n F 0 dX7_under_50 rfl rfl ?_
        refine j_getR F clX7 (j := 1) (lt653 rfl hN) ly0 (Nat.le_of_ble_eq_true rfl) rfl qf_X7_19 rfl dX7_under_51 ?_
        refine j_getR F clX6 (j := 3) (lt653 rfl hN) ly3 (Nat.le_of_ble_eq_true rfl) rfl qf_X7_155 rfl dX7_under_54 ?_
        refine j_iload_n F 1 dX7_under_57 rfl rfl ?_
        refine j_iald F (lt653 rfl hN) ly7 dX7_under_58 h (fun h => ?_)
        refine j_iload_n F 2 dX7_under_59 rfl rfl ?_
        refine j_callVi F mwX3_leftOfBest ql_X7_177 clX3 (lt653 rfl hN) ly19 [.int (a2 7 x1.toNatClampNeg), .int x2] rfl ⟨rfl, rfl, Nat.le_of_ble_eq_true rfl, Nat.le_of_ble_eq_true rfl⟩ ⟨Nat.le_refl 0, Nat.le_refl 0⟩ rfl (Nat.le_of_ble_eq_true rfl) dX7_under_60 (fun _ _ _ h9 => kX3_leftOfBest l hN sy19 h9) h (fun v3 t3 a3 e3 h => ?_)
        exact j_ireturn F rfl dX7_under_63 h
def fX8_answer (nF : Nat) (x1 : Int32) (x2 : Int32) (t : sT) (a : sA) : Rs := cal (fX8_isPerson nF x1 t a) (fun v1 t1 a1 => if v1 = 0 then (cal (fX8_refuse nF (-1 : Int32) t1 a1) (fun v7 t7 a7 => some (v7, t7, a7))) else (if (-1 : Int32) ≤ x2 then (cal (fX8_list nF t1 a1) (fun v2 t2 a2 => cal (fX8_asksRow nF t2 a2) (fun v3 t3 a3 => bnd x1 4 (cal (fX8_answerOf nF (a3 58 x1.toNatClampNeg) (t3 3214) t3 a3) (fun v4 t4 a4 => if v4 = (-9 : Int32) then (some ((-9 : Int32), t4, a4)) else (bnd v4 585 (if x2 < (a4 62 v4.toNatClampNeg) then (if x2 = (-1 : Int32) then (bnd v4 585 (some (a4 62 v4.toNatClampNeg, t4, a4))) else (bnd v4 585 (bnd x2 3 (some (a4 (64 + v4.toNatClampNeg) x2.toNatClampNeg, t4, a4))))) else (some ((-9 : Int32), t4, a4))))))))) else (cal (fX8_refuse nF (-4 : Int32) t1 a1) (fun v6 t6 a6 => some (v6, t6, a6)))))
set_option maxRecDepth 100000 in
set_option maxHeartbeats 4000000 in
theorem kX8_answer (l : Launch) {x : Cx} {N : Nat} {u0 v0 : Option Nat} {nF : Nat} {x1 : Int32} {x2 : Int32} {t : sT} {a : sA} {rv : Int32} {rt : sT} {ra : sA} (hN : 653 ≤ N) (h : fX8_answer nF x1 x2 t a = some (rv, rt, ra)) : Met l yX8_answer [.code yX8_answer cX8_answer 4 (some .int)] (k2_rm 3 77) (Pre x N (rho u0 v0) t a [.ref (cz x + 50), .int x1, .int x2]) (PostI x N (rho u0 v0) rt ra rv) 0 0 (cA x) := by
  refine j_entry (by decide) rfl (Nat.le_of_ble_eq_true rfl) ?_
  intro p e s m below meth c F hsz hnm
  have F : Fx p s m meth c cX8_answer 4 RX8 (some .int) x := F
  unfold fX8_answer at h
  show J p l e _ s m _ below meth c x N (rho u0 v0) 4 0 0 _ 0 [(0, .ref (cz x + 50)), (1, .int x1), (2, .int x2)] [] t a
  refine j_aload_n F 0 dX8_answer_0 rfl rfl ?_
  refine j_iload_n F 1 dX8_answer_1 rfl rfl ?_
  refine j_callVi F mwX8_isPerson ql_X8_190 clX8 (lt653 rfl hN) ly50 [.int x1] rfl ⟨rfl, rfl, Nat.le_of_ble_eq_true rfl, Nat.le_of_ble_eq_true rfl⟩ ⟨Nat.le_refl 0, Nat.le_refl 0⟩ rfl (Nat.le_of_ble_eq_true rfl) dX8_answer_2 (fun _ _ _ h9 => kX8_isPerson l hN  h9) h (fun v1 t1 a1 e1 h => ?_)
  refine j_if_ne F 14 dX8_answer_5 rfl h (fun h => ?_) (fun h => ?_)
  · refine j_aload_n F 0 dX8_answer_8 rfl rfl ?_
    refine j_iconst F dX8_answer_9 cI_m1 ?_
    refine j_callVi F mwX8_refuse ql_X8_74 clX8 (lt653 rfl hN) ly50 [.int (-1 : Int32)] rfl ⟨rfl, rfl, Nat.le_of_ble_eq_true rfl, Nat.le_of_ble_eq_true rfl⟩ ⟨Nat.le_refl 0, Nat.le_refl 0⟩ rfl (Nat.le_of_ble_eq_true rfl) dX8_answer_10 (fun _ _ _ h9 => kX8_refuse l hN  h9) h (fun v7 t7 a7 e7 h => ?_)
    exact j_ireturn F rfl dX8_answer_13 h
  · refine j_iload_n F 2 dX8_answer_14 rfl rfl ?_
    refine j_iconst F dX8_answer_15 cI_m1 ?_
    refine j_icmp_ge F 26 dX8_answer_16 rfl h (fun h => ?_) (fun h => ?_)
    · refine j_aload_n F 0 dX8_answer_26 rfl rfl ?_
      refine j_callVv F mwX8_list ql_X8_193 clX8 (lt653 rfl hN) ly50 [] rfl ⟨rfl, rfl, Nat.le_of_ble_eq_true rfl, Nat.le_of_ble_eq_true rfl⟩ ⟨Nat.le_refl 0, Nat.le_refl 0⟩ rfl (Nat.le_of_ble_eq_true rfl) dX8_answer_27 (fun _ _ _ h9 => kX8_list l hN  h9) h (fun v2 t2 a2 e2 h => ?_)
      refine j_aload_n F 0 dX8_answer_30 rfl rfl ?_
      refine j_callVv F mwX8_asksRow ql_X8_196 clX8 (lt653 rfl hN) ly50 [] rfl ⟨rfl, rfl, Nat.le_of_ble_eq_true rfl, Nat.le_of_ble_eq_true rfl⟩ ⟨Nat.le_refl 0, Nat.le_refl 0⟩ rfl (Nat.le_of_ble_eq_true rfl) dX8_answer_31 (fun _ _ _ h9 => kX8_asksRow l hN  h9) h (fun v3 t3 a3 e3 h => ?_)
      refine j_aload_n F 0 dX8_answer_34 rfl rfl ?_
      refine j_aload_n F 0 dX8_answer_35 rfl rfl ?_
      refine j_getR F clX8 (j := 12) (lt653 rfl hN) ly50 (Nat.le_of_ble_eq_true rfl) rfl qf_X8_31 rfl dX8_answer_36 ?_
      refine j_iload_n F 1 dX8_answer_39 rfl rfl ?_
      refine j_iald F (lt653 rfl hN) ly58 dX8_answer_40 h (fun h => ?_)
      refine j_aload_n F 0 dX8_answer_41 rfl rfl ?_
      refine j_getI F clX8 (j := 14) (tt := 3214) (lt653 rfl hN) ly50 (Nat.le_of_ble_eq_true rfl) rfl qf_X8_136 rfl dX8_answer_42 ?_
      refine j_callVi F mwX8_answerOf ql_X8_199 clX8 (lt653 rfl hN) ly50 [.int (a3 58 x1.toNatClampNeg), .int (t3 3214)] rfl ⟨rfl, rfl, Nat.le_of_ble_eq_true rfl, Nat.le_of_ble_eq_true rfl⟩ ⟨Nat.le_refl 0, Nat.le_refl 0⟩ rfl (Nat.le_of_ble_eq_true rfl) dX8_answer_45 (fun _ _ _ h9 => kX8_answerOf l hN  h9) h (fun v4 t4 a4 e4 h => ?_)
      refine j_istore_n F (lv' := [(3, .int v4), (0, .ref (cz x + 50)), (1, .int x1), (2, .int x2)]) dX8_answer_48 rfl (Nat.le_of_ble_eq_true rfl) rfl ?_
      refine j_iload_n F 0 dX8_answer_49 rfl rfl ?_
      refine j_bipush F dX8_answer_50 cB_m9 ?_
      refine j_icmp_eq F 65 dX8_answer_52 rfl h (fun h => ?_) (fun h => ?_)
      · refine j_bipush F dX8_answer_65 cB_m9 ?_
        exact j_ireturn F rfl dX8_answer_67 h
      · refine j_iload_n F 3 dX8_answer_55 rfl rfl ?_
        refine j_aload_n F 1 dX8_answer_56 rfl rfl ?_
        refine j_getR F clX8 (j := 23) (lt653 rfl hN) ly50 (Nat.le_of_ble_eq_true rfl) rfl qf_X8_43 rfl dX8_answer_57 ?_
        refine j_iload_n F 0 dX8_answer_60 rfl rfl ?_
        refine j_iald F (lt653 rfl hN) ly62 dX8_answer_61 h (fun h => ?_)
        refine j_icmp_lt F 68 dX8_answer_62 rfl h (fun h => ?_) (fun h => ?_)
        · refine j_iload_n F 3 dX8_answer_68 rfl rfl ?_
          refine j_iconst F dX8_answer_69 cI_m1 ?_
          refine j_icmp_ne F 82 dX8_answer_70 rfl h (fun h => ?_) (fun h => ?_)
          · refine j_aload_n F 1 dX8_answer_73 rfl rfl ?_
            refine j_getR F clX8 (j := 23) (lt653 rfl hN) ly50 (Nat.le_of_ble_eq_true rfl) rfl qf_X8_43 rfl dX8_answer_74 ?_
            refine j_iload_n F 0 dX8_answer_77 rfl rfl ?_
            refine j_iald F (lt653 rfl hN) ly62 dX8_answer_78 h (fun h => ?_)
            refine j_goto F 90 dX8_answer_79 rfl ?_
            exact j_ireturn F rfl dX8_answer_90 h
          · refine j_aload_n F 1 dX8_answer_82 rfl rfl ?_
            refine j_getR F clX8 (j := 24) (lt653 rfl hN) ly50 (Nat.le_of_ble_eq_true rfl) rfl qf_X8_48 rfl dX8_answer_83 ?_
            refine j_iload_n F 0 dX8_answer_86 rfl rfl ?_
            refine j_aald F (lt653 rfl hN) ly63 rh63 dX8_answer_87 h (fun hr5 h => ?_)
            refine j_iload_n F 3 dX8_answer_88 rfl rfl ?_
            refine j_iald F (rowlt hr5 hN) (lyRow hr5) dX8_answer_89 h (fun h => ?_)
            exact j_ireturn F rfl dX8_answer_90 h
        · refine j_bipush F dX8_answer_65 cB_m9 ?_
          exact j_ireturn F rfl dX8_answer_67 h
    · refine j_aload_n F 0 dX8_answer_19 rfl rfl ?_
      refine j_bipush F dX8_answer_20 cB_m4 ?_
      refine j_callVi F mwX8_refuse ql_X8_74 clX8 (lt653 rfl hN) ly50 [.int (-4 : Int32)] rfl ⟨rfl, rfl, Nat.le_of_ble_eq_true rfl, Nat.le_of_ble_eq_true rfl⟩ ⟨Nat.le_refl 0, Nat.le_refl 0⟩ rfl (Nat.le_of_ble_eq_true rfl) dX8_answer_22 (fun _ _ _ h9 => kX8_refuse l hN  h9) h (fun v6 t6 a6 e6 h => ?_)
      exact j_ireturn F rfl dX8_answer_25 h
def gX8_bestOf_10 (nF : Nat) (r10 : Int32 → Int32 → Int32 → Int32 → sT → sA → Rs) (x1 x2 x3 x4 : Int32) (t : sT) (a : sA) : Rs := if (t 3227) ≤ x4 then (some (x3, t, a)) else (bnd x4 585 (bnd x4 585 (bnd x4 585 (cal (fX8_asks nF (a 62 x4.toNatClampNeg) (a 650 x4.toNatClampNeg) (a 649 x4.toNatClampNeg) x2 t a) (fun v2 t2 a2 => cal (fX8_leftOf nF x1 t2 a2) (fun v3 t3 a3 => if x3 = (-9 : Int32) then (r10 x1 x2 x4 (x4 + (1 : Int32)) (va_up t3 3233 v3) a3) else (if (t3 3233) ≤ v3 then (r10 x1 x2 x3 (x4 + (1 : Int32)) t3 a3) else (r10 x1 x2 x4 (x4 + (1 : Int32)) (va_up t3 3233 v3) a3))))))))
def gX8_bestOf (nF : Nat) : Nat → (Int32 → Int32 → Int32 → Int32 → sT → sA → Rs)
  | 0 => (fun _ _ _ _ _ _ => none)
  | n9 + 1 => (gX8_bestOf_10 nF (gX8_bestOf nF n9))
def fX8_bestOf (nF : Nat) (x1 : Int32) (x2 : Int32) (t : sT) (a : sA) : Rs := cal (fX8_list nF t a) (fun v1 t1 a1 => (gX8_bestOf nF nF) x1 x2 (-9 : Int32) (1 : Int32) t1 a1)
set_option maxRecDepth 100000 in
set_option maxHeartbeats 4000000 in
theorem hX8_bestOf {p : Program} {l : Launch} {e : Env} {s : State} {m : MethodId} {args : Array Value} {below : List Frame} {meth : Method} {c : Code} {x : Cx} {N : Nat} {u0 v0 : Option Nat} {nF : Nat} (F : Fx p s m meth c cX8_bestOf 6 RX8 (some .int) x) (hsz : s.heap.size = cz x + N) (hN : 653 ≤ N) {rv : Int32} {rt : sT} {ra : sA} : ∀ n9 : Nat, (∀ (x1 x2 x3 x4 : Int32) (t : sT) (a : sA), (gX8_bestOf nF n9) x1 x2 x3 x4 t a = some (rv, rt, ra) → J p l e (k2_rm 4 95) s m args below meth c x N (rho u0 v0) 6 0 0 (MQ below (PostI x N (rho u0 v0) rt ra rv) args s 0 0 (cA x)) 10 [(0, .ref (cz x + 50)), (1, .int x1), (2, .int x2), (3, .int x3), (4, .int x4)] [] t a) := by
  intro n9
  induction n9 with
  | zero => exact fun _ _ _ _ _ _ h => (by cases h)
  | succ n9 ih =>
    intro x1 x2 x3 x4 t a h
    have h : gX8_bestOf_10 nF (gX8_bestOf nF n9) x1 x2 x3 x4 t a = some (rv, rt, ra) := h
    unfold gX8_bestOf_10 at h
    refine j_iload F 4 dX8_bestOf_10 rfl ?_
    refine j_aload_n F 0 dX8_bestOf_12 rfl rfl ?_
    refine j_getI F clX8 (j := 27) (tt := 3227) (lt653 rfl hN) ly50 (Nat.le_of_ble_eq_true rfl) rfl qf_X8_159 rfl dX8_bestOf_13 ?_
    refine j_icmp_ge F 82 dX8_bestOf_16 rfl h (fun h => ?_) (fun h => ?_)
    · refine j_iload_n F 3 dX8_bestOf_82 rfl rfl ?_
      exact j_ireturn F rfl dX8_bestOf_83 h
    · refine j_aload_n F 0 dX8_bestOf_19 rfl rfl ?_
      refine j_aload_n F 0 dX8_bestOf_20 rfl rfl ?_
      refine j_getR F clX8 (j := 23) (lt653 rfl hN) ly50 (Nat.le_of_ble_eq_true rfl) rfl qf_X8_43 rfl dX8_bestOf_21 ?_
      refine j_iload F 4 dX8_bestOf_24 rfl ?_
      refine j_iald F (lt653 rfl hN) ly62 dX8_bestOf_26 h (fun h => ?_)
      refine j_aload_n F 0 dX8_bestOf_27 rfl rfl ?_
      refine j_getR F clX8 (j := 26) (lt653 rfl hN) ly50 (Nat.le_of_ble_eq_true rfl) rfl qf_X8_54 rfl dX8_bestOf_28 ?_
      refine j_iload F 4 dX8_bestOf_31 rfl ?_
      refine j_iald F (lt653 rfl hN) ly650 dX8_bestOf_33 h (fun h => ?_)
      refine j_aload_n F 0 dX8_bestOf_34 rfl rfl ?_
      refine j_getR F clX8 (j := 25) (lt653 rfl hN) ly50 (Nat.le_of_ble_eq_true rfl) rfl qf_X8_51 rfl dX8_bestOf_35 ?_
      refine j_iload F 4 dX8_bestOf_38 rfl ?_
      refine j_iald F (lt653 rfl hN) ly649 dX8_bestOf_40 h (fun h => ?_)
      refine j_iload_n F 2 dX8_bestOf_41 rfl rfl ?_
      refine j_callVv F mwX8_asks ql_X8_178 clX8 (lt653 rfl hN) ly50 [.int (a 62 x4.toNatClampNeg), .int (a 650 x4.toNatClampNeg), .int (a 649 x4.toNatClampNeg), .int x2] rfl ⟨rfl, rfl, Nat.le_of_ble_eq_true rfl, Nat.le_of_ble_eq_true rfl⟩ ⟨Nat.le_refl 0, Nat.le_refl 0⟩ rfl (Nat.le_of_ble_eq_true rfl) dX8_bestOf_42 (fun _ _ _ h9 => kX8_asks l hN  h9) h (fun v2 t2 a2 e2 h => ?_)
      refine j_aload_n F 0 dX8_bestOf_45 rfl rfl ?_
      refine j_iload_n F 1 dX8_bestOf_46 rfl rfl ?_
      refine j_callVi F mwX8_leftOf ql_X8_206 clX8 (lt653 rfl hN) ly50 [.int x1] rfl ⟨rfl, rfl, Nat.le_of_ble_eq_true rfl, Nat.le_of_ble_eq_true rfl⟩ ⟨Nat.le_refl 0, Nat.le_refl 0⟩ rfl (Nat.le_of_ble_eq_true rfl) dX8_bestOf_47 (fun _ _ _ h9 => kX8_leftOf l hN  h9) h (fun v3 t3 a3 e3 h => ?_)
      refine j_istore F (k := 0) (lv' := [(5, .int v3), (0, .ref (cz x + 50)), (1, .int x1), (2, .int x2), (3, .int x3), (4, .int x4)]) dX8_bestOf_50 (Nat.le_of_ble_eq_true rfl) rfl ?_
      refine j_iload_n F 4 dX8_bestOf_52 rfl rfl ?_
      refine j_bipush F dX8_bestOf_53 cB_m9 ?_
      refine j_icmp_eq F 67 dX8_bestOf_55 rfl h (fun h => ?_) (fun h => ?_)
      · refine j_iload F 5 dX8_bestOf_67 rfl ?_
        refine j_istore_n F (lv' := [(3, .int x4), (5, .int v3), (0, .ref (cz x + 50)), (1, .int x1), (2, .int x2), (4, .int x4)]) dX8_bestOf_69 rfl (Nat.le_of_ble_eq_true rfl) rfl ?_
        refine j_aload_n F 2 dX8_bestOf_70 rfl rfl ?_
        refine j_iload F 1 dX8_bestOf_71 rfl ?_
        refine j_putI F clX8 (j := 33) (tt := 3233) (lt653 rfl hN) ly50 (Nat.le_of_ble_eq_true rfl) rfl qf_X8_209 rfl rfl rfl dX8_bestOf_73 ?_
        refine j_iinc F (v := x4 + (1 : Int32)) (lv' := [(4, .int (x4 + (1 : Int32))), (3, .int x4), (5, .int v3), (0, .ref (cz x + 50)), (1, .int x1), (2, .int x2)]) dX8_bestOf_76 5 rfl (congrArg (fun z => x4 + z) cI_1) (Nat.le_of_ble_eq_true rfl) rfl ?_
        refine j_goto F 10 dX8_bestOf_79 rfl ?_
        exact j_lv [3, 4, 5, 1, 0] rfl (ih _ _ _ _ _ _ h)
      · refine j_iload F 0 dX8_bestOf_58 rfl ?_
        refine j_aload_n F 1 dX8_bestOf_60 rfl rfl ?_
        refine j_getI F clX8 (j := 33) (tt := 3233) (lt653 rfl hN) ly50 (Nat.le_of_ble_eq_true rfl) rfl qf_X8_209 rfl dX8_bestOf_61 ?_
        refine j_icmp_ge F 76 dX8_bestOf_64 rfl h (fun h => ?_) (fun h => ?_)
        · refine j_iinc F (v := x4 + (1 : Int32)) (lv' := [(4, .int (x4 + (1 : Int32))), (5, .int v3), (0, .ref (cz x + 50)), (1, .int x1), (2, .int x2), (3, .int x3)]) dX8_bestOf_76 5 rfl (congrArg (fun z => x4 + z) cI_1) (Nat.le_of_ble_eq_true rfl) rfl ?_
          refine j_goto F 10 dX8_bestOf_79 rfl ?_
          exact j_lv [2, 3, 4, 5, 0] rfl (ih _ _ _ _ _ _ h)
        · refine j_iload F 5 dX8_bestOf_67 rfl ?_
          refine j_istore_n F (lv' := [(3, .int x4), (5, .int v3), (0, .ref (cz x + 50)), (1, .int x1), (2, .int x2), (4, .int x4)]) dX8_bestOf_69 rfl (Nat.le_of_ble_eq_true rfl) rfl ?_
          refine j_aload_n F 2 dX8_bestOf_70 rfl rfl ?_
          refine j_iload F 1 dX8_bestOf_71 rfl ?_
          refine j_putI F clX8 (j := 33) (tt := 3233) (lt653 rfl hN) ly50 (Nat.le_of_ble_eq_true rfl) rfl qf_X8_209 rfl rfl rfl dX8_bestOf_73 ?_
          refine j_iinc F (v := x4 + (1 : Int32)) (lv' := [(4, .int (x4 + (1 : Int32))), (3, .int x4), (5, .int v3), (0, .ref (cz x + 50)), (1, .int x1), (2, .int x2)]) dX8_bestOf_76 5 rfl (congrArg (fun z => x4 + z) cI_1) (Nat.le_of_ble_eq_true rfl) rfl ?_
          refine j_goto F 10 dX8_bestOf_79 rfl ?_
          exact j_lv [3, 4, 5, 1, 0] rfl (ih _ _ _ _ _ _ h)
set_option maxRecDepth 100000 in
set_option maxHeartbeats 4000000 in
theorem kX8_bestOf (l : Launch) {x : Cx} {N : Nat} {u0 v0 : Option Nat} {nF : Nat} {x1 : Int32} {x2 : Int32} {t : sT} {a : sA} {rv : Int32} {rt : sT} {ra : sA} (hN : 653 ≤ N) (h : fX8_bestOf nF x1 x2 t a = some (rv, rt, ra)) : Met l yX8_bestOf [.code yX8_bestOf cX8_bestOf 6 (some .int)] (k2_rm 4 95) (Pre x N (rho u0 v0) t a [.ref (cz x + 50), .int x1, .int x2]) (PostI x N (rho u0 v0) rt ra rv) 0 0 (cA x) := by
  refine j_entry (by decide) rfl (Nat.le_of_ble_eq_true rfl) ?_
  intro p e s m below meth c F hsz hnm
  have F : Fx p s m meth c cX8_bestOf 6 RX8 (some .int) x := F
  unfold fX8_bestOf at h
  show J p l e _ s m _ below meth c x N (rho u0 v0) 6 0 0 _ 0 [(0, .ref (cz x + 50)), (1, .int x1), (2, .int x2)] [] t a
  refine j_aload_n F 0 dX8_bestOf_0 rfl rfl ?_
  refine j_callVv F mwX8_list ql_X8_193 clX8 (lt653 rfl hN) ly50 [] rfl ⟨rfl, rfl, Nat.le_of_ble_eq_true rfl, Nat.le_of_ble_eq_true rfl⟩ ⟨Nat.le_refl 0, Nat.le_refl 0⟩ rfl (Nat.le_of_ble_eq_true rfl) dX8_bestOf_1 (fun _ _ _ h9 => kX8_list l hN  h9) h (fun v1 t1 a1 e1 h => ?_)
  refine j_bipush F dX8_bestOf_4 cB_m9 ?_
  refine j_istore_n F (lv' := [(3, .int (-9 : Int32)), (0, .ref (cz x + 50)), (1, .int x1), (2, .int x2)]) dX8_bestOf_6 rfl (Nat.le_of_ble_eq_true rfl) rfl ?_
  refine j_iconst F dX8_bestOf_7 cI_1 ?_
  refine j_istore F (k := 0) (lv' := [(4, .int (1 : Int32)), (3, .int (-9 : Int32)), (0, .ref (cz x + 50)), (1, .int x1), (2, .int x2)]) dX8_bestOf_8 (Nat.le_of_ble_eq_true rfl) rfl ?_
  exact j_lv [2, 3, 4, 1, 0] rfl ((hX8_bestOf F hsz hN nF) _ _ _ _ _ _ h)
def gX8_faultOfForm_17 (nF : Nat) (r17 : sT → sA → Rs) (t : sT) (a : sA) : Rs := if (t 3201) ≤ (t 3221) then (some ((-9 : Int32), t, a)) else (cal (fX8_goesBy nF t a) (fun v2 t2 a2 => if v2 = 0 then (some (t2 3221, t2, a2)) else (r17 t2 a2)))
def gX8_faultOfForm (nF : Nat) : Nat → (sT → sA → Rs)
  | 0 => (fun _ _ => none)
  | n9 + 1 => (gX8_faultOfForm_17 nF (gX8_faultOfForm nF n9))
def fX8_faultOfForm (nF : Nat) (t : sT) (a : sA) : Rs := cal (fX8_goesBy nF (va_up t 3221 (0 : Int32)) a) (fun v1 t1 a1 => if v1 = 0 then (some (t1 3221, t1, a1)) else ((gX8_faultOfForm nF nF) t1 a1))
set_option maxRecDepth 100000 in
set_option maxHeartbeats 4000000 in
theorem hX8_faultOfForm {p : Program} {l : Launch} {e : Env} {s : State} {m : MethodId} {args : Array Value} {below : List Frame} {meth : Method} {c : Code} {x : Cx} {N : Nat} {u0 v0 : Option Nat} {nF : Nat} (F : Fx p s m meth c cX8_faultOfForm 1 RX8 (some .int) x) (hsz : s.heap.size = cz x + N) (hN : 653 ≤ N) {rv : Int32} {rt : sT} {ra : sA} : ∀ n9 : Nat, (∀ (t : sT) (a : sA), (gX8_faultOfForm nF n9) t a = some (rv, rt, ra) → J p l e (k2_rm 3 64) s m args below meth c x N (rho u0 v0) 1 0 0 (MQ below (PostI x N (rho u0 v0) rt ra rv) args s 0 0 (cA x)) 17 [(0, .ref (cz x + 50))] [] t a) := by
  intro n9
  induction n9 with
  | zero => exact fun _ _ h => (by cases h)
  | succ n9 ih =>
    intro t a h
    have h : gX8_faultOfForm_17 nF (gX8_faultOfForm nF n9) t a = some (rv, rt, ra) := h
    unfold gX8_faultOfForm_17 at h
    refine j_aload_n F 0 dX8_faultOfForm_17 rfl rfl ?_
    refine j_getI F clX8 (j := 21) (tt := 3221) (lt653 rfl hN) ly50 (Nat.le_of_ble_eq_true rfl) rfl qf_X8_81 rfl dX8_faultOfForm_18 ?_
    refine j_aload_n F 0 dX8_faultOfForm_21 rfl rfl ?_
    refine j_getI F clX8 (j := 1) (tt := 3201) (lt653 rfl hN) ly50 (Nat.le_of_ble_eq_true rfl) rfl qf_X8_78 rfl dX8_faultOfForm_22 ?_
    refine j_icmp_ge F 40 dX8_faultOfForm_25 rfl h (fun h => ?_) (fun h => ?_)
    · refine j_bipush F dX8_faultOfForm_40 cB_m9 ?_
      exact j_ireturn F rfl dX8_faultOfForm_42 h
    · refine j_aload_n F 0 dX8_faultOfForm_28 rfl rfl ?_
      refine j_callVi F mwX8_goesBy ql_X8_101 clX8 (lt653 rfl hN) ly50 [] rfl ⟨rfl, rfl, Nat.le_of_ble_eq_true rfl, Nat.le_of_ble_eq_true rfl⟩ ⟨Nat.le_refl 0, Nat.le_refl 0⟩ rfl (Nat.le_of_ble_eq_true rfl) dX8_faultOfForm_29 (fun _ _ _ h9 => kX8_goesBy l hN  h9) h (fun v2 t2 a2 e2 h => ?_)
      refine j_if_ne F 17 dX8_faultOfForm_32 rfl h (fun h => ?_) (fun h => ?_)
      · refine j_aload_n F 0 dX8_faultOfForm_35 rfl rfl ?_
        refine j_getI F clX8 (j := 21) (tt := 3221) (lt653 rfl hN) ly50 (Nat.le_of_ble_eq_true rfl) rfl qf_X8_81 rfl dX8_faultOfForm_36 ?_
        exact j_ireturn F rfl dX8_faultOfForm_39 h
      · exact j_lv [0] rfl (ih _ _ h)
set_option maxRecDepth 100000 in
set_option maxHeartbeats 4000000 in
theorem kX8_faultOfForm (l : Launch) {x : Cx} {N : Nat} {u0 v0 : Option Nat} {nF : Nat} {t : sT} {a : sA} {rv : Int32} {rt : sT} {ra : sA} (hN : 653 ≤ N) (h : fX8_faultOfForm nF t a = some (rv, rt, ra)) : Met l yX8_faultOfForm [.code yX8_faultOfForm cX8_faultOfForm 1 (some .int)] (k2_rm 3 64) (Pre x N (rho u0 v0) t a [.ref (cz x + 50)]) (PostI x N (rho u0 v0) rt ra rv) 0 0 (cA x) := by
  refine j_entry (by decide) rfl (Nat.le_of_ble_eq_true rfl) ?_
  intro p e s m below meth c F hsz hnm
  have F : Fx p s m meth c cX8_faultOfForm 1 RX8 (some .int) x := F
  unfold fX8_faultOfForm at h
  show J p l e _ s m _ below meth c x N (rho u0 v0) 1 0 0 _ 0 [(0, .ref (cz x + 50))] [] t a
  refine j_aload_n F 0 dX8_faultOfForm_0 rfl rfl ?_
  refine j_iconst F dX8_faultOfForm_1 cI_0 ?_
  refine j_putI F clX8 (j := 21) (tt := 3221) (lt653 rfl hN) ly50 (Nat.le_of_ble_eq_true rfl) rfl qf_X8_81 rfl rfl rfl dX8_faultOfForm_2 ?_
  refine j_aload_n F 0 dX8_faultOfForm_5 rfl rfl ?_
  refine j_callVi F mwX8_goesBy ql_X8_101 clX8 (lt653 rfl hN) ly50 [] rfl ⟨rfl, rfl, Nat.le_of_ble_eq_true rfl, Nat.le_of_ble_eq_true rfl⟩ ⟨Nat.le_refl 0, Nat.le_refl 0⟩ rfl (Nat.le_of_ble_eq_true rfl) dX8_faultOfForm_6 (fun _ _ _ h9 => kX8_goesBy l hN  h9) h (fun v1 t1 a1 e1 h => ?_)
  refine j_if_ne F 17 dX8_faultOfForm_9 rfl h (fun h => ?_) (fun h => ?_)
  · refine j_aload_n F 0 dX8_faultOfForm_12 rfl rfl ?_
    refine j_getI F clX8 (j := 21) (tt := 3221) (lt653 rfl hN) ly50 (Nat.le_of_ble_eq_true rfl) rfl qf_X8_81 rfl dX8_faultOfForm_13 ?_
    exact j_ireturn F rfl dX8_faultOfForm_16 h
  · exact j_lv [0] rfl ((hX8_faultOfForm F hsz hN nF) _ _ h)
def gX8_force_31 (nF : Nat) (r31 : Int32 → Int32 → Int32 → sT → sA → Rs) (x1 x2 x3 : Int32) (t : sT) (a : sA) : Rs := if (t 3227) ≤ x3 then (some ((-9 : Int32), t, a)) else (bnd x3 585 (bnd x3 585 (bnd x3 585 (cal (fX8_asks nF (a 62 x3.toNatClampNeg) (a 650 x3.toNatClampNeg) (a 649 x3.toNatClampNeg) (t 3213) t a) (fun v5 t5 a5 => cal (fX8_forces nF x1 t5 a5) (fun v6 t6 a6 => if v6 = 0 then (r31 x1 x2 (x3 + (1 : Int32)) t6 a6) else (if x2 = (-1 : Int32) then (bnd x3 585 (some (a6 62 x3.toNatClampNeg, t6, a6))) else (bnd x3 585 (if (a6 62 x3.toNatClampNeg) ≤ x2 then (some ((-9 : Int32), t6, a6)) else (bnd x3 585 (bnd x2 3 (some (a6 (64 + x3.toNatClampNeg) x2.toNatClampNeg, t6, a6)))))))))))))
def gX8_force (nF : Nat) : Nat → (Int32 → Int32 → Int32 → sT → sA → Rs)
  | 0 => (fun _ _ _ _ _ => none)
  | n9 + 1 => (gX8_force_31 nF (gX8_force nF n9))
def fX8_force (nF : Nat) (x1 : Int32) (x2 : Int32) (t : sT) (a : sA) : Rs := cal (fX8_isSet nF x1 t a) (fun v1 t1 a1 => if v1 = 0 then (cal (fX8_refuse nF (-1 : Int32) t1 a1) (fun v4 t4 a4 => some (v4, t4, a4))) else (if (-1 : Int32) ≤ x2 then (cal (fX8_list nF t1 a1) (fun v2 t2 a2 => (gX8_force nF nF) x1 x2 (1 : Int32) t2 a2)) else (cal (fX8_refuse nF (-4 : Int32) t1 a1) (fun v3 t3 a3 => some (v3, t3, a3)))))
set_option maxRecDepth 100000 in
set_option maxHeartbeats 4000000 in
theorem hX8_force {p : Program} {l : Launch} {e : Env} {s : State} {m : MethodId} {args : Array Value} {below : List Frame} {meth : Method} {c : Code} {x : Cx} {N : Nat} {u0 v0 : Option Nat} {nF : Nat} (F : Fx p s m meth c cX8_force 4 RX8 (some .int) x) (hsz : s.heap.size = cz x + N) (hN : 653 ≤ N) {rv : Int32} {rt : sT} {ra : sA} : ∀ n9 : Nat, (∀ (x1 x2 x3 : Int32) (t : sT) (a : sA), (gX8_force nF n9) x1 x2 x3 t a = some (rv, rt, ra) → J p l e (k2_rm 3 77) s m args below meth c x N (rho u0 v0) 4 0 0 (MQ below (PostI x N (rho u0 v0) rt ra rv) args s 0 0 (cA x)) 31 [(0, .ref (cz x + 50)), (1, .int x1), (2, .int x2), (3, .int x3)] [] t a) := by
  intro n9
  induction n9 with
  | zero => exact fun _ _ _ _ _ h => (by cases h)
  | succ n9 ih =>
    intro x1 x2 x3 t a h
    have h : gX8_force_31 nF (gX8_force nF n9) x1 x2 x3 t a = some (rv, rt, ra) := h
    unfold gX8_force_31 at h
    refine j_iload_n F 3 dX8_force_31 rfl rfl ?_
    refine j_aload_n F 0 dX8_force_32 rfl rfl ?_
    refine j_getI F clX8 (j := 27) (tt := 3227) (lt653 rfl hN) ly50 (Nat.le_of_ble_eq_true rfl) rfl qf_X8_159 rfl dX8_force_33 ?_
    refine j_icmp_ge F 117 dX8_force_36 rfl h (fun h => ?_) (fun h => ?_)
    · refine j_bipush F dX8_force_117 cB_m9 ?_
      exact j_ireturn F rfl dX8_force_119 h
    · refine j_aload_n F 0 dX8_force_39 rfl rfl ?_
      refine j_aload_n F 0 dX8_force_40 rfl rfl ?_
      refine j_getR F clX8 (j := 23) (lt653 rfl hN) ly50 (Nat.le_of_ble_eq_true rfl) rfl qf_X8_43 rfl dX8_force_41 ?_
      refine j_iload_n F 3 dX8_force_44 rfl rfl ?_
      refine j_iald F (lt653 rfl hN) ly62 dX8_force_45 h (fun h => ?_)
      refine j_aload_n F 0 dX8_force_46 rfl rfl ?_
      refine j_getR F clX8 (j := 26) (lt653 rfl hN) ly50 (Nat.le_of_ble_eq_true rfl) rfl qf_X8_54 rfl dX8_force_47 ?_
      refine j_iload_n F 3 dX8_force_50 rfl rfl ?_
      refine j_iald F (lt653 rfl hN) ly650 dX8_force_51 h (fun h => ?_)
      refine j_aload_n F 0 dX8_force_52 rfl rfl ?_
      refine j_getR F clX8 (j := 25) (lt653 rfl hN) ly50 (Nat.le_of_ble_eq_true rfl) rfl qf_X8_51 rfl dX8_force_53 ?_
      refine j_iload_n F 3 dX8_force_56 rfl rfl ?_
      refine j_iald F (lt653 rfl hN) ly649 dX8_force_57 h (fun h => ?_)
      refine j_aload_n F 0 dX8_force_58 rfl rfl ?_
      refine j_getI F clX8 (j := 13) (tt := 3213) (lt653 rfl hN) ly50 (Nat.le_of_ble_eq_true rfl) rfl qf_X8_111 rfl dX8_force_59 ?_
      refine j_callVv F mwX8_asks ql_X8_178 clX8 (lt653 rfl hN) ly50 [.int (a 62 x3.toNatClampNeg), .int (a 650 x3.toNatClampNeg), .int (a 649 x3.toNatClampNeg), .int (t 3213)] rfl ⟨rfl, rfl, Nat.le_of_ble_eq_true rfl, Nat.le_of_ble_eq_true rfl⟩ ⟨Nat.le_refl 0, Nat.le_refl 0⟩ rfl (Nat.le_of_ble_eq_true rfl) dX8_force_62 (fun _ _ _ h9 => kX8_asks l hN  h9) h (fun v5 t5 a5 e5 h => ?_)
      refine j_aload_n F 0 dX8_force_65 rfl rfl ?_
      refine j_iload_n F 1 dX8_force_66 rfl rfl ?_
      refine j_callVi F mwX8_forces ql_X8_215 clX8 (lt653 rfl hN) ly50 [.int x1] rfl ⟨rfl, rfl, Nat.le_of_ble_eq_true rfl, Nat.le_of_ble_eq_true rfl⟩ ⟨Nat.le_refl 0, Nat.le_refl 0⟩ rfl (Nat.le_of_ble_eq_true rfl) dX8_force_67 (fun _ _ _ h9 => kX8_forces l hN  h9) h (fun v6 t6 a6 e6 h => ?_)
      refine j_if_eq F 111 dX8_force_70 rfl h (fun h => ?_) (fun h => ?_)
      · refine j_iinc F (v := x3 + (1 : Int32)) (lv' := [(3, .int (x3 + (1 : Int32))), (0, .ref (cz x + 50)), (1, .int x1), (2, .int x2)]) dX8_force_111 3 rfl (congrArg (fun z => x3 + z) cI_1) (Nat.le_of_ble_eq_true rfl) rfl ?_
        refine j_goto F 31 dX8_force_114 rfl ?_
        exact j_lv [1, 2, 3, 0] rfl (ih _ _ _ _ _ h)
      · refine j_iload_n F 2 dX8_force_73 rfl rfl ?_
        refine j_iconst F dX8_force_74 cI_m1 ?_
        refine j_icmp_ne F 87 dX8_force_75 rfl h (fun h => ?_) (fun h => ?_)
        · refine j_aload_n F 0 dX8_force_78 rfl rfl ?_
          refine j_getR F clX8 (j := 23) (lt653 rfl hN) ly50 (Nat.le_of_ble_eq_true rfl) rfl qf_X8_43 rfl dX8_force_79 ?_
          refine j_iload_n F 3 dX8_force_82 rfl rfl ?_
          refine j_iald F (lt653 rfl hN) ly62 dX8_force_83 h (fun h => ?_)
          refine j_goto F 110 dX8_force_84 rfl ?_
          exact j_ireturn F rfl dX8_force_110 h
        · refine j_iload_n F 2 dX8_force_87 rfl rfl ?_
          refine j_aload_n F 0 dX8_force_88 rfl rfl ?_
          refine j_getR F clX8 (j := 23) (lt653 rfl hN) ly50 (Nat.le_of_ble_eq_true rfl) rfl qf_X8_43 rfl dX8_force_89 ?_
          refine j_iload_n F 3 dX8_force_92 rfl rfl ?_
          refine j_iald F (lt653 rfl hN) ly62 dX8_force_93 h (fun h => ?_)
          refine j_icmp_ge F 108 dX8_force_94 rfl h (fun h => ?_) (fun h => ?_)
          · refine j_bipush F dX8_force_108 cB_m9 ?_
            exact j_ireturn F rfl dX8_force_110 h
          · refine j_aload_n F 0 dX8_force_97 rfl rfl ?_
            refine j_getR F clX8 (j := 24) (lt653 rfl hN) ly50 (Nat.le_of_ble_eq_true rfl) rfl qf_X8_48 rfl dX8_force_98 ?_
            refine j_iload_n F 3 dX8_force_101 rfl rfl ?_
            refine j_aald F (lt653 rfl hN) ly63 rh63 dX8_force_102 h (fun hr7 h => ?_)
            refine j_iload_n F 2 dX8_force_103 rfl rfl ?_
            refine j_iald F (rowlt hr7 hN) (lyRow hr7) dX8_force_104 h (fun h => ?_)
            refine j_goto F 110 dX8_force_105 rfl ?_
            exact j_ireturn F rfl dX8_force_110 h
set_option maxRecDepth 100000 in
set_option maxHeartbeats 4000000 in
theorem kX8_force (l : Launch) {x : Cx} {N : Nat} {u0 v0 : Option Nat} {nF : Nat} {x1 : Int32} {x2 : Int32} {t : sT} {a : sA} {rv : Int32} {rt : sT} {ra : sA} (hN : 653 ≤ N) (h : fX8_force nF x1 x2 t a = some (rv, rt, ra)) : Met l yX8_force [.code yX8_force cX8_force 4 (some .int)] (k2_rm 3 77) (Pre x N (rho u0 v0) t a [.ref (cz x + 50), .int x1, .int x2]) (PostI x N (rho u0 v0) rt ra rv) 0 0 (cA x) := by
  refine j_entry (by decide) rfl (Nat.le_of_ble_eq_true rfl) ?_
  intro p e s m below meth c F hsz hnm
  have F : Fx p s m meth c cX8_force 4 RX8 (some .int) x := F
  unfold fX8_force at h
  show J p l e _ s m _ below meth c x N (rho u0 v0) 4 0 0 _ 0 [(0, .ref (cz x + 50)), (1, .int x1), (2, .int x2)] [] t a
  refine j_iload_n F 1 dX8_force_0 rfl rfl ?_
  refine j_callSi F mwX8_isSet ql_X8_153 [.int x1] rfl ⟨rfl, rfl, Nat.le_of_ble_eq_true rfl, Nat.le_of_ble_eq_true rfl⟩ ⟨Nat.le_refl 0, Nat.le_refl 0⟩ rfl (Nat.le_of_ble_eq_true rfl) dX8_force_1 (fun _ _ _ h9 => kX8_isSet l hN  h9) h (fun v1 t1 a1 e1 h => ?_)
  refine j_if_ne F 13 dX8_force_4 rfl h (fun h => ?_) (fun h => ?_)
  · refine j_aload_n F 0 dX8_force_7 rfl rfl ?_
    refine j_iconst F dX8_force_8 cI_m1 ?_
    refine j_callVi F mwX8_refuse ql_X8_74 clX8 (lt653 rfl hN) ly50 [.int (-1 : Int32)] rfl ⟨rfl, rfl, Nat.le_of_ble_eq_true rfl, Nat.le_of_ble_eq_true rfl⟩ ⟨Nat.le_refl 0, Nat.le_refl 0⟩ rfl (Nat.le_of_ble_eq_true rfl) dX8_force_9 (fun _ _ _ h9 => kX8_refuse l hN  h9) h (fun v4 t4 a4 e4 h => ?_)
    exact j_ireturn F rfl dX8_force_12 h
  · refine j_iload_n F 2 dX8_force_13 rfl rfl ?_
    refine j_iconst F dX8_force_14 cI_m1 ?_
    refine j_icmp_ge F 25 dX8_force_15 rfl h (fun h => ?_) (fun h => ?_)
    · refine j_aload_n F 0 dX8_force_25 rfl rfl ?_
      refine j_callVv F mwX8_list ql_X8_193 clX8 (lt653 rfl hN) ly50 [] rfl ⟨rfl, rfl, Nat.le_of_ble_eq_true rfl, Nat.le_of_ble_eq_true rfl⟩ ⟨Nat.le_refl 0, Nat.le_refl 0⟩ rfl (Nat.le_of_ble_eq_true rfl) dX8_force_26 (fun _ _ _ h9 => kX8_list l hN  h9) h (fun v2 t2 a2 e2 h => ?_)
      refine j_iconst F dX8_force_29 cI_1 ?_
      refine j_istore_n F (lv' := [(3, .int (1 : Int32)), (0, .ref (cz x + 50)), (1, .int x1), (2, .int x2)]) dX8_force_30 rfl (Nat.le_of_ble_eq_true rfl) rfl ?_
      exact j_lv [1, 2, 3, 0] rfl ((hX8_force F hsz hN nF) _ _ _ _ _ h)
    · refine j_aload_n F 0 dX8_force_18 rfl rfl ?_
      refine j_bipush F dX8_force_19 cB_m4 ?_
      refine j_callVi F mwX8_refuse ql_X8_74 clX8 (lt653 rfl hN) ly50 [.int (-4 : Int32)] rfl ⟨rfl, rfl, Nat.le_of_ble_eq_true rfl, Nat.le_of_ble_eq_true rfl⟩ ⟨Nat.le_refl 0, Nat.le_refl 0⟩ rfl (Nat.le_of_ble_eq_true rfl) dX8_force_21 (fun _ _ _ h9 => kX8_refuse l hN  h9) h (fun v3 t3 a3 e3 h => ?_)
      exact j_ireturn F rfl dX8_force_24 h
def fX8_idle (nF : Nat) (x1 : Int32) (t : sT) (a : sA) : Rs := cal (fX8_isPerson nF x1 t a) (fun v1 t1 a1 => if v1 = 0 then (cal (fX8_refuse nF (-1 : Int32) t1 a1) (fun v7 t7 a7 => some ((1000000000 : Int32) - v7, t7, a7))) else (if (t1 3207) = (8 : Int32) then (cal (fX8_refuse nF (-3 : Int32) t1 a1) (fun v2 t2 a2 => some ((1000000000 : Int32) - v2, t2, a2))) else (if (t1 3207) = 0 then (cal (fX8_refuse nF (-3 : Int32) t1 a1) (fun v6 t6 a6 => some ((1000000000 : Int32) - v6, t6, a6))) else (bnd x1 4 (cal (fX8_bestOf nF (a1 58 x1.toNatClampNeg) (t1 3213) t1 a1) (fun v3 t3 a3 => cal (fX8_addWord nF (3 : Int32) (0 : Int32) t3 a3) (fun v4 t4 a4 => bnd x1 4 (cal (fX8_bestOf nF (a4 58 x1.toNatClampNeg) (t4 3213) t4 a4) (fun v5 t5 a5 => some ((t3 3233) - ((va_up t5 3207 ((t5 3207) - (1 : Int32))) 3233), va_up t5 3207 ((t5 3207) - (1 : Int32)), a5))))))))))
set_option maxRecDepth 100000 in
set_option maxHeartbeats 4000000 in
theorem kX8_idle (l : Launch) {x : Cx} {N : Nat} {u0 v0 : Option Nat} {nF : Nat} {x1 : Int32} {t : sT} {a : sA} {rv : Int32} {rt : sT} {ra : sA} (hN : 653 ≤ N) (h : fX8_idle nF x1 t a = some (rv, rt, ra)) : Met l yX8_idle [.code yX8_idle cX8_idle 3 (some .int)] (k2_rm 5 120) (Pre x N (rho u0 v0) t a [.ref (cz x + 50), .int x1]) (PostI x N (rho u0 v0) rt ra rv) 0 0 (cA x) := by
  refine j_entry (by decide) rfl (Nat.le_of_ble_eq_true rfl) ?_
  intro p e s m below meth c F hsz hnm
  have F : Fx p s m meth c cX8_idle 3 RX8 (some .int) x := F
  unfold fX8_idle at h
  show J p l e _ s m _ below meth c x N (rho u0 v0) 3 0 0 _ 0 [(0, .ref (cz x + 50)), (1, .int x1)] [] t a
  refine j_aload_n F 0 dX8_idle_0 rfl rfl ?_
  refine j_iload_n F 1 dX8_idle_1 rfl rfl ?_
  refine j_callVi F mwX8_isPerson ql_X8_190 clX8 (lt653 rfl hN) ly50 [.int x1] rfl ⟨rfl, rfl, Nat.le_of_ble_eq_true rfl, Nat.le_of_ble_eq_true rfl⟩ ⟨Nat.le_refl 0, Nat.le_refl 0⟩ rfl (Nat.le_of_ble_eq_true rfl) dX8_idle_2 (fun _ _ _ h9 => kX8_isPerson l hN  h9) h (fun v1 t1 a1 e1 h => ?_)
  refine j_if_ne F 17 dX8_idle_5 rfl h (fun h => ?_) (fun h => ?_)
  · refine j_ldc F dX8_idle_8 qc_X8_233 ?_
    refine j_aload_n F 0 dX8_idle_10 rfl rfl ?_
    refine j_iconst F dX8_idle_11 cI_m1 ?_
    refine j_callVi F mwX8_refuse ql_X8_74 clX8 (lt653 rfl hN) ly50 [.int (-1 : Int32)] rfl ⟨rfl, rfl, Nat.le_of_ble_eq_true rfl, Nat.le_of_ble_eq_true rfl⟩ ⟨Nat.le_refl 0, Nat.le_refl 0⟩ rfl (Nat.le_of_ble_eq_true rfl) dX8_idle_12 (fun _ _ _ h9 => kX8_refuse l hN  h9) h (fun v7 t7 a7 e7 h => ?_)
    refine j_isub F dX8_idle_15 ?_
    exact j_ireturn F rfl dX8_idle_16 h
  · refine j_aload_n F 0 dX8_idle_17 rfl rfl ?_
    refine j_getI F clX8 (j := 7) (tt := 3207) (lt653 rfl hN) ly50 (Nat.le_of_ble_eq_true rfl) rfl qf_X8_67 rfl dX8_idle_18 ?_
    refine j_bipush F dX8_idle_21 cB_8 ?_
    refine j_icmp_eq F 33 dX8_idle_23 rfl h (fun h => ?_) (fun h => ?_)
    · refine j_ldc F dX8_idle_33 qc_X8_233 ?_
      refine j_aload_n F 0 dX8_idle_35 rfl rfl ?_
      refine j_bipush F dX8_idle_36 cB_m3 ?_
      refine j_callVi F mwX8_refuse ql_X8_74 clX8 (lt653 rfl hN) ly50 [.int (-3 : Int32)] rfl ⟨rfl, rfl, Nat.le_of_ble_eq_true rfl, Nat.le_of_ble_eq_true rfl⟩ ⟨Nat.le_refl 0, Nat.le_refl 0⟩ rfl (Nat.le_of_ble_eq_true rfl) dX8_idle_38 (fun _ _ _ h9 => kX8_refuse l hN  h9) h (fun v2 t2 a2 e2 h => ?_)
      refine j_isub F dX8_idle_41 ?_
      exact j_ireturn F rfl dX8_idle_42 h
    · refine j_aload_n F 0 dX8_idle_26 rfl rfl ?_
      refine j_getI F clX8 (j := 7) (tt := 3207) (lt653 rfl hN) ly50 (Nat.le_of_ble_eq_true rfl) rfl qf_X8_67 rfl dX8_idle_27 ?_
      refine j_if_ne F 43 dX8_idle_30 rfl h (fun h => ?_) (fun h => ?_)
      · refine j_ldc F dX8_idle_33 qc_X8_233 ?_
        refine j_aload_n F 0 dX8_idle_35 rfl rfl ?_
        refine j_bipush F dX8_idle_36 cB_m3 ?_
        refine j_callVi F mwX8_refuse ql_X8_74 clX8 (lt653 rfl hN) ly50 [.int (-3 : Int32)] rfl ⟨rfl, rfl, Nat.le_of_ble_eq_true rfl, Nat.le_of_ble_eq_true rfl⟩ ⟨Nat.le_refl 0, Nat.le_refl 0⟩ rfl (Nat.le_of_ble_eq_true rfl) dX8_idle_38 (fun _ _ _ h9 => kX8_refuse l hN  h9) h (fun v6 t6 a6 e6 h => ?_)
        refine j_isub F dX8_idle_41 ?_
        exact j_ireturn F rfl dX8_idle_42 h
      · refine j_aload_n F 0 dX8_idle_43 rfl rfl ?_
        refine j_aload_n F 0 dX8_idle_44 rfl rfl ?_
        refine j_getR F clX8 (j := 12) (lt653 rfl hN) ly50 (Nat.le_of_ble_eq_true rfl) rfl qf_X8_31 rfl dX8_idle_45 ?_
        refine j_iload_n F 1 dX8_idle_48 rfl rfl ?_
        refine j_iald F (lt653 rfl hN) ly58 dX8_idle_49 h (fun h => ?_)
        refine j_aload_n F 0 dX8_idle_50 rfl rfl ?_
        refine j_getI F clX8 (j := 13) (tt := 3213) (lt653 rfl hN) ly50 (Nat.le_of_ble_eq_true rfl) rfl qf_X8_111 rfl dX8_idle_51 ?_
        refine j_callVi F mwX8_bestOf ql_X8_212 clX8 (lt653 rfl hN) ly50 [.int (a1 58 x1.toNatClampNeg), .int (t1 3213)] rfl ⟨rfl, rfl, Nat.le_of_ble_eq_true rfl, Nat.le_of_ble_eq_true rfl⟩ ⟨Nat.le_refl 0, Nat.le_refl 0⟩ rfl (Nat.le_of_ble_eq_true rfl) dX8_idle_54 (fun _ _ _ h9 => kX8_bestOf l hN  h9) h (fun v3 t3 a3 e3 h => ?_)
        refine j_pop F dX8_idle_57 rfl ?_
        refine j_aload_n F 0 dX8_idle_58 rfl rfl ?_
        refine j_getI F clX8 (j := 33) (tt := 3233) (lt653 rfl hN) ly50 (Nat.le_of_ble_eq_true rfl) rfl qf_X8_209 rfl dX8_idle_59 ?_
        refine j_istore_n F (lv' := [(2, .int (t3 3233)), (0, .ref (cz x + 50)), (1, .int x1)]) dX8_idle_62 rfl (Nat.le_of_ble_eq_true rfl) rfl ?_
        refine j_aload_n F 1 dX8_idle_63 rfl rfl ?_
        refine j_iconst F dX8_idle_64 cI_3 ?_
        refine j_iconst F dX8_idle_65 cI_0 ?_
        refine j_callVi F mwX8_addWord ql_X8_104 clX8 (lt653 rfl hN) ly50 [.int (3 : Int32), .int (0 : Int32)] rfl ⟨rfl, rfl, Nat.le_of_ble_eq_true rfl, Nat.le_of_ble_eq_true rfl⟩ ⟨Nat.le_refl 0, Nat.le_refl 0⟩ rfl (Nat.le_of_ble_eq_true rfl) dX8_idle_66 (fun _ _ _ h9 => kX8_addWord l hN  h9) h (fun v4 t4 a4 e4 h => ?_)
        refine j_pop F dX8_idle_69 rfl ?_
        refine j_aload_n F 1 dX8_idle_70 rfl rfl ?_
        refine j_aload_n F 1 dX8_idle_71 rfl rfl ?_
        refine j_getR F clX8 (j := 12) (lt653 rfl hN) ly50 (Nat.le_of_ble_eq_true rfl) rfl qf_X8_31 rfl dX8_idle_72 ?_
        refine j_iload_n F 2 dX8_idle_75 rfl rfl ?_
        refine j_iald F (lt653 rfl hN) ly58 dX8_idle_76 h (fun h => ?_)
        refine j_aload_n F 1 dX8_idle_77 rfl rfl ?_
        refine j_getI F clX8 (j := 13) (tt := 3213) (lt653 rfl hN) ly50 (Nat.le_of_ble_eq_true rfl) rfl qf_X8_111 rfl dX8_idle_78 ?_
        refine j_callVi F mwX8_bestOf ql_X8_212 clX8 (lt653 rfl hN) ly50 [.int (a4 58 x1.toNatClampNeg), .int (t4 3213)] rfl ⟨rfl, rfl, Nat.le_of_ble_eq_true rfl, Nat.le_of_ble_eq_true rfl⟩ ⟨Nat.le_refl 0, Nat.le_refl 0⟩ rfl (Nat.le_of_ble_eq_true rfl) dX8_idle_81 (fun _ _ _ h9 => kX8_bestOf l hN  h9) h (fun v5 t5 a5 e5 h => ?_)
        refine j_pop F dX8_idle_84 rfl ?_
        refine j_aload_n F 1 dX8_idle_85 rfl rfl ?_
        refine j_dup F dX8_idle_86 rfl ?_
        refine j_getI F clX8 (j := 7) (tt := 3207) (lt653 rfl hN) ly50 (Nat.le_of_ble_eq_true rfl) rfl qf_X8_67 rfl dX8_idle_87 ?_
        refine j_iconst F dX8_idle_90 cI_1 ?_
        refine j_isub F dX8_idle_91 ?_
        refine j_putI F clX8 (j := 7) (tt := 3207) (lt653 rfl hN) ly50 (Nat.le_of_ble_eq_true rfl) rfl qf_X8_67 rfl rfl rfl dX8_idle_92 ?_
        refine j_iload_n F 0 dX8_idle_95 rfl rfl ?_
        refine j_aload_n F 1 dX8_idle_96 rfl rfl ?_
        refine j_getI F clX8 (j := 33) (tt := 3233) (lt653 rfl hN) ly50 (Nat.le_of_ble_eq_true rfl) rfl qf_X8_209 rfl dX8_idle_97 ?_
        refine j_isub F dX8_idle_100 ?_
        exact j_ireturn F rfl dX8_idle_101 h
def fX8_left (nF : Nat) (x1 : Int32) (t : sT) (a : sA) : Rs := cal (fX8_isPerson nF x1 t a) (fun v1 t1 a1 => if v1 = 0 then (cal (fX8_refuse nF (-1 : Int32) t1 a1) (fun v5 t5 a5 => some (v5, t5, a5))) else (cal (fX8_list nF t1 a1) (fun v2 t2 a2 => cal (fX8_asksRow nF t2 a2) (fun v3 t3 a3 => bnd x1 4 (cal (fX8_leftOf nF (a3 58 x1.toNatClampNeg) (va_up t3 3203 (0 : Int32)) a3) (fun v4 t4 a4 => some (v4, t4, a4)))))))
set_option maxRecDepth 100000 in
set_option maxHeartbeats 4000000 in
theorem kX8_left (l : Launch) {x : Cx} {N : Nat} {u0 v0 : Option Nat} {nF : Nat} {x1 : Int32} {t : sT} {a : sA} {rv : Int32} {rt : sT} {ra : sA} (hN : 653 ≤ N) (h : fX8_left nF x1 t a = some (rv, rt, ra)) : Met l yX8_left [.code yX8_left cX8_left 2 (some .int)] (k2_rm 4 95) (Pre x N (rho u0 v0) t a [.ref (cz x + 50), .int x1]) (PostI x N (rho u0 v0) rt ra rv) 0 0 (cA x) := by
  refine j_entry (by decide) rfl (Nat.le_of_ble_eq_true rfl) ?_
  intro p e s m below meth c F hsz hnm
  have F : Fx p s m meth c cX8_left 2 RX8 (some .int) x := F
  unfold fX8_left at h
  show J p l e _ s m _ below meth c x N (rho u0 v0) 2 0 0 _ 0 [(0, .ref (cz x + 50)), (1, .int x1)] [] t a
  refine j_aload_n F 0 dX8_left_0 rfl rfl ?_
  refine j_iload_n F 1 dX8_left_1 rfl rfl ?_
  refine j_callVi F mwX8_isPerson ql_X8_190 clX8 (lt653 rfl hN) ly50 [.int x1] rfl ⟨rfl, rfl, Nat.le_of_ble_eq_true rfl, Nat.le_of_ble_eq_true rfl⟩ ⟨Nat.le_refl 0, Nat.le_refl 0⟩ rfl (Nat.le_of_ble_eq_true rfl) dX8_left_2 (fun _ _ _ h9 => kX8_isPerson l hN  h9) h (fun v1 t1 a1 e1 h => ?_)
  refine j_if_ne F 14 dX8_left_5 rfl h (fun h => ?_) (fun h => ?_)
  · refine j_aload_n F 0 dX8_left_8 rfl rfl ?_
    refine j_iconst F dX8_left_9 cI_m1 ?_
    refine j_callVi F mwX8_refuse ql_X8_74 clX8 (lt653 rfl hN) ly50 [.int (-1 : Int32)] rfl ⟨rfl, rfl, Nat.le_of_ble_eq_true rfl, Nat.le_of_ble_eq_true rfl⟩ ⟨Nat.le_refl 0, Nat.le_refl 0⟩ rfl (Nat.le_of_ble_eq_true rfl) dX8_left_10 (fun _ _ _ h9 => kX8_refuse l hN  h9) h (fun v5 t5 a5 e5 h => ?_)
    exact j_ireturn F rfl dX8_left_13 h
  · refine j_aload_n F 0 dX8_left_14 rfl rfl ?_
    refine j_callVv F mwX8_list ql_X8_193 clX8 (lt653 rfl hN) ly50 [] rfl ⟨rfl, rfl, Nat.le_of_ble_eq_true rfl, Nat.le_of_ble_eq_true rfl⟩ ⟨Nat.le_refl 0, Nat.le_refl 0⟩ rfl (Nat.le_of_ble_eq_true rfl) dX8_left_15 (fun _ _ _ h9 => kX8_list l hN  h9) h (fun v2 t2 a2 e2 h => ?_)
    refine j_aload_n F 0 dX8_left_18 rfl rfl ?_
    refine j_callVv F mwX8_asksRow ql_X8_196 clX8 (lt653 rfl hN) ly50 [] rfl ⟨rfl, rfl, Nat.le_of_ble_eq_true rfl, Nat.le_of_ble_eq_true rfl⟩ ⟨Nat.le_refl 0, Nat.le_refl 0⟩ rfl (Nat.le_of_ble_eq_true rfl) dX8_left_19 (fun _ _ _ h9 => kX8_asksRow l hN  h9) h (fun v3 t3 a3 e3 h => ?_)
    refine j_aload_n F 0 dX8_left_22 rfl rfl ?_
    refine j_iconst F dX8_left_23 cI_0 ?_
    refine j_putI F clX8 (j := 3) (tt := 3203) (lt653 rfl hN) ly50 (Nat.le_of_ble_eq_true rfl) rfl qf_X8_139 rfl rfl rfl dX8_left_24 ?_
    refine j_aload_n F 0 dX8_left_27 rfl rfl ?_
    refine j_aload_n F 0 dX8_left_28 rfl rfl ?_
    refine j_getR F clX8 (j := 12) (lt653 rfl hN) ly50 (Nat.le_of_ble_eq_true rfl) rfl qf_X8_31 rfl dX8_left_29 ?_
    refine j_iload_n F 1 dX8_left_32 rfl rfl ?_
    refine j_iald F (lt653 rfl hN) ly58 dX8_left_33 h (fun h => ?_)
    refine j_callVi F mwX8_leftOf ql_X8_206 clX8 (lt653 rfl hN) ly50 [.int (a3 58 x1.toNatClampNeg)] rfl ⟨rfl, rfl, Nat.le_of_ble_eq_true rfl, Nat.le_of_ble_eq_true rfl⟩ ⟨Nat.le_refl 0, Nat.le_refl 0⟩ rfl (Nat.le_of_ble_eq_true rfl) dX8_left_34 (fun _ _ _ h9 => kX8_leftOf l hN  h9) h (fun v4 t4 a4 e4 h => ?_)
    exact j_ireturn F rfl dX8_left_37 h
def fX8_under (nF : Nat) (x1 : Int32) (x2 : Int32) (t : sT) (a : sA) : Rs := cal (fX8_isPerson nF x1 t a) (fun v1 t1 a1 => if v1 = 0 then (cal (fX8_refuse nF (-1 : Int32) t1 a1) (fun v5 t5 a5 => some (v5, t5, a5))) else (cal (fX8_in nF x2 (0 : Int32) (4 : Int32) t1 a1) (fun v2 t2 a2 => if v2 = 0 then (cal (fX8_refuse nF (-2 : Int32) t2 a2) (fun v4 t4 a4 => some (v4, t4, a4))) else (bnd x1 4 (cal (fX8_bestOf nF (a2 58 x1.toNatClampNeg) x2 t2 a2) (fun v3 t3 a3 => if v3 = (-9 : Int32) then (some ((-9 : Int32), t3, a3)) else (some (t3 3233, t3, a3))))))))
set_option maxRecDepth 100000 in
set_option maxHeartbeats 4000000 in
theorem kX8_under (l : Launch) {x : Cx} {N : Nat} {u0 v0 : Option Nat} {nF : Nat} {x1 : Int32} {x2 : Int32} {t : sT} {a : sA} {rv : Int32} {rt : sT} {ra : sA} (hN : 653 ≤ N) (h : fX8_under nF x1 x2 t a = some (rv, rt, ra)) : Met l yX8_under [.code yX8_under cX8_under 3 (some .int)] (k2_rm 5 120) (Pre x N (rho u0 v0) t a [.ref (cz x + 50), .int x1, .int x2]) (PostI x N (rho u0 v0) rt ra rv) 0 0 (cA x) := by
  refine j_entry (by decide) rfl (Nat.le_of_ble_eq_true rfl) ?_
  intro p e s m below meth c F hsz hnm
  have F : Fx p s m meth c cX8_under 3 RX8 (some .int) x := F
  unfold fX8_under at h
  show J p l e _ s m _ below meth c x N (rho u0 v0) 3 0 0 _ 0 [(0, .ref (cz x + 50)), (1, .int x1), (2, .int x2)] [] t a
  refine j_aload_n F 0 dX8_under_0 rfl rfl ?_
  refine j_iload_n F 1 dX8_under_1 rfl rfl ?_
  refine j_callVi F mwX8_isPerson ql_X8_190 clX8 (lt653 rfl hN) ly50 [.int x1] rfl ⟨rfl, rfl, Nat.le_of_ble_eq_true rfl, Nat.le_of_ble_eq_true rfl⟩ ⟨Nat.le_refl 0, Nat.le_refl 0⟩ rfl (Nat.le_of_ble_eq_true rfl) dX8_under_2 (fun _ _ _ h9 => kX8_isPerson l hN  h9) h (fun v1 t1 a1 e1 h => ?_)
  refine j_if_ne F 14 dX8_under_5 rfl h (fun h => ?_) (fun h => ?_)
  · refine j_aload_n F 0 dX8_under_8 rfl rfl ?_
    refine j_iconst F dX8_under_9 cI_m1 ?_
    refine j_callVi F mwX8_refuse ql_X8_74 clX8 (lt653 rfl hN) ly50 [.int (-1 : Int32)] rfl ⟨rfl, rfl, Nat.le_of_ble_eq_true rfl, Nat.le_of_ble_eq_true rfl⟩ ⟨Nat.le_refl 0, Nat.le_refl 0⟩ rfl (Nat.le_of_ble_eq_true rfl) dX8_under_10 (fun _ _ _ h9 => kX8_refuse l hN  h9) h (fun v5 t5 a5 e5 h => ?_)
    exact j_ireturn F rfl dX8_under_13 h
  · refine j_iload_n F 2 dX8_under_14 rfl rfl ?_
    refine j_iconst F dX8_under_15 cI_0 ?_
    refine j_iconst F dX8_under_16 cI_4 ?_
    refine j_callSi F mwX8_in ql_X8_63 [.int x2, .int (0 : Int32), .int (4 : Int32)] rfl ⟨rfl, rfl, Nat.le_of_ble_eq_true rfl, Nat.le_of_ble_eq_true rfl⟩ ⟨Nat.le_refl 0, Nat.le_refl 0⟩ rfl (Nat.le_of_ble_eq_true rfl) dX8_under_17 (fun _ _ _ h9 => kX8_in l hN  h9) h (fun v2 t2 a2 e2 h => ?_)
    refine j_if_ne F 30 dX8_under_20 rfl h (fun h => ?_) (fun h => ?_)
    · refine j_aload_n F 0 dX8_under_23 rfl rfl ?_
      refine j_bipush F dX8_under_24 cB_m2 ?_
      refine j_callVi F mwX8_refuse ql_X8_74 clX8 (lt653 rfl hN) ly50 [.int (-2 : Int32)] rfl ⟨rfl, rfl, Nat.le_of_ble_eq_true rfl, Nat.le_of_ble_eq_true rfl⟩ ⟨Nat.le_refl 0, Nat.le_refl 0⟩ rfl (Nat.le_of_ble_eq_true rfl) dX8_under_26 (fun _ _ _ h9 => kX8_refuse l hN  h9) h (fun v4 t4 a4 e4 h => ?_)
      exact j_ireturn F rfl dX8_under_29 h
    · refine j_aload_n F 0 dX8_under_30 rfl rfl ?_
      refine j_aload_n F 0 dX8_under_31 rfl rfl ?_
      refine j_getR F clX8 (j := 12) (lt653 rfl hN) ly50 (Nat.le_of_ble_eq_true rfl) rfl qf_X8_31 rfl dX8_under_32 ?_
      refine j_iload_n F 1 dX8_under_35 rfl rfl ?_
      refine j_iald F (lt653 rfl hN) ly58 dX8_under_36 h (fun h => ?_)
      refine j_iload_n F 2 dX8_under_37 rfl rfl ?_
      refine j_callVi F mwX8_bestOf ql_X8_212 clX8 (lt653 rfl hN) ly50 [.int (a2 58 x1.toNatClampNeg), .int x2] rfl ⟨rfl, rfl, Nat.le_of_ble_eq_true rfl, Nat.le_of_ble_eq_true rfl⟩ ⟨Nat.le_refl 0, Nat.le_refl 0⟩ rfl (Nat.le_of_ble_eq_true rfl) dX8_under_38 (fun _ _ _ h9 => kX8_bestOf l hN  h9) h (fun v3 t3 a3 e3 h => ?_)
      refine j_bipush F dX8_under_41 cB_m9 ?_
      refine j_icmp_ne F 51 dX8_under_43 rfl h (fun h => ?_) (fun h => ?_)
      · refine j_bipush F dX8_under_46 cB_m9 ?_
        refine j_goto F 55 dX8_under_48 rfl ?_
        exact j_ireturn F rfl dX8_under_55 h
      · refine j_aload_n F 0 dX8_under_51 rfl rfl ?_
        refine j_getI F clX8 (j := 33) (tt := 3233) (lt653 rfl hN) ly50 (Nat.le_of_ble_eq_true rfl) rfl qf_X8_209 rfl dX8_under_52 ?_
        exact j_ireturn F rfl dX8_under_55 h
def fX3_bestQuestion (nF : Nat) (k0 : Nat) (x1 : Int32) (x2 : Int32) (t : sT) (a : sA) : Rs := cal (fX3_findBest nF k0 x1 x2 t a) (fun v1 t1 a1 => if 0 ≤ v1 then (bnd v1 25 (bnd (a1 (k0 + 9) v1.toNatClampNeg) 585 (some (a1 (k0 + 3) (a1 (k0 + 9) v1.toNatClampNeg).toNatClampNeg, t1, a1)))) else (some ((0 : Int32), t1, a1)))
set_option maxRecDepth 100000 in
set_option maxHeartbeats 4000000 in
theorem kX3_bestQuestion (l : Launch) {x : Cx} {N : Nat} {u0 v0 : Option Nat} {nF : Nat} {k0 : Nat} {x1 : Int32} {x2 : Int32} {t : sT} {a : sA} {rv : Int32} {rt : sT} {ra : sA} (hN : 653 ≤ N) (hk0 : isSy k0) (h : fX3_bestQuestion nF k0 x1 x2 t a = some (rv, rt, ra)) : Met l yX3_bestQuestion [.code yX3_bestQuestion cX3_bestQuestion 4 (some .int)] (k2_rm 5 122) (Pre x N (rho u0 v0) t a [.ref (cz x + k0), .int x1, .int x2]) (PostI x N (rho u0 v0) rt ra rv) 0 0 (cA x) := by
  refine j_entry (by decide) rfl (Nat.le_of_ble_eq_true rfl) ?_
  intro p e s m below meth c F hsz hnm
  have F : Fx p s m meth c cX3_bestQuestion 4 RX3 (some .int) x := F
  unfold fX3_bestQuestion at h
  show J p l e _ s m _ below meth c x N (rho u0 v0) 4 0 0 _ 0 [(0, .ref (cz x + k0)), (1, .int x1), (2, .int x2)] [] t a
  refine j_aload_n F 0 dX3_bestQuestion_0 rfl rfl ?_
  refine j_iload_n F 1 dX3_bestQuestion_1 rfl rfl ?_
  refine j_iload_n F 2 dX3_bestQuestion_2 rfl rfl ?_
  refine j_callVi F mwX3_findBest ql_X3_89 clX3 (Sy_lt hk0 hN) (Sy_l hk0) [.int x1, .int x2] rfl ⟨rfl, rfl, Nat.le_of_ble_eq_true rfl, Nat.le_of_ble_eq_true rfl⟩ ⟨Nat.le_refl 0, Nat.le_refl 0⟩ rfl (Nat.le_of_ble_eq_true rfl) dX3_bestQuestion_3 (fun _ _ _ h9 => kX3_findBest l hN hk0 h9) h (fun v1 t1 a1 e1 h => ?_)
  refine j_istore_n F (lv' := [(3, .int v1), (0, .ref (cz x + k0)), (1, .int x1), (2, .int x2)]) dX3_bestQuestion_6 rfl (Nat.le_of_ble_eq_true rfl) rfl ?_
  refine j_iload_n F 0 dX3_bestQuestion_7 rfl rfl ?_
  refine j_if_ge F 15 dX3_bestQuestion_8 rfl h (fun h => ?_) (fun h => ?_)
  · refine j_aload_n F 1 dX3_bestQuestion_15 rfl rfl ?_
    refine j_getR F clX3 (j := 4) (Sy_lt hk0 hN) (Sy_l hk0) (Nat.le_of_ble_eq_true rfl) rfl qf_X3_18 (Sy_r4 hk0) dX3_bestQuestion_16 ?_
    refine j_aload_n F 1 dX3_bestQuestion_19 rfl rfl ?_
    refine j_getR F clX3 (j := 10) (Sy_lt hk0 hN) (Sy_l hk0) (Nat.le_of_ble_eq_true rfl) rfl qf_X3_36 (Sy_r10 hk0) dX3_bestQuestion_20 ?_
    refine j_iload_n F 0 dX3_bestQuestion_23 rfl rfl ?_
    refine j_iald F (Sy_lt9 hk0 hN) (Sy_l9 hk0) dX3_bestQuestion_24 h (fun h => ?_)
    refine j_iald F (Sy_lt3 hk0 hN) (Sy_l3 hk0) dX3_bestQuestion_25 h (fun h => ?_)
    exact j_ireturn F rfl dX3_bestQuestion_26 h
  · refine j_iconst F dX3_bestQuestion_11 cI_0 ?_
    refine j_goto F 26 dX3_bestQuestion_12 rfl ?_
    exact j_ireturn F rfl dX3_bestQuestion_26 h
def fX7_best (nF : Nat) (x1 : Int32) (x2 : Int32) (t : sT) (a : sA) : Rs := cal (fX6_hasPerson nF 3 x1 t a) (fun v1 t1 a1 => if v1 = 0 then (cal (fX7_refuse nF (-1 : Int32) t1 a1) (fun v6 t6 a6 => some (v6, t6, a6))) else (if (-1 : Int32) ≤ x2 then (if (t1 196) = 0 then (some ((-9 : Int32), t1, a1)) else (bnd x1 4 (if x2 = (-1 : Int32) then (cal (fX3_leftOfBest nF 19 (a1 7 x1.toNatClampNeg) (t1 198) t1 a1) (fun v4 t4 a4 => some (v4, t4, a4))) else (cal (fX3_bestQuestion nF 19 (a1 7 x1.toNatClampNeg) (t1 198) t1 a1) (fun v2 t2 a2 => cal (fX7_lengthOrWord nF v2 (x2 - (1 : Int32)) t2 a2) (fun v3 t3 a3 => some (v3, t3, a3))))))) else (cal (fX7_refuse nF (-4 : Int32) t1 a1) (fun v5 t5 a5 => some (v5, t5, a5)))))
set_option maxRecDepth 100000 in
set_option maxHeartbeats 4000000 in
theorem kX7_best (l : Launch) {x : Cx} {N : Nat} {u0 v0 : Option Nat} {nF : Nat} {x1 : Int32} {x2 : Int32} {t : sT} {a : sA} {rv : Int32} {rt : sT} {ra : sA} (hN : 653 ≤ N) (h : fX7_best nF x1 x2 t a = some (rv, rt, ra)) : Met l yX7_best [.code yX7_best cX7_best 4 (some .int)] (k2_rm 6 145) (Pre x N (rho u0 v0) t a [.ref (cz x + 0), .int x1, .int x2]) (PostI x N (rho u0 v0) rt ra rv) 0 0 (cA x) := by
  refine j_entry (by decide) rfl (Nat.le_of_ble_eq_true rfl) ?_
  intro p e s m below meth c F hsz hnm
  have F : Fx p s m meth c cX7_best 4 RX7 (some .int) x := F
  unfold fX7_best at h
  show J p l e _ s m _ below meth c x N (rho u0 v0) 4 0 0 _ 0 [(0, .ref (cz x + 0)), (1, .int x1), (2, .int x2)] [] t a
  refine j_aload_n F 0 dX7_best_0 rfl rfl ?_
  refine j_getR F clX7 (j := 1) (lt653 rfl hN) ly0 (Nat.le_of_ble_eq_true rfl) rfl qf_X7_19 rfl dX7_best_1 ?_
  refine j_iload_n F 1 dX7_best_4 rfl rfl ?_
  refine j_callVi F mwX6_hasPerson ql_X7_149 clX6 (lt653 rfl hN) ly3 [.int x1] rfl ⟨rfl, rfl, Nat.le_of_ble_eq_true rfl, Nat.le_of_ble_eq_true rfl⟩ ⟨Nat.le_refl 0, Nat.le_refl 0⟩ rfl (Nat.le_of_ble_eq_true rfl) dX7_best_5 (fun _ _ _ h9 => kX6_hasPerson l hN tg3 h9) h (fun v1 t1 a1 e1 h => ?_)
  refine j_if_ne F 17 dX7_best_8 rfl h (fun h => ?_) (fun h => ?_)
  · refine j_aload_n F 0 dX7_best_11 rfl rfl ?_
    refine j_iconst F dX7_best_12 cI_m1 ?_
    refine j_callVi F mwX7_refuse ql_X7_66 clX7 (lt653 rfl hN) ly0 [.int (-1 : Int32)] rfl ⟨rfl, rfl, Nat.le_of_ble_eq_true rfl, Nat.le_of_ble_eq_true rfl⟩ ⟨Nat.le_refl 0, Nat.le_refl 0⟩ rfl (Nat.le_of_ble_eq_true rfl) dX7_best_13 (fun _ _ _ h9 => kX7_refuse l hN  h9) h (fun v6 t6 a6 e6 h => ?_)
    exact j_ireturn F rfl dX7_best_16 h
  · refine j_iload_n F 2 dX7_best_17 rfl rfl ?_
    refine j_iconst F dX7_best_18 cI_m1 ?_
    refine j_icmp_ge F 29 dX7_best_19 rfl h (fun h => ?_) (fun h => ?_)
    · refine j_aload_n F 0 dX7_best_29 rfl rfl ?_
      refine j_getR F clX7 (j := 1) (lt653 rfl hN) ly0 (Nat.le_of_ble_eq_true rfl) rfl qf_X7_19 rfl dX7_best_30 ?_
      refine j_getI F clX6 (j := 4) (tt := 196) (lt653 rfl hN) ly3 (Nat.le_of_ble_eq_true rfl) rfl qf_X7_174 rfl dX7_best_33 ?_
      refine j_if_ne F 42 dX7_best_36 rfl h (fun h => ?_) (fun h => ?_)
      · refine j_bipush F dX7_best_39 cB_m9 ?_
        exact j_ireturn F rfl dX7_best_41 h
      · refine j_aload_n F 0 dX7_best_42 rfl rfl ?_
        refine j_getR F clX7 (j := 1) (lt653 rfl hN) ly0 (Nat.le_of_ble_eq_true rfl) rfl qf_X7_19 rfl dX7_best_43 ?_
        refine j_getR F clX6 (j := 3) (lt653 rfl hN) ly3 (Nat.le_of_ble_eq_true rfl) rfl qf_X7_155 rfl dX7_best_46 ?_
        refine j_iload_n F 1 dX7_best_49 rfl rfl ?_
        refine j_iald F (lt653 rfl hN) ly7 dX7_best_50 h (fun h => ?_)
        refine j_istore_n F (lv' := [(3, .int (a1 7 x1.toNatClampNeg)), (0, .ref (cz x + 0)), (1, .int x1), (2, .int x2)]) dX7_best_51 rfl (Nat.le_of_ble_eq_true rfl) rfl ?_
        refine j_iload_n F 3 dX7_best_52 rfl rfl ?_
        refine j_iconst F dX7_best_53 cI_m1 ?_
        refine j_icmp_ne F 73 dX7_best_54 rfl h (fun h => ?_) (fun h => ?_)
        · refine j_aload_n F 1 dX7_best_57 rfl rfl ?_
          refine j_getR F clX7 (j := 6) (lt653 rfl hN) ly0 (Nat.le_of_ble_eq_true rfl) rfl qf_X7_48 rfl dX7_best_58 ?_
          refine j_iload_n F 0 dX7_best_61 rfl rfl ?_
          refine j_aload_n F 1 dX7_best_62 rfl rfl ?_
          refine j_getR F clX7 (j := 1) (lt653 rfl hN) ly0 (Nat.le_of_ble_eq_true rfl) rfl qf_X7_19 rfl dX7_best_63 ?_
          refine j_getI F clX6 (j := 6) (tt := 198) (lt653 rfl hN) ly3 (Nat.le_of_ble_eq_true rfl) rfl qf_X7_115 rfl dX7_best_66 ?_
          refine j_callVi F mwX3_leftOfBest ql_X7_177 clX3 (lt653 rfl hN) ly19 [.int (a1 7 x1.toNatClampNeg), .int (t1 198)] rfl ⟨rfl, rfl, Nat.le_of_ble_eq_true rfl, Nat.le_of_ble_eq_true rfl⟩ ⟨Nat.le_refl 0, Nat.le_refl 0⟩ rfl (Nat.le_of_ble_eq_true rfl) dX7_best_69 (fun _ _ _ h9 => kX3_leftOfBest l hN sy19 h9) h (fun v4 t4 a4 e4 h => ?_)
          exact j_ireturn F rfl dX7_best_72 h
        · refine j_aload_n F 1 dX7_best_73 rfl rfl ?_
          refine j_aload_n F 1 dX7_best_74 rfl rfl ?_
          refine j_getR F clX7 (j := 6) (lt653 rfl hN) ly0 (Nat.le_of_ble_eq_true rfl) rfl qf_X7_48 rfl dX7_best_75 ?_
          refine j_iload_n F 0 dX7_best_78 rfl rfl ?_
          refine j_aload_n F 1 dX7_best_79 rfl rfl ?_
          refine j_getR F clX7 (j := 1) (lt653 rfl hN) ly0 (Nat.le_of_ble_eq_true rfl) rfl qf_X7_19 rfl dX7_best_80 ?_
          refine j_getI F clX6 (j := 6) (tt := 198) (lt653 rfl hN) ly3 (Nat.le_of_ble_eq_true rfl) rfl qf_X7_115 rfl dX7_best_83 ?_
          refine j_callVi F mwX3_bestQuestion ql_X7_180 clX3 (lt653 rfl hN) ly19 [.int (a1 7 x1.toNatClampNeg), .int (t1 198)] rfl ⟨rfl, rfl, Nat.le_of_ble_eq_true rfl, Nat.le_of_ble_eq_true rfl⟩ ⟨Nat.le_refl 0, Nat.le_refl 0⟩ rfl (Nat.le_of_ble_eq_true rfl) dX7_best_86 (fun _ _ _ h9 => kX3_bestQuestion l hN sy19 h9) h (fun v2 t2 a2 e2 h => ?_)
          refine j_iload_n F 3 dX7_best_89 rfl rfl ?_
          refine j_iconst F dX7_best_90 cI_1 ?_
          refine j_isub F dX7_best_91 ?_
          refine j_callVi F mwX7_lengthOrWord ql_X7_162 clX7 (lt653 rfl hN) ly0 [.int v2, .int (x2 - (1 : Int32))] rfl ⟨rfl, rfl, Nat.le_of_ble_eq_true rfl, Nat.le_of_ble_eq_true rfl⟩ ⟨Nat.le_refl 0, Nat.le_refl 0⟩ rfl (Nat.le_of_ble_eq_true rfl) dX7_best_92 (fun _ _ _ h9 => kX7_lengthOrWord l hN  h9) h (fun v3 t3 a3 e3 h => ?_)
          exact j_ireturn F rfl dX7_best_95 h
    · refine j_aload_n F 0 dX7_best_22 rfl rfl ?_
      refine j_bipush F dX7_best_23 cB_m4 ?_
      refine j_callVi F mwX7_refuse ql_X7_66 clX7 (lt653 rfl hN) ly0 [.int (-4 : Int32)] rfl ⟨rfl, rfl, Nat.le_of_ble_eq_true rfl, Nat.le_of_ble_eq_true rfl⟩ ⟨Nat.le_refl 0, Nat.le_refl 0⟩ rfl (Nat.le_of_ble_eq_true rfl) dX7_best_25 (fun _ _ _ h9 => kX7_refuse l hN  h9) h (fun v5 t5 a5 e5 h => ?_)
      exact j_ireturn F rfl dX7_best_28 h
def fX8_best (nF : Nat) (x1 : Int32) (x2 : Int32) (t : sT) (a : sA) : Rs := cal (fX8_isPerson nF x1 t a) (fun v1 t1 a1 => if v1 = 0 then (cal (fX8_refuse nF (-1 : Int32) t1 a1) (fun v5 t5 a5 => some (v5, t5, a5))) else (if (-1 : Int32) ≤ x2 then (bnd x1 4 (cal (fX8_bestOf nF (a1 58 x1.toNatClampNeg) (t1 3213) t1 a1) (fun v2 t2 a2 => if v2 = (-9 : Int32) then (some ((-9 : Int32), t2, a2)) else (bnd v2 585 (if x2 ≤ (a2 62 v2.toNatClampNeg) then (if x2 = (-1 : Int32) then (some (t2 3233, t2, a2)) else (if x2 = 0 then (bnd v2 585 (some (a2 62 v2.toNatClampNeg, t2, a2))) else (bnd v2 585 (bnd (x2 - (1 : Int32)) 3 (some (a2 (64 + v2.toNatClampNeg) (x2 - (1 : Int32)).toNatClampNeg, t2, a2)))))) else (some ((-9 : Int32), t2, a2))))))) else (cal (fX8_refuse nF (-4 : Int32) t1 a1) (fun v4 t4 a4 => some (v4, t4, a4)))))
set_option maxRecDepth 100000 in
set_option maxHeartbeats 4000000 in
theorem kX8_best (l : Launch) {x : Cx} {N : Nat} {u0 v0 : Option Nat} {nF : Nat} {x1 : Int32} {x2 : Int32} {t : sT} {a : sA} {rv : Int32} {rt : sT} {ra : sA} (hN : 653 ≤ N) (h : fX8_best nF x1 x2 t a = some (rv, rt, ra)) : Met l yX8_best [.code yX8_best cX8_best 4 (some .int)] (k2_rm 5 120) (Pre x N (rho u0 v0) t a [.ref (cz x + 50), .int x1, .int x2]) (PostI x N (rho u0 v0) rt ra rv) 0 0 (cA x) := by
  refine j_entry (by decide) rfl (Nat.le_of_ble_eq_true rfl) ?_
  intro p e s m below meth c F hsz hnm
  have F : Fx p s m meth c cX8_best 4 RX8 (some .int) x := F
  unfold fX8_best at h
  show J p l e _ s m _ below meth c x N (rho u0 v0) 4 0 0 _ 0 [(0, .ref (cz x + 50)), (1, .int x1), (2, .int x2)] [] t a
  refine j_aload_n F 0 dX8_best_0 rfl rfl ?_
  refine j_iload_n F 1 dX8_best_1 rfl rfl ?_
  refine j_callVi F mwX8_isPerson ql_X8_190 clX8 (lt653 rfl hN) ly50 [.int x1] rfl ⟨rfl, rfl, Nat.le_of_ble_eq_true rfl, Nat.le_of_ble_eq_true rfl⟩ ⟨Nat.le_refl 0, Nat.le_refl 0⟩ rfl (Nat.le_of_ble_eq_true rfl) dX8_best_2 (fun _ _ _ h9 => kX8_isPerson l hN  h9) h (fun v1 t1 a1 e1 h => ?_)
  refine j_if_ne F 14 dX8_best_5 rfl h (fun h => ?_) (fun h => ?_)
  · refine j_aload_n F 0 dX8_best_8 rfl rfl ?_
    refine j_iconst F dX8_best_9 cI_m1 ?_
    refine j_callVi F mwX8_refuse ql_X8_74 clX8 (lt653 rfl hN) ly50 [.int (-1 : Int32)] rfl ⟨rfl, rfl, Nat.le_of_ble_eq_true rfl, Nat.le_of_ble_eq_true rfl⟩ ⟨Nat.le_refl 0, Nat.le_refl 0⟩ rfl (Nat.le_of_ble_eq_true rfl) dX8_best_10 (fun _ _ _ h9 => kX8_refuse l hN  h9) h (fun v5 t5 a5 e5 h => ?_)
    exact j_ireturn F rfl dX8_best_13 h
  · refine j_iload_n F 2 dX8_best_14 rfl rfl ?_
    refine j_iconst F dX8_best_15 cI_m1 ?_
    refine j_icmp_ge F 26 dX8_best_16 rfl h (fun h => ?_) (fun h => ?_)
    · refine j_aload_n F 0 dX8_best_26 rfl rfl ?_
      refine j_aload_n F 0 dX8_best_27 rfl rfl ?_
      refine j_getR F clX8 (j := 12) (lt653 rfl hN) ly50 (Nat.le_of_ble_eq_true rfl) rfl qf_X8_31 rfl dX8_best_28 ?_
      refine j_iload_n F 1 dX8_best_31 rfl rfl ?_
      refine j_iald F (lt653 rfl hN) ly58 dX8_best_32 h (fun h => ?_)
      refine j_aload_n F 0 dX8_best_33 rfl rfl ?_
      refine j_getI F clX8 (j := 13) (tt := 3213) (lt653 rfl hN) ly50 (Nat.le_of_ble_eq_true rfl) rfl qf_X8_111 rfl dX8_best_34 ?_
      refine j_callVi F mwX8_bestOf ql_X8_212 clX8 (lt653 rfl hN) ly50 [.int (a1 58 x1.toNatClampNeg), .int (t1 3213)] rfl ⟨rfl, rfl, Nat.le_of_ble_eq_true rfl, Nat.le_of_ble_eq_true rfl⟩ ⟨Nat.le_refl 0, Nat.le_refl 0⟩ rfl (Nat.le_of_ble_eq_true rfl) dX8_best_37 (fun _ _ _ h9 => kX8_bestOf l hN  h9) h (fun v2 t2 a2 e2 h => ?_)
      refine j_istore_n F (lv' := [(3, .int v2), (0, .ref (cz x + 50)), (1, .int x1), (2, .int x2)]) dX8_best_40 rfl (Nat.le_of_ble_eq_true rfl) rfl ?_
      refine j_iload_n F 0 dX8_best_41 rfl rfl ?_
      refine j_bipush F dX8_best_42 cB_m9 ?_
      refine j_icmp_eq F 57 dX8_best_44 rfl h (fun h => ?_) (fun h => ?_)
      · refine j_bipush F dX8_best_57 cB_m9 ?_
        exact j_ireturn F rfl dX8_best_59 h
      · refine j_iload_n F 3 dX8_best_47 rfl rfl ?_
        refine j_aload_n F 1 dX8_best_48 rfl rfl ?_
        refine j_getR F clX8 (j := 23) (lt653 rfl hN) ly50 (Nat.le_of_ble_eq_true rfl) rfl qf_X8_43 rfl dX8_best_49 ?_
        refine j_iload_n F 0 dX8_best_52 rfl rfl ?_
        refine j_iald F (lt653 rfl hN) ly62 dX8_best_53 h (fun h => ?_)
        refine j_icmp_le F 60 dX8_best_54 rfl h (fun h => ?_) (fun h => ?_)
        · refine j_iload_n F 3 dX8_best_60 rfl rfl ?_
          refine j_iconst F dX8_best_61 cI_m1 ?_
          refine j_icmp_ne F 72 dX8_best_62 rfl h (fun h => ?_) (fun h => ?_)
          · refine j_aload_n F 1 dX8_best_65 rfl rfl ?_
            refine j_getI F clX8 (j := 33) (tt := 3233) (lt653 rfl hN) ly50 (Nat.le_of_ble_eq_true rfl) rfl qf_X8_209 rfl dX8_best_66 ?_
            refine j_goto F 95 dX8_best_69 rfl ?_
            exact j_ireturn F rfl dX8_best_95 h
          · refine j_iload_n F 3 dX8_best_72 rfl rfl ?_
            refine j_if_ne F 85 dX8_best_73 rfl h (fun h => ?_) (fun h => ?_)
            · refine j_aload_n F 1 dX8_best_76 rfl rfl ?_
              refine j_getR F clX8 (j := 23) (lt653 rfl hN) ly50 (Nat.le_of_ble_eq_true rfl) rfl qf_X8_43 rfl dX8_best_77 ?_
              refine j_iload_n F 0 dX8_best_80 rfl rfl ?_
              refine j_iald F (lt653 rfl hN) ly62 dX8_best_81 h (fun h => ?_)
              refine j_goto F 95 dX8_best_82 rfl ?_
              exact j_ireturn F rfl dX8_best_95 h
            · refine j_aload_n F 1 dX8_best_85 rfl rfl ?_
              refine j_getR F clX8 (j := 24) (lt653 rfl hN) ly50 (Nat.le_of_ble_eq_true rfl) rfl qf_X8_48 rfl dX8_best_86 ?_
              refine j_iload_n F 0 dX8_best_89 rfl rfl ?_
              refine j_aald F (lt653 rfl hN) ly63 rh63 dX8_best_90 h (fun hr3 h => ?_)
              refine j_iload_n F 3 dX8_best_91 rfl rfl ?_
              refine j_iconst F dX8_best_92 cI_1 ?_
              refine j_isub F dX8_best_93 ?_
              refine j_iald F (rowlt hr3 hN) (lyRow hr3) dX8_best_94 h (fun h => ?_)
              exact j_ireturn F rfl dX8_best_95 h
        · refine j_bipush F dX8_best_57 cB_m9 ?_
          exact j_ireturn F rfl dX8_best_59 h
    · refine j_aload_n F 0 dX8_best_19 rfl rfl ?_
      refine j_bipush F dX8_best_20 cB_m4 ?_
      refine j_callVi F mwX8_refuse ql_X8_74 clX8 (lt653 rfl hN) ly50 [.int (-4 : Int32)] rfl ⟨rfl, rfl, Nat.le_of_ble_eq_true rfl, Nat.le_of_ble_eq_true rfl⟩ ⟨Nat.le_refl 0, Nat.le_refl 0⟩ rfl (Nat.le_of_ble_eq_true rfl) dX8_best_22 (fun _ _ _ h9 => kX8_refuse l hN  h9) h (fun v4 t4 a4 e4 h => ?_)
      exact j_ireturn F rfl dX8_best_25 h
