/-! 16.m7.lean.txt: functions and contracts, by program (wip/whole/gen.py) -/
def gX8_leftOf_4 (nF : Nat) (r4 : Int32 → Int32 → Int32 → sT → sA → Rs) (x1 x2 x3 : Int32) (t : sT) (a : sA) : Rs := if (8 : Int32) ≤ x3 then (some (x2, t, a)) else (bnd x3 8 (if (a 57 x3.toNatClampNeg) ≤ 0 then (r4 x1 x2 (x3 + (1 : Int32)) t a) else (cal (fX8_answerOf nF x1 x3 t a) (fun v1 t1 a1 => bnd x3 8 (if v1 = (-9 : Int32) then (cal (fX8_weightOf nF (255 : Int32) t1 a1) (fun v3 t3 a3 => r4 x1 (x2 + ((a1 57 x3.toNatClampNeg) * v3)) (x3 + (1 : Int32)) t3 a3)) else (bnd v1 585 (cal (fX8_weightOf nF (a1 649 v1.toNatClampNeg) t1 a1) (fun v2 t2 a2 => r4 x1 (x2 + ((a1 57 x3.toNatClampNeg) * v2)) (x3 + (1 : Int32)) t2 a2))))))))
def gX8_leftOf (nF : Nat) : Nat → (Int32 → Int32 → Int32 → sT → sA → Rs)
  | 0 => (fun _ _ _ _ _ => none)
  | n9 + 1 => (gX8_leftOf_4 nF (gX8_leftOf nF n9))
def fX8_leftOf (nF : Nat) (x1 : Int32) (t : sT) (a : sA) : Rs := (gX8_leftOf nF nF) x1 (0 : Int32) (0 : Int32) t a
set_option maxRecDepth 100000 in
set_option maxHeartbeats 4000000 in
theorem hX8_leftOf {p : Program} {l : Launch} {e : Env} {s : State} {m : MethodId} {args : Array Value} {below : List Frame} {meth : Method} {c : Code} {x : Cx} {N : Nat} {u0 v0 : Option Nat} {nF : Nat} (F : Fx p s m meth c cX8_leftOf 5 RX8 (some .int) x) (hsz : s.heap.size = cz x + N) (hN : 653 ≤ N) {rv : Int32} {rt : sT} {ra : sA} : ∀ n9 : Nat, (∀ (x1 x2 x3 : Int32) (t : sT) (a : sA), (gX8_leftOf nF n9) x1 x2 x3 t a = some (rv, rt, ra) → J p l e (k2_rm 3 71) s m args below meth c x N (rho u0 v0) 5 0 0 (MQ below (PostI x N (rho u0 v0) rt ra rv) args s 0 0 (cA x)) 4 [(0, .ref (cz x + 50)), (1, .int x1), (2, .int x2), (3, .int x3)] [] t a) := by
  intro n9
  induction n9 with
  | zero => exact fun _ _ _ _ _ h => (by cases h)
  | succ n9 ih =>
    intro x1 x2 x3 t a h
    have h : gX8_leftOf_4 nF (gX8_leftOf nF n9) x1 x2 x3 t a = some (rv, rt, ra) := h
    unfold gX8_leftOf_4 at h
    refine j_iload_n F 3 dX8_leftOf_4 rfl rfl ?_
    refine j_bipush F dX8_leftOf_5 cB_8 ?_
    refine j_icmp_ge F 67 dX8_leftOf_7 rfl h (fun h => ?_) (fun h => ?_)
    · refine j_iload_n F 2 dX8_leftOf_67 rfl rfl ?_
      exact j_ireturn F rfl dX8_leftOf_68 h
    · refine j_aload_n F 0 dX8_leftOf_10 rfl rfl ?_
      refine j_getR F clX8 (j := 10) (lt653 rfl hN) ly50 (Nat.le_of_ble_eq_true rfl) rfl qf_X8_28 rfl dX8_leftOf_11 ?_
      refine j_iload_n F 3 dX8_leftOf_14 rfl rfl ?_
      refine j_iald F (lt653 rfl hN) ly57 dX8_leftOf_15 h (fun h => ?_)
      refine j_if_le F 61 dX8_leftOf_16 rfl h (fun h => ?_) (fun h => ?_)
      · refine j_iinc F (v := x3 + (1 : Int32)) (lv' := [(3, .int (x3 + (1 : Int32))), (0, .ref (cz x + 50)), (1, .int x1), (2, .int x2)]) dX8_leftOf_61 3 rfl (congrArg (fun z => x3 + z) cI_1) (Nat.le_of_ble_eq_true rfl) rfl ?_
        refine j_goto F 4 dX8_leftOf_64 rfl ?_
        exact j_lv [1, 2, 3, 0] rfl (ih _ _ _ _ _ h)
      · refine j_aload_n F 0 dX8_leftOf_19 rfl rfl ?_
        refine j_iload_n F 1 dX8_leftOf_20 rfl rfl ?_
        refine j_iload_n F 3 dX8_leftOf_21 rfl rfl ?_
        refine j_callVi F mwX8_answerOf ql_X8_199 clX8 (lt653 rfl hN) ly50 [.int x1, .int x3] rfl ⟨rfl, rfl, Nat.le_of_ble_eq_true rfl, Nat.le_of_ble_eq_true rfl⟩ ⟨Nat.le_refl 0, Nat.le_refl 0⟩ rfl (Nat.le_of_ble_eq_true rfl) dX8_leftOf_22 (fun _ _ _ h9 => kX8_answerOf l hN  h9) h (fun v1 t1 a1 e1 h => ?_)
        refine j_istore F (k := 0) (lv' := [(4, .int v1), (0, .ref (cz x + 50)), (1, .int x1), (2, .int x2), (3, .int x3)]) dX8_leftOf_25 (Nat.le_of_ble_eq_true rfl) rfl ?_
        refine j_iload_n F 3 dX8_leftOf_27 rfl rfl ?_
        refine j_aload_n F 1 dX8_leftOf_28 rfl rfl ?_
        refine j_getR F clX8 (j := 10) (lt653 rfl hN) ly50 (Nat.le_of_ble_eq_true rfl) rfl qf_X8_28 rfl dX8_leftOf_29 ?_
        refine j_iload_n F 4 dX8_leftOf_32 rfl rfl ?_
        refine j_iald F (lt653 rfl hN) ly57 dX8_leftOf_33 h (fun h => ?_)
        refine j_aload_n F 1 dX8_leftOf_34 rfl rfl ?_
        refine j_iload F 0 dX8_leftOf_35 rfl ?_
        refine j_bipush F dX8_leftOf_37 cB_m9 ?_
        refine j_icmp_ne F 48 dX8_leftOf_39 rfl h (fun h => ?_) (fun h => ?_)
        · refine j_sipush F dX8_leftOf_42 cS_255 ?_
          refine j_goto F 55 dX8_leftOf_45 rfl ?_
          refine j_callVi F mwX8_weightOf ql_X8_181 clX8 (lt653 rfl hN) ly50 [.int (255 : Int32)] rfl ⟨rfl, rfl, Nat.le_of_ble_eq_true rfl, Nat.le_of_ble_eq_true rfl⟩ ⟨Nat.le_refl 0, Nat.le_refl 0⟩ rfl (Nat.le_of_ble_eq_true rfl) dX8_leftOf_55 (fun _ _ _ h9 => kX8_weightOf l hN  h9) h (fun v3 t3 a3 e3 h => ?_)
          refine j_imul F dX8_leftOf_58 ?_
          refine j_iadd F dX8_leftOf_59 ?_
          refine j_istore_n F (lv' := [(2, .int (x2 + ((a1 57 x3.toNatClampNeg) * v3))), (4, .int v1), (0, .ref (cz x + 50)), (1, .int x1), (3, .int x3)]) dX8_leftOf_60 rfl (Nat.le_of_ble_eq_true rfl) rfl ?_
          refine j_iinc F (v := x3 + (1 : Int32)) (lv' := [(3, .int (x3 + (1 : Int32))), (2, .int (x2 + ((a1 57 x3.toNatClampNeg) * v3))), (4, .int v1), (0, .ref (cz x + 50)), (1, .int x1)]) dX8_leftOf_61 4 rfl (congrArg (fun z => x3 + z) cI_1) (Nat.le_of_ble_eq_true rfl) rfl ?_
          refine j_goto F 4 dX8_leftOf_64 rfl ?_
          exact j_lv [3, 4, 1, 0] rfl (ih _ _ _ _ _ h)
        · refine j_aload_n F 1 dX8_leftOf_48 rfl rfl ?_
          refine j_getR F clX8 (j := 25) (lt653 rfl hN) ly50 (Nat.le_of_ble_eq_true rfl) rfl qf_X8_51 rfl dX8_leftOf_49 ?_
          refine j_iload F 0 dX8_leftOf_52 rfl ?_
          refine j_iald F (lt653 rfl hN) ly649 dX8_leftOf_54 h (fun h => ?_)
          refine j_callVi F mwX8_weightOf ql_X8_181 clX8 (lt653 rfl hN) ly50 [.int (a1 649 v1.toNatClampNeg)] rfl ⟨rfl, rfl, Nat.le_of_ble_eq_true rfl, Nat.le_of_ble_eq_true rfl⟩ ⟨Nat.le_refl 0, Nat.le_refl 0⟩ rfl (Nat.le_of_ble_eq_true rfl) dX8_leftOf_55 (fun _ _ _ h9 => kX8_weightOf l hN  h9) h (fun v2 t2 a2 e2 h => ?_)
          refine j_imul F dX8_leftOf_58 ?_
          refine j_iadd F dX8_leftOf_59 ?_
          refine j_istore_n F (lv' := [(2, .int (x2 + ((a1 57 x3.toNatClampNeg) * v2))), (4, .int v1), (0, .ref (cz x + 50)), (1, .int x1), (3, .int x3)]) dX8_leftOf_60 rfl (Nat.le_of_ble_eq_true rfl) rfl ?_
          refine j_iinc F (v := x3 + (1 : Int32)) (lv' := [(3, .int (x3 + (1 : Int32))), (2, .int (x2 + ((a1 57 x3.toNatClampNeg) * v2))), (4, .int v1), (0, .ref (cz x + 50)), (1, .int x1)]) dX8_leftOf_61 4 rfl (congrArg (fun z => x3 + z) cI_1) (Nat.le_of_ble_eq_true rfl) rfl ?_
          refine j_goto F 4 dX8_leftOf_64 rfl ?_
          exact j_lv [3, 4, 1, 0] rfl (ih _ _ _ _ _ h)
set_option maxRecDepth 100000 in
set_option maxHeartbeats 4000000 in
theorem kX8_leftOf (l : Launch) {x : Cx} {N : Nat} {u0 v0 : Option Nat} {nF : Nat} {x1 : Int32} {t : sT} {a : sA} {rv : Int32} {rt : sT} {ra : sA} (hN : 653 ≤ N) (h : fX8_leftOf nF x1 t a = some (rv, rt, ra)) : Met l yX8_leftOf [.code yX8_leftOf cX8_leftOf 5 (some .int)] (k2_rm 3 71) (Pre x N (rho u0 v0) t a [.ref (cz x + 50), .int x1]) (PostI x N (rho u0 v0) rt ra rv) 0 0 (cA x) := by
  refine j_entry (by decide) rfl (Nat.le_of_ble_eq_true rfl) ?_
  intro p e s m below meth c F hsz hnm
  have F : Fx p s m meth c cX8_leftOf 5 RX8 (some .int) x := F
  unfold fX8_leftOf at h
  show J p l e _ s m _ below meth c x N (rho u0 v0) 5 0 0 _ 0 [(0, .ref (cz x + 50)), (1, .int x1)] [] t a
  refine j_iconst F dX8_leftOf_0 cI_0 ?_
  refine j_istore_n F (lv' := [(2, .int (0 : Int32)), (0, .ref (cz x + 50)), (1, .int x1)]) dX8_leftOf_1 rfl (Nat.le_of_ble_eq_true rfl) rfl ?_
  refine j_iconst F dX8_leftOf_2 cI_0 ?_
  refine j_istore_n F (lv' := [(3, .int (0 : Int32)), (2, .int (0 : Int32)), (0, .ref (cz x + 50)), (1, .int x1)]) dX8_leftOf_3 rfl (Nat.le_of_ble_eq_true rfl) rfl ?_
  exact j_lv [2, 3, 1, 0] rfl ((hX8_leftOf F hsz hN nF) _ _ _ _ _ h)
def gX8_lots_70 (nF : Nat) (r70 : Int32 → Int32 → Int32 → Int32 → sT → sA → Rs) (r88 : Int32 → Int32 → Int32 → Int32 → Int32 → Int32 → sT → sA → Rs) (x1 x2 x4 x5 : Int32) (t : sT) (a : sA) : Rs := if x2 ≤ x5 then (cal (fX8_weightOf nF x4 t a) (fun v7 t7 a7 => some (v7, t7, a7))) else (cal (fX8_draw nF (3 : Int32) t a) (fun v8 t8 a8 => r88 x1 x2 x4 x5 (v8 + (1 : Int32)) (0 : Int32) t8 a8))
def gX8_lots_88 (nF : Nat) (r70 : Int32 → Int32 → Int32 → Int32 → sT → sA → Rs) (r88 : Int32 → Int32 → Int32 → Int32 → Int32 → Int32 → sT → sA → Rs) (x1 x2 x4 x5 x6 x7 : Int32) (t : sT) (a : sA) : Rs := if x6 ≤ x7 then (cal (fX8_idleOf nF 652 3 x6 t a) (fun v9 t9 a9 => cal (fX8_meaning nF 652 3 x6 t9 a9) (fun v10 t10 a10 => cal (fX8_asks nF x6 v9 v10 (t10 3213) t10 a10) (fun v11 t11 a11 => bnd x1 4 (cal (fX8_answerOf nF (a11 58 x1.toNatClampNeg) (t11 3214) t11 a11) (fun v12 t12 a12 => if v12 = (-9 : Int32) then (r70 x1 x2 (x4 &&& (255 : Int32)) (x5 + (1 : Int32)) t12 a12) else (bnd v12 585 (r70 x1 x2 (x4 &&& (a12 649 v12.toNatClampNeg)) (x5 + (1 : Int32)) t12 a12)))))))) else (cal (fX8_draw nF (t 3207) t a) (fun v13 t13 a13 => bnd x7 3 (r88 x1 x2 x4 x5 x6 (x7 + (1 : Int32)) t13 (va_up a13 652 (upd (a13 652) x7.toNatClampNeg v13)))))
def gX8_lots (nF : Nat) : Nat → (Int32 → Int32 → Int32 → Int32 → sT → sA → Rs) × (Int32 → Int32 → Int32 → Int32 → Int32 → Int32 → sT → sA → Rs)
  | 0 => (fun _ _ _ _ _ _ => none, fun _ _ _ _ _ _ _ _ => none)
  | n9 + 1 => (gX8_lots_70 nF ((gX8_lots nF n9).1) ((gX8_lots nF n9).2), gX8_lots_88 nF ((gX8_lots nF n9).1) ((gX8_lots nF n9).2))
def fX8_lots (nF : Nat) (x1 : Int32) (x2 : Int32) (x3 : Int32) (t : sT) (a : sA) : Rs := cal (fX8_isPerson nF x1 t a) (fun v1 t1 a1 => if v1 = 0 then (cal (fX8_refuse nF (-1 : Int32) t1 a1) (fun v6 t6 a6 => some (v6, t6, a6))) else (if (1 : Int32) ≤ x2 then (if x2 ≤ (30 : Int32) then (if (t1 3207) = 0 then (cal (fX8_refuse nF (-3 : Int32) t1 a1) (fun v3 t3 a3 => some (v3, t3, a3))) else (cal (fX8_list nF t1 a1) (fun v2 t2 a2 => ((gX8_lots nF nF).1) x1 x2 (255 : Int32) (0 : Int32) (va_up t2 3234 x3) a2))) else (cal (fX8_refuse nF (-6 : Int32) t1 a1) (fun v4 t4 a4 => some (v4, t4, a4)))) else (cal (fX8_refuse nF (-4 : Int32) t1 a1) (fun v5 t5 a5 => some (v5, t5, a5)))))
set_option maxRecDepth 100000 in
set_option maxHeartbeats 4000000 in
theorem hX8_lots {p : Program} {l : Launch} {e : Env} {s : State} {m : MethodId} {args : Array Value} {below : List Frame} {meth : Method} {c : Code} {x : Cx} {N : Nat} {u0 v0 : Option Nat} {nF : Nat} (F : Fx p s m meth c cX8_lots 8 RX8 (some .int) x) (hsz : s.heap.size = cz x + N) (hN : 653 ≤ N) {rv : Int32} {rt : sT} {ra : sA} : ∀ n9 : Nat, (∀ (x1 x2 x4 x5 : Int32) (t : sT) (a : sA), (gX8_lots nF n9).1 x1 x2 x4 x5 t a = some (rv, rt, ra) → J p l e (k2_rm 3 77) s m args below meth c x N (rho u0 v0) 8 0 0 (MQ below (PostI x N (rho u0 v0) rt ra rv) args s 0 0 (cA x)) 70 [(0, .ref (cz x + 50)), (1, .int x1), (2, .int x2), (4, .int x4), (5, .int x5)] [] t a) ∧ (∀ (x1 x2 x4 x5 x6 x7 : Int32) (t : sT) (a : sA), (gX8_lots nF n9).2 x1 x2 x4 x5 x6 x7 t a = some (rv, rt, ra) → J p l e (k2_rm 3 77) s m args below meth c x N (rho u0 v0) 8 0 0 (MQ below (PostI x N (rho u0 v0) rt ra rv) args s 0 0 (cA x)) 88 [(0, .ref (cz x + 50)), (1, .int x1), (2, .int x2), (4, .int x4), (5, .int x5), (6, .int x6), (7, .int x7)] [] t a) := by
  intro n9
  induction n9 with
  | zero => exact ⟨fun _ _ _ _ _ _ h => (by cases h), fun _ _ _ _ _ _ _ _ h => (by cases h)⟩
  | succ n9 ih =>
    refine ⟨?_, ?_⟩
    · intro x1 x2 x4 x5 t a h
      have h : gX8_lots_70 nF ((gX8_lots nF n9).1) ((gX8_lots nF n9).2) x1 x2 x4 x5 t a = some (rv, rt, ra) := h
      unfold gX8_lots_70 at h
      refine j_iload F 4 dX8_lots_70 rfl ?_
      refine j_iload_n F 2 dX8_lots_72 rfl rfl ?_
      refine j_icmp_ge F 193 dX8_lots_73 rfl h (fun h => ?_) (fun h => ?_)
      · refine j_aload_n F 0 dX8_lots_193 rfl rfl ?_
        refine j_iload F 3 dX8_lots_194 rfl ?_
        refine j_callVi F mwX8_weightOf ql_X8_181 clX8 (lt653 rfl hN) ly50 [.int x4] rfl ⟨rfl, rfl, Nat.le_of_ble_eq_true rfl, Nat.le_of_ble_eq_true rfl⟩ ⟨Nat.le_refl 0, Nat.le_refl 0⟩ rfl (Nat.le_of_ble_eq_true rfl) dX8_lots_196 (fun _ _ _ h9 => kX8_weightOf l hN  h9) h (fun v7 t7 a7 e7 h => ?_)
        exact j_ireturn F rfl dX8_lots_199 h
      · refine j_aload_n F 0 dX8_lots_76 rfl rfl ?_
        refine j_iconst F dX8_lots_77 cI_3 ?_
        refine j_callVi F mwX8_draw ql_X8_240 clX8 (lt653 rfl hN) ly50 [.int (3 : Int32)] rfl ⟨rfl, rfl, Nat.le_of_ble_eq_true rfl, Nat.le_of_ble_eq_true rfl⟩ ⟨Nat.le_refl 0, Nat.le_refl 0⟩ rfl (Nat.le_of_ble_eq_true rfl) dX8_lots_78 (fun _ _ _ h9 => kX8_draw l hN  h9) h (fun v8 t8 a8 e8 h => ?_)
        refine j_iconst F dX8_lots_81 cI_1 ?_
        refine j_iadd F dX8_lots_82 ?_
        refine j_istore F (k := 0) (lv' := [(6, .int (v8 + (1 : Int32))), (0, .ref (cz x + 50)), (1, .int x1), (2, .int x2), (4, .int x4), (5, .int x5)]) dX8_lots_83 (Nat.le_of_ble_eq_true rfl) rfl ?_
        refine j_iconst F dX8_lots_85 cI_0 ?_
        refine j_istore F (k := 0) (lv' := [(7, .int (0 : Int32)), (6, .int (v8 + (1 : Int32))), (0, .ref (cz x + 50)), (1, .int x1), (2, .int x2), (4, .int x4), (5, .int x5)]) dX8_lots_86 (Nat.le_of_ble_eq_true rfl) rfl ?_
        exact j_lv [2, 3, 4, 5, 6, 1, 0] rfl (ih.2 _ _ _ _ _ _ _ _ h)
    · intro x1 x2 x4 x5 x6 x7 t a h
      have h : gX8_lots_88 nF ((gX8_lots nF n9).1) ((gX8_lots nF n9).2) x1 x2 x4 x5 x6 x7 t a = some (rv, rt, ra) := h
      unfold gX8_lots_88 at h
      refine j_iload F 6 dX8_lots_88 rfl ?_
      refine j_iload F 5 dX8_lots_90 rfl ?_
      refine j_icmp_ge F 116 dX8_lots_92 rfl h (fun h => ?_) (fun h => ?_)
      · refine j_aload_n F 0 dX8_lots_116 rfl rfl ?_
        refine j_iload F 5 dX8_lots_117 rfl ?_
        refine j_aload_n F 0 dX8_lots_119 rfl rfl ?_
        refine j_aload_n F 0 dX8_lots_120 rfl rfl ?_
        refine j_getR F clX8 (j := 35) (lt653 rfl hN) ly50 (Nat.le_of_ble_eq_true rfl) rfl qf_X8_60 rfl dX8_lots_121 ?_
        refine j_iload F 5 dX8_lots_124 rfl ?_
        refine j_callVi F mwX8_idleOf ql_X8_146 clX8 (lt653 rfl hN) ly50 [.ref (cz x + 652), .int x6] rfl ⟨rfl, rfl, Nat.le_of_ble_eq_true rfl, Nat.le_of_ble_eq_true rfl⟩ ⟨Nat.le_refl 0, Nat.le_refl 0⟩ rfl (Nat.le_of_ble_eq_true rfl) dX8_lots_126 (fun _ _ _ h9 => kX8_idleOf l hN (lt653 rfl hN) ly652 h9) h (fun v9 t9 a9 e9 h => ?_)
        refine j_aload_n F 0 dX8_lots_129 rfl rfl ?_
        refine j_aload_n F 0 dX8_lots_130 rfl rfl ?_
        refine j_getR F clX8 (j := 35) (lt653 rfl hN) ly50 (Nat.le_of_ble_eq_true rfl) rfl qf_X8_60 rfl dX8_lots_131 ?_
        refine j_iload F 5 dX8_lots_134 rfl ?_
        refine j_callVi F mwX8_meaning ql_X8_142 clX8 (lt653 rfl hN) ly50 [.ref (cz x + 652), .int x6] rfl ⟨rfl, rfl, Nat.le_of_ble_eq_true rfl, Nat.le_of_ble_eq_true rfl⟩ ⟨Nat.le_refl 0, Nat.le_refl 0⟩ rfl (Nat.le_of_ble_eq_true rfl) dX8_lots_136 (fun _ _ _ h9 => kX8_meaning l hN (lt653 rfl hN) ly652 h9) h (fun v10 t10 a10 e10 h => ?_)
        refine j_aload_n F 0 dX8_lots_139 rfl rfl ?_
        refine j_getI F clX8 (j := 13) (tt := 3213) (lt653 rfl hN) ly50 (Nat.le_of_ble_eq_true rfl) rfl qf_X8_111 rfl dX8_lots_140 ?_
        refine j_callVv F mwX8_asks ql_X8_178 clX8 (lt653 rfl hN) ly50 [.int x6, .int v9, .int v10, .int (t10 3213)] rfl ⟨rfl, rfl, Nat.le_of_ble_eq_true rfl, Nat.le_of_ble_eq_true rfl⟩ ⟨Nat.le_refl 0, Nat.le_refl 0⟩ rfl (Nat.le_of_ble_eq_true rfl) dX8_lots_143 (fun _ _ _ h9 => kX8_asks l hN  h9) h (fun v11 t11 a11 e11 h => ?_)
        refine j_aload_n F 0 dX8_lots_146 rfl rfl ?_
        refine j_aload_n F 0 dX8_lots_147 rfl rfl ?_
        refine j_getR F clX8 (j := 12) (lt653 rfl hN) ly50 (Nat.le_of_ble_eq_true rfl) rfl qf_X8_31 rfl dX8_lots_148 ?_
        refine j_iload_n F 1 dX8_lots_151 rfl rfl ?_
        refine j_iald F (lt653 rfl hN) ly58 dX8_lots_152 h (fun h => ?_)
        refine j_aload_n F 0 dX8_lots_153 rfl rfl ?_
        refine j_getI F clX8 (j := 14) (tt := 3214) (lt653 rfl hN) ly50 (Nat.le_of_ble_eq_true rfl) rfl qf_X8_136 rfl dX8_lots_154 ?_
        refine j_callVi F mwX8_answerOf ql_X8_199 clX8 (lt653 rfl hN) ly50 [.int (a11 58 x1.toNatClampNeg), .int (t11 3214)] rfl ⟨rfl, rfl, Nat.le_of_ble_eq_true rfl, Nat.le_of_ble_eq_true rfl⟩ ⟨Nat.le_refl 0, Nat.le_refl 0⟩ rfl (Nat.le_of_ble_eq_true rfl) dX8_lots_157 (fun _ _ _ h9 => kX8_answerOf l hN  h9) h (fun v12 t12 a12 e12 h => ?_)
        refine j_istore F (k := 0) (lv' := [(7, .int v12), (0, .ref (cz x + 50)), (1, .int x1), (2, .int x2), (4, .int x4), (5, .int x5), (6, .int x6)]) dX8_lots_160 (Nat.le_of_ble_eq_true rfl) rfl ?_
        refine j_iload F 4 dX8_lots_162 rfl ?_
        refine j_iload F 0 dX8_lots_164 rfl ?_
        refine j_bipush F dX8_lots_166 cB_m9 ?_
        refine j_icmp_ne F 177 dX8_lots_168 rfl h (fun h => ?_) (fun h => ?_)
        · refine j_sipush F dX8_lots_171 cS_255 ?_
          refine j_goto F 184 dX8_lots_174 rfl ?_
          refine j_iand F dX8_lots_184 ?_
          refine j_istore F (k := 0) (lv' := [(4, .int (x4 &&& (255 : Int32))), (7, .int v12), (0, .ref (cz x + 50)), (1, .int x1), (2, .int x2), (5, .int x5), (6, .int x6)]) dX8_lots_185 (Nat.le_of_ble_eq_true rfl) rfl ?_
          refine j_iinc F (v := x5 + (1 : Int32)) (lv' := [(5, .int (x5 + (1 : Int32))), (4, .int (x4 &&& (255 : Int32))), (7, .int v12), (0, .ref (cz x + 50)), (1, .int x1), (2, .int x2), (6, .int x6)]) dX8_lots_187 5 rfl (congrArg (fun z => x5 + z) cI_1) (Nat.le_of_ble_eq_true rfl) rfl ?_
          refine j_goto F 70 dX8_lots_190 rfl ?_
          exact j_lv [3, 4, 5, 1, 0] rfl (ih.1 _ _ _ _ _ _ h)
        · refine j_aload_n F 1 dX8_lots_177 rfl rfl ?_
          refine j_getR F clX8 (j := 25) (lt653 rfl hN) ly50 (Nat.le_of_ble_eq_true rfl) rfl qf_X8_51 rfl dX8_lots_178 ?_
          refine j_iload F 0 dX8_lots_181 rfl ?_
          refine j_iald F (lt653 rfl hN) ly649 dX8_lots_183 h (fun h => ?_)
          refine j_iand F dX8_lots_184 ?_
          refine j_istore F (k := 0) (lv' := [(4, .int (x4 &&& (a12 649 v12.toNatClampNeg))), (7, .int v12), (0, .ref (cz x + 50)), (1, .int x1), (2, .int x2), (5, .int x5), (6, .int x6)]) dX8_lots_185 (Nat.le_of_ble_eq_true rfl) rfl ?_
          refine j_iinc F (v := x5 + (1 : Int32)) (lv' := [(5, .int (x5 + (1 : Int32))), (4, .int (x4 &&& (a12 649 v12.toNatClampNeg))), (7, .int v12), (0, .ref (cz x + 50)), (1, .int x1), (2, .int x2), (6, .int x6)]) dX8_lots_187 5 rfl (congrArg (fun z => x5 + z) cI_1) (Nat.le_of_ble_eq_true rfl) rfl ?_
          refine j_goto F 70 dX8_lots_190 rfl ?_
          exact j_lv [3, 4, 5, 1, 0] rfl (ih.1 _ _ _ _ _ _ h)
      · refine j_aload_n F 0 dX8_lots_95 rfl rfl ?_
        refine j_getR F clX8 (j := 35) (lt653 rfl hN) ly50 (Nat.le_of_ble_eq_true rfl) rfl qf_X8_60 rfl dX8_lots_96 ?_
        refine j_iload F 6 dX8_lots_99 rfl ?_
        refine j_aload_n F 0 dX8_lots_101 rfl rfl ?_
        refine j_aload_n F 0 dX8_lots_102 rfl rfl ?_
        refine j_getI F clX8 (j := 7) (tt := 3207) (lt653 rfl hN) ly50 (Nat.le_of_ble_eq_true rfl) rfl qf_X8_67 rfl dX8_lots_103 ?_
        refine j_callVi F mwX8_draw ql_X8_240 clX8 (lt653 rfl hN) ly50 [.int (t 3207)] rfl ⟨rfl, rfl, Nat.le_of_ble_eq_true rfl, Nat.le_of_ble_eq_true rfl⟩ ⟨Nat.le_refl 0, Nat.le_refl 0⟩ rfl (Nat.le_of_ble_eq_true rfl) dX8_lots_106 (fun _ _ _ h9 => kX8_draw l hN  h9) h (fun v13 t13 a13 e13 h => ?_)
        refine j_iast F (lt653 rfl hN) ly652 dX8_lots_109 h (fun h => ?_)
        refine j_iinc F (v := x7 + (1 : Int32)) (lv' := [(7, .int (x7 + (1 : Int32))), (0, .ref (cz x + 50)), (1, .int x1), (2, .int x2), (4, .int x4), (5, .int x5), (6, .int x6)]) dX8_lots_110 6 rfl (congrArg (fun z => x7 + z) cI_1) (Nat.le_of_ble_eq_true rfl) rfl ?_
        refine j_goto F 88 dX8_lots_113 rfl ?_
        exact j_lv [1, 2, 3, 4, 5, 6, 0] rfl (ih.2 _ _ _ _ _ _ _ _ h)
set_option maxRecDepth 100000 in
set_option maxHeartbeats 4000000 in
theorem kX8_lots (l : Launch) {x : Cx} {N : Nat} {u0 v0 : Option Nat} {nF : Nat} {x1 : Int32} {x2 : Int32} {x3 : Int32} {t : sT} {a : sA} {rv : Int32} {rt : sT} {ra : sA} (hN : 653 ≤ N) (h : fX8_lots nF x1 x2 x3 t a = some (rv, rt, ra)) : Met l yX8_lots [.code yX8_lots cX8_lots 8 (some .int)] (k2_rm 3 77) (Pre x N (rho u0 v0) t a [.ref (cz x + 50), .int x1, .int x2, .int x3]) (PostI x N (rho u0 v0) rt ra rv) 0 0 (cA x) := by
  refine j_entry (by decide) rfl (Nat.le_of_ble_eq_true rfl) ?_
  intro p e s m below meth c F hsz hnm
  have F : Fx p s m meth c cX8_lots 8 RX8 (some .int) x := F
  unfold fX8_lots at h
  show J p l e _ s m _ below meth c x N (rho u0 v0) 8 0 0 _ 0 [(0, .ref (cz x + 50)), (1, .int x1), (2, .int x2), (3, .int x3)] [] t a
  refine j_aload_n F 0 dX8_lots_0 rfl rfl ?_
  refine j_iload_n F 1 dX8_lots_1 rfl rfl ?_
  refine j_callVi F mwX8_isPerson ql_X8_190 clX8 (lt653 rfl hN) ly50 [.int x1] rfl ⟨rfl, rfl, Nat.le_of_ble_eq_true rfl, Nat.le_of_ble_eq_true rfl⟩ ⟨Nat.le_refl 0, Nat.le_refl 0⟩ rfl (Nat.le_of_ble_eq_true rfl) dX8_lots_2 (fun _ _ _ h9 => kX8_isPerson l hN  h9) h (fun v1 t1 a1 e1 h => ?_)
  refine j_if_ne F 14 dX8_lots_5 rfl h (fun h => ?_) (fun h => ?_)
  · refine j_aload_n F 0 dX8_lots_8 rfl rfl ?_
    refine j_iconst F dX8_lots_9 cI_m1 ?_
    refine j_callVi F mwX8_refuse ql_X8_74 clX8 (lt653 rfl hN) ly50 [.int (-1 : Int32)] rfl ⟨rfl, rfl, Nat.le_of_ble_eq_true rfl, Nat.le_of_ble_eq_true rfl⟩ ⟨Nat.le_refl 0, Nat.le_refl 0⟩ rfl (Nat.le_of_ble_eq_true rfl) dX8_lots_10 (fun _ _ _ h9 => kX8_refuse l hN  h9) h (fun v6 t6 a6 e6 h => ?_)
    exact j_ireturn F rfl dX8_lots_13 h
  · refine j_iload_n F 2 dX8_lots_14 rfl rfl ?_
    refine j_iconst F dX8_lots_15 cI_1 ?_
    refine j_icmp_ge F 26 dX8_lots_16 rfl h (fun h => ?_) (fun h => ?_)
    · refine j_iload_n F 2 dX8_lots_26 rfl rfl ?_
      refine j_bipush F dX8_lots_27 cB_30 ?_
      refine j_icmp_le F 39 dX8_lots_29 rfl h (fun h => ?_) (fun h => ?_)
      · refine j_aload_n F 0 dX8_lots_39 rfl rfl ?_
        refine j_getI F clX8 (j := 7) (tt := 3207) (lt653 rfl hN) ly50 (Nat.le_of_ble_eq_true rfl) rfl qf_X8_67 rfl dX8_lots_40 ?_
        refine j_if_ne F 53 dX8_lots_43 rfl h (fun h => ?_) (fun h => ?_)
        · refine j_aload_n F 0 dX8_lots_46 rfl rfl ?_
          refine j_bipush F dX8_lots_47 cB_m3 ?_
          refine j_callVi F mwX8_refuse ql_X8_74 clX8 (lt653 rfl hN) ly50 [.int (-3 : Int32)] rfl ⟨rfl, rfl, Nat.le_of_ble_eq_true rfl, Nat.le_of_ble_eq_true rfl⟩ ⟨Nat.le_refl 0, Nat.le_refl 0⟩ rfl (Nat.le_of_ble_eq_true rfl) dX8_lots_49 (fun _ _ _ h9 => kX8_refuse l hN  h9) h (fun v3 t3 a3 e3 h => ?_)
          exact j_ireturn F rfl dX8_lots_52 h
        · refine j_aload_n F 0 dX8_lots_53 rfl rfl ?_
          refine j_callVv F mwX8_list ql_X8_193 clX8 (lt653 rfl hN) ly50 [] rfl ⟨rfl, rfl, Nat.le_of_ble_eq_true rfl, Nat.le_of_ble_eq_true rfl⟩ ⟨Nat.le_refl 0, Nat.le_refl 0⟩ rfl (Nat.le_of_ble_eq_true rfl) dX8_lots_54 (fun _ _ _ h9 => kX8_list l hN  h9) h (fun v2 t2 a2 e2 h => ?_)
          refine j_aload_n F 0 dX8_lots_57 rfl rfl ?_
          refine j_iload_n F 3 dX8_lots_58 rfl rfl ?_
          refine j_putI F clX8 (j := 34) (tt := 3234) (lt653 rfl hN) ly50 (Nat.le_of_ble_eq_true rfl) rfl qf_X8_234 rfl rfl rfl dX8_lots_59 ?_
          refine j_sipush F dX8_lots_62 cS_255 ?_
          refine j_istore F (k := 0) (lv' := [(4, .int (255 : Int32)), (0, .ref (cz x + 50)), (1, .int x1), (2, .int x2), (3, .int x3)]) dX8_lots_65 (Nat.le_of_ble_eq_true rfl) rfl ?_
          refine j_iconst F dX8_lots_67 cI_0 ?_
          refine j_istore F (k := 0) (lv' := [(5, .int (0 : Int32)), (4, .int (255 : Int32)), (0, .ref (cz x + 50)), (1, .int x1), (2, .int x2), (3, .int x3)]) dX8_lots_68 (Nat.le_of_ble_eq_true rfl) rfl ?_
          exact j_lv [2, 3, 4, 1, 0] rfl ((hX8_lots F hsz hN nF).1 _ _ _ _ _ _ h)
      · refine j_aload_n F 0 dX8_lots_32 rfl rfl ?_
        refine j_bipush F dX8_lots_33 cB_m6 ?_
        refine j_callVi F mwX8_refuse ql_X8_74 clX8 (lt653 rfl hN) ly50 [.int (-6 : Int32)] rfl ⟨rfl, rfl, Nat.le_of_ble_eq_true rfl, Nat.le_of_ble_eq_true rfl⟩ ⟨Nat.le_refl 0, Nat.le_refl 0⟩ rfl (Nat.le_of_ble_eq_true rfl) dX8_lots_35 (fun _ _ _ h9 => kX8_refuse l hN  h9) h (fun v4 t4 a4 e4 h => ?_)
        exact j_ireturn F rfl dX8_lots_38 h
    · refine j_aload_n F 0 dX8_lots_19 rfl rfl ?_
      refine j_bipush F dX8_lots_20 cB_m4 ?_
      refine j_callVi F mwX8_refuse ql_X8_74 clX8 (lt653 rfl hN) ly50 [.int (-4 : Int32)] rfl ⟨rfl, rfl, Nat.le_of_ble_eq_true rfl, Nat.le_of_ble_eq_true rfl⟩ ⟨Nat.le_refl 0, Nat.le_refl 0⟩ rfl (Nat.le_of_ble_eq_true rfl) dX8_lots_22 (fun _ _ _ h9 => kX8_refuse l hN  h9) h (fun v5 t5 a5 e5 h => ?_)
      exact j_ireturn F rfl dX8_lots_25 h
def gX8_meant_29 (nF : Nat) (r29 : Int32 → Int32 → sT → sA → Rs) (x1 x2 : Int32) (t : sT) (a : sA) : Rs := if (8 : Int32) ≤ x2 then (some ((va_up (va_up t 3203 (0 : Int32)) 3205 (0 : Int32)) 3219, va_up (va_up t 3203 (0 : Int32)) 3205 (0 : Int32), a)) else (bnd x1 4 (cal (fX8_answerOf nF (a 58 x1.toNatClampNeg) x2 t a) (fun v5 t5 a5 => if v5 = (-9 : Int32) then (r29 x1 (x2 + (1 : Int32)) (va_up t5 3219 ((t5 3219) ||| (0 : Int32))) a5) else (cal (fX8_isTold nF v5 t5 a5) (fun v6 t6 a6 => if v6 = 0 then (r29 x1 (x2 + (1 : Int32)) (va_up t6 3219 ((t5 3219) ||| (0 : Int32))) a6) else (r29 x1 (x2 + (1 : Int32)) (va_up t6 3219 ((t5 3219) ||| ((1 : Int32) <<< (x2 &&& 31)))) a6))))))
def gX8_meant (nF : Nat) : Nat → (Int32 → Int32 → sT → sA → Rs)
  | 0 => (fun _ _ _ _ => none)
  | n9 + 1 => (gX8_meant_29 nF (gX8_meant nF n9))
def fX8_meant (nF : Nat) (x1 : Int32) (t : sT) (a : sA) : Rs := cal (fX8_isPerson nF x1 t a) (fun v1 t1 a1 => if v1 = 0 then (cal (fX8_refuse nF (-1 : Int32) t1 a1) (fun v4 t4 a4 => some (v4, t4, a4))) else (cal (fX8_list nF t1 a1) (fun v2 t2 a2 => cal (fX8_asksRow nF t2 a2) (fun v3 t3 a3 => (gX8_meant nF nF) x1 (0 : Int32) (va_up t3 3219 (0 : Int32)) a3))))
set_option maxRecDepth 100000 in
set_option maxHeartbeats 4000000 in
theorem hX8_meant {p : Program} {l : Launch} {e : Env} {s : State} {m : MethodId} {args : Array Value} {below : List Frame} {meth : Method} {c : Code} {x : Cx} {N : Nat} {u0 v0 : Option Nat} {nF : Nat} (F : Fx p s m meth c cX8_meant 4 RX8 (some .int) x) (hsz : s.heap.size = cz x + N) (hN : 653 ≤ N) {rv : Int32} {rt : sT} {ra : sA} : ∀ n9 : Nat, (∀ (x1 x2 : Int32) (t : sT) (a : sA), (gX8_meant nF n9) x1 x2 t a = some (rv, rt, ra) → J p l e (k2_rm 3 77) s m args below meth c x N (rho u0 v0) 4 0 0 (MQ below (PostI x N (rho u0 v0) rt ra rv) args s 0 0 (cA x)) 29 [(0, .ref (cz x + 50)), (1, .int x1), (2, .int x2)] [] t a) := by
  intro n9
  induction n9 with
  | zero => exact fun _ _ _ _ h => (by cases h)
  | succ n9 ih =>
    intro x1 x2 t a h
    have h : gX8_meant_29 nF (gX8_meant nF n9) x1 x2 t a = some (rv, rt, ra) := h
    unfold gX8_meant_29 at h
    refine j_iload_n F 2 dX8_meant_29 rfl rfl ?_
    refine j_bipush F dX8_meant_30 cB_8 ?_
    refine j_icmp_ge F 83 dX8_meant_32 rfl h (fun h => ?_) (fun h => ?_)
    · refine j_aload_n F 0 dX8_meant_83 rfl rfl ?_
      refine j_iconst F dX8_meant_84 cI_0 ?_
      refine j_putI F clX8 (j := 3) (tt := 3203) (lt653 rfl hN) ly50 (Nat.le_of_ble_eq_true rfl) rfl qf_X8_139 rfl rfl rfl dX8_meant_85 ?_
      refine j_aload_n F 0 dX8_meant_88 rfl rfl ?_
      refine j_iconst F dX8_meant_89 cI_0 ?_
      refine j_putI F clX8 (j := 5) (tt := 3205) (lt653 rfl hN) ly50 (Nat.le_of_ble_eq_true rfl) rfl qf_X8_218 rfl rfl rfl dX8_meant_90 ?_
      refine j_aload_n F 0 dX8_meant_93 rfl rfl ?_
      refine j_getI F clX8 (j := 19) (tt := 3219) (lt653 rfl hN) ly50 (Nat.le_of_ble_eq_true rfl) rfl qf_X8_221 rfl dX8_meant_94 ?_
      exact j_ireturn F rfl dX8_meant_97 h
    · refine j_aload_n F 0 dX8_meant_35 rfl rfl ?_
      refine j_aload_n F 0 dX8_meant_36 rfl rfl ?_
      refine j_getR F clX8 (j := 12) (lt653 rfl hN) ly50 (Nat.le_of_ble_eq_true rfl) rfl qf_X8_31 rfl dX8_meant_37 ?_
      refine j_iload_n F 1 dX8_meant_40 rfl rfl ?_
      refine j_iald F (lt653 rfl hN) ly58 dX8_meant_41 h (fun h => ?_)
      refine j_iload_n F 2 dX8_meant_42 rfl rfl ?_
      refine j_callVi F mwX8_answerOf ql_X8_199 clX8 (lt653 rfl hN) ly50 [.int (a 58 x1.toNatClampNeg), .int x2] rfl ⟨rfl, rfl, Nat.le_of_ble_eq_true rfl, Nat.le_of_ble_eq_true rfl⟩ ⟨Nat.le_refl 0, Nat.le_refl 0⟩ rfl (Nat.le_of_ble_eq_true rfl) dX8_meant_43 (fun _ _ _ h9 => kX8_answerOf l hN  h9) h (fun v5 t5 a5 e5 h => ?_)
      refine j_istore_n F (lv' := [(3, .int v5), (0, .ref (cz x + 50)), (1, .int x1), (2, .int x2)]) dX8_meant_46 rfl (Nat.le_of_ble_eq_true rfl) rfl ?_
      refine j_aload_n F 1 dX8_meant_47 rfl rfl ?_
      refine j_dup F dX8_meant_48 rfl ?_
      refine j_getI F clX8 (j := 19) (tt := 3219) (lt653 rfl hN) ly50 (Nat.le_of_ble_eq_true rfl) rfl qf_X8_221 rfl dX8_meant_49 ?_
      refine j_iload_n F 0 dX8_meant_52 rfl rfl ?_
      refine j_bipush F dX8_meant_53 cB_m9 ?_
      refine j_icmp_eq F 72 dX8_meant_55 rfl h (fun h => ?_) (fun h => ?_)
      · refine j_iconst F dX8_meant_72 cI_0 ?_
        refine j_ior F dX8_meant_73 ?_
        refine j_putI F clX8 (j := 19) (tt := 3219) (lt653 rfl hN) ly50 (Nat.le_of_ble_eq_true rfl) rfl qf_X8_221 rfl rfl rfl dX8_meant_74 ?_
        refine j_iinc F (v := x2 + (1 : Int32)) (lv' := [(2, .int (x2 + (1 : Int32))), (3, .int v5), (0, .ref (cz x + 50)), (1, .int x1)]) dX8_meant_77 3 rfl (congrArg (fun z => x2 + z) cI_1) (Nat.le_of_ble_eq_true rfl) rfl ?_
        refine j_goto F 29 dX8_meant_80 rfl ?_
        exact j_lv [2, 3, 0] rfl (ih _ _ _ _ h)
      · refine j_aload_n F 1 dX8_meant_58 rfl rfl ?_
        refine j_iload_n F 0 dX8_meant_59 rfl rfl ?_
        refine j_callVi F mwX8_isTold ql_X8_224 clX8 (lt653 rfl hN) ly50 [.int v5] rfl ⟨rfl, rfl, Nat.le_of_ble_eq_true rfl, Nat.le_of_ble_eq_true rfl⟩ ⟨Nat.le_refl 0, Nat.le_refl 0⟩ rfl (Nat.le_of_ble_eq_true rfl) dX8_meant_60 (fun _ _ _ h9 => kX8_isTold l hN  h9) h (fun v6 t6 a6 e6 h => ?_)
        refine j_if_eq F 72 dX8_meant_63 rfl h (fun h => ?_) (fun h => ?_)
        · refine j_iconst F dX8_meant_72 cI_0 ?_
          refine j_ior F dX8_meant_73 ?_
          refine j_putI F clX8 (j := 19) (tt := 3219) (lt653 rfl hN) ly50 (Nat.le_of_ble_eq_true rfl) rfl qf_X8_221 rfl rfl rfl dX8_meant_74 ?_
          refine j_iinc F (v := x2 + (1 : Int32)) (lv' := [(2, .int (x2 + (1 : Int32))), (3, .int v5), (0, .ref (cz x + 50)), (1, .int x1)]) dX8_meant_77 3 rfl (congrArg (fun z => x2 + z) cI_1) (Nat.le_of_ble_eq_true rfl) rfl ?_
          refine j_goto F 29 dX8_meant_80 rfl ?_
          exact j_lv [2, 3, 0] rfl (ih _ _ _ _ h)
        · refine j_iconst F dX8_meant_66 cI_1 ?_
          refine j_iload_n F 3 dX8_meant_67 rfl rfl ?_
          refine j_ishl F dX8_meant_68 ?_
          refine j_goto F 73 dX8_meant_69 rfl ?_
          refine j_ior F dX8_meant_73 ?_
          refine j_putI F clX8 (j := 19) (tt := 3219) (lt653 rfl hN) ly50 (Nat.le_of_ble_eq_true rfl) rfl qf_X8_221 rfl rfl rfl dX8_meant_74 ?_
          refine j_iinc F (v := x2 + (1 : Int32)) (lv' := [(2, .int (x2 + (1 : Int32))), (3, .int v5), (0, .ref (cz x + 50)), (1, .int x1)]) dX8_meant_77 3 rfl (congrArg (fun z => x2 + z) cI_1) (Nat.le_of_ble_eq_true rfl) rfl ?_
          refine j_goto F 29 dX8_meant_80 rfl ?_
          exact j_lv [2, 3, 0] rfl (ih _ _ _ _ h)
set_option maxRecDepth 100000 in
set_option maxHeartbeats 4000000 in
theorem kX8_meant (l : Launch) {x : Cx} {N : Nat} {u0 v0 : Option Nat} {nF : Nat} {x1 : Int32} {t : sT} {a : sA} {rv : Int32} {rt : sT} {ra : sA} (hN : 653 ≤ N) (h : fX8_meant nF x1 t a = some (rv, rt, ra)) : Met l yX8_meant [.code yX8_meant cX8_meant 4 (some .int)] (k2_rm 3 77) (Pre x N (rho u0 v0) t a [.ref (cz x + 50), .int x1]) (PostI x N (rho u0 v0) rt ra rv) 0 0 (cA x) := by
  refine j_entry (by decide) rfl (Nat.le_of_ble_eq_true rfl) ?_
  intro p e s m below meth c F hsz hnm
  have F : Fx p s m meth c cX8_meant 4 RX8 (some .int) x := F
  unfold fX8_meant at h
  show J p l e _ s m _ below meth c x N (rho u0 v0) 4 0 0 _ 0 [(0, .ref (cz x + 50)), (1, .int x1)] [] t a
  refine j_aload_n F 0 dX8_meant_0 rfl rfl ?_
  refine j_iload_n F 1 dX8_meant_1 rfl rfl ?_
  refine j_callVi F mwX8_isPerson ql_X8_190 clX8 (lt653 rfl hN) ly50 [.int x1] rfl ⟨rfl, rfl, Nat.le_of_ble_eq_true rfl, Nat.le_of_ble_eq_true rfl⟩ ⟨Nat.le_refl 0, Nat.le_refl 0⟩ rfl (Nat.le_of_ble_eq_true rfl) dX8_meant_2 (fun _ _ _ h9 => kX8_isPerson l hN  h9) h (fun v1 t1 a1 e1 h => ?_)
  refine j_if_ne F 14 dX8_meant_5 rfl h (fun h => ?_) (fun h => ?_)
  · refine j_aload_n F 0 dX8_meant_8 rfl rfl ?_
    refine j_iconst F dX8_meant_9 cI_m1 ?_
    refine j_callVi F mwX8_refuse ql_X8_74 clX8 (lt653 rfl hN) ly50 [.int (-1 : Int32)] rfl ⟨rfl, rfl, Nat.le_of_ble_eq_true rfl, Nat.le_of_ble_eq_true rfl⟩ ⟨Nat.le_refl 0, Nat.le_refl 0⟩ rfl (Nat.le_of_ble_eq_true rfl) dX8_meant_10 (fun _ _ _ h9 => kX8_refuse l hN  h9) h (fun v4 t4 a4 e4 h => ?_)
    exact j_ireturn F rfl dX8_meant_13 h
  · refine j_aload_n F 0 dX8_meant_14 rfl rfl ?_
    refine j_callVv F mwX8_list ql_X8_193 clX8 (lt653 rfl hN) ly50 [] rfl ⟨rfl, rfl, Nat.le_of_ble_eq_true rfl, Nat.le_of_ble_eq_true rfl⟩ ⟨Nat.le_refl 0, Nat.le_refl 0⟩ rfl (Nat.le_of_ble_eq_true rfl) dX8_meant_15 (fun _ _ _ h9 => kX8_list l hN  h9) h (fun v2 t2 a2 e2 h => ?_)
    refine j_aload_n F 0 dX8_meant_18 rfl rfl ?_
    refine j_callVv F mwX8_asksRow ql_X8_196 clX8 (lt653 rfl hN) ly50 [] rfl ⟨rfl, rfl, Nat.le_of_ble_eq_true rfl, Nat.le_of_ble_eq_true rfl⟩ ⟨Nat.le_refl 0, Nat.le_refl 0⟩ rfl (Nat.le_of_ble_eq_true rfl) dX8_meant_19 (fun _ _ _ h9 => kX8_asksRow l hN  h9) h (fun v3 t3 a3 e3 h => ?_)
    refine j_aload_n F 0 dX8_meant_22 rfl rfl ?_
    refine j_iconst F dX8_meant_23 cI_0 ?_
    refine j_putI F clX8 (j := 19) (tt := 3219) (lt653 rfl hN) ly50 (Nat.le_of_ble_eq_true rfl) rfl qf_X8_221 rfl rfl rfl dX8_meant_24 ?_
    refine j_iconst F dX8_meant_27 cI_0 ?_
    refine j_istore_n F (lv' := [(2, .int (0 : Int32)), (0, .ref (cz x + 50)), (1, .int x1)]) dX8_meant_28 rfl (Nat.le_of_ble_eq_true rfl) rfl ?_
    exact j_lv [1, 2, 0] rfl ((hX8_meant F hsz hN nF) _ _ _ _ h)
def fX3_answerTo (nF : Nat) (k0 : Nat) (x1 : Int32) (x2 : Int32) (x3 : Int32) (t : sT) (a : sA) : Rs := cal (fX3_refresh nF k0 t a) (fun v1 t1 a1 => cal (fX3_gather nF k0 x1 (t1 198) t1 a1) (fun v2 t2 a2 => cal (fX3_chosen nF k0 x2 x3 t2 a2) (fun v3 t3 a3 => if 0 ≤ v3 then (bnd v3 585 (some (a3 (k0 + 3) v3.toNatClampNeg, t3, a3))) else (some ((-1 : Int32), t3, a3)))))
set_option maxRecDepth 100000 in
set_option maxHeartbeats 4000000 in
theorem kX3_answerTo (l : Launch) {x : Cx} {N : Nat} {u0 v0 : Option Nat} {nF : Nat} {k0 : Nat} {x1 : Int32} {x2 : Int32} {x3 : Int32} {t : sT} {a : sA} {rv : Int32} {rt : sT} {ra : sA} (hN : 653 ≤ N) (hk0 : isSy k0) (h : fX3_answerTo nF k0 x1 x2 x3 t a = some (rv, rt, ra)) : Met l yX3_answerTo [.code yX3_answerTo cX3_answerTo 5 (some .int)] (k2_rm 4 92) (Pre x N (rho u0 v0) t a [.ref (cz x + k0), .int x1, .int x2, .int x3]) (PostI x N (rho u0 v0) rt ra rv) 0 0 (cA x) := by
  refine j_entry (by decide) rfl (Nat.le_of_ble_eq_true rfl) ?_
  intro p e s m below meth c F hsz hnm
  have F : Fx p s m meth c cX3_answerTo 5 RX3 (some .int) x := F
  unfold fX3_answerTo at h
  show J p l e _ s m _ below meth c x N (rho u0 v0) 5 0 0 _ 0 [(0, .ref (cz x + k0)), (1, .int x1), (2, .int x2), (3, .int x3)] [] t a
  refine j_aload_n F 0 dX3_answerTo_0 rfl rfl ?_
  refine j_callVv F mwX3_refresh ql_X3_50 clX3 (Sy_lt hk0 hN) (Sy_l hk0) [] rfl ⟨rfl, rfl, Nat.le_of_ble_eq_true rfl, Nat.le_of_ble_eq_true rfl⟩ ⟨Nat.le_refl 0, Nat.le_refl 0⟩ rfl (Nat.le_of_ble_eq_true rfl) dX3_answerTo_1 (fun _ _ _ h9 => kX3_refresh l hN hk0 h9) h (fun v1 t1 a1 e1 h => ?_)
  refine j_aload_n F 0 dX3_answerTo_4 rfl rfl ?_
  refine j_iload_n F 1 dX3_answerTo_5 rfl rfl ?_
  refine j_aload_n F 0 dX3_answerTo_6 rfl rfl ?_
  refine j_getR F clX3 (j := 0) (Sy_lt hk0 hN) (Sy_l hk0) (Nat.le_of_ble_eq_true rfl) rfl qf_X3_42 (Sy_r0 hk0) dX3_answerTo_7 ?_
  refine j_getI F clX6 (j := 6) (tt := 198) (lt653 rfl hN) ly3 (Nat.le_of_ble_eq_true rfl) rfl qf_X3_53 rfl dX3_answerTo_10 ?_
  refine j_callVv F mwX3_gather ql_X3_58 clX3 (Sy_lt hk0 hN) (Sy_l hk0) [.int x1, .int (t1 198)] rfl ⟨rfl, rfl, Nat.le_of_ble_eq_true rfl, Nat.le_of_ble_eq_true rfl⟩ ⟨Nat.le_refl 0, Nat.le_refl 0⟩ rfl (Nat.le_of_ble_eq_true rfl) dX3_answerTo_13 (fun _ _ _ h9 => kX3_gather l hN hk0 h9) h (fun v2 t2 a2 e2 h => ?_)
  refine j_aload_n F 0 dX3_answerTo_16 rfl rfl ?_
  refine j_iload_n F 2 dX3_answerTo_17 rfl rfl ?_
  refine j_iload_n F 3 dX3_answerTo_18 rfl rfl ?_
  refine j_callVi F mwX3_chosen ql_X3_62 clX3 (Sy_lt hk0 hN) (Sy_l hk0) [.int x2, .int x3] rfl ⟨rfl, rfl, Nat.le_of_ble_eq_true rfl, Nat.le_of_ble_eq_true rfl⟩ ⟨Nat.le_refl 0, Nat.le_refl 0⟩ rfl (Nat.le_of_ble_eq_true rfl) dX3_answerTo_19 (fun _ _ _ h9 => kX3_chosen l hN hk0 h9) h (fun v3 t3 a3 e3 h => ?_)
  refine j_istore F (k := 0) (lv' := [(4, .int v3), (0, .ref (cz x + k0)), (1, .int x1), (2, .int x2), (3, .int x3)]) dX3_answerTo_22 (Nat.le_of_ble_eq_true rfl) rfl ?_
  refine j_iload F 0 dX3_answerTo_24 rfl ?_
  refine j_if_ge F 33 dX3_answerTo_26 rfl h (fun h => ?_) (fun h => ?_)
  · refine j_aload_n F 1 dX3_answerTo_33 rfl rfl ?_
    refine j_getR F clX3 (j := 4) (Sy_lt hk0 hN) (Sy_l hk0) (Nat.le_of_ble_eq_true rfl) rfl qf_X3_18 (Sy_r4 hk0) dX3_answerTo_34 ?_
    refine j_iload F 0 dX3_answerTo_37 rfl ?_
    refine j_iald F (Sy_lt3 hk0 hN) (Sy_l3 hk0) dX3_answerTo_39 h (fun h => ?_)
    exact j_ireturn F rfl dX3_answerTo_40 h
  · refine j_iconst F dX3_answerTo_29 cI_m1 ?_
    refine j_goto F 40 dX3_answerTo_30 rfl ?_
    exact j_ireturn F rfl dX3_answerTo_40 h
def gX3_casesAnsweredBy_22 (nF : Nat) (k0 : Nat) (r22 : Int32 → Int32 → Int32 → Int32 → sT → sA → Rs) (x1 x3 x4 x5 : Int32) (t : sT) (a : sA) : Rs := if (8 : Int32) ≤ x5 then (some (x4, t, a)) else (cal (fX3_chosen nF k0 x3 x5 t a) (fun v3 t3 a3 => if v3 < 0 then (r22 x1 x3 x4 (x5 + (1 : Int32)) t3 a3) else (bnd v3 585 (if (a3 (k0 + 3) v3.toNatClampNeg) = x1 then (r22 x1 x3 (x4 ||| ((1 : Int32) <<< (x5 &&& 31))) (x5 + (1 : Int32)) t3 a3) else (r22 x1 x3 x4 (x5 + (1 : Int32)) t3 a3)))))
def gX3_casesAnsweredBy (nF : Nat) (k0 : Nat) : Nat → (Int32 → Int32 → Int32 → Int32 → sT → sA → Rs)
  | 0 => (fun _ _ _ _ _ _ => none)
  | n9 + 1 => (gX3_casesAnsweredBy_22 nF k0 (gX3_casesAnsweredBy nF k0 n9))
def fX3_casesAnsweredBy (nF : Nat) (k0 : Nat) (x1 : Int32) (x2 : Int32) (x3 : Int32) (t : sT) (a : sA) : Rs := cal (fX3_refresh nF k0 t a) (fun v1 t1 a1 => cal (fX3_gather nF k0 x2 (t1 198) t1 a1) (fun v2 t2 a2 => (gX3_casesAnsweredBy nF k0 nF) x1 x3 (0 : Int32) (0 : Int32) t2 a2))
set_option maxRecDepth 100000 in
set_option maxHeartbeats 4000000 in
theorem hX3_casesAnsweredBy {p : Program} {l : Launch} {e : Env} {s : State} {m : MethodId} {args : Array Value} {below : List Frame} {meth : Method} {c : Code} {x : Cx} {N : Nat} {u0 v0 : Option Nat} {nF : Nat} {k0 : Nat} (F : Fx p s m meth c cX3_casesAnsweredBy 7 RX3 (some .int) x) (hsz : s.heap.size = cz x + N) (hN : 653 ≤ N) (hk0 : isSy k0) {rv : Int32} {rt : sT} {ra : sA} : ∀ n9 : Nat, (∀ (x1 x3 x4 x5 : Int32) (t : sT) (a : sA), (gX3_casesAnsweredBy nF k0 n9) x1 x3 x4 x5 t a = some (rv, rt, ra) → J p l e (k2_rm 4 92) s m args below meth c x N (rho u0 v0) 7 0 0 (MQ below (PostI x N (rho u0 v0) rt ra rv) args s 0 0 (cA x)) 22 [(0, .ref (cz x + k0)), (1, .int x1), (3, .int x3), (4, .int x4), (5, .int x5)] [] t a) := by
  intro n9
  induction n9 with
  | zero => exact fun _ _ _ _ _ _ h => (by cases h)
  | succ n9 ih =>
    intro x1 x3 x4 x5 t a h
    have h : gX3_casesAnsweredBy_22 nF k0 (gX3_casesAnsweredBy nF k0 n9) x1 x3 x4 x5 t a = some (rv, rt, ra) := h
    unfold gX3_casesAnsweredBy_22 at h
    refine j_iload F 4 dX3_casesAnsweredBy_22 rfl ?_
    refine j_bipush F dX3_casesAnsweredBy_24 cB_8 ?_
    refine j_icmp_ge F 69 dX3_casesAnsweredBy_26 rfl h (fun h => ?_) (fun h => ?_)
    · refine j_iload F 3 dX3_casesAnsweredBy_69 rfl ?_
      exact j_ireturn F rfl dX3_casesAnsweredBy_71 h
    · refine j_aload_n F 0 dX3_casesAnsweredBy_29 rfl rfl ?_
      refine j_iload_n F 2 dX3_casesAnsweredBy_30 rfl rfl ?_
      refine j_iload F 4 dX3_casesAnsweredBy_31 rfl ?_
      refine j_callVi F mwX3_chosen ql_X3_62 clX3 (Sy_lt hk0 hN) (Sy_l hk0) [.int x3, .int x5] rfl ⟨rfl, rfl, Nat.le_of_ble_eq_true rfl, Nat.le_of_ble_eq_true rfl⟩ ⟨Nat.le_refl 0, Nat.le_refl 0⟩ rfl (Nat.le_of_ble_eq_true rfl) dX3_casesAnsweredBy_33 (fun _ _ _ h9 => kX3_chosen l hN hk0 h9) h (fun v3 t3 a3 e3 h => ?_)
      refine j_istore F (k := 0) (lv' := [(6, .int v3), (0, .ref (cz x + k0)), (1, .int x1), (3, .int x3), (4, .int x4), (5, .int x5)]) dX3_casesAnsweredBy_36 (Nat.le_of_ble_eq_true rfl) rfl ?_
      refine j_iload F 0 dX3_casesAnsweredBy_38 rfl ?_
      refine j_if_lt F 63 dX3_casesAnsweredBy_40 rfl h (fun h => ?_) (fun h => ?_)
      · refine j_iinc F (v := x5 + (1 : Int32)) (lv' := [(5, .int (x5 + (1 : Int32))), (6, .int v3), (0, .ref (cz x + k0)), (1, .int x1), (3, .int x3), (4, .int x4)]) dX3_casesAnsweredBy_63 5 rfl (congrArg (fun z => x5 + z) cI_1) (Nat.le_of_ble_eq_true rfl) rfl ?_
        refine j_goto F 22 dX3_casesAnsweredBy_66 rfl ?_
        exact j_lv [2, 3, 4, 5, 0] rfl (ih _ _ _ _ _ _ h)
      · refine j_aload_n F 1 dX3_casesAnsweredBy_43 rfl rfl ?_
        refine j_getR F clX3 (j := 4) (Sy_lt hk0 hN) (Sy_l hk0) (Nat.le_of_ble_eq_true rfl) rfl qf_X3_18 (Sy_r4 hk0) dX3_casesAnsweredBy_44 ?_
        refine j_iload F 0 dX3_casesAnsweredBy_47 rfl ?_
        refine j_iald F (Sy_lt3 hk0 hN) (Sy_l3 hk0) dX3_casesAnsweredBy_49 h (fun h => ?_)
        refine j_iload_n F 2 dX3_casesAnsweredBy_50 rfl rfl ?_
        refine j_icmp_ne F 63 dX3_casesAnsweredBy_51 rfl h (fun h => ?_) (fun h => ?_)
        · refine j_iload F 4 dX3_casesAnsweredBy_54 rfl ?_
          refine j_iconst F dX3_casesAnsweredBy_56 cI_1 ?_
          refine j_iload F 5 dX3_casesAnsweredBy_57 rfl ?_
          refine j_ishl F dX3_casesAnsweredBy_59 ?_
          refine j_ior F dX3_casesAnsweredBy_60 ?_
          refine j_istore F (k := 0) (lv' := [(4, .int (x4 ||| ((1 : Int32) <<< (x5 &&& 31)))), (6, .int v3), (0, .ref (cz x + k0)), (1, .int x1), (3, .int x3), (5, .int x5)]) dX3_casesAnsweredBy_61 (Nat.le_of_ble_eq_true rfl) rfl ?_
          refine j_iinc F (v := x5 + (1 : Int32)) (lv' := [(5, .int (x5 + (1 : Int32))), (4, .int (x4 ||| ((1 : Int32) <<< (x5 &&& 31)))), (6, .int v3), (0, .ref (cz x + k0)), (1, .int x1), (3, .int x3)]) dX3_casesAnsweredBy_63 5 rfl (congrArg (fun z => x5 + z) cI_1) (Nat.le_of_ble_eq_true rfl) rfl ?_
          refine j_goto F 22 dX3_casesAnsweredBy_66 rfl ?_
          exact j_lv [3, 4, 5, 1, 0] rfl (ih _ _ _ _ _ _ h)
        · refine j_iinc F (v := x5 + (1 : Int32)) (lv' := [(5, .int (x5 + (1 : Int32))), (6, .int v3), (0, .ref (cz x + k0)), (1, .int x1), (3, .int x3), (4, .int x4)]) dX3_casesAnsweredBy_63 5 rfl (congrArg (fun z => x5 + z) cI_1) (Nat.le_of_ble_eq_true rfl) rfl ?_
          refine j_goto F 22 dX3_casesAnsweredBy_66 rfl ?_
          exact j_lv [2, 3, 4, 5, 0] rfl (ih _ _ _ _ _ _ h)
set_option maxRecDepth 100000 in
set_option maxHeartbeats 4000000 in
theorem kX3_casesAnsweredBy (l : Launch) {x : Cx} {N : Nat} {u0 v0 : Option Nat} {nF : Nat} {k0 : Nat} {x1 : Int32} {x2 : Int32} {x3 : Int32} {t : sT} {a : sA} {rv : Int32} {rt : sT} {ra : sA} (hN : 653 ≤ N) (hk0 : isSy k0) (h : fX3_casesAnsweredBy nF k0 x1 x2 x3 t a = some (rv, rt, ra)) : Met l yX3_casesAnsweredBy [.code yX3_casesAnsweredBy cX3_casesAnsweredBy 7 (some .int)] (k2_rm 4 92) (Pre x N (rho u0 v0) t a [.ref (cz x + k0), .int x1, .int x2, .int x3]) (PostI x N (rho u0 v0) rt ra rv) 0 0 (cA x) := by
  refine j_entry (by decide) rfl (Nat.le_of_ble_eq_true rfl) ?_
  intro p e s m below meth c F hsz hnm
  have F : Fx p s m meth c cX3_casesAnsweredBy 7 RX3 (some .int) x := F
  unfold fX3_casesAnsweredBy at h
  show J p l e _ s m _ below meth c x N (rho u0 v0) 7 0 0 _ 0 [(0, .ref (cz x + k0)), (1, .int x1), (2, .int x2), (3, .int x3)] [] t a
  refine j_aload_n F 0 dX3_casesAnsweredBy_0 rfl rfl ?_
  refine j_callVv F mwX3_refresh ql_X3_50 clX3 (Sy_lt hk0 hN) (Sy_l hk0) [] rfl ⟨rfl, rfl, Nat.le_of_ble_eq_true rfl, Nat.le_of_ble_eq_true rfl⟩ ⟨Nat.le_refl 0, Nat.le_refl 0⟩ rfl (Nat.le_of_ble_eq_true rfl) dX3_casesAnsweredBy_1 (fun _ _ _ h9 => kX3_refresh l hN hk0 h9) h (fun v1 t1 a1 e1 h => ?_)
  refine j_aload_n F 0 dX3_casesAnsweredBy_4 rfl rfl ?_
  refine j_iload_n F 2 dX3_casesAnsweredBy_5 rfl rfl ?_
  refine j_aload_n F 0 dX3_casesAnsweredBy_6 rfl rfl ?_
  refine j_getR F clX3 (j := 0) (Sy_lt hk0 hN) (Sy_l hk0) (Nat.le_of_ble_eq_true rfl) rfl qf_X3_42 (Sy_r0 hk0) dX3_casesAnsweredBy_7 ?_
  refine j_getI F clX6 (j := 6) (tt := 198) (lt653 rfl hN) ly3 (Nat.le_of_ble_eq_true rfl) rfl qf_X3_53 rfl dX3_casesAnsweredBy_10 ?_
  refine j_callVv F mwX3_gather ql_X3_58 clX3 (Sy_lt hk0 hN) (Sy_l hk0) [.int x2, .int (t1 198)] rfl ⟨rfl, rfl, Nat.le_of_ble_eq_true rfl, Nat.le_of_ble_eq_true rfl⟩ ⟨Nat.le_refl 0, Nat.le_refl 0⟩ rfl (Nat.le_of_ble_eq_true rfl) dX3_casesAnsweredBy_13 (fun _ _ _ h9 => kX3_gather l hN hk0 h9) h (fun v2 t2 a2 e2 h => ?_)
  refine j_iconst F dX3_casesAnsweredBy_16 cI_0 ?_
  refine j_istore F (k := 0) (lv' := [(4, .int (0 : Int32)), (0, .ref (cz x + k0)), (1, .int x1), (2, .int x2), (3, .int x3)]) dX3_casesAnsweredBy_17 (Nat.le_of_ble_eq_true rfl) rfl ?_
  refine j_iconst F dX3_casesAnsweredBy_19 cI_0 ?_
  refine j_istore F (k := 0) (lv' := [(5, .int (0 : Int32)), (4, .int (0 : Int32)), (0, .ref (cz x + k0)), (1, .int x1), (2, .int x2), (3, .int x3)]) dX3_casesAnsweredBy_20 (Nat.le_of_ble_eq_true rfl) rfl ?_
  exact j_lv [2, 3, 5, 1, 0] rfl ((hX3_casesAnsweredBy F hsz hN hk0 nF) _ _ _ _ _ _ h)
def fX3_casesLeftBy (nF : Nat) (k0 : Nat) (x1 : Int32) (x2 : Int32) (x3 : Int32) (t : sT) (a : sA) : Rs := cal (fX3_refresh nF k0 t a) (fun v1 t1 a1 => cal (fX3_gather nF k0 x1 (t1 198) t1 a1) (fun v2 t2 a2 => cal (fX3_chosen nF k0 x2 x3 t2 a2) (fun v3 t3 a3 => if 0 ≤ v3 then (bnd v3 585 (cal (fX4_meaning nF (a3 (k0 + 2) v3.toNatClampNeg) t3 a3) (fun v4 t4 a4 => some (v4, t4, a4)))) else (some ((255 : Int32), t3, a3)))))
set_option maxRecDepth 100000 in
set_option maxHeartbeats 4000000 in
theorem kX3_casesLeftBy (l : Launch) {x : Cx} {N : Nat} {u0 v0 : Option Nat} {nF : Nat} {k0 : Nat} {x1 : Int32} {x2 : Int32} {x3 : Int32} {t : sT} {a : sA} {rv : Int32} {rt : sT} {ra : sA} (hN : 653 ≤ N) (hk0 : isSy k0) (h : fX3_casesLeftBy nF k0 x1 x2 x3 t a = some (rv, rt, ra)) : Met l yX3_casesLeftBy [.code yX3_casesLeftBy cX3_casesLeftBy 5 (some .int)] (k2_rm 4 92) (Pre x N (rho u0 v0) t a [.ref (cz x + k0), .int x1, .int x2, .int x3]) (PostI x N (rho u0 v0) rt ra rv) 0 0 (cA x) := by
  refine j_entry (by decide) rfl (Nat.le_of_ble_eq_true rfl) ?_
  intro p e s m below meth c F hsz hnm
  have F : Fx p s m meth c cX3_casesLeftBy 5 RX3 (some .int) x := F
  unfold fX3_casesLeftBy at h
  show J p l e _ s m _ below meth c x N (rho u0 v0) 5 0 0 _ 0 [(0, .ref (cz x + k0)), (1, .int x1), (2, .int x2), (3, .int x3)] [] t a
  refine j_aload_n F 0 dX3_casesLeftBy_0 rfl rfl ?_
  refine j_callVv F mwX3_refresh ql_X3_50 clX3 (Sy_lt hk0 hN) (Sy_l hk0) [] rfl ⟨rfl, rfl, Nat.le_of_ble_eq_true rfl, Nat.le_of_ble_eq_true rfl⟩ ⟨Nat.le_refl 0, Nat.le_refl 0⟩ rfl (Nat.le_of_ble_eq_true rfl) dX3_casesLeftBy_1 (fun _ _ _ h9 => kX3_refresh l hN hk0 h9) h (fun v1 t1 a1 e1 h => ?_)
  refine j_aload_n F 0 dX3_casesLeftBy_4 rfl rfl ?_
  refine j_iload_n F 1 dX3_casesLeftBy_5 rfl rfl ?_
  refine j_aload_n F 0 dX3_casesLeftBy_6 rfl rfl ?_
  refine j_getR F clX3 (j := 0) (Sy_lt hk0 hN) (Sy_l hk0) (Nat.le_of_ble_eq_true rfl) rfl qf_X3_42 (Sy_r0 hk0) dX3_casesLeftBy_7 ?_
  refine j_getI F clX6 (j := 6) (tt := 198) (lt653 rfl hN) ly3 (Nat.le_of_ble_eq_true rfl) rfl qf_X3_53 rfl dX3_casesLeftBy_10 ?_
  refine j_callVv F mwX3_gather ql_X3_58 clX3 (Sy_lt hk0 hN) (Sy_l hk0) [.int x1, .int (t1 198)] rfl ⟨rfl, rfl, Nat.le_of_ble_eq_true rfl, Nat.le_of_ble_eq_true rfl⟩ ⟨Nat.le_refl 0, Nat.le_refl 0⟩ rfl (Nat.le_of_ble_eq_true rfl) dX3_casesLeftBy_13 (fun _ _ _ h9 => kX3_gather l hN hk0 h9) h (fun v2 t2 a2 e2 h => ?_)
  refine j_aload_n F 0 dX3_casesLeftBy_16 rfl rfl ?_
  refine j_iload_n F 2 dX3_casesLeftBy_17 rfl rfl ?_
  refine j_iload_n F 3 dX3_casesLeftBy_18 rfl rfl ?_
  refine j_callVi F mwX3_chosen ql_X3_62 clX3 (Sy_lt hk0 hN) (Sy_l hk0) [.int x2, .int x3] rfl ⟨rfl, rfl, Nat.le_of_ble_eq_true rfl, Nat.le_of_ble_eq_true rfl⟩ ⟨Nat.le_refl 0, Nat.le_refl 0⟩ rfl (Nat.le_of_ble_eq_true rfl) dX3_casesLeftBy_19 (fun _ _ _ h9 => kX3_chosen l hN hk0 h9) h (fun v3 t3 a3 e3 h => ?_)
  refine j_istore F (k := 0) (lv' := [(4, .int v3), (0, .ref (cz x + k0)), (1, .int x1), (2, .int x2), (3, .int x3)]) dX3_casesLeftBy_22 (Nat.le_of_ble_eq_true rfl) rfl ?_
  refine j_iload F 0 dX3_casesLeftBy_24 rfl ?_
  refine j_if_ge F 35 dX3_casesLeftBy_26 rfl h (fun h => ?_) (fun h => ?_)
  · refine j_aload_n F 1 dX3_casesLeftBy_35 rfl rfl ?_
    refine j_getR F clX3 (j := 3) (Sy_lt hk0 hN) (Sy_l hk0) (Nat.le_of_ble_eq_true rfl) rfl qf_X3_15 (Sy_r3 hk0) dX3_casesLeftBy_36 ?_
    refine j_iload F 0 dX3_casesLeftBy_39 rfl ?_
    refine j_iald F (Sy_lt2 hk0 hN) (Sy_l2 hk0) dX3_casesLeftBy_41 h (fun h => ?_)
    refine j_callSi F mwX4_meaning ql_X3_73 [.int (a3 (k0 + 2) v3.toNatClampNeg)] rfl ⟨rfl, rfl, Nat.le_of_ble_eq_true rfl, Nat.le_of_ble_eq_true rfl⟩ ⟨Nat.le_refl 0, Nat.le_refl 0⟩ rfl (Nat.le_of_ble_eq_true rfl) dX3_casesLeftBy_42 (fun _ _ _ h9 => kX4_meaning l hN  h9) h (fun v4 t4 a4 e4 h => ?_)
    exact j_ireturn F rfl dX3_casesLeftBy_45 h
  · refine j_sipush F dX3_casesLeftBy_29 cS_255 ?_
    refine j_goto F 45 dX3_casesLeftBy_32 rfl ?_
    exact j_ireturn F rfl dX3_casesLeftBy_45 h
def gX3_findBest_73 (nF : Nat) (k0 : Nat) (r73 : Int32 → Int32 → Int32 → Int32 → sT → sA → Rs) (x1 x2 x3 x4 : Int32) (t : sT) (a : sA) : Rs := if (t (64 * k0 + 14)) ≤ x4 then (some (x3, t, a)) else (bnd x4 585 (cal (fX3_leftUnder nF k0 (a (k0 + 2) x4.toNatClampNeg) x1 x2 t a) (fun v4 t4 a4 => bnd x3 25 (if (a4 (k0 + 10) x3.toNatClampNeg) ≤ v4 then (r73 x1 x2 x3 (x4 + (1 : Int32)) t4 a4) else (bnd x3 25 (bnd x3 25 (r73 x1 x2 x3 (x4 + (1 : Int32)) t4 (va_up (va_up a4 (k0 + 10) (upd (a4 (k0 + 10)) x3.toNatClampNeg v4)) (k0 + 9) (upd ((va_up a4 (k0 + 10) (upd (a4 (k0 + 10)) x3.toNatClampNeg v4)) (k0 + 9)) x3.toNatClampNeg x4)))))))))
def gX3_findBest (nF : Nat) (k0 : Nat) : Nat → (Int32 → Int32 → Int32 → Int32 → sT → sA → Rs)
  | 0 => (fun _ _ _ _ _ _ => none)
  | n9 + 1 => (gX3_findBest_73 nF k0 (gX3_findBest nF k0 n9))
def fX3_findBest (nF : Nat) (k0 : Nat) (x1 : Int32) (x2 : Int32) (t : sT) (a : sA) : Rs := cal (fX3_refresh nF k0 t a) (fun v1 t1 a1 => if (t1 (64 * k0 + 14)) < (2 : Int32) then (some ((-1 : Int32), t1, a1)) else (if x1 < 0 then (some ((-1 : Int32), t1, a1)) else (if (5 : Int32) ≤ x1 then (some ((-1 : Int32), t1, a1)) else (cal (fX7_isLaw nF x2 t1 a1) (fun v2 t2 a2 => if v2 = 0 then (some ((-1 : Int32), t2, a2)) else (bnd ((x2 * (5 : Int32)) + x1) 25 (if 0 ≤ (a2 (k0 + 10) ((x2 * (5 : Int32)) + x1).toNatClampNeg) then (some ((x2 * (5 : Int32)) + x1, t2, a2)) else (bnd ((x2 * (5 : Int32)) + x1) 25 (bnd (1 : Int32) 585 (cal (fX3_leftUnder nF k0 ((va_up a2 (k0 + 9) (upd (a2 (k0 + 9)) ((x2 * (5 : Int32)) + x1).toNatClampNeg (1 : Int32))) (k0 + 2) (1 : Int32).toNatClampNeg) x1 x2 t2 (va_up a2 (k0 + 9) (upd (a2 (k0 + 9)) ((x2 * (5 : Int32)) + x1).toNatClampNeg (1 : Int32)))) (fun v3 t3 a3 => bnd ((x2 * (5 : Int32)) + x1) 25 ((gX3_findBest nF k0 nF) x1 x2 ((x2 * (5 : Int32)) + x1) (2 : Int32) t3 (va_up a3 (k0 + 10) (upd (a3 (k0 + 10)) ((x2 * (5 : Int32)) + x1).toNatClampNeg v3))))))))))))))
set_option maxRecDepth 100000 in
set_option maxHeartbeats 4000000 in
theorem hX3_findBest {p : Program} {l : Launch} {e : Env} {s : State} {m : MethodId} {args : Array Value} {below : List Frame} {meth : Method} {c : Code} {x : Cx} {N : Nat} {u0 v0 : Option Nat} {nF : Nat} {k0 : Nat} (F : Fx p s m meth c cX3_findBest 6 RX3 (some .int) x) (hsz : s.heap.size = cz x + N) (hN : 653 ≤ N) (hk0 : isSy k0) {rv : Int32} {rt : sT} {ra : sA} : ∀ n9 : Nat, (∀ (x1 x2 x3 x4 : Int32) (t : sT) (a : sA), (gX3_findBest nF k0 n9) x1 x2 x3 x4 t a = some (rv, rt, ra) → J p l e (k2_rm 4 97) s m args below meth c x N (rho u0 v0) 6 0 0 (MQ below (PostI x N (rho u0 v0) rt ra rv) args s 0 0 (cA x)) 73 [(0, .ref (cz x + k0)), (1, .int x1), (2, .int x2), (3, .int x3), (4, .int x4)] [] t a) := by
  intro n9
  induction n9 with
  | zero => exact fun _ _ _ _ _ _ h => (by cases h)
  | succ n9 ih =>
    intro x1 x2 x3 x4 t a h
    have h : gX3_findBest_73 nF k0 (gX3_findBest nF k0 n9) x1 x2 x3 x4 t a = some (rv, rt, ra) := h
    unfold gX3_findBest_73 at h
    refine j_iload F 4 dX3_findBest_73 rfl ?_
    refine j_aload_n F 0 dX3_findBest_75 rfl rfl ?_
    refine j_getI F clX3 (j := 14) (tt := (64 * k0 + 14)) (Sy_lt hk0 hN) (Sy_l hk0) (Nat.le_of_ble_eq_true rfl) rfl qf_X3_92 rfl dX3_findBest_76 ?_
    refine j_icmp_ge F 130 dX3_findBest_79 rfl h (fun h => ?_) (fun h => ?_)
    · refine j_iload_n F 3 dX3_findBest_130 rfl rfl ?_
      exact j_ireturn F rfl dX3_findBest_131 h
    · refine j_aload_n F 0 dX3_findBest_82 rfl rfl ?_
      refine j_aload_n F 0 dX3_findBest_83 rfl rfl ?_
      refine j_getR F clX3 (j := 3) (Sy_lt hk0 hN) (Sy_l hk0) (Nat.le_of_ble_eq_true rfl) rfl qf_X3_15 (Sy_r3 hk0) dX3_findBest_84 ?_
      refine j_iload F 4 dX3_findBest_87 rfl ?_
      refine j_iald F (Sy_lt2 hk0 hN) (Sy_l2 hk0) dX3_findBest_89 h (fun h => ?_)
      refine j_iload_n F 1 dX3_findBest_90 rfl rfl ?_
      refine j_iload_n F 2 dX3_findBest_91 rfl rfl ?_
      refine j_callVi F mwX3_leftUnder ql_X3_79 clX3 (Sy_lt hk0 hN) (Sy_l hk0) [.int (a (k0 + 2) x4.toNatClampNeg), .int x1, .int x2] rfl ⟨rfl, rfl, Nat.le_of_ble_eq_true rfl, Nat.le_of_ble_eq_true rfl⟩ ⟨Nat.le_refl 0, Nat.le_refl 0⟩ rfl (Nat.le_of_ble_eq_true rfl) dX3_findBest_92 (fun _ _ _ h9 => kX3_leftUnder l hN hk0 h9) h (fun v4 t4 a4 e4 h => ?_)
      refine j_istore F (k := 0) (lv' := [(5, .int v4), (0, .ref (cz x + k0)), (1, .int x1), (2, .int x2), (3, .int x3), (4, .int x4)]) dX3_findBest_95 (Nat.le_of_ble_eq_true rfl) rfl ?_
      refine j_iload F 0 dX3_findBest_97 rfl ?_
      refine j_aload_n F 1 dX3_findBest_99 rfl rfl ?_
      refine j_getR F clX3 (j := 11) (Sy_lt hk0 hN) (Sy_l hk0) (Nat.le_of_ble_eq_true rfl) rfl qf_X3_39 (Sy_r11 hk0) dX3_findBest_100 ?_
      refine j_iload_n F 4 dX3_findBest_103 rfl rfl ?_
      refine j_iald F (Sy_lt10 hk0 hN) (Sy_l10 hk0) dX3_findBest_104 h (fun h => ?_)
      refine j_icmp_ge F 124 dX3_findBest_105 rfl h (fun h => ?_) (fun h => ?_)
      · refine j_iinc F (v := x4 + (1 : Int32)) (lv' := [(4, .int (x4 + (1 : Int32))), (5, .int v4), (0, .ref (cz x + k0)), (1, .int x1), (2, .int x2), (3, .int x3)]) dX3_findBest_124 5 rfl (congrArg (fun z => x4 + z) cI_1) (Nat.le_of_ble_eq_true rfl) rfl ?_
        refine j_goto F 73 dX3_findBest_127 rfl ?_
        exact j_lv [2, 3, 4, 5, 0] rfl (ih _ _ _ _ _ _ h)
      · refine j_aload_n F 1 dX3_findBest_108 rfl rfl ?_
        refine j_getR F clX3 (j := 11) (Sy_lt hk0 hN) (Sy_l hk0) (Nat.le_of_ble_eq_true rfl) rfl qf_X3_39 (Sy_r11 hk0) dX3_findBest_109 ?_
        refine j_iload_n F 4 dX3_findBest_112 rfl rfl ?_
        refine j_iload F 0 dX3_findBest_113 rfl ?_
        refine j_iast F (Sy_lt10 hk0 hN) (Sy_l10 hk0) dX3_findBest_115 h (fun h => ?_)
        refine j_aload_n F 1 dX3_findBest_116 rfl rfl ?_
        refine j_getR F clX3 (j := 10) (Sy_lt hk0 hN) (Sy_l hk0) (Nat.le_of_ble_eq_true rfl) rfl qf_X3_36 (Sy_r10 hk0) dX3_findBest_117 ?_
        refine j_iload_n F 4 dX3_findBest_120 rfl rfl ?_
        refine j_iload F 5 dX3_findBest_121 rfl ?_
        refine j_iast F (Sy_lt9 hk0 hN) (Sy_l9 hk0) dX3_findBest_123 h (fun h => ?_)
        refine j_iinc F (v := x4 + (1 : Int32)) (lv' := [(4, .int (x4 + (1 : Int32))), (5, .int v4), (0, .ref (cz x + k0)), (1, .int x1), (2, .int x2), (3, .int x3)]) dX3_findBest_124 5 rfl (congrArg (fun z => x4 + z) cI_1) (Nat.le_of_ble_eq_true rfl) rfl ?_
        refine j_goto F 73 dX3_findBest_127 rfl ?_
        exact j_lv [2, 3, 4, 5, 0] rfl (ih _ _ _ _ _ _ h)
set_option maxRecDepth 100000 in
set_option maxHeartbeats 4000000 in
theorem kX3_findBest (l : Launch) {x : Cx} {N : Nat} {u0 v0 : Option Nat} {nF : Nat} {k0 : Nat} {x1 : Int32} {x2 : Int32} {t : sT} {a : sA} {rv : Int32} {rt : sT} {ra : sA} (hN : 653 ≤ N) (hk0 : isSy k0) (h : fX3_findBest nF k0 x1 x2 t a = some (rv, rt, ra)) : Met l yX3_findBest [.code yX3_findBest cX3_findBest 6 (some .int)] (k2_rm 4 97) (Pre x N (rho u0 v0) t a [.ref (cz x + k0), .int x1, .int x2]) (PostI x N (rho u0 v0) rt ra rv) 0 0 (cA x) := by
  refine j_entry (by decide) rfl (Nat.le_of_ble_eq_true rfl) ?_
  intro p e s m below meth c F hsz hnm
  have F : Fx p s m meth c cX3_findBest 6 RX3 (some .int) x := F
  unfold fX3_findBest at h
  show J p l e _ s m _ below meth c x N (rho u0 v0) 6 0 0 _ 0 [(0, .ref (cz x + k0)), (1, .int x1), (2, .int x2)] [] t a
  refine j_aload_n F 0 dX3_findBest_0 rfl rfl ?_
  refine j_callVv F mwX3_refresh ql_X3_50 clX3 (Sy_lt hk0 hN) (Sy_l hk0) [] rfl ⟨rfl, rfl, Nat.le_of_ble_eq_true rfl, Nat.le_of_ble_eq_true rfl⟩ ⟨Nat.le_refl 0, Nat.le_refl 0⟩ rfl (Nat.le_of_ble_eq_true rfl) dX3_findBest_1 (fun _ _ _ h9 => kX3_refresh l hN hk0 h9) h (fun v1 t1 a1 e1 h => ?_)
  refine j_aload_n F 0 dX3_findBest_4 rfl rfl ?_
  refine j_getI F clX3 (j := 14) (tt := (64 * k0 + 14)) (Sy_lt hk0 hN) (Sy_l hk0) (Nat.le_of_ble_eq_true rfl) rfl qf_X3_92 rfl dX3_findBest_5 ?_
  refine j_iconst F dX3_findBest_8 cI_2 ?_
  refine j_icmp_lt F 28 dX3_findBest_9 rfl h (fun h => ?_) (fun h => ?_)
  · refine j_iconst F dX3_findBest_28 cI_m1 ?_
    exact j_ireturn F rfl dX3_findBest_29 h
  · refine j_iload_n F 1 dX3_findBest_12 rfl rfl ?_
    refine j_if_lt F 28 dX3_findBest_13 rfl h (fun h => ?_) (fun h => ?_)
    · refine j_iconst F dX3_findBest_28 cI_m1 ?_
      exact j_ireturn F rfl dX3_findBest_29 h
    · refine j_iload_n F 1 dX3_findBest_16 rfl rfl ?_
      refine j_iconst F dX3_findBest_17 cI_5 ?_
      refine j_icmp_ge F 28 dX3_findBest_18 rfl h (fun h => ?_) (fun h => ?_)
      · refine j_iconst F dX3_findBest_28 cI_m1 ?_
        exact j_ireturn F rfl dX3_findBest_29 h
      · refine j_iload_n F 2 dX3_findBest_21 rfl rfl ?_
        refine j_callNi F mwX7_isLaw qn_X3_173 [.int x2] rfl ⟨rfl, rfl, Nat.le_of_ble_eq_true rfl, Nat.le_of_ble_eq_true rfl⟩ ⟨Nat.le_refl 0, Nat.le_refl 0⟩ rfl (Nat.le_of_ble_eq_true rfl) dX3_findBest_22 (fun _ _ _ h9 => kX7_isLaw l hN  h9) h (fun v2 t2 a2 e2 h => ?_)
        refine j_if_ne F 30 dX3_findBest_25 rfl h (fun h => ?_) (fun h => ?_)
        · refine j_iconst F dX3_findBest_28 cI_m1 ?_
          exact j_ireturn F rfl dX3_findBest_29 h
        · refine j_iload_n F 2 dX3_findBest_30 rfl rfl ?_
          refine j_iconst F dX3_findBest_31 cI_5 ?_
          refine j_imul F dX3_findBest_32 ?_
          refine j_iload_n F 1 dX3_findBest_33 rfl rfl ?_
          refine j_iadd F dX3_findBest_34 ?_
          refine j_istore_n F (lv' := [(3, .int ((x2 * (5 : Int32)) + x1)), (0, .ref (cz x + k0)), (1, .int x1), (2, .int x2)]) dX3_findBest_35 rfl (Nat.le_of_ble_eq_true rfl) rfl ?_
          refine j_aload_n F 1 dX3_findBest_36 rfl rfl ?_
          refine j_getR F clX3 (j := 11) (Sy_lt hk0 hN) (Sy_l hk0) (Nat.le_of_ble_eq_true rfl) rfl qf_X3_39 (Sy_r11 hk0) dX3_findBest_37 ?_
          refine j_iload_n F 0 dX3_findBest_40 rfl rfl ?_
          refine j_iald F (Sy_lt10 hk0 hN) (Sy_l10 hk0) dX3_findBest_41 h (fun h => ?_)
          refine j_if_ge F 130 dX3_findBest_42 rfl h (fun h => ?_) (fun h => ?_)
          · refine j_iload_n F 0 dX3_findBest_130 rfl rfl ?_
            exact j_ireturn F rfl dX3_findBest_131 h
          · refine j_aload_n F 1 dX3_findBest_45 rfl rfl ?_
            refine j_getR F clX3 (j := 10) (Sy_lt hk0 hN) (Sy_l hk0) (Nat.le_of_ble_eq_true rfl) rfl qf_X3_36 (Sy_r10 hk0) dX3_findBest_46 ?_
            refine j_iload_n F 0 dX3_findBest_49 rfl rfl ?_
            refine j_iconst F dX3_findBest_50 cI_1 ?_
            refine j_iast F (Sy_lt9 hk0 hN) (Sy_l9 hk0) dX3_findBest_51 h (fun h => ?_)
            refine j_aload_n F 1 dX3_findBest_52 rfl rfl ?_
            refine j_getR F clX3 (j := 11) (Sy_lt hk0 hN) (Sy_l hk0) (Nat.le_of_ble_eq_true rfl) rfl qf_X3_39 (Sy_r11 hk0) dX3_findBest_53 ?_
            refine j_iload_n F 0 dX3_findBest_56 rfl rfl ?_
            refine j_aload_n F 1 dX3_findBest_57 rfl rfl ?_
            refine j_aload_n F 1 dX3_findBest_58 rfl rfl ?_
            refine j_getR F clX3 (j := 3) (Sy_lt hk0 hN) (Sy_l hk0) (Nat.le_of_ble_eq_true rfl) rfl qf_X3_15 (Sy_r3 hk0) dX3_findBest_59 ?_
            refine j_iconst F dX3_findBest_62 cI_1 ?_
            refine j_iald F (Sy_lt2 hk0 hN) (Sy_l2 hk0) dX3_findBest_63 h (fun h => ?_)
            refine j_iload_n F 2 dX3_findBest_64 rfl rfl ?_
            refine j_iload_n F 3 dX3_findBest_65 rfl rfl ?_
            refine j_callVi F mwX3_leftUnder ql_X3_79 clX3 (Sy_lt hk0 hN) (Sy_l hk0) [.int ((va_up a2 (k0 + 9) (upd (a2 (k0 + 9)) ((x2 * (5 : Int32)) + x1).toNatClampNeg (1 : Int32))) (k0 + 2) (1 : Int32).toNatClampNeg), .int x1, .int x2] rfl ⟨rfl, rfl, Nat.le_of_ble_eq_true rfl, Nat.le_of_ble_eq_true rfl⟩ ⟨Nat.le_refl 0, Nat.le_refl 0⟩ rfl (Nat.le_of_ble_eq_true rfl) dX3_findBest_66 (fun _ _ _ h9 => kX3_leftUnder l hN hk0 h9) h (fun v3 t3 a3 e3 h => ?_)
            refine j_iast F (Sy_lt10 hk0 hN) (Sy_l10 hk0) dX3_findBest_69 h (fun h => ?_)
            refine j_iconst F dX3_findBest_70 cI_2 ?_
            refine j_istore F (k := 0) (lv' := [(4, .int (2 : Int32)), (3, .int ((x2 * (5 : Int32)) + x1)), (0, .ref (cz x + k0)), (1, .int x1), (2, .int x2)]) dX3_findBest_71 (Nat.le_of_ble_eq_true rfl) rfl ?_
            exact j_lv [2, 3, 4, 1, 0] rfl ((hX3_findBest F hsz hN hk0 nF) _ _ _ _ _ _ h)
def gX3_firstThatForces_6 (nF : Nat) (k0 : Nat) (r6 : Int32 → Int32 → sT → sA → Rs) (x1 x2 : Int32) (t : sT) (a : sA) : Rs := if (t (64 * k0 + 14)) ≤ x2 then (some ((-1 : Int32), t, a)) else (bnd x2 585 (cal (fX3_gather nF k0 (a (k0 + 2) x2.toNatClampNeg) (t 198) t a) (fun v2 t2 a2 => cal (fX3_forcesAnswer nF k0 x1 t2 a2) (fun v3 t3 a3 => if v3 = 0 then (r6 x1 (x2 + (1 : Int32)) t3 a3) else (bnd x2 585 (some (a3 (k0 + 3) x2.toNatClampNeg, t3, a3)))))))
def gX3_firstThatForces (nF : Nat) (k0 : Nat) : Nat → (Int32 → Int32 → sT → sA → Rs)
  | 0 => (fun _ _ _ _ => none)
  | n9 + 1 => (gX3_firstThatForces_6 nF k0 (gX3_firstThatForces nF k0 n9))
def fX3_firstThatForces (nF : Nat) (k0 : Nat) (x1 : Int32) (t : sT) (a : sA) : Rs := cal (fX3_refresh nF k0 t a) (fun v1 t1 a1 => (gX3_firstThatForces nF k0 nF) x1 (1 : Int32) t1 a1)
set_option maxRecDepth 100000 in
set_option maxHeartbeats 4000000 in
theorem hX3_firstThatForces {p : Program} {l : Launch} {e : Env} {s : State} {m : MethodId} {args : Array Value} {below : List Frame} {meth : Method} {c : Code} {x : Cx} {N : Nat} {u0 v0 : Option Nat} {nF : Nat} {k0 : Nat} (F : Fx p s m meth c cX3_firstThatForces 3 RX3 (some .int) x) (hsz : s.heap.size = cz x + N) (hN : 653 ≤ N) (hk0 : isSy k0) {rv : Int32} {rt : sT} {ra : sA} : ∀ n9 : Nat, (∀ (x1 x2 : Int32) (t : sT) (a : sA), (gX3_firstThatForces nF k0 n9) x1 x2 t a = some (rv, rt, ra) → J p l e (k2_rm 4 92) s m args below meth c x N (rho u0 v0) 3 0 0 (MQ below (PostI x N (rho u0 v0) rt ra rv) args s 0 0 (cA x)) 6 [(0, .ref (cz x + k0)), (1, .int x1), (2, .int x2)] [] t a) := by
  intro n9
  induction n9 with
  | zero => exact fun _ _ _ _ h => (by cases h)
  | succ n9 ih =>
    intro x1 x2 t a h
    have h : gX3_firstThatForces_6 nF k0 (gX3_firstThatForces nF k0 n9) x1 x2 t a = some (rv, rt, ra) := h
    unfold gX3_firstThatForces_6 at h
    refine j_iload_n F 2 dX3_firstThatForces_6 rfl rfl ?_
    refine j_aload_n F 0 dX3_firstThatForces_7 rfl rfl ?_
    refine j_getI F clX3 (j := 14) (tt := (64 * k0 + 14)) (Sy_lt hk0 hN) (Sy_l hk0) (Nat.le_of_ble_eq_true rfl) rfl qf_X3_92 rfl dX3_firstThatForces_8 ?_
    refine j_icmp_ge F 52 dX3_firstThatForces_11 rfl h (fun h => ?_) (fun h => ?_)
    · refine j_iconst F dX3_firstThatForces_52 cI_m1 ?_
      exact j_ireturn F rfl dX3_firstThatForces_53 h
    · refine j_aload_n F 0 dX3_firstThatForces_14 rfl rfl ?_
      refine j_aload_n F 0 dX3_firstThatForces_15 rfl rfl ?_
      refine j_getR F clX3 (j := 3) (Sy_lt hk0 hN) (Sy_l hk0) (Nat.le_of_ble_eq_true rfl) rfl qf_X3_15 (Sy_r3 hk0) dX3_firstThatForces_16 ?_
      refine j_iload_n F 2 dX3_firstThatForces_19 rfl rfl ?_
      refine j_iald F (Sy_lt2 hk0 hN) (Sy_l2 hk0) dX3_firstThatForces_20 h (fun h => ?_)
      refine j_aload_n F 0 dX3_firstThatForces_21 rfl rfl ?_
      refine j_getR F clX3 (j := 0) (Sy_lt hk0 hN) (Sy_l hk0) (Nat.le_of_ble_eq_true rfl) rfl qf_X3_42 (Sy_r0 hk0) dX3_firstThatForces_22 ?_
      refine j_getI F clX6 (j := 6) (tt := 198) (lt653 rfl hN) ly3 (Nat.le_of_ble_eq_true rfl) rfl qf_X3_53 rfl dX3_firstThatForces_25 ?_
      refine j_callVv F mwX3_gather ql_X3_58 clX3 (Sy_lt hk0 hN) (Sy_l hk0) [.int (a (k0 + 2) x2.toNatClampNeg), .int (t 198)] rfl ⟨rfl, rfl, Nat.le_of_ble_eq_true rfl, Nat.le_of_ble_eq_true rfl⟩ ⟨Nat.le_refl 0, Nat.le_refl 0⟩ rfl (Nat.le_of_ble_eq_true rfl) dX3_firstThatForces_28 (fun _ _ _ h9 => kX3_gather l hN hk0 h9) h (fun v2 t2 a2 e2 h => ?_)
      refine j_aload_n F 0 dX3_firstThatForces_31 rfl rfl ?_
      refine j_iload_n F 1 dX3_firstThatForces_32 rfl rfl ?_
      refine j_callVi F mwX3_forcesAnswer ql_X3_95 clX3 (Sy_lt hk0 hN) (Sy_l hk0) [.int x1] rfl ⟨rfl, rfl, Nat.le_of_ble_eq_true rfl, Nat.le_of_ble_eq_true rfl⟩ ⟨Nat.le_refl 0, Nat.le_refl 0⟩ rfl (Nat.le_of_ble_eq_true rfl) dX3_firstThatForces_33 (fun _ _ _ h9 => kX3_forcesAnswer l hN hk0 h9) h (fun v3 t3 a3 e3 h => ?_)
      refine j_if_eq F 46 dX3_firstThatForces_36 rfl h (fun h => ?_) (fun h => ?_)
      · refine j_iinc F (v := x2 + (1 : Int32)) (lv' := [(2, .int (x2 + (1 : Int32))), (0, .ref (cz x + k0)), (1, .int x1)]) dX3_firstThatForces_46 2 rfl (congrArg (fun z => x2 + z) cI_1) (Nat.le_of_ble_eq_true rfl) rfl ?_
        refine j_goto F 6 dX3_firstThatForces_49 rfl ?_
        exact j_lv [1, 2, 0] rfl (ih _ _ _ _ h)
      · refine j_aload_n F 0 dX3_firstThatForces_39 rfl rfl ?_
        refine j_getR F clX3 (j := 4) (Sy_lt hk0 hN) (Sy_l hk0) (Nat.le_of_ble_eq_true rfl) rfl qf_X3_18 (Sy_r4 hk0) dX3_firstThatForces_40 ?_
        refine j_iload_n F 2 dX3_firstThatForces_43 rfl rfl ?_
        refine j_iald F (Sy_lt3 hk0 hN) (Sy_l3 hk0) dX3_firstThatForces_44 h (fun h => ?_)
        exact j_ireturn F rfl dX3_firstThatForces_45 h
set_option maxRecDepth 100000 in
set_option maxHeartbeats 4000000 in
theorem kX3_firstThatForces (l : Launch) {x : Cx} {N : Nat} {u0 v0 : Option Nat} {nF : Nat} {k0 : Nat} {x1 : Int32} {t : sT} {a : sA} {rv : Int32} {rt : sT} {ra : sA} (hN : 653 ≤ N) (hk0 : isSy k0) (h : fX3_firstThatForces nF k0 x1 t a = some (rv, rt, ra)) : Met l yX3_firstThatForces [.code yX3_firstThatForces cX3_firstThatForces 3 (some .int)] (k2_rm 4 92) (Pre x N (rho u0 v0) t a [.ref (cz x + k0), .int x1]) (PostI x N (rho u0 v0) rt ra rv) 0 0 (cA x) := by
  refine j_entry (by decide) rfl (Nat.le_of_ble_eq_true rfl) ?_
  intro p e s m below meth c F hsz hnm
  have F : Fx p s m meth c cX3_firstThatForces 3 RX3 (some .int) x := F
  unfold fX3_firstThatForces at h
  show J p l e _ s m _ below meth c x N (rho u0 v0) 3 0 0 _ 0 [(0, .ref (cz x + k0)), (1, .int x1)] [] t a
  refine j_aload_n F 0 dX3_firstThatForces_0 rfl rfl ?_
  refine j_callVv F mwX3_refresh ql_X3_50 clX3 (Sy_lt hk0 hN) (Sy_l hk0) [] rfl ⟨rfl, rfl, Nat.le_of_ble_eq_true rfl, Nat.le_of_ble_eq_true rfl⟩ ⟨Nat.le_refl 0, Nat.le_refl 0⟩ rfl (Nat.le_of_ble_eq_true rfl) dX3_firstThatForces_1 (fun _ _ _ h9 => kX3_refresh l hN hk0 h9) h (fun v1 t1 a1 e1 h => ?_)
  refine j_iconst F dX3_firstThatForces_4 cI_1 ?_
  refine j_istore_n F (lv' := [(2, .int (1 : Int32)), (0, .ref (cz x + k0)), (1, .int x1)]) dX3_firstThatForces_5 rfl (Nat.le_of_ble_eq_true rfl) rfl ?_
  exact j_lv [1, 2, 0] rfl ((hX3_firstThatForces F hsz hN hk0 nF) _ _ _ _ h)
def fX3_firstThatMeans (nF : Nat) (k0 : Nat) (x1 : Int32) (t : sT) (a : sA) : Rs := cal (fX3_refresh nF k0 t a) (fun v1 t1 a1 => if (t1 (64 * k0 + 16)) = 0 then (cal (fX3_findFirsts nF k0 t1 a1) (fun v3 t3 a3 => cal (fX7_isSet nF x1 t3 a3) (fun v4 t4 a4 => if v4 = 0 then (some ((-1 : Int32), t4, a4)) else (bnd x1 256 (some (a4 (k0 + 8) x1.toNatClampNeg, t4, a4)))))) else (cal (fX7_isSet nF x1 t1 a1) (fun v2 t2 a2 => if v2 = 0 then (some ((-1 : Int32), t2, a2)) else (bnd x1 256 (some (a2 (k0 + 8) x1.toNatClampNeg, t2, a2))))))
set_option maxRecDepth 100000 in
set_option maxHeartbeats 4000000 in
theorem kX3_firstThatMeans (l : Launch) {x : Cx} {N : Nat} {u0 v0 : Option Nat} {nF : Nat} {k0 : Nat} {x1 : Int32} {t : sT} {a : sA} {rv : Int32} {rt : sT} {ra : sA} (hN : 653 ≤ N) (hk0 : isSy k0) (h : fX3_firstThatMeans nF k0 x1 t a = some (rv, rt, ra)) : Met l yX3_firstThatMeans [.code yX3_firstThatMeans cX3_firstThatMeans 2 (some .int)] (k2_rm 4 92) (Pre x N (rho u0 v0) t a [.ref (cz x + k0), .int x1]) (PostI x N (rho u0 v0) rt ra rv) 0 0 (cA x) := by
  refine j_entry (by decide) rfl (Nat.le_of_ble_eq_true rfl) ?_
  intro p e s m below meth c F hsz hnm
  have F : Fx p s m meth c cX3_firstThatMeans 2 RX3 (some .int) x := F
  unfold fX3_firstThatMeans at h
  show J p l e _ s m _ below meth c x N (rho u0 v0) 2 0 0 _ 0 [(0, .ref (cz x + k0)), (1, .int x1)] [] t a
  refine j_aload_n F 0 dX3_firstThatMeans_0 rfl rfl ?_
  refine j_callVv F mwX3_refresh ql_X3_50 clX3 (Sy_lt hk0 hN) (Sy_l hk0) [] rfl ⟨rfl, rfl, Nat.le_of_ble_eq_true rfl, Nat.le_of_ble_eq_true rfl⟩ ⟨Nat.le_refl 0, Nat.le_refl 0⟩ rfl (Nat.le_of_ble_eq_true rfl) dX3_firstThatMeans_1 (fun _ _ _ h9 => kX3_refresh l hN hk0 h9) h (fun v1 t1 a1 e1 h => ?_)
  refine j_aload_n F 0 dX3_firstThatMeans_4 rfl rfl ?_
  refine j_getI F clX3 (j := 16) (tt := (64 * k0 + 16)) (Sy_lt hk0 hN) (Sy_l hk0) (Nat.le_of_ble_eq_true rfl) rfl qf_X3_99 rfl dX3_firstThatMeans_5 ?_
  refine j_if_ne F 15 dX3_firstThatMeans_8 rfl h (fun h => ?_) (fun h => ?_)
  · refine j_aload_n F 0 dX3_firstThatMeans_11 rfl rfl ?_
    refine j_callVv F mwX3_findFirsts ql_X3_103 clX3 (Sy_lt hk0 hN) (Sy_l hk0) [] rfl ⟨rfl, rfl, Nat.le_of_ble_eq_true rfl, Nat.le_of_ble_eq_true rfl⟩ ⟨Nat.le_refl 0, Nat.le_refl 0⟩ rfl (Nat.le_of_ble_eq_true rfl) dX3_firstThatMeans_12 (fun _ _ _ h9 => kX3_findFirsts l hN hk0 h9) h (fun v3 t3 a3 e3 h => ?_)
    refine j_iload_n F 1 dX3_firstThatMeans_15 rfl rfl ?_
    refine j_callNi F mwX7_isSet qn_X3_106 [.int x1] rfl ⟨rfl, rfl, Nat.le_of_ble_eq_true rfl, Nat.le_of_ble_eq_true rfl⟩ ⟨Nat.le_refl 0, Nat.le_refl 0⟩ rfl (Nat.le_of_ble_eq_true rfl) dX3_firstThatMeans_16 (fun _ _ _ h9 => kX7_isSet l hN  h9) h (fun v4 t4 a4 e4 h => ?_)
    refine j_if_eq F 31 dX3_firstThatMeans_19 rfl h (fun h => ?_) (fun h => ?_)
    · refine j_iconst F dX3_firstThatMeans_31 cI_m1 ?_
      exact j_ireturn F rfl dX3_firstThatMeans_32 h
    · refine j_aload_n F 0 dX3_firstThatMeans_22 rfl rfl ?_
      refine j_getR F clX3 (j := 9) (Sy_lt hk0 hN) (Sy_l hk0) (Nat.le_of_ble_eq_true rfl) rfl qf_X3_33 (Sy_r9 hk0) dX3_firstThatMeans_23 ?_
      refine j_iload_n F 1 dX3_firstThatMeans_26 rfl rfl ?_
      refine j_iald F (Sy_lt8 hk0 hN) (Sy_l8 hk0) dX3_firstThatMeans_27 h (fun h => ?_)
      refine j_goto F 32 dX3_firstThatMeans_28 rfl ?_
      exact j_ireturn F rfl dX3_firstThatMeans_32 h
  · refine j_iload_n F 1 dX3_firstThatMeans_15 rfl rfl ?_
    refine j_callNi F mwX7_isSet qn_X3_106 [.int x1] rfl ⟨rfl, rfl, Nat.le_of_ble_eq_true rfl, Nat.le_of_ble_eq_true rfl⟩ ⟨Nat.le_refl 0, Nat.le_refl 0⟩ rfl (Nat.le_of_ble_eq_true rfl) dX3_firstThatMeans_16 (fun _ _ _ h9 => kX7_isSet l hN  h9) h (fun v2 t2 a2 e2 h => ?_)
    refine j_if_eq F 31 dX3_firstThatMeans_19 rfl h (fun h => ?_) (fun h => ?_)
    · refine j_iconst F dX3_firstThatMeans_31 cI_m1 ?_
      exact j_ireturn F rfl dX3_firstThatMeans_32 h
    · refine j_aload_n F 0 dX3_firstThatMeans_22 rfl rfl ?_
      refine j_getR F clX3 (j := 9) (Sy_lt hk0 hN) (Sy_l hk0) (Nat.le_of_ble_eq_true rfl) rfl qf_X3_33 (Sy_r9 hk0) dX3_firstThatMeans_23 ?_
      refine j_iload_n F 1 dX3_firstThatMeans_26 rfl rfl ?_
      refine j_iald F (Sy_lt8 hk0 hN) (Sy_l8 hk0) dX3_firstThatMeans_27 h (fun h => ?_)
      refine j_goto F 32 dX3_firstThatMeans_28 rfl ?_
      exact j_ireturn F rfl dX3_firstThatMeans_32 h
def gX3_howManyAnswer_21 (nF : Nat) (k0 : Nat) (r21 : Int32 → Int32 → Int32 → sT → sA → Rs) (x2 x3 x4 : Int32) (t : sT) (a : sA) : Rs := if (t (64 * k0 + 15)) ≤ x4 then (some (x3, t, a)) else (bnd x4 585 (cal (fX3_holdsCase nF k0 (a (k0 + 7) x4.toNatClampNeg) x2 t a) (fun v3 t3 a3 => if v3 = 0 then (r21 x2 x3 (x4 + (1 : Int32)) t3 a3) else (bnd x4 585 (bnd (a3 (k0 + 7) x4.toNatClampNeg) 585 (r21 x2 (x3 + (a3 (k0 + 4) (a3 (k0 + 7) x4.toNatClampNeg).toNatClampNeg)) (x4 + (1 : Int32)) t3 a3))))))
def gX3_howManyAnswer (nF : Nat) (k0 : Nat) : Nat → (Int32 → Int32 → Int32 → sT → sA → Rs)
  | 0 => (fun _ _ _ _ _ => none)
  | n9 + 1 => (gX3_howManyAnswer_21 nF k0 (gX3_howManyAnswer nF k0 n9))
def fX3_howManyAnswer (nF : Nat) (k0 : Nat) (x1 : Int32) (x2 : Int32) (t : sT) (a : sA) : Rs := cal (fX3_refresh nF k0 t a) (fun v1 t1 a1 => cal (fX3_gather nF k0 x1 (t1 198) t1 a1) (fun v2 t2 a2 => (gX3_howManyAnswer nF k0 nF) x2 (0 : Int32) (0 : Int32) t2 a2))
set_option maxRecDepth 100000 in
set_option maxHeartbeats 4000000 in
theorem hX3_howManyAnswer {p : Program} {l : Launch} {e : Env} {s : State} {m : MethodId} {args : Array Value} {below : List Frame} {meth : Method} {c : Code} {x : Cx} {N : Nat} {u0 v0 : Option Nat} {nF : Nat} {k0 : Nat} (F : Fx p s m meth c cX3_howManyAnswer 5 RX3 (some .int) x) (hsz : s.heap.size = cz x + N) (hN : 653 ≤ N) (hk0 : isSy k0) {rv : Int32} {rt : sT} {ra : sA} : ∀ n9 : Nat, (∀ (x2 x3 x4 : Int32) (t : sT) (a : sA), (gX3_howManyAnswer nF k0 n9) x2 x3 x4 t a = some (rv, rt, ra) → J p l e (k2_rm 4 92) s m args below meth c x N (rho u0 v0) 5 0 0 (MQ below (PostI x N (rho u0 v0) rt ra rv) args s 0 0 (cA x)) 21 [(0, .ref (cz x + k0)), (2, .int x2), (3, .int x3), (4, .int x4)] [] t a) := by
  intro n9
  induction n9 with
  | zero => exact fun _ _ _ _ _ h => (by cases h)
  | succ n9 ih =>
    intro x2 x3 x4 t a h
    have h : gX3_howManyAnswer_21 nF k0 (gX3_howManyAnswer nF k0 n9) x2 x3 x4 t a = some (rv, rt, ra) := h
    unfold gX3_howManyAnswer_21 at h
    refine j_iload F 3 dX3_howManyAnswer_21 rfl ?_
    refine j_aload_n F 0 dX3_howManyAnswer_23 rfl rfl ?_
    refine j_getI F clX3 (j := 15) (tt := (64 * k0 + 15)) (Sy_lt hk0 hN) (Sy_l hk0) (Nat.le_of_ble_eq_true rfl) rfl qf_X3_66 rfl dX3_howManyAnswer_24 ?_
    refine j_icmp_ge F 66 dX3_howManyAnswer_27 rfl h (fun h => ?_) (fun h => ?_)
    · refine j_iload_n F 2 dX3_howManyAnswer_66 rfl rfl ?_
      exact j_ireturn F rfl dX3_howManyAnswer_67 h
    · refine j_aload_n F 0 dX3_howManyAnswer_30 rfl rfl ?_
      refine j_aload_n F 0 dX3_howManyAnswer_31 rfl rfl ?_
      refine j_getR F clX3 (j := 8) (Sy_lt hk0 hN) (Sy_l hk0) (Nat.le_of_ble_eq_true rfl) rfl qf_X3_30 (Sy_r8 hk0) dX3_howManyAnswer_32 ?_
      refine j_iload F 3 dX3_howManyAnswer_35 rfl ?_
      refine j_iald F (Sy_lt7 hk0 hN) (Sy_l7 hk0) dX3_howManyAnswer_37 h (fun h => ?_)
      refine j_iload_n F 1 dX3_howManyAnswer_38 rfl rfl ?_
      refine j_callVi F mwX3_holdsCase ql_X3_69 clX3 (Sy_lt hk0 hN) (Sy_l hk0) [.int (a (k0 + 7) x4.toNatClampNeg), .int x2] rfl ⟨rfl, rfl, Nat.le_of_ble_eq_true rfl, Nat.le_of_ble_eq_true rfl⟩ ⟨Nat.le_refl 0, Nat.le_refl 0⟩ rfl (Nat.le_of_ble_eq_true rfl) dX3_howManyAnswer_39 (fun _ _ _ h9 => kX3_holdsCase l hN hk0 h9) h (fun v3 t3 a3 e3 h => ?_)
      refine j_if_eq F 60 dX3_howManyAnswer_42 rfl h (fun h => ?_) (fun h => ?_)
      · refine j_iinc F (v := x4 + (1 : Int32)) (lv' := [(4, .int (x4 + (1 : Int32))), (0, .ref (cz x + k0)), (2, .int x2), (3, .int x3)]) dX3_howManyAnswer_60 3 rfl (congrArg (fun z => x4 + z) cI_1) (Nat.le_of_ble_eq_true rfl) rfl ?_
        refine j_goto F 21 dX3_howManyAnswer_63 rfl ?_
        exact j_lv [1, 2, 3, 0] rfl (ih _ _ _ _ _ h)
      · refine j_iload_n F 2 dX3_howManyAnswer_45 rfl rfl ?_
        refine j_aload_n F 0 dX3_howManyAnswer_46 rfl rfl ?_
        refine j_getR F clX3 (j := 5) (Sy_lt hk0 hN) (Sy_l hk0) (Nat.le_of_ble_eq_true rfl) rfl qf_X3_21 (Sy_r5 hk0) dX3_howManyAnswer_47 ?_
        refine j_aload_n F 0 dX3_howManyAnswer_50 rfl rfl ?_
        refine j_getR F clX3 (j := 8) (Sy_lt hk0 hN) (Sy_l hk0) (Nat.le_of_ble_eq_true rfl) rfl qf_X3_30 (Sy_r8 hk0) dX3_howManyAnswer_51 ?_
        refine j_iload F 3 dX3_howManyAnswer_54 rfl ?_
        refine j_iald F (Sy_lt7 hk0 hN) (Sy_l7 hk0) dX3_howManyAnswer_56 h (fun h => ?_)
        refine j_iald F (Sy_lt4 hk0 hN) (Sy_l4 hk0) dX3_howManyAnswer_57 h (fun h => ?_)
        refine j_iadd F dX3_howManyAnswer_58 ?_
        refine j_istore_n F (lv' := [(3, .int (x3 + (a3 (k0 + 4) (a3 (k0 + 7) x4.toNatClampNeg).toNatClampNeg))), (0, .ref (cz x + k0)), (2, .int x2), (4, .int x4)]) dX3_howManyAnswer_59 rfl (Nat.le_of_ble_eq_true rfl) rfl ?_
        refine j_iinc F (v := x4 + (1 : Int32)) (lv' := [(4, .int (x4 + (1 : Int32))), (3, .int (x3 + (a3 (k0 + 4) (a3 (k0 + 7) x4.toNatClampNeg).toNatClampNeg))), (0, .ref (cz x + k0)), (2, .int x2)]) dX3_howManyAnswer_60 3 rfl (congrArg (fun z => x4 + z) cI_1) (Nat.le_of_ble_eq_true rfl) rfl ?_
        refine j_goto F 21 dX3_howManyAnswer_63 rfl ?_
        exact j_lv [2, 3, 1, 0] rfl (ih _ _ _ _ _ h)
set_option maxRecDepth 100000 in
set_option maxHeartbeats 4000000 in
theorem kX3_howManyAnswer (l : Launch) {x : Cx} {N : Nat} {u0 v0 : Option Nat} {nF : Nat} {k0 : Nat} {x1 : Int32} {x2 : Int32} {t : sT} {a : sA} {rv : Int32} {rt : sT} {ra : sA} (hN : 653 ≤ N) (hk0 : isSy k0) (h : fX3_howManyAnswer nF k0 x1 x2 t a = some (rv, rt, ra)) : Met l yX3_howManyAnswer [.code yX3_howManyAnswer cX3_howManyAnswer 5 (some .int)] (k2_rm 4 92) (Pre x N (rho u0 v0) t a [.ref (cz x + k0), .int x1, .int x2]) (PostI x N (rho u0 v0) rt ra rv) 0 0 (cA x) := by
  refine j_entry (by decide) rfl (Nat.le_of_ble_eq_true rfl) ?_
  intro p e s m below meth c F hsz hnm
  have F : Fx p s m meth c cX3_howManyAnswer 5 RX3 (some .int) x := F
  unfold fX3_howManyAnswer at h
  show J p l e _ s m _ below meth c x N (rho u0 v0) 5 0 0 _ 0 [(0, .ref (cz x + k0)), (1, .int x1), (2, .int x2)] [] t a
  refine j_aload_n F 0 dX3_howManyAnswer_0 rfl rfl ?_
  refine j_callVv F mwX3_refresh ql_X3_50 clX3 (Sy_lt hk0 hN) (Sy_l hk0) [] rfl ⟨rfl, rfl, Nat.le_of_ble_eq_true rfl, Nat.le_of_ble_eq_true rfl⟩ ⟨Nat.le_refl 0, Nat.le_refl 0⟩ rfl (Nat.le_of_ble_eq_true rfl) dX3_howManyAnswer_1 (fun _ _ _ h9 => kX3_refresh l hN hk0 h9) h (fun v1 t1 a1 e1 h => ?_)
  refine j_aload_n F 0 dX3_howManyAnswer_4 rfl rfl ?_
  refine j_iload_n F 1 dX3_howManyAnswer_5 rfl rfl ?_
  refine j_aload_n F 0 dX3_howManyAnswer_6 rfl rfl ?_
  refine j_getR F clX3 (j := 0) (Sy_lt hk0 hN) (Sy_l hk0) (Nat.le_of_ble_eq_true rfl) rfl qf_X3_42 (Sy_r0 hk0) dX3_howManyAnswer_7 ?_
  refine j_getI F clX6 (j := 6) (tt := 198) (lt653 rfl hN) ly3 (Nat.le_of_ble_eq_true rfl) rfl qf_X3_53 rfl dX3_howManyAnswer_10 ?_
  refine j_callVv F mwX3_gather ql_X3_58 clX3 (Sy_lt hk0 hN) (Sy_l hk0) [.int x1, .int (t1 198)] rfl ⟨rfl, rfl, Nat.le_of_ble_eq_true rfl, Nat.le_of_ble_eq_true rfl⟩ ⟨Nat.le_refl 0, Nat.le_refl 0⟩ rfl (Nat.le_of_ble_eq_true rfl) dX3_howManyAnswer_13 (fun _ _ _ h9 => kX3_gather l hN hk0 h9) h (fun v2 t2 a2 e2 h => ?_)
  refine j_iconst F dX3_howManyAnswer_16 cI_0 ?_
  refine j_istore_n F (lv' := [(3, .int (0 : Int32)), (0, .ref (cz x + k0)), (1, .int x1), (2, .int x2)]) dX3_howManyAnswer_17 rfl (Nat.le_of_ble_eq_true rfl) rfl ?_
  refine j_iconst F dX3_howManyAnswer_18 cI_0 ?_
  refine j_istore F (k := 0) (lv' := [(4, .int (0 : Int32)), (3, .int (0 : Int32)), (0, .ref (cz x + k0)), (1, .int x1), (2, .int x2)]) dX3_howManyAnswer_19 (Nat.le_of_ble_eq_true rfl) rfl ?_
  exact j_lv [2, 4, 1, 0] rfl ((hX3_howManyAnswer F hsz hN hk0 nF) _ _ _ _ _ h)
def fX3_leftBy (nF : Nat) (k0 : Nat) (x1 : Int32) (x2 : Int32) (t : sT) (a : sA) : Rs := cal (fX3_refresh nF k0 t a) (fun v1 t1 a1 => cal (fX3_leftUnder nF k0 x1 x2 (t1 198) t1 a1) (fun v2 t2 a2 => some (v2, t2, a2)))
set_option maxRecDepth 100000 in
set_option maxHeartbeats 4000000 in
theorem kX3_leftBy (l : Launch) {x : Cx} {N : Nat} {u0 v0 : Option Nat} {nF : Nat} {k0 : Nat} {x1 : Int32} {x2 : Int32} {t : sT} {a : sA} {rv : Int32} {rt : sT} {ra : sA} (hN : 653 ≤ N) (hk0 : isSy k0) (h : fX3_leftBy nF k0 x1 x2 t a = some (rv, rt, ra)) : Met l yX3_leftBy [.code yX3_leftBy cX3_leftBy 3 (some .int)] (k2_rm 4 97) (Pre x N (rho u0 v0) t a [.ref (cz x + k0), .int x1, .int x2]) (PostI x N (rho u0 v0) rt ra rv) 0 0 (cA x) := by
  refine j_entry (by decide) rfl (Nat.le_of_ble_eq_true rfl) ?_
  intro p e s m below meth c F hsz hnm
  have F : Fx p s m meth c cX3_leftBy 3 RX3 (some .int) x := F
  unfold fX3_leftBy at h
  show J p l e _ s m _ below meth c x N (rho u0 v0) 3 0 0 _ 0 [(0, .ref (cz x + k0)), (1, .int x1), (2, .int x2)] [] t a
  refine j_aload_n F 0 dX3_leftBy_0 rfl rfl ?_
  refine j_callVv F mwX3_refresh ql_X3_50 clX3 (Sy_lt hk0 hN) (Sy_l hk0) [] rfl ⟨rfl, rfl, Nat.le_of_ble_eq_true rfl, Nat.le_of_ble_eq_true rfl⟩ ⟨Nat.le_refl 0, Nat.le_refl 0⟩ rfl (Nat.le_of_ble_eq_true rfl) dX3_leftBy_1 (fun _ _ _ h9 => kX3_refresh l hN hk0 h9) h (fun v1 t1 a1 e1 h => ?_)
  refine j_aload_n F 0 dX3_leftBy_4 rfl rfl ?_
  refine j_iload_n F 1 dX3_leftBy_5 rfl rfl ?_
  refine j_iload_n F 2 dX3_leftBy_6 rfl rfl ?_
  refine j_aload_n F 0 dX3_leftBy_7 rfl rfl ?_
  refine j_getR F clX3 (j := 0) (Sy_lt hk0 hN) (Sy_l hk0) (Nat.le_of_ble_eq_true rfl) rfl qf_X3_42 (Sy_r0 hk0) dX3_leftBy_8 ?_
  refine j_getI F clX6 (j := 6) (tt := 198) (lt653 rfl hN) ly3 (Nat.le_of_ble_eq_true rfl) rfl qf_X3_53 rfl dX3_leftBy_11 ?_
  refine j_callVi F mwX3_leftUnder ql_X3_79 clX3 (Sy_lt hk0 hN) (Sy_l hk0) [.int x1, .int x2, .int (t1 198)] rfl ⟨rfl, rfl, Nat.le_of_ble_eq_true rfl, Nat.le_of_ble_eq_true rfl⟩ ⟨Nat.le_refl 0, Nat.le_refl 0⟩ rfl (Nat.le_of_ble_eq_true rfl) dX3_leftBy_14 (fun _ _ _ h9 => kX3_leftUnder l hN hk0 h9) h (fun v2 t2 a2 e2 h => ?_)
  exact j_ireturn F rfl dX3_leftBy_17 h
def fX3_leftOfBest (nF : Nat) (k0 : Nat) (x1 : Int32) (x2 : Int32) (t : sT) (a : sA) : Rs := cal (fX3_findBest nF k0 x1 x2 t a) (fun v1 t1 a1 => if 0 ≤ v1 then (bnd v1 25 (some (a1 (k0 + 10) v1.toNatClampNeg, t1, a1))) else (some ((-9 : Int32), t1, a1)))
set_option maxRecDepth 100000 in
set_option maxHeartbeats 4000000 in
theorem kX3_leftOfBest (l : Launch) {x : Cx} {N : Nat} {u0 v0 : Option Nat} {nF : Nat} {k0 : Nat} {x1 : Int32} {x2 : Int32} {t : sT} {a : sA} {rv : Int32} {rt : sT} {ra : sA} (hN : 653 ≤ N) (hk0 : isSy k0) (h : fX3_leftOfBest nF k0 x1 x2 t a = some (rv, rt, ra)) : Met l yX3_leftOfBest [.code yX3_leftOfBest cX3_leftOfBest 4 (some .int)] (k2_rm 5 122) (Pre x N (rho u0 v0) t a [.ref (cz x + k0), .int x1, .int x2]) (PostI x N (rho u0 v0) rt ra rv) 0 0 (cA x) := by
  refine j_entry (by decide) rfl (Nat.le_of_ble_eq_true rfl) ?_
  intro p e s m below meth c F hsz hnm
  have F : Fx p s m meth c cX3_leftOfBest 4 RX3 (some .int) x := F
  unfold fX3_leftOfBest at h
  show J p l e _ s m _ below meth c x N (rho u0 v0) 4 0 0 _ 0 [(0, .ref (cz x + k0)), (1, .int x1), (2, .int x2)] [] t a
  refine j_aload_n F 0 dX3_leftOfBest_0 rfl rfl ?_
  refine j_iload_n F 1 dX3_leftOfBest_1 rfl rfl ?_
  refine j_iload_n F 2 dX3_leftOfBest_2 rfl rfl ?_
  refine j_callVi F mwX3_findBest ql_X3_89 clX3 (Sy_lt hk0 hN) (Sy_l hk0) [.int x1, .int x2] rfl ⟨rfl, rfl, Nat.le_of_ble_eq_true rfl, Nat.le_of_ble_eq_true rfl⟩ ⟨Nat.le_refl 0, Nat.le_refl 0⟩ rfl (Nat.le_of_ble_eq_true rfl) dX3_leftOfBest_3 (fun _ _ _ h9 => kX3_findBest l hN hk0 h9) h (fun v1 t1 a1 e1 h => ?_)
  refine j_istore_n F (lv' := [(3, .int v1), (0, .ref (cz x + k0)), (1, .int x1), (2, .int x2)]) dX3_leftOfBest_6 rfl (Nat.le_of_ble_eq_true rfl) rfl ?_
  refine j_iload_n F 0 dX3_leftOfBest_7 rfl rfl ?_
  refine j_if_ge F 16 dX3_leftOfBest_8 rfl h (fun h => ?_) (fun h => ?_)
  · refine j_aload_n F 1 dX3_leftOfBest_16 rfl rfl ?_
    refine j_getR F clX3 (j := 11) (Sy_lt hk0 hN) (Sy_l hk0) (Nat.le_of_ble_eq_true rfl) rfl qf_X3_39 (Sy_r11 hk0) dX3_leftOfBest_17 ?_
    refine j_iload_n F 0 dX3_leftOfBest_20 rfl rfl ?_
    refine j_iald F (Sy_lt10 hk0 hN) (Sy_l10 hk0) dX3_leftOfBest_21 h (fun h => ?_)
    exact j_ireturn F rfl dX3_leftOfBest_22 h
  · refine j_bipush F dX3_leftOfBest_11 cB_m9 ?_
    refine j_goto F 22 dX3_leftOfBest_13 rfl ?_
    exact j_ireturn F rfl dX3_leftOfBest_22 h
def gX3_numberOf_18 (nF : Nat) (k0 : Nat) (k1 : Nat) (r18 : Int32 → Int32 → sT → sA → Rs) (x2 x3 : Int32) (t : sT) (a : sA) : Rs := if (t (64 * k1 + 1)) ≤ x3 then (some (x2, t, a)) else (bnd x3 6 (r18 (((x2 * (t (64 * k0 + 12))) + (1 : Int32)) + (a (k1 + 1) x3.toNatClampNeg)) (x3 + (1 : Int32)) t a))
def gX3_numberOf (nF : Nat) (k0 : Nat) (k1 : Nat) : Nat → (Int32 → Int32 → sT → sA → Rs)
  | 0 => (fun _ _ _ _ => none)
  | n9 + 1 => (gX3_numberOf_18 nF k0 k1 (gX3_numberOf nF k0 k1 n9))
def fX3_numberOf (nF : Nat) (k0 : Nat) (k1 : Nat) (t : sT) (a : sA) : Rs := cal (fX3_refresh nF k0 t a) (fun v1 t1 a1 => if (t1 (64 * k1 + 1)) ≤ (3 : Int32) then ((gX3_numberOf nF k0 k1 nF) (0 : Int32) (0 : Int32) t1 a1) else (some ((-1 : Int32), t1, a1)))
set_option maxRecDepth 100000 in
set_option maxHeartbeats 4000000 in
theorem hX3_numberOf {p : Program} {l : Launch} {e : Env} {s : State} {m : MethodId} {args : Array Value} {below : List Frame} {meth : Method} {c : Code} {x : Cx} {N : Nat} {u0 v0 : Option Nat} {nF : Nat} {k0 : Nat} {k1 : Nat} (F : Fx p s m meth c cX3_numberOf 4 RX3 (some .int) x) (hsz : s.heap.size = cz x + N) (hN : 653 ≤ N) (hk0 : isSy k0) (hk1 : isRw k1) {rv : Int32} {rt : sT} {ra : sA} : ∀ n9 : Nat, (∀ (x2 x3 : Int32) (t : sT) (a : sA), (gX3_numberOf nF k0 k1 n9) x2 x3 t a = some (rv, rt, ra) → J p l e (k2_rm 4 92) s m args below meth c x N (rho u0 v0) 4 0 0 (MQ below (PostI x N (rho u0 v0) rt ra rv) args s 0 0 (cA x)) 18 [(0, .ref (cz x + k0)), (1, .ref (cz x + k1)), (2, .int x2), (3, .int x3)] [] t a) := by
  intro n9
  induction n9 with
  | zero => exact fun _ _ _ _ h => (by cases h)
  | succ n9 ih =>
    intro x2 x3 t a h
    have h : gX3_numberOf_18 nF k0 k1 (gX3_numberOf nF k0 k1 n9) x2 x3 t a = some (rv, rt, ra) := h
    unfold gX3_numberOf_18 at h
    refine j_iload_n F 3 dX3_numberOf_18 rfl rfl ?_
    refine j_aload_n F 1 dX3_numberOf_19 rfl rfl ?_
    refine j_getI F clX2 (j := 1) (tt := (64 * k1 + 1)) (Rw_lt hk1 hN) (Rw_l hk1) (Nat.le_of_ble_eq_true rfl) rfl qf_X3_109 rfl dX3_numberOf_20 ?_
    refine j_icmp_ge F 48 dX3_numberOf_23 rfl h (fun h => ?_) (fun h => ?_)
    · refine j_iload_n F 2 dX3_numberOf_48 rfl rfl ?_
      exact j_ireturn F rfl dX3_numberOf_49 h
    · refine j_iload_n F 2 dX3_numberOf_26 rfl rfl ?_
      refine j_aload_n F 0 dX3_numberOf_27 rfl rfl ?_
      refine j_getI F clX3 (j := 12) (tt := (64 * k0 + 12)) (Sy_lt hk0 hN) (Sy_l hk0) (Nat.le_of_ble_eq_true rfl) rfl qf_X3_114 rfl dX3_numberOf_28 ?_
      refine j_imul F dX3_numberOf_31 ?_
      refine j_iconst F dX3_numberOf_32 cI_1 ?_
      refine j_iadd F dX3_numberOf_33 ?_
      refine j_aload_n F 1 dX3_numberOf_34 rfl rfl ?_
      refine j_getR F clX2 (j := 0) (Rw_lt hk1 hN) (Rw_l hk1) (Nat.le_of_ble_eq_true rfl) rfl qf_X3_117 (Rw_r0 hk1) dX3_numberOf_35 ?_
      refine j_iload_n F 3 dX3_numberOf_38 rfl rfl ?_
      refine j_iald F (Rw_lt1 hk1 hN) (Rw_l1 hk1) dX3_numberOf_39 h (fun h => ?_)
      refine j_iadd F dX3_numberOf_40 ?_
      refine j_istore_n F (lv' := [(2, .int (((x2 * (t (64 * k0 + 12))) + (1 : Int32)) + (a (k1 + 1) x3.toNatClampNeg))), (0, .ref (cz x + k0)), (1, .ref (cz x + k1)), (3, .int x3)]) dX3_numberOf_41 rfl (Nat.le_of_ble_eq_true rfl) rfl ?_
      refine j_iinc F (v := x3 + (1 : Int32)) (lv' := [(3, .int (x3 + (1 : Int32))), (2, .int (((x2 * (t (64 * k0 + 12))) + (1 : Int32)) + (a (k1 + 1) x3.toNatClampNeg))), (0, .ref (cz x + k0)), (1, .ref (cz x + k1))]) dX3_numberOf_42 3 rfl (congrArg (fun z => x3 + z) cI_1) (Nat.le_of_ble_eq_true rfl) rfl ?_
      refine j_goto F 18 dX3_numberOf_45 rfl ?_
      exact j_lv [2, 3, 1, 0] rfl (ih _ _ _ _ h)
set_option maxRecDepth 100000 in
set_option maxHeartbeats 4000000 in
theorem kX3_numberOf (l : Launch) {x : Cx} {N : Nat} {u0 v0 : Option Nat} {nF : Nat} {k0 : Nat} {k1 : Nat} {t : sT} {a : sA} {rv : Int32} {rt : sT} {ra : sA} (hN : 653 ≤ N) (hk0 : isSy k0) (hk1 : isRw k1) (h : fX3_numberOf nF k0 k1 t a = some (rv, rt, ra)) : Met l yX3_numberOf [.code yX3_numberOf cX3_numberOf 4 (some .int)] (k2_rm 4 92) (Pre x N (rho u0 v0) t a [.ref (cz x + k0), .ref (cz x + k1)]) (PostI x N (rho u0 v0) rt ra rv) 0 0 (cA x) := by
  refine j_entry (by decide) rfl (Nat.le_of_ble_eq_true rfl) ?_
  intro p e s m below meth c F hsz hnm
  have F : Fx p s m meth c cX3_numberOf 4 RX3 (some .int) x := F
  unfold fX3_numberOf at h
  show J p l e _ s m _ below meth c x N (rho u0 v0) 4 0 0 _ 0 [(0, .ref (cz x + k0)), (1, .ref (cz x + k1))] [] t a
  refine j_aload_n F 0 dX3_numberOf_0 rfl rfl ?_
  refine j_callVv F mwX3_refresh ql_X3_50 clX3 (Sy_lt hk0 hN) (Sy_l hk0) [] rfl ⟨rfl, rfl, Nat.le_of_ble_eq_true rfl, Nat.le_of_ble_eq_true rfl⟩ ⟨Nat.le_refl 0, Nat.le_refl 0⟩ rfl (Nat.le_of_ble_eq_true rfl) dX3_numberOf_1 (fun _ _ _ h9 => kX3_refresh l hN hk0 h9) h (fun v1 t1 a1 e1 h => ?_)
  refine j_aload_n F 1 dX3_numberOf_4 rfl rfl ?_
  refine j_getI F clX2 (j := 1) (tt := (64 * k1 + 1)) (Rw_lt hk1 hN) (Rw_l hk1) (Nat.le_of_ble_eq_true rfl) rfl qf_X3_109 rfl dX3_numberOf_5 ?_
  refine j_iconst F dX3_numberOf_8 cI_3 ?_
  refine j_icmp_le F 14 dX3_numberOf_9 rfl h (fun h => ?_) (fun h => ?_)
  · refine j_iconst F dX3_numberOf_14 cI_0 ?_
    refine j_istore_n F (lv' := [(2, .int (0 : Int32)), (0, .ref (cz x + k0)), (1, .ref (cz x + k1))]) dX3_numberOf_15 rfl (Nat.le_of_ble_eq_true rfl) rfl ?_
    refine j_iconst F dX3_numberOf_16 cI_0 ?_
    refine j_istore_n F (lv' := [(3, .int (0 : Int32)), (2, .int (0 : Int32)), (0, .ref (cz x + k0)), (1, .ref (cz x + k1))]) dX3_numberOf_17 rfl (Nat.le_of_ble_eq_true rfl) rfl ?_
    exact j_lv [2, 3, 1, 0] rfl ((hX3_numberOf F hsz hN hk0 hk1 nF) _ _ _ _ h)
  · refine j_iconst F dX3_numberOf_12 cI_m1 ?_
    exact j_ireturn F rfl dX3_numberOf_13 h
def fX7_answer (nF : Nat) (x1 : Int32) (x2 : Int32) (t : sT) (a : sA) : Rs := cal (fX6_hasPerson nF 3 x1 t a) (fun v1 t1 a1 => if v1 = 0 then (cal (fX7_refuse nF (-1 : Int32) t1 a1) (fun v6 t6 a6 => some (v6, t6, a6))) else (if (-1 : Int32) ≤ x2 then (cal (fX2_sense nF 13 3 t1 a1) (fun v2 t2 a2 => bnd x1 4 (cal (fX3_answerTo nF 19 v2 (a2 7 x1.toNatClampNeg) (t2 199) t2 a2) (fun v3 t3 a3 => if 0 ≤ v3 then (cal (fX7_lengthOrWord nF v3 x2 t3 a3) (fun v4 t4 a4 => some (v4, t4, a4))) else (some ((-9 : Int32), t3, a3)))))) else (cal (fX7_refuse nF (-4 : Int32) t1 a1) (fun v5 t5 a5 => some (v5, t5, a5)))))
set_option maxRecDepth 100000 in
set_option maxHeartbeats 4000000 in
theorem kX7_answer (l : Launch) {x : Cx} {N : Nat} {u0 v0 : Option Nat} {nF : Nat} {x1 : Int32} {x2 : Int32} {t : sT} {a : sA} {rv : Int32} {rt : sT} {ra : sA} (hN : 653 ≤ N) (h : fX7_answer nF x1 x2 t a = some (rv, rt, ra)) : Met l yX7_answer [.code yX7_answer cX7_answer 4 (some .int)] (k2_rm 5 116) (Pre x N (rho u0 v0) t a [.ref (cz x + 0), .int x1, .int x2]) (PostI x N (rho u0 v0) rt ra rv) 0 0 (cA x) := by
  refine j_entry (by decide) rfl (Nat.le_of_ble_eq_true rfl) ?_
  intro p e s m below meth c F hsz hnm
  have F : Fx p s m meth c cX7_answer 4 RX7 (some .int) x := F
  unfold fX7_answer at h
  show J p l e _ s m _ below meth c x N (rho u0 v0) 4 0 0 _ 0 [(0, .ref (cz x + 0)), (1, .int x1), (2, .int x2)] [] t a
  refine j_aload_n F 0 dX7_answer_0 rfl rfl ?_
  refine j_getR F clX7 (j := 1) (lt653 rfl hN) ly0 (Nat.le_of_ble_eq_true rfl) rfl qf_X7_19 rfl dX7_answer_1 ?_
  refine j_iload_n F 1 dX7_answer_4 rfl rfl ?_
  refine j_callVi F mwX6_hasPerson ql_X7_149 clX6 (lt653 rfl hN) ly3 [.int x1] rfl ⟨rfl, rfl, Nat.le_of_ble_eq_true rfl, Nat.le_of_ble_eq_true rfl⟩ ⟨Nat.le_refl 0, Nat.le_refl 0⟩ rfl (Nat.le_of_ble_eq_true rfl) dX7_answer_5 (fun _ _ _ h9 => kX6_hasPerson l hN tg3 h9) h (fun v1 t1 a1 e1 h => ?_)
  refine j_if_ne F 17 dX7_answer_8 rfl h (fun h => ?_) (fun h => ?_)
  · refine j_aload_n F 0 dX7_answer_11 rfl rfl ?_
    refine j_iconst F dX7_answer_12 cI_m1 ?_
    refine j_callVi F mwX7_refuse ql_X7_66 clX7 (lt653 rfl hN) ly0 [.int (-1 : Int32)] rfl ⟨rfl, rfl, Nat.le_of_ble_eq_true rfl, Nat.le_of_ble_eq_true rfl⟩ ⟨Nat.le_refl 0, Nat.le_refl 0⟩ rfl (Nat.le_of_ble_eq_true rfl) dX7_answer_13 (fun _ _ _ h9 => kX7_refuse l hN  h9) h (fun v6 t6 a6 e6 h => ?_)
    exact j_ireturn F rfl dX7_answer_16 h
  · refine j_iload_n F 2 dX7_answer_17 rfl rfl ?_
    refine j_iconst F dX7_answer_18 cI_m1 ?_
    refine j_icmp_ge F 29 dX7_answer_19 rfl h (fun h => ?_) (fun h => ?_)
    · refine j_aload_n F 0 dX7_answer_29 rfl rfl ?_
      refine j_getR F clX7 (j := 6) (lt653 rfl hN) ly0 (Nat.le_of_ble_eq_true rfl) rfl qf_X7_48 rfl dX7_answer_30 ?_
      refine j_aload_n F 0 dX7_answer_33 rfl rfl ?_
      refine j_getR F clX7 (j := 3) (lt653 rfl hN) ly0 (Nat.le_of_ble_eq_true rfl) rfl qf_X7_29 rfl dX7_answer_34 ?_
      refine j_aload_n F 0 dX7_answer_37 rfl rfl ?_
      refine j_getR F clX7 (j := 1) (lt653 rfl hN) ly0 (Nat.le_of_ble_eq_true rfl) rfl qf_X7_19 rfl dX7_answer_38 ?_
      refine j_callVi F mwX2_sense ql_X7_152 clX2 (lt653 rfl hN) ly13 [.ref (cz x + 3)] rfl ⟨rfl, rfl, Nat.le_of_ble_eq_true rfl, Nat.le_of_ble_eq_true rfl⟩ ⟨Nat.le_refl 0, Nat.le_refl 0⟩ rfl (Nat.le_of_ble_eq_true rfl) dX7_answer_41 (fun _ _ _ h9 => kX2_sense l hN rw13 tg3 h9) h (fun v2 t2 a2 e2 h => ?_)
      refine j_aload_n F 0 dX7_answer_44 rfl rfl ?_
      refine j_getR F clX7 (j := 1) (lt653 rfl hN) ly0 (Nat.le_of_ble_eq_true rfl) rfl qf_X7_19 rfl dX7_answer_45 ?_
      refine j_getR F clX6 (j := 3) (lt653 rfl hN) ly3 (Nat.le_of_ble_eq_true rfl) rfl qf_X7_155 rfl dX7_answer_48 ?_
      refine j_iload_n F 1 dX7_answer_51 rfl rfl ?_
      refine j_iald F (lt653 rfl hN) ly7 dX7_answer_52 h (fun h => ?_)
      refine j_aload_n F 0 dX7_answer_53 rfl rfl ?_
      refine j_getR F clX7 (j := 1) (lt653 rfl hN) ly0 (Nat.le_of_ble_eq_true rfl) rfl qf_X7_19 rfl dX7_answer_54 ?_
      refine j_getI F clX6 (j := 7) (tt := 199) (lt653 rfl hN) ly3 (Nat.le_of_ble_eq_true rfl) rfl qf_X7_109 rfl dX7_answer_57 ?_
      refine j_callVi F mwX3_answerTo ql_X7_158 clX3 (lt653 rfl hN) ly19 [.int v2, .int (a2 7 x1.toNatClampNeg), .int (t2 199)] rfl ⟨rfl, rfl, Nat.le_of_ble_eq_true rfl, Nat.le_of_ble_eq_true rfl⟩ ⟨Nat.le_refl 0, Nat.le_refl 0⟩ rfl (Nat.le_of_ble_eq_true rfl) dX7_answer_60 (fun _ _ _ h9 => kX3_answerTo l hN sy19 h9) h (fun v3 t3 a3 e3 h => ?_)
      refine j_istore_n F (lv' := [(3, .int v3), (0, .ref (cz x + 0)), (1, .int x1), (2, .int x2)]) dX7_answer_63 rfl (Nat.le_of_ble_eq_true rfl) rfl ?_
      refine j_iload_n F 0 dX7_answer_64 rfl rfl ?_
      refine j_if_ge F 73 dX7_answer_65 rfl h (fun h => ?_) (fun h => ?_)
      · refine j_aload_n F 1 dX7_answer_73 rfl rfl ?_
        refine j_iload_n F 0 dX7_answer_74 rfl rfl ?_
        refine j_iload_n F 3 dX7_answer_75 rfl rfl ?_
        refine j_callVi F mwX7_lengthOrWord ql_X7_162 clX7 (lt653 rfl hN) ly0 [.int v3, .int x2] rfl ⟨rfl, rfl, Nat.le_of_ble_eq_true rfl, Nat.le_of_ble_eq_true rfl⟩ ⟨Nat.le_refl 0, Nat.le_refl 0⟩ rfl (Nat.le_of_ble_eq_true rfl) dX7_answer_76 (fun _ _ _ h9 => kX7_lengthOrWord l hN  h9) h (fun v4 t4 a4 e4 h => ?_)
        exact j_ireturn F rfl dX7_answer_79 h
      · refine j_bipush F dX7_answer_68 cB_m9 ?_
        refine j_goto F 79 dX7_answer_70 rfl ?_
        exact j_ireturn F rfl dX7_answer_79 h
    · refine j_aload_n F 0 dX7_answer_22 rfl rfl ?_
      refine j_bipush F dX7_answer_23 cB_m4 ?_
      refine j_callVi F mwX7_refuse ql_X7_66 clX7 (lt653 rfl hN) ly0 [.int (-4 : Int32)] rfl ⟨rfl, rfl, Nat.le_of_ble_eq_true rfl, Nat.le_of_ble_eq_true rfl⟩ ⟨Nat.le_refl 0, Nat.le_refl 0⟩ rfl (Nat.le_of_ble_eq_true rfl) dX7_answer_25 (fun _ _ _ h9 => kX7_refuse l hN  h9) h (fun v5 t5 a5 e5 h => ?_)
      exact j_ireturn F rfl dX7_answer_28 h
def fX7_answers (nF : Nat) (x1 : Int32) (t : sT) (a : sA) : Rs := cal (fX7_isCase nF x1 t a) (fun v1 t1 a1 => if v1 = 0 then (cal (fX7_refuse nF (-1 : Int32) t1 a1) (fun v4 t4 a4 => some (v4, t4, a4))) else (cal (fX2_sense nF 13 3 t1 a1) (fun v2 t2 a2 => cal (fX3_howManyAnswer nF 19 v2 x1 t2 a2) (fun v3 t3 a3 => some (v3, t3, a3)))))
set_option maxRecDepth 100000 in
set_option maxHeartbeats 4000000 in
theorem kX7_answers (l : Launch) {x : Cx} {N : Nat} {u0 v0 : Option Nat} {nF : Nat} {x1 : Int32} {t : sT} {a : sA} {rv : Int32} {rt : sT} {ra : sA} (hN : 653 ≤ N) (h : fX7_answers nF x1 t a = some (rv, rt, ra)) : Met l yX7_answers [.code yX7_answers cX7_answers 2 (some .int)] (k2_rm 5 116) (Pre x N (rho u0 v0) t a [.ref (cz x + 0), .int x1]) (PostI x N (rho u0 v0) rt ra rv) 0 0 (cA x) := by
  refine j_entry (by decide) rfl (Nat.le_of_ble_eq_true rfl) ?_
  intro p e s m below meth c F hsz hnm
  have F : Fx p s m meth c cX7_answers 2 RX7 (some .int) x := F
  unfold fX7_answers at h
  show J p l e _ s m _ below meth c x N (rho u0 v0) 2 0 0 _ 0 [(0, .ref (cz x + 0)), (1, .int x1)] [] t a
  refine j_iload_n F 1 dX7_answers_0 rfl rfl ?_
  refine j_callSi F mwX7_isCase ql_X7_103 [.int x1] rfl ⟨rfl, rfl, Nat.le_of_ble_eq_true rfl, Nat.le_of_ble_eq_true rfl⟩ ⟨Nat.le_refl 0, Nat.le_refl 0⟩ rfl (Nat.le_of_ble_eq_true rfl) dX7_answers_1 (fun _ _ _ h9 => kX7_isCase l hN  h9) h (fun v1 t1 a1 e1 h => ?_)
  refine j_if_ne F 13 dX7_answers_4 rfl h (fun h => ?_) (fun h => ?_)
  · refine j_aload_n F 0 dX7_answers_7 rfl rfl ?_
    refine j_iconst F dX7_answers_8 cI_m1 ?_
    refine j_callVi F mwX7_refuse ql_X7_66 clX7 (lt653 rfl hN) ly0 [.int (-1 : Int32)] rfl ⟨rfl, rfl, Nat.le_of_ble_eq_true rfl, Nat.le_of_ble_eq_true rfl⟩ ⟨Nat.le_refl 0, Nat.le_refl 0⟩ rfl (Nat.le_of_ble_eq_true rfl) dX7_answers_9 (fun _ _ _ h9 => kX7_refuse l hN  h9) h (fun v4 t4 a4 e4 h => ?_)
    exact j_ireturn F rfl dX7_answers_12 h
  · refine j_aload_n F 0 dX7_answers_13 rfl rfl ?_
    refine j_getR F clX7 (j := 6) (lt653 rfl hN) ly0 (Nat.le_of_ble_eq_true rfl) rfl qf_X7_48 rfl dX7_answers_14 ?_
    refine j_aload_n F 0 dX7_answers_17 rfl rfl ?_
    refine j_getR F clX7 (j := 3) (lt653 rfl hN) ly0 (Nat.le_of_ble_eq_true rfl) rfl qf_X7_29 rfl dX7_answers_18 ?_
    refine j_aload_n F 0 dX7_answers_21 rfl rfl ?_
    refine j_getR F clX7 (j := 1) (lt653 rfl hN) ly0 (Nat.le_of_ble_eq_true rfl) rfl qf_X7_19 rfl dX7_answers_22 ?_
    refine j_callVi F mwX2_sense ql_X7_152 clX2 (lt653 rfl hN) ly13 [.ref (cz x + 3)] rfl ⟨rfl, rfl, Nat.le_of_ble_eq_true rfl, Nat.le_of_ble_eq_true rfl⟩ ⟨Nat.le_refl 0, Nat.le_refl 0⟩ rfl (Nat.le_of_ble_eq_true rfl) dX7_answers_25 (fun _ _ _ h9 => kX2_sense l hN rw13 tg3 h9) h (fun v2 t2 a2 e2 h => ?_)
    refine j_iload_n F 1 dX7_answers_28 rfl rfl ?_
    refine j_callVi F mwX3_howManyAnswer ql_X7_165 clX3 (lt653 rfl hN) ly19 [.int v2, .int x1] rfl ⟨rfl, rfl, Nat.le_of_ble_eq_true rfl, Nat.le_of_ble_eq_true rfl⟩ ⟨Nat.le_refl 0, Nat.le_refl 0⟩ rfl (Nat.le_of_ble_eq_true rfl) dX7_answers_29 (fun _ _ _ h9 => kX3_howManyAnswer l hN sy19 h9) h (fun v3 t3 a3 e3 h => ?_)
    exact j_ireturn F rfl dX7_answers_32 h
def fX7_follows (nF : Nat) (x1 : Int32) (x2 : Int32) (t : sT) (a : sA) : Rs := if x1 < 0 then (cal (fX7_refuse nF (-4 : Int32) t a) (fun v1 t1 a1 => some (v1, t1, a1))) else (if 0 ≤ x2 then (if (6 : Int32) < x1 then (cal (fX7_refuse nF (-6 : Int32) t a) (fun v2 t2 a2 => some (v2, t2, a2))) else (if x2 ≤ x1 then (cal (fX7_takeRow nF t a) (fun v3 t3 a3 => cal (fX4_ofLength nF x1 x2 t3 a3) (fun v4 t4 a4 => cal (fX7_mayFollow nF (t 198) v3 v4 t4 a4) (fun v5 t5 a5 => cal (fX7_asBit nF v5 t5 a5) (fun v6 t6 a6 => some (v6, t6, a6)))))) else (cal (fX7_refuse nF (-6 : Int32) t a) (fun v7 t7 a7 => some (v7, t7, a7))))) else (cal (fX7_refuse nF (-4 : Int32) t a) (fun v8 t8 a8 => some (v8, t8, a8))))
set_option maxRecDepth 100000 in
set_option maxHeartbeats 4000000 in
theorem kX7_follows (l : Launch) {x : Cx} {N : Nat} {u0 v0 : Option Nat} {nF : Nat} {x1 : Int32} {x2 : Int32} {t : sT} {a : sA} {rv : Int32} {rt : sT} {ra : sA} (hN : 653 ≤ N) (h : fX7_follows nF x1 x2 t a = some (rv, rt, ra)) : Met l yX7_follows [.code yX7_follows cX7_follows 3 (some .int)] (k2_rm 5 113) (Pre x N (rho u0 v0) t a [.ref (cz x + 0), .int x1, .int x2]) (PostI x N (rho u0 v0) rt ra rv) 0 0 (cA x) := by
  refine j_entry (by decide) rfl (Nat.le_of_ble_eq_true rfl) ?_
  intro p e s m below meth c F hsz hnm
  have F : Fx p s m meth c cX7_follows 3 RX7 (some .int) x := F
  unfold fX7_follows at h
  show J p l e _ s m _ below meth c x N (rho u0 v0) 3 0 0 _ 0 [(0, .ref (cz x + 0)), (1, .int x1), (2, .int x2)] [] t a
  refine j_iload_n F 1 dX7_follows_0 rfl rfl ?_
  refine j_if_lt F 8 dX7_follows_1 rfl h (fun h => ?_) (fun h => ?_)
  · refine j_aload_n F 0 dX7_follows_8 rfl rfl ?_
    refine j_bipush F dX7_follows_9 cB_m4 ?_
    refine j_callVi F mwX7_refuse ql_X7_66 clX7 (lt653 rfl hN) ly0 [.int (-4 : Int32)] rfl ⟨rfl, rfl, Nat.le_of_ble_eq_true rfl, Nat.le_of_ble_eq_true rfl⟩ ⟨Nat.le_refl 0, Nat.le_refl 0⟩ rfl (Nat.le_of_ble_eq_true rfl) dX7_follows_11 (fun _ _ _ h9 => kX7_refuse l hN  h9) h (fun v1 t1 a1 e1 h => ?_)
    exact j_ireturn F rfl dX7_follows_14 h
  · refine j_iload_n F 2 dX7_follows_4 rfl rfl ?_
    refine j_if_ge F 15 dX7_follows_5 rfl h (fun h => ?_) (fun h => ?_)
    · refine j_iload_n F 1 dX7_follows_15 rfl rfl ?_
      refine j_bipush F dX7_follows_16 cB_6 ?_
      refine j_icmp_gt F 26 dX7_follows_18 rfl h (fun h => ?_) (fun h => ?_)
      · refine j_aload_n F 0 dX7_follows_26 rfl rfl ?_
        refine j_bipush F dX7_follows_27 cB_m6 ?_
        refine j_callVi F mwX7_refuse ql_X7_66 clX7 (lt653 rfl hN) ly0 [.int (-6 : Int32)] rfl ⟨rfl, rfl, Nat.le_of_ble_eq_true rfl, Nat.le_of_ble_eq_true rfl⟩ ⟨Nat.le_refl 0, Nat.le_refl 0⟩ rfl (Nat.le_of_ble_eq_true rfl) dX7_follows_29 (fun _ _ _ h9 => kX7_refuse l hN  h9) h (fun v2 t2 a2 e2 h => ?_)
        exact j_ireturn F rfl dX7_follows_32 h
      · refine j_iload_n F 2 dX7_follows_21 rfl rfl ?_
        refine j_iload_n F 1 dX7_follows_22 rfl rfl ?_
        refine j_icmp_le F 33 dX7_follows_23 rfl h (fun h => ?_) (fun h => ?_)
        · refine j_aload_n F 0 dX7_follows_33 rfl rfl ?_
          refine j_getR F clX7 (j := 1) (lt653 rfl hN) ly0 (Nat.le_of_ble_eq_true rfl) rfl qf_X7_19 rfl dX7_follows_34 ?_
          refine j_getI F clX6 (j := 6) (tt := 198) (lt653 rfl hN) ly3 (Nat.le_of_ble_eq_true rfl) rfl qf_X7_115 rfl dX7_follows_37 ?_
          refine j_aload_n F 0 dX7_follows_40 rfl rfl ?_
          refine j_callVi F mwX7_takeRow ql_X7_122 clX7 (lt653 rfl hN) ly0 [] rfl ⟨rfl, rfl, Nat.le_of_ble_eq_true rfl, Nat.le_of_ble_eq_true rfl⟩ ⟨Nat.le_refl 0, Nat.le_refl 0⟩ rfl (Nat.le_of_ble_eq_true rfl) dX7_follows_41 (fun _ _ _ h9 => kX7_takeRow l hN  h9) h (fun v3 t3 a3 e3 h => ?_)
          refine j_iload_n F 1 dX7_follows_44 rfl rfl ?_
          refine j_iload_n F 2 dX7_follows_45 rfl rfl ?_
          refine j_callSi F mwX4_ofLength ql_X7_130 [.int x1, .int x2] rfl ⟨rfl, rfl, Nat.le_of_ble_eq_true rfl, Nat.le_of_ble_eq_true rfl⟩ ⟨Nat.le_refl 0, Nat.le_refl 0⟩ rfl (Nat.le_of_ble_eq_true rfl) dX7_follows_46 (fun _ _ _ h9 => kX4_ofLength l hN  h9) h (fun v4 t4 a4 e4 h => ?_)
          refine j_callSi F mwX7_mayFollow ql_X7_134 [.int (t 198), .int v3, .int v4] rfl ⟨rfl, rfl, Nat.le_of_ble_eq_true rfl, Nat.le_of_ble_eq_true rfl⟩ ⟨Nat.le_refl 0, Nat.le_refl 0⟩ rfl (Nat.le_of_ble_eq_true rfl) dX7_follows_49 (fun _ _ _ h9 => kX7_mayFollow l hN  h9) h (fun v5 t5 a5 e5 h => ?_)
          refine j_callSi F mwX7_asBit ql_X7_138 [.int v5] rfl ⟨rfl, rfl, Nat.le_of_ble_eq_true rfl, Nat.le_of_ble_eq_true rfl⟩ ⟨Nat.le_refl 0, Nat.le_refl 0⟩ rfl (Nat.le_of_ble_eq_true rfl) dX7_follows_52 (fun _ _ _ h9 => kX7_asBit l hN  h9) h (fun v6 t6 a6 e6 h => ?_)
          exact j_ireturn F rfl dX7_follows_55 h
        · refine j_aload_n F 0 dX7_follows_26 rfl rfl ?_
          refine j_bipush F dX7_follows_27 cB_m6 ?_
          refine j_callVi F mwX7_refuse ql_X7_66 clX7 (lt653 rfl hN) ly0 [.int (-6 : Int32)] rfl ⟨rfl, rfl, Nat.le_of_ble_eq_true rfl, Nat.le_of_ble_eq_true rfl⟩ ⟨Nat.le_refl 0, Nat.le_refl 0⟩ rfl (Nat.le_of_ble_eq_true rfl) dX7_follows_29 (fun _ _ _ h9 => kX7_refuse l hN  h9) h (fun v7 t7 a7 e7 h => ?_)
          exact j_ireturn F rfl dX7_follows_32 h
    · refine j_aload_n F 0 dX7_follows_8 rfl rfl ?_
      refine j_bipush F dX7_follows_9 cB_m4 ?_
      refine j_callVi F mwX7_refuse ql_X7_66 clX7 (lt653 rfl hN) ly0 [.int (-4 : Int32)] rfl ⟨rfl, rfl, Nat.le_of_ble_eq_true rfl, Nat.le_of_ble_eq_true rfl⟩ ⟨Nat.le_refl 0, Nat.le_refl 0⟩ rfl (Nat.le_of_ble_eq_true rfl) dX7_follows_11 (fun _ _ _ h9 => kX7_refuse l hN  h9) h (fun v8 t8 a8 e8 h => ?_)
      exact j_ireturn F rfl dX7_follows_14 h
def fX7_force (nF : Nat) (x1 : Int32) (x2 : Int32) (t : sT) (a : sA) : Rs := cal (fX7_isSet nF x1 t a) (fun v1 t1 a1 => if v1 = 0 then (cal (fX7_refuse nF (-1 : Int32) t1 a1) (fun v5 t5 a5 => some (v5, t5, a5))) else (if (-1 : Int32) ≤ x2 then (cal (fX3_firstThatForces nF 19 x1 t1 a1) (fun v2 t2 a2 => if 0 ≤ v2 then (cal (fX7_lengthOrWord nF v2 x2 t2 a2) (fun v3 t3 a3 => some (v3, t3, a3))) else (some ((-9 : Int32), t2, a2)))) else (cal (fX7_refuse nF (-4 : Int32) t1 a1) (fun v4 t4 a4 => some (v4, t4, a4)))))
set_option maxRecDepth 100000 in
set_option maxHeartbeats 4000000 in
theorem kX7_force (l : Launch) {x : Cx} {N : Nat} {u0 v0 : Option Nat} {nF : Nat} {x1 : Int32} {x2 : Int32} {t : sT} {a : sA} {rv : Int32} {rt : sT} {ra : sA} (hN : 653 ≤ N) (h : fX7_force nF x1 x2 t a = some (rv, rt, ra)) : Met l yX7_force [.code yX7_force cX7_force 4 (some .int)] (k2_rm 5 114) (Pre x N (rho u0 v0) t a [.ref (cz x + 0), .int x1, .int x2]) (PostI x N (rho u0 v0) rt ra rv) 0 0 (cA x) := by
  refine j_entry (by decide) rfl (Nat.le_of_ble_eq_true rfl) ?_
  intro p e s m below meth c F hsz hnm
  have F : Fx p s m meth c cX7_force 4 RX7 (some .int) x := F
  unfold fX7_force at h
  show J p l e _ s m _ below meth c x N (rho u0 v0) 4 0 0 _ 0 [(0, .ref (cz x + 0)), (1, .int x1), (2, .int x2)] [] t a
  refine j_iload_n F 1 dX7_force_0 rfl rfl ?_
  refine j_callSi F mwX7_isSet ql_X7_142 [.int x1] rfl ⟨rfl, rfl, Nat.le_of_ble_eq_true rfl, Nat.le_of_ble_eq_true rfl⟩ ⟨Nat.le_refl 0, Nat.le_refl 0⟩ rfl (Nat.le_of_ble_eq_true rfl) dX7_force_1 (fun _ _ _ h9 => kX7_isSet l hN  h9) h (fun v1 t1 a1 e1 h => ?_)
  refine j_if_ne F 13 dX7_force_4 rfl h (fun h => ?_) (fun h => ?_)
  · refine j_aload_n F 0 dX7_force_7 rfl rfl ?_
    refine j_iconst F dX7_force_8 cI_m1 ?_
    refine j_callVi F mwX7_refuse ql_X7_66 clX7 (lt653 rfl hN) ly0 [.int (-1 : Int32)] rfl ⟨rfl, rfl, Nat.le_of_ble_eq_true rfl, Nat.le_of_ble_eq_true rfl⟩ ⟨Nat.le_refl 0, Nat.le_refl 0⟩ rfl (Nat.le_of_ble_eq_true rfl) dX7_force_9 (fun _ _ _ h9 => kX7_refuse l hN  h9) h (fun v5 t5 a5 e5 h => ?_)
    exact j_ireturn F rfl dX7_force_12 h
  · refine j_iload_n F 2 dX7_force_13 rfl rfl ?_
    refine j_iconst F dX7_force_14 cI_m1 ?_
    refine j_icmp_ge F 25 dX7_force_15 rfl h (fun h => ?_) (fun h => ?_)
    · refine j_aload_n F 0 dX7_force_25 rfl rfl ?_
      refine j_getR F clX7 (j := 6) (lt653 rfl hN) ly0 (Nat.le_of_ble_eq_true rfl) rfl qf_X7_48 rfl dX7_force_26 ?_
      refine j_iload_n F 1 dX7_force_29 rfl rfl ?_
      refine j_callVi F mwX3_firstThatForces ql_X7_183 clX3 (lt653 rfl hN) ly19 [.int x1] rfl ⟨rfl, rfl, Nat.le_of_ble_eq_true rfl, Nat.le_of_ble_eq_true rfl⟩ ⟨Nat.le_refl 0, Nat.le_refl 0⟩ rfl (Nat.le_of_ble_eq_true rfl) dX7_force_30 (fun _ _ _ h9 => kX3_firstThatForces l hN sy19 h9) h (fun v2 t2 a2 e2 h => ?_)
      refine j_istore_n F (lv' := [(3, .int v2), (0, .ref (cz x + 0)), (1, .int x1), (2, .int x2)]) dX7_force_33 rfl (Nat.le_of_ble_eq_true rfl) rfl ?_
      refine j_iload_n F 0 dX7_force_34 rfl rfl ?_
      refine j_if_ge F 43 dX7_force_35 rfl h (fun h => ?_) (fun h => ?_)
      · refine j_aload_n F 1 dX7_force_43 rfl rfl ?_
        refine j_iload_n F 0 dX7_force_44 rfl rfl ?_
        refine j_iload_n F 3 dX7_force_45 rfl rfl ?_
        refine j_callVi F mwX7_lengthOrWord ql_X7_162 clX7 (lt653 rfl hN) ly0 [.int v2, .int x2] rfl ⟨rfl, rfl, Nat.le_of_ble_eq_true rfl, Nat.le_of_ble_eq_true rfl⟩ ⟨Nat.le_refl 0, Nat.le_refl 0⟩ rfl (Nat.le_of_ble_eq_true rfl) dX7_force_46 (fun _ _ _ h9 => kX7_lengthOrWord l hN  h9) h (fun v3 t3 a3 e3 h => ?_)
        exact j_ireturn F rfl dX7_force_49 h
      · refine j_bipush F dX7_force_38 cB_m9 ?_
        refine j_goto F 49 dX7_force_40 rfl ?_
        exact j_ireturn F rfl dX7_force_49 h
    · refine j_aload_n F 0 dX7_force_18 rfl rfl ?_
      refine j_bipush F dX7_force_19 cB_m4 ?_
      refine j_callVi F mwX7_refuse ql_X7_66 clX7 (lt653 rfl hN) ly0 [.int (-4 : Int32)] rfl ⟨rfl, rfl, Nat.le_of_ble_eq_true rfl, Nat.le_of_ble_eq_true rfl⟩ ⟨Nat.le_refl 0, Nat.le_refl 0⟩ rfl (Nat.le_of_ble_eq_true rfl) dX7_force_21 (fun _ _ _ h9 => kX7_refuse l hN  h9) h (fun v4 t4 a4 e4 h => ?_)
      exact j_ireturn F rfl dX7_force_24 h
def fX7_idle (nF : Nat) (x1 : Int32) (t : sT) (a : sA) : Rs := cal (fX6_hasPerson nF 3 x1 t a) (fun v1 t1 a1 => if v1 = 0 then (cal (fX7_refuse nF (-1 : Int32) t1 a1) (fun v6 t6 a6 => some ((1000000000 : Int32) - v6, t6, a6))) else (if (t1 196) = 0 then (cal (fX7_refuse nF (-3 : Int32) t1 a1) (fun v2 t2 a2 => some ((1000000000 : Int32) - v2, t2, a2))) else (if (t1 196) < (8 : Int32) then (bnd x1 4 (cal (fX3_leftOfBest nF 19 (a1 7 x1.toNatClampNeg) (t1 198) t1 a1) (fun v3 t3 a3 => cal (fX3_leftOfBest nF 30 (a1 7 x1.toNatClampNeg) (t3 198) t3 a3) (fun v4 t4 a4 => some (v3 - v4, t4, a4))))) else (cal (fX7_refuse nF (-3 : Int32) t1 a1) (fun v5 t5 a5 => some ((1000000000 : Int32) - v5, t5, a5))))))
set_option maxRecDepth 100000 in
set_option maxHeartbeats 4000000 in
theorem kX7_idle (l : Launch) {x : Cx} {N : Nat} {u0 v0 : Option Nat} {nF : Nat} {x1 : Int32} {t : sT} {a : sA} {rv : Int32} {rt : sT} {ra : sA} (hN : 653 ≤ N) (h : fX7_idle nF x1 t a = some (rv, rt, ra)) : Met l yX7_idle [.code yX7_idle cX7_idle 3 (some .int)] (k2_rm 6 145) (Pre x N (rho u0 v0) t a [.ref (cz x + 0), .int x1]) (PostI x N (rho u0 v0) rt ra rv) 0 0 (cA x) := by
  refine j_entry (by decide) rfl (Nat.le_of_ble_eq_true rfl) ?_
  intro p e s m below meth c F hsz hnm
  have F : Fx p s m meth c cX7_idle 3 RX7 (some .int) x := F
  unfold fX7_idle at h
  show J p l e _ s m _ below meth c x N (rho u0 v0) 3 0 0 _ 0 [(0, .ref (cz x + 0)), (1, .int x1)] [] t a
  refine j_aload_n F 0 dX7_idle_0 rfl rfl ?_
  refine j_getR F clX7 (j := 1) (lt653 rfl hN) ly0 (Nat.le_of_ble_eq_true rfl) rfl qf_X7_19 rfl dX7_idle_1 ?_
  refine j_iload_n F 1 dX7_idle_4 rfl rfl ?_
  refine j_callVi F mwX6_hasPerson ql_X7_149 clX6 (lt653 rfl hN) ly3 [.int x1] rfl ⟨rfl, rfl, Nat.le_of_ble_eq_true rfl, Nat.le_of_ble_eq_true rfl⟩ ⟨Nat.le_refl 0, Nat.le_refl 0⟩ rfl (Nat.le_of_ble_eq_true rfl) dX7_idle_5 (fun _ _ _ h9 => kX6_hasPerson l hN tg3 h9) h (fun v1 t1 a1 e1 h => ?_)
  refine j_if_ne F 20 dX7_idle_8 rfl h (fun h => ?_) (fun h => ?_)
  · refine j_ldc F dX7_idle_11 qc_X7_226 ?_
    refine j_aload_n F 0 dX7_idle_13 rfl rfl ?_
    refine j_iconst F dX7_idle_14 cI_m1 ?_
    refine j_callVi F mwX7_refuse ql_X7_66 clX7 (lt653 rfl hN) ly0 [.int (-1 : Int32)] rfl ⟨rfl, rfl, Nat.le_of_ble_eq_true rfl, Nat.le_of_ble_eq_true rfl⟩ ⟨Nat.le_refl 0, Nat.le_refl 0⟩ rfl (Nat.le_of_ble_eq_true rfl) dX7_idle_15 (fun _ _ _ h9 => kX7_refuse l hN  h9) h (fun v6 t6 a6 e6 h => ?_)
    refine j_isub F dX7_idle_18 ?_
    exact j_ireturn F rfl dX7_idle_19 h
  · refine j_aload_n F 0 dX7_idle_20 rfl rfl ?_
    refine j_getR F clX7 (j := 1) (lt653 rfl hN) ly0 (Nat.le_of_ble_eq_true rfl) rfl qf_X7_19 rfl dX7_idle_21 ?_
    refine j_getI F clX6 (j := 4) (tt := 196) (lt653 rfl hN) ly3 (Nat.le_of_ble_eq_true rfl) rfl qf_X7_174 rfl dX7_idle_24 ?_
    refine j_if_eq F 42 dX7_idle_27 rfl h (fun h => ?_) (fun h => ?_)
    · refine j_ldc F dX7_idle_42 qc_X7_226 ?_
      refine j_aload_n F 0 dX7_idle_44 rfl rfl ?_
      refine j_bipush F dX7_idle_45 cB_m3 ?_
      refine j_callVi F mwX7_refuse ql_X7_66 clX7 (lt653 rfl hN) ly0 [.int (-3 : Int32)] rfl ⟨rfl, rfl, Nat.le_of_ble_eq_true rfl, Nat.le_of_ble_eq_true rfl⟩ ⟨Nat.le_refl 0, Nat.le_refl 0⟩ rfl (Nat.le_of_ble_eq_true rfl) dX7_idle_47 (fun _ _ _ h9 => kX7_refuse l hN  h9) h (fun v2 t2 a2 e2 h => ?_)
      refine j_isub F dX7_idle_50 ?_
      exact j_ireturn F rfl dX7_idle_51 h
    · refine j_aload_n F 0 dX7_idle_30 rfl rfl ?_
      refine j_getR F clX7 (j := 1) (lt653 rfl hN) ly0 (Nat.le_of_ble_eq_true rfl) rfl qf_X7_19 rfl dX7_idle_31 ?_
      refine j_getI F clX6 (j := 4) (tt := 196) (lt653 rfl hN) ly3 (Nat.le_of_ble_eq_true rfl) rfl qf_X7_174 rfl dX7_idle_34 ?_
      refine j_bipush F dX7_idle_37 cB_8 ?_
      refine j_icmp_lt F 52 dX7_idle_39 rfl h (fun h => ?_) (fun h => ?_)
      · refine j_aload_n F 0 dX7_idle_52 rfl rfl ?_
        refine j_getR F clX7 (j := 1) (lt653 rfl hN) ly0 (Nat.le_of_ble_eq_true rfl) rfl qf_X7_19 rfl dX7_idle_53 ?_
        refine j_getR F clX6 (j := 3) (lt653 rfl hN) ly3 (Nat.le_of_ble_eq_true rfl) rfl qf_X7_155 rfl dX7_idle_56 ?_
        refine j_iload_n F 1 dX7_idle_59 rfl rfl ?_
        refine j_iald F (lt653 rfl hN) ly7 dX7_idle_60 h (fun h => ?_)
        refine j_istore_n F (lv' := [(2, .int (a1 7 x1.toNatClampNeg)), (0, .ref (cz x + 0)), (1, .int x1)]) dX7_idle_61 rfl (Nat.le_of_ble_eq_true rfl) rfl ?_
        refine j_aload_n F 1 dX7_idle_62 rfl rfl ?_
        refine j_getR F clX7 (j := 6) (lt653 rfl hN) ly0 (Nat.le_of_ble_eq_true rfl) rfl qf_X7_48 rfl dX7_idle_63 ?_
        refine j_iload_n F 0 dX7_idle_66 rfl rfl ?_
        refine j_aload_n F 1 dX7_idle_67 rfl rfl ?_
        refine j_getR F clX7 (j := 1) (lt653 rfl hN) ly0 (Nat.le_of_ble_eq_true rfl) rfl qf_X7_19 rfl dX7_idle_68 ?_
        refine j_getI F clX6 (j := 6) (tt := 198) (lt653 rfl hN) ly3 (Nat.le_of_ble_eq_true rfl) rfl qf_X7_115 rfl dX7_idle_71 ?_
        refine j_callVi F mwX3_leftOfBest ql_X7_177 clX3 (lt653 rfl hN) ly19 [.int (a1 7 x1.toNatClampNeg), .int (t1 198)] rfl ⟨rfl, rfl, Nat.le_of_ble_eq_true rfl, Nat.le_of_ble_eq_true rfl⟩ ⟨Nat.le_refl 0, Nat.le_refl 0⟩ rfl (Nat.le_of_ble_eq_true rfl) dX7_idle_74 (fun _ _ _ h9 => kX3_leftOfBest l hN sy19 h9) h (fun v3 t3 a3 e3 h => ?_)
        refine j_aload_n F 1 dX7_idle_77 rfl rfl ?_
        refine j_getR F clX7 (j := 7) (lt653 rfl hN) ly0 (Nat.le_of_ble_eq_true rfl) rfl qf_X7_52 rfl dX7_idle_78 ?_
        refine j_iload_n F 0 dX7_idle_81 rfl rfl ?_
        refine j_aload_n F 1 dX7_idle_82 rfl rfl ?_
        refine j_getR F clX7 (j := 1) (lt653 rfl hN) ly0 (Nat.le_of_ble_eq_true rfl) rfl qf_X7_19 rfl dX7_idle_83 ?_
        refine j_getI F clX6 (j := 6) (tt := 198) (lt653 rfl hN) ly3 (Nat.le_of_ble_eq_true rfl) rfl qf_X7_115 rfl dX7_idle_86 ?_
        refine j_callVi F mwX3_leftOfBest ql_X7_177 clX3 (lt653 rfl hN) ly30 [.int (a1 7 x1.toNatClampNeg), .int (t3 198)] rfl ⟨rfl, rfl, Nat.le_of_ble_eq_true rfl, Nat.le_of_ble_eq_true rfl⟩ ⟨Nat.le_refl 0, Nat.le_refl 0⟩ rfl (Nat.le_of_ble_eq_true rfl) dX7_idle_89 (fun _ _ _ h9 => kX3_leftOfBest l hN sy30 h9) h (fun v4 t4 a4 e4 h => ?_)
        refine j_isub F dX7_idle_92 ?_
        exact j_ireturn F rfl dX7_idle_93 h
      · refine j_ldc F dX7_idle_42 qc_X7_226 ?_
        refine j_aload_n F 0 dX7_idle_44 rfl rfl ?_
        refine j_bipush F dX7_idle_45 cB_m3 ?_
        refine j_callVi F mwX7_refuse ql_X7_66 clX7 (lt653 rfl hN) ly0 [.int (-3 : Int32)] rfl ⟨rfl, rfl, Nat.le_of_ble_eq_true rfl, Nat.le_of_ble_eq_true rfl⟩ ⟨Nat.le_refl 0, Nat.le_refl 0⟩ rfl (Nat.le_of_ble_eq_true rfl) dX7_idle_47 (fun _ _ _ h9 => kX7_refuse l hN  h9) h (fun v5 t5 a5 e5 h => ?_)
        refine j_isub F dX7_idle_50 ?_
        exact j_ireturn F rfl dX7_idle_51 h
def fX7_least (nF : Nat) (x1 : Int32) (x2 : Int32) (t : sT) (a : sA) : Rs := cal (fX7_isSet nF x1 t a) (fun v1 t1 a1 => if v1 = 0 then (cal (fX7_refuse nF (-1 : Int32) t1 a1) (fun v5 t5 a5 => some (v5, t5, a5))) else (if (-1 : Int32) ≤ x2 then (cal (fX3_firstThatMeans nF 19 x1 t1 a1) (fun v2 t2 a2 => if 0 ≤ v2 then (cal (fX7_lengthOrWord nF v2 x2 t2 a2) (fun v3 t3 a3 => some (v3, t3, a3))) else (some ((-9 : Int32), t2, a2)))) else (cal (fX7_refuse nF (-4 : Int32) t1 a1) (fun v4 t4 a4 => some (v4, t4, a4)))))
set_option maxRecDepth 100000 in
set_option maxHeartbeats 4000000 in
theorem kX7_least (l : Launch) {x : Cx} {N : Nat} {u0 v0 : Option Nat} {nF : Nat} {x1 : Int32} {x2 : Int32} {t : sT} {a : sA} {rv : Int32} {rt : sT} {ra : sA} (hN : 653 ≤ N) (h : fX7_least nF x1 x2 t a = some (rv, rt, ra)) : Met l yX7_least [.code yX7_least cX7_least 4 (some .int)] (k2_rm 5 113) (Pre x N (rho u0 v0) t a [.ref (cz x + 0), .int x1, .int x2]) (PostI x N (rho u0 v0) rt ra rv) 0 0 (cA x) := by
  refine j_entry (by decide) rfl (Nat.le_of_ble_eq_true rfl) ?_
  intro p e s m below meth c F hsz hnm
  have F : Fx p s m meth c cX7_least 4 RX7 (some .int) x := F
  unfold fX7_least at h
  show J p l e _ s m _ below meth c x N (rho u0 v0) 4 0 0 _ 0 [(0, .ref (cz x + 0)), (1, .int x1), (2, .int x2)] [] t a
  refine j_iload_n F 1 dX7_least_0 rfl rfl ?_
  refine j_callSi F mwX7_isSet ql_X7_142 [.int x1] rfl ⟨rfl, rfl, Nat.le_of_ble_eq_true rfl, Nat.le_of_ble_eq_true rfl⟩ ⟨Nat.le_refl 0, Nat.le_refl 0⟩ rfl (Nat.le_of_ble_eq_true rfl) dX7_least_1 (fun _ _ _ h9 => kX7_isSet l hN  h9) h (fun v1 t1 a1 e1 h => ?_)
  refine j_if_ne F 13 dX7_least_4 rfl h (fun h => ?_) (fun h => ?_)
  · refine j_aload_n F 0 dX7_least_7 rfl rfl ?_
    refine j_iconst F dX7_least_8 cI_m1 ?_
    refine j_callVi F mwX7_refuse ql_X7_66 clX7 (lt653 rfl hN) ly0 [.int (-1 : Int32)] rfl ⟨rfl, rfl, Nat.le_of_ble_eq_true rfl, Nat.le_of_ble_eq_true rfl⟩ ⟨Nat.le_refl 0, Nat.le_refl 0⟩ rfl (Nat.le_of_ble_eq_true rfl) dX7_least_9 (fun _ _ _ h9 => kX7_refuse l hN  h9) h (fun v5 t5 a5 e5 h => ?_)
    exact j_ireturn F rfl dX7_least_12 h
  · refine j_iload_n F 2 dX7_least_13 rfl rfl ?_
    refine j_iconst F dX7_least_14 cI_m1 ?_
    refine j_icmp_ge F 25 dX7_least_15 rfl h (fun h => ?_) (fun h => ?_)
    · refine j_aload_n F 0 dX7_least_25 rfl rfl ?_
      refine j_getR F clX7 (j := 6) (lt653 rfl hN) ly0 (Nat.le_of_ble_eq_true rfl) rfl qf_X7_48 rfl dX7_least_26 ?_
      refine j_iload_n F 1 dX7_least_29 rfl rfl ?_
      refine j_callVi F mwX3_firstThatMeans ql_X7_168 clX3 (lt653 rfl hN) ly19 [.int x1] rfl ⟨rfl, rfl, Nat.le_of_ble_eq_true rfl, Nat.le_of_ble_eq_true rfl⟩ ⟨Nat.le_refl 0, Nat.le_refl 0⟩ rfl (Nat.le_of_ble_eq_true rfl) dX7_least_30 (fun _ _ _ h9 => kX3_firstThatMeans l hN sy19 h9) h (fun v2 t2 a2 e2 h => ?_)
      refine j_istore_n F (lv' := [(3, .int v2), (0, .ref (cz x + 0)), (1, .int x1), (2, .int x2)]) dX7_least_33 rfl (Nat.le_of_ble_eq_true rfl) rfl ?_
      refine j_iload_n F 0 dX7_least_34 rfl rfl ?_
      refine j_if_ge F 43 dX7_least_35 rfl h (fun h => ?_) (fun h => ?_)
      · refine j_aload_n F 1 dX7_least_43 rfl rfl ?_
        refine j_iload_n F 0 dX7_least_44 rfl rfl ?_
        refine j_iload_n F 3 dX7_least_45 rfl rfl ?_
        refine j_callVi F mwX7_lengthOrWord ql_X7_162 clX7 (lt653 rfl hN) ly0 [.int v2, .int x2] rfl ⟨rfl, rfl, Nat.le_of_ble_eq_true rfl, Nat.le_of_ble_eq_true rfl⟩ ⟨Nat.le_refl 0, Nat.le_refl 0⟩ rfl (Nat.le_of_ble_eq_true rfl) dX7_least_46 (fun _ _ _ h9 => kX7_lengthOrWord l hN  h9) h (fun v3 t3 a3 e3 h => ?_)
        exact j_ireturn F rfl dX7_least_49 h
      · refine j_bipush F dX7_least_38 cB_m9 ?_
        refine j_goto F 49 dX7_least_40 rfl ?_
        exact j_ireturn F rfl dX7_least_49 h
    · refine j_aload_n F 0 dX7_least_18 rfl rfl ?_
      refine j_bipush F dX7_least_19 cB_m4 ?_
      refine j_callVi F mwX7_refuse ql_X7_66 clX7 (lt653 rfl hN) ly0 [.int (-4 : Int32)] rfl ⟨rfl, rfl, Nat.le_of_ble_eq_true rfl, Nat.le_of_ble_eq_true rfl⟩ ⟨Nat.le_refl 0, Nat.le_refl 0⟩ rfl (Nat.le_of_ble_eq_true rfl) dX7_least_21 (fun _ _ _ h9 => kX7_refuse l hN  h9) h (fun v4 t4 a4 e4 h => ?_)
      exact j_ireturn F rfl dX7_least_24 h
def fX7_left (nF : Nat) (x1 : Int32) (t : sT) (a : sA) : Rs := cal (fX6_hasPerson nF 3 x1 t a) (fun v1 t1 a1 => if v1 = 0 then (cal (fX7_refuse nF (-1 : Int32) t1 a1) (fun v4 t4 a4 => some (v4, t4, a4))) else (cal (fX7_takeRow nF t1 a1) (fun v2 t2 a2 => bnd x1 4 (cal (fX3_leftBy nF 19 v2 (a2 7 x1.toNatClampNeg) t2 a2) (fun v3 t3 a3 => some (v3, t3, a3))))))
set_option maxRecDepth 100000 in
set_option maxHeartbeats 4000000 in
theorem kX7_left (l : Launch) {x : Cx} {N : Nat} {u0 v0 : Option Nat} {nF : Nat} {x1 : Int32} {t : sT} {a : sA} {rv : Int32} {rt : sT} {ra : sA} (hN : 653 ≤ N) (h : fX7_left nF x1 t a = some (rv, rt, ra)) : Met l yX7_left [.code yX7_left cX7_left 2 (some .int)] (k2_rm 5 119) (Pre x N (rho u0 v0) t a [.ref (cz x + 0), .int x1]) (PostI x N (rho u0 v0) rt ra rv) 0 0 (cA x) := by
  refine j_entry (by decide) rfl (Nat.le_of_ble_eq_true rfl) ?_
  intro p e s m below meth c F hsz hnm
  have F : Fx p s m meth c cX7_left 2 RX7 (some .int) x := F
  unfold fX7_left at h
  show J p l e _ s m _ below meth c x N (rho u0 v0) 2 0 0 _ 0 [(0, .ref (cz x + 0)), (1, .int x1)] [] t a
  refine j_aload_n F 0 dX7_left_0 rfl rfl ?_
  refine j_getR F clX7 (j := 1) (lt653 rfl hN) ly0 (Nat.le_of_ble_eq_true rfl) rfl qf_X7_19 rfl dX7_left_1 ?_
  refine j_iload_n F 1 dX7_left_4 rfl rfl ?_
  refine j_callVi F mwX6_hasPerson ql_X7_149 clX6 (lt653 rfl hN) ly3 [.int x1] rfl ⟨rfl, rfl, Nat.le_of_ble_eq_true rfl, Nat.le_of_ble_eq_true rfl⟩ ⟨Nat.le_refl 0, Nat.le_refl 0⟩ rfl (Nat.le_of_ble_eq_true rfl) dX7_left_5 (fun _ _ _ h9 => kX6_hasPerson l hN tg3 h9) h (fun v1 t1 a1 e1 h => ?_)
  refine j_if_ne F 17 dX7_left_8 rfl h (fun h => ?_) (fun h => ?_)
  · refine j_aload_n F 0 dX7_left_11 rfl rfl ?_
    refine j_iconst F dX7_left_12 cI_m1 ?_
    refine j_callVi F mwX7_refuse ql_X7_66 clX7 (lt653 rfl hN) ly0 [.int (-1 : Int32)] rfl ⟨rfl, rfl, Nat.le_of_ble_eq_true rfl, Nat.le_of_ble_eq_true rfl⟩ ⟨Nat.le_refl 0, Nat.le_refl 0⟩ rfl (Nat.le_of_ble_eq_true rfl) dX7_left_13 (fun _ _ _ h9 => kX7_refuse l hN  h9) h (fun v4 t4 a4 e4 h => ?_)
    exact j_ireturn F rfl dX7_left_16 h
  · refine j_aload_n F 0 dX7_left_17 rfl rfl ?_
    refine j_getR F clX7 (j := 6) (lt653 rfl hN) ly0 (Nat.le_of_ble_eq_true rfl) rfl qf_X7_48 rfl dX7_left_18 ?_
    refine j_aload_n F 0 dX7_left_21 rfl rfl ?_
    refine j_callVi F mwX7_takeRow ql_X7_122 clX7 (lt653 rfl hN) ly0 [] rfl ⟨rfl, rfl, Nat.le_of_ble_eq_true rfl, Nat.le_of_ble_eq_true rfl⟩ ⟨Nat.le_refl 0, Nat.le_refl 0⟩ rfl (Nat.le_of_ble_eq_true rfl) dX7_left_22 (fun _ _ _ h9 => kX7_takeRow l hN  h9) h (fun v2 t2 a2 e2 h => ?_)
    refine j_aload_n F 0 dX7_left_25 rfl rfl ?_
    refine j_getR F clX7 (j := 1) (lt653 rfl hN) ly0 (Nat.le_of_ble_eq_true rfl) rfl qf_X7_19 rfl dX7_left_26 ?_
    refine j_getR F clX6 (j := 3) (lt653 rfl hN) ly3 (Nat.le_of_ble_eq_true rfl) rfl qf_X7_155 rfl dX7_left_29 ?_
    refine j_iload_n F 1 dX7_left_32 rfl rfl ?_
    refine j_iald F (lt653 rfl hN) ly7 dX7_left_33 h (fun h => ?_)
    refine j_callVi F mwX3_leftBy ql_X7_171 clX3 (lt653 rfl hN) ly19 [.int v2, .int (a2 7 x1.toNatClampNeg)] rfl ⟨rfl, rfl, Nat.le_of_ble_eq_true rfl, Nat.le_of_ble_eq_true rfl⟩ ⟨Nat.le_refl 0, Nat.le_refl 0⟩ rfl (Nat.le_of_ble_eq_true rfl) dX7_left_34 (fun _ _ _ h9 => kX3_leftBy l hN sy19 h9) h (fun v3 t3 a3 e3 h => ?_)
    exact j_ireturn F rfl dX7_left_37 h
def gX7_leftByLots_11 (nF : Nat) (r11 : Int32 → Int32 → Int32 → Int32 → Int32 → sT → sA → Rs) (r42 : Int32 → Int32 → Int32 → Int32 → Int32 → Int32 → Int32 → Int32 → sT → sA → Rs) (x1 x2 x4 x5 x6 : Int32) (t : sT) (a : sA) : Rs := if x2 ≤ x6 then (some (x5, t, a)) else (cal (fX7_stirred nF x4 t a) (fun v1 t1 a1 => cal (fX7_drawn nF v1 (3 : Int32) t1 a1) (fun v2 t2 a2 => r42 x1 x2 v1 x5 x6 ((1 : Int32) + v2) (255 : Int32) (0 : Int32) t2 a2)))
def gX7_leftByLots_42 (nF : Nat) (r11 : Int32 → Int32 → Int32 → Int32 → Int32 → sT → sA → Rs) (r42 : Int32 → Int32 → Int32 → Int32 → Int32 → Int32 → Int32 → Int32 → sT → sA → Rs) (x1 x2 x4 x5 x6 x7 x8 x9 : Int32) (t : sT) (a : sA) : Rs := if x7 ≤ x9 then (cal (fX3_casesLeftBy nF 19 x8 x1 (t 199) t a) (fun v3 t3 a3 => r11 x1 x2 x4 (x5 &&& v3) (x6 + (1 : Int32)) t3 a3)) else (cal (fX7_stirred nF x4 t a) (fun v4 t4 a4 => cal (fX7_drawn nF v4 (t4 196) t4 a4) (fun v5 t5 a5 => cal (fX6_grown nF 3 x8 v5 t5 a5) (fun v6 t6 a6 => r42 x1 x2 v4 x5 x6 x7 v6 (x9 + (1 : Int32)) t6 a6))))
def gX7_leftByLots (nF : Nat) : Nat → (Int32 → Int32 → Int32 → Int32 → Int32 → sT → sA → Rs) × (Int32 → Int32 → Int32 → Int32 → Int32 → Int32 → Int32 → Int32 → sT → sA → Rs)
  | 0 => (fun _ _ _ _ _ _ _ => none, fun _ _ _ _ _ _ _ _ _ _ => none)
  | n9 + 1 => (gX7_leftByLots_11 nF ((gX7_leftByLots nF n9).1) ((gX7_leftByLots nF n9).2), gX7_leftByLots_42 nF ((gX7_leftByLots nF n9).1) ((gX7_leftByLots nF n9).2))
def fX7_leftByLots (nF : Nat) (x1 : Int32) (x2 : Int32) (x3 : Int32) (t : sT) (a : sA) : Rs := ((gX7_leftByLots nF nF).1) x1 x2 x3 (255 : Int32) (0 : Int32) t a
set_option maxRecDepth 100000 in
set_option maxHeartbeats 4000000 in
theorem hX7_leftByLots {p : Program} {l : Launch} {e : Env} {s : State} {m : MethodId} {args : Array Value} {below : List Frame} {meth : Method} {c : Code} {x : Cx} {N : Nat} {u0 v0 : Option Nat} {nF : Nat} (F : Fx p s m meth c cX7_leftByLots 10 RX7 (some .int) x) (hsz : s.heap.size = cz x + N) (hN : 653 ≤ N) {rv : Int32} {rt : sT} {ra : sA} : ∀ n9 : Nat, (∀ (x1 x2 x4 x5 x6 : Int32) (t : sT) (a : sA), (gX7_leftByLots nF n9).1 x1 x2 x4 x5 x6 t a = some (rv, rt, ra) → J p l e (k2_rm 5 116) s m args below meth c x N (rho u0 v0) 10 0 0 (MQ below (PostI x N (rho u0 v0) rt ra rv) args s 0 0 (cA x)) 11 [(0, .ref (cz x + 0)), (1, .int x1), (2, .int x2), (4, .int x4), (5, .int x5), (6, .int x6)] [] t a) ∧ (∀ (x1 x2 x4 x5 x6 x7 x8 x9 : Int32) (t : sT) (a : sA), (gX7_leftByLots nF n9).2 x1 x2 x4 x5 x6 x7 x8 x9 t a = some (rv, rt, ra) → J p l e (k2_rm 5 116) s m args below meth c x N (rho u0 v0) 10 0 0 (MQ below (PostI x N (rho u0 v0) rt ra rv) args s 0 0 (cA x)) 42 [(0, .ref (cz x + 0)), (1, .int x1), (2, .int x2), (4, .int x4), (5, .int x5), (6, .int x6), (7, .int x7), (8, .int x8), (9, .int x9)] [] t a) := by
  intro n9
  induction n9 with
  | zero => exact ⟨fun _ _ _ _ _ _ _ h => (by cases h), fun _ _ _ _ _ _ _ _ _ _ h => (by cases h)⟩
  | succ n9 ih =>
    refine ⟨?_, ?_⟩
    · intro x1 x2 x4 x5 x6 t a h
      have h : gX7_leftByLots_11 nF ((gX7_leftByLots nF n9).1) ((gX7_leftByLots nF n9).2) x1 x2 x4 x5 x6 t a = some (rv, rt, ra) := h
      unfold gX7_leftByLots_11 at h
      refine j_iload F 5 dX7_leftByLots_11 rfl ?_
      refine j_iload_n F 2 dX7_leftByLots_13 rfl rfl ?_
      refine j_icmp_ge F 113 dX7_leftByLots_14 rfl h (fun h => ?_) (fun h => ?_)
      · refine j_iload F 4 dX7_leftByLots_113 rfl ?_
        exact j_ireturn F rfl dX7_leftByLots_115 h
      · refine j_iload F 3 dX7_leftByLots_17 rfl ?_
        refine j_callSi F mwX7_stirred ql_X7_259 [.int x4] rfl ⟨rfl, rfl, Nat.le_of_ble_eq_true rfl, Nat.le_of_ble_eq_true rfl⟩ ⟨Nat.le_refl 0, Nat.le_refl 0⟩ rfl (Nat.le_of_ble_eq_true rfl) dX7_leftByLots_19 (fun _ _ _ h9 => kX7_stirred l hN  h9) h (fun v1 t1 a1 e1 h => ?_)
        refine j_istore F (k := 0) (lv' := [(4, .int v1), (0, .ref (cz x + 0)), (1, .int x1), (2, .int x2), (5, .int x5), (6, .int x6)]) dX7_leftByLots_22 (Nat.le_of_ble_eq_true rfl) rfl ?_
        refine j_iconst F dX7_leftByLots_24 cI_1 ?_
        refine j_iload F 0 dX7_leftByLots_25 rfl ?_
        refine j_iconst F dX7_leftByLots_27 cI_3 ?_
        refine j_callSi F mwX7_drawn ql_X7_262 [.int v1, .int (3 : Int32)] rfl ⟨rfl, rfl, Nat.le_of_ble_eq_true rfl, Nat.le_of_ble_eq_true rfl⟩ ⟨Nat.le_refl 0, Nat.le_refl 0⟩ rfl (Nat.le_of_ble_eq_true rfl) dX7_leftByLots_28 (fun _ _ _ h9 => kX7_drawn l hN  h9) h (fun v2 t2 a2 e2 h => ?_)
        refine j_iadd F dX7_leftByLots_31 ?_
        refine j_istore F (k := 0) (lv' := [(7, .int ((1 : Int32) + v2)), (4, .int v1), (0, .ref (cz x + 0)), (1, .int x1), (2, .int x2), (5, .int x5), (6, .int x6)]) dX7_leftByLots_32 (Nat.le_of_ble_eq_true rfl) rfl ?_
        refine j_sipush F dX7_leftByLots_34 cS_255 ?_
        refine j_istore F (k := 0) (lv' := [(8, .int (255 : Int32)), (7, .int ((1 : Int32) + v2)), (4, .int v1), (0, .ref (cz x + 0)), (1, .int x1), (2, .int x2), (5, .int x5), (6, .int x6)]) dX7_leftByLots_37 (Nat.le_of_ble_eq_true rfl) rfl ?_
        refine j_iconst F dX7_leftByLots_39 cI_0 ?_
        refine j_istore F (k := 0) (lv' := [(9, .int (0 : Int32)), (8, .int (255 : Int32)), (7, .int ((1 : Int32) + v2)), (4, .int v1), (0, .ref (cz x + 0)), (1, .int x1), (2, .int x2), (5, .int x5), (6, .int x6)]) dX7_leftByLots_40 (Nat.le_of_ble_eq_true rfl) rfl ?_
        exact j_lv [4, 5, 6, 3, 7, 8, 2, 1, 0] rfl (ih.2 _ _ _ _ _ _ _ _ _ _ h)
    · intro x1 x2 x4 x5 x6 x7 x8 x9 t a h
      have h : gX7_leftByLots_42 nF ((gX7_leftByLots nF n9).1) ((gX7_leftByLots nF n9).2) x1 x2 x4 x5 x6 x7 x8 x9 t a = some (rv, rt, ra) := h
      unfold gX7_leftByLots_42 at h
      refine j_iload F 8 dX7_leftByLots_42 rfl ?_
      refine j_iload F 6 dX7_leftByLots_44 rfl ?_
      refine j_icmp_ge F 85 dX7_leftByLots_46 rfl h (fun h => ?_) (fun h => ?_)
      · refine j_iload F 4 dX7_leftByLots_85 rfl ?_
        refine j_aload_n F 0 dX7_leftByLots_87 rfl rfl ?_
        refine j_getR F clX7 (j := 6) (lt653 rfl hN) ly0 (Nat.le_of_ble_eq_true rfl) rfl qf_X7_48 rfl dX7_leftByLots_88 ?_
        refine j_iload F 7 dX7_leftByLots_91 rfl ?_
        refine j_iload_n F 1 dX7_leftByLots_93 rfl rfl ?_
        refine j_aload_n F 0 dX7_leftByLots_94 rfl rfl ?_
        refine j_getR F clX7 (j := 1) (lt653 rfl hN) ly0 (Nat.le_of_ble_eq_true rfl) rfl qf_X7_19 rfl dX7_leftByLots_95 ?_
        refine j_getI F clX6 (j := 7) (tt := 199) (lt653 rfl hN) ly3 (Nat.le_of_ble_eq_true rfl) rfl qf_X7_109 rfl dX7_leftByLots_98 ?_
        refine j_callVi F mwX3_casesLeftBy ql_X7_268 clX3 (lt653 rfl hN) ly19 [.int x8, .int x1, .int (t 199)] rfl ⟨rfl, rfl, Nat.le_of_ble_eq_true rfl, Nat.le_of_ble_eq_true rfl⟩ ⟨Nat.le_refl 0, Nat.le_refl 0⟩ rfl (Nat.le_of_ble_eq_true rfl) dX7_leftByLots_101 (fun _ _ _ h9 => kX3_casesLeftBy l hN sy19 h9) h (fun v3 t3 a3 e3 h => ?_)
        refine j_iand F dX7_leftByLots_104 ?_
        refine j_istore F (k := 0) (lv' := [(5, .int (x5 &&& v3)), (0, .ref (cz x + 0)), (1, .int x1), (2, .int x2), (4, .int x4), (6, .int x6), (7, .int x7), (8, .int x8), (9, .int x9)]) dX7_leftByLots_105 (Nat.le_of_ble_eq_true rfl) rfl ?_
        refine j_iinc F (v := x6 + (1 : Int32)) (lv' := [(6, .int (x6 + (1 : Int32))), (5, .int (x5 &&& v3)), (0, .ref (cz x + 0)), (1, .int x1), (2, .int x2), (4, .int x4), (7, .int x7), (8, .int x8), (9, .int x9)]) dX7_leftByLots_107 5 rfl (congrArg (fun z => x6 + z) cI_1) (Nat.le_of_ble_eq_true rfl) rfl ?_
        refine j_goto F 11 dX7_leftByLots_110 rfl ?_
        exact j_lv [2, 3, 4, 5, 1, 0] rfl (ih.1 _ _ _ _ _ _ _ h)
      · refine j_iload F 3 dX7_leftByLots_49 rfl ?_
        refine j_callSi F mwX7_stirred ql_X7_259 [.int x4] rfl ⟨rfl, rfl, Nat.le_of_ble_eq_true rfl, Nat.le_of_ble_eq_true rfl⟩ ⟨Nat.le_refl 0, Nat.le_refl 0⟩ rfl (Nat.le_of_ble_eq_true rfl) dX7_leftByLots_51 (fun _ _ _ h9 => kX7_stirred l hN  h9) h (fun v4 t4 a4 e4 h => ?_)
        refine j_istore F (k := 0) (lv' := [(4, .int v4), (0, .ref (cz x + 0)), (1, .int x1), (2, .int x2), (5, .int x5), (6, .int x6), (7, .int x7), (8, .int x8), (9, .int x9)]) dX7_leftByLots_54 (Nat.le_of_ble_eq_true rfl) rfl ?_
        refine j_aload_n F 1 dX7_leftByLots_56 rfl rfl ?_
        refine j_getR F clX7 (j := 1) (lt653 rfl hN) ly0 (Nat.le_of_ble_eq_true rfl) rfl qf_X7_19 rfl dX7_leftByLots_57 ?_
        refine j_iload F 7 dX7_leftByLots_60 rfl ?_
        refine j_iload F 0 dX7_leftByLots_62 rfl ?_
        refine j_aload_n F 1 dX7_leftByLots_64 rfl rfl ?_
        refine j_getR F clX7 (j := 1) (lt653 rfl hN) ly0 (Nat.le_of_ble_eq_true rfl) rfl qf_X7_19 rfl dX7_leftByLots_65 ?_
        refine j_getI F clX6 (j := 4) (tt := 196) (lt653 rfl hN) ly3 (Nat.le_of_ble_eq_true rfl) rfl qf_X7_174 rfl dX7_leftByLots_68 ?_
        refine j_callSi F mwX7_drawn ql_X7_262 [.int v4, .int (t4 196)] rfl ⟨rfl, rfl, Nat.le_of_ble_eq_true rfl, Nat.le_of_ble_eq_true rfl⟩ ⟨Nat.le_refl 0, Nat.le_refl 0⟩ rfl (Nat.le_of_ble_eq_true rfl) dX7_leftByLots_71 (fun _ _ _ h9 => kX7_drawn l hN  h9) h (fun v5 t5 a5 e5 h => ?_)
        refine j_callVi F mwX6_grown ql_X7_265 clX6 (lt653 rfl hN) ly3 [.int x8, .int v5] rfl ⟨rfl, rfl, Nat.le_of_ble_eq_true rfl, Nat.le_of_ble_eq_true rfl⟩ ⟨Nat.le_refl 0, Nat.le_refl 0⟩ rfl (Nat.le_of_ble_eq_true rfl) dX7_leftByLots_74 (fun _ _ _ h9 => kX6_grown l hN tg3 h9) h (fun v6 t6 a6 e6 h => ?_)
        refine j_istore F (k := 0) (lv' := [(8, .int v6), (4, .int v4), (0, .ref (cz x + 0)), (1, .int x1), (2, .int x2), (5, .int x5), (6, .int x6), (7, .int x7), (9, .int x9)]) dX7_leftByLots_77 (Nat.le_of_ble_eq_true rfl) rfl ?_
        refine j_iinc F (v := x9 + (1 : Int32)) (lv' := [(9, .int (x9 + (1 : Int32))), (8, .int v6), (4, .int v4), (0, .ref (cz x + 0)), (1, .int x1), (2, .int x2), (5, .int x5), (6, .int x6), (7, .int x7)]) dX7_leftByLots_79 8 rfl (congrArg (fun z => x9 + z) cI_1) (Nat.le_of_ble_eq_true rfl) rfl ?_
        refine j_goto F 42 dX7_leftByLots_82 rfl ?_
        exact j_lv [3, 4, 5, 2, 6, 7, 8, 1, 0] rfl (ih.2 _ _ _ _ _ _ _ _ _ _ h)
set_option maxRecDepth 100000 in
set_option maxHeartbeats 4000000 in
theorem kX7_leftByLots (l : Launch) {x : Cx} {N : Nat} {u0 v0 : Option Nat} {nF : Nat} {x1 : Int32} {x2 : Int32} {x3 : Int32} {t : sT} {a : sA} {rv : Int32} {rt : sT} {ra : sA} (hN : 653 ≤ N) (h : fX7_leftByLots nF x1 x2 x3 t a = some (rv, rt, ra)) : Met l yX7_leftByLots [.code yX7_leftByLots cX7_leftByLots 10 (some .int)] (k2_rm 5 116) (Pre x N (rho u0 v0) t a [.ref (cz x + 0), .int x1, .int x2, .int x3]) (PostI x N (rho u0 v0) rt ra rv) 0 0 (cA x) := by
  refine j_entry (by decide) rfl (Nat.le_of_ble_eq_true rfl) ?_
  intro p e s m below meth c F hsz hnm
  have F : Fx p s m meth c cX7_leftByLots 10 RX7 (some .int) x := F
  unfold fX7_leftByLots at h
  show J p l e _ s m _ below meth c x N (rho u0 v0) 10 0 0 _ 0 [(0, .ref (cz x + 0)), (1, .int x1), (2, .int x2), (3, .int x3)] [] t a
  refine j_iload_n F 3 dX7_leftByLots_0 rfl rfl ?_
  refine j_istore F (k := 0) (lv' := [(4, .int x3), (0, .ref (cz x + 0)), (1, .int x1), (2, .int x2), (3, .int x3)]) dX7_leftByLots_1 (Nat.le_of_ble_eq_true rfl) rfl ?_
  refine j_sipush F dX7_leftByLots_3 cS_255 ?_
  refine j_istore F (k := 0) (lv' := [(5, .int (255 : Int32)), (4, .int x3), (0, .ref (cz x + 0)), (1, .int x1), (2, .int x2), (3, .int x3)]) dX7_leftByLots_6 (Nat.le_of_ble_eq_true rfl) rfl ?_
  refine j_iconst F dX7_leftByLots_8 cI_0 ?_
  refine j_istore F (k := 0) (lv' := [(6, .int (0 : Int32)), (5, .int (255 : Int32)), (4, .int x3), (0, .ref (cz x + 0)), (1, .int x1), (2, .int x2), (3, .int x3)]) dX7_leftByLots_9 (Nat.le_of_ble_eq_true rfl) rfl ?_
  exact j_lv [3, 4, 5, 2, 1, 0] rfl ((hX7_leftByLots F hsz hN nF).1 _ _ _ _ _ _ _ h)
