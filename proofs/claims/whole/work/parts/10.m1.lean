/-! 10.m1.lean.txt: functions and contracts, by program (wip/whole/gen.py) -/
def fX8_refuse (nF : Nat) (x1 : Int32) (t : sT) (a : sA) : Rs := bnd (-x1) 8 (bnd (-x1) 8 (some (x1, t, va_up a 54 (upd (a 54) (-x1).toNatClampNeg ((a 54 (-x1).toNatClampNeg) + 1)))))
set_option maxRecDepth 100000 in
set_option maxHeartbeats 4000000 in
theorem kX8_refuse (l : Launch) {x : Cx} {N : Nat} {u0 v0 : Option Nat} {nF : Nat} {x1 : Int32} {t : sT} {a : sA} {rv : Int32} {rt : sT} {ra : sA} (hN : 653 ≤ N) (h : fX8_refuse nF x1 t a = some (rv, rt, ra)) : Met l yX8_refuse [.code yX8_refuse cX8_refuse 2 (some .int)] (k2_rm 0 0) (Pre x N (rho u0 v0) t a [.ref (cz x + 50), .int x1]) (PostI x N (rho u0 v0) rt ra rv) 0 0 (cA x) := by
  refine j_entry (by decide) rfl (Nat.le_of_ble_eq_true rfl) ?_
  intro p e s m below meth c F hsz hnm
  have F : Fx p s m meth c cX8_refuse 2 RX8 (some .int) x := F
  unfold fX8_refuse at h
  show J p l e _ s m _ below meth c x N (rho u0 v0) 2 0 0 _ 0 [(0, .ref (cz x + 50)), (1, .int x1)] [] t a
  refine j_aload_n F 0 dX8_refuse_0 rfl rfl ?_
  refine j_getR F clX8 (j := 6) (lt653 rfl hN) ly50 (Nat.le_of_ble_eq_true rfl) rfl qf_X8_19 rfl dX8_refuse_1 ?_
  refine j_iload_n F 1 dX8_refuse_4 rfl rfl ?_
  refine j_ineg F dX8_refuse_5 ?_
  refine j_dup2 F dX8_refuse_6 rfl rfl ?_
  refine j_iald F (lt653 rfl hN) ly54 dX8_refuse_7 h (fun h => ?_)
  refine j_iconst F dX8_refuse_8 cI_1 ?_
  refine j_iadd F dX8_refuse_9 ?_
  refine j_iast F (lt653 rfl hN) ly54 dX8_refuse_10 h (fun h => ?_)
  refine j_iload_n F 1 dX8_refuse_11 rfl rfl ?_
  exact j_ireturn F rfl dX8_refuse_12 h
def fX8_in (nF : Nat) (x0 : Int32) (x1 : Int32) (x2 : Int32) (t : sT) (a : sA) : Rs := if x0 < x1 then (zok 0 (some (0, t, a))) else (if x2 < x0 then (zok 0 (some (0, t, a))) else (zok 1 (some (1, t, a))))
set_option maxRecDepth 100000 in
set_option maxHeartbeats 4000000 in
theorem kX8_in (l : Launch) {x : Cx} {N : Nat} {u0 v0 : Option Nat} {nF : Nat} {x0 : Int32} {x1 : Int32} {x2 : Int32} {t : sT} {a : sA} {rv : Int32} {rt : sT} {ra : sA} (hN : 653 ≤ N) (h : fX8_in nF x0 x1 x2 t a = some (rv, rt, ra)) : Met l yX8_in [.code yX8_in cX8_in 3 (some .boolean)] (k2_rm 0 0) (Pre x N (rho u0 v0) t a [.int x0, .int x1, .int x2]) (PostI x N (rho u0 v0) rt ra rv) 0 0 (cA x) := by
  refine j_entry (by decide) rfl (Nat.le_of_ble_eq_true rfl) ?_
  intro p e s m below meth c F hsz hnm
  have F : Fx p s m meth c cX8_in 3 RX8 (some .boolean) x := F
  unfold fX8_in at h
  show J p l e _ s m _ below meth c x N (rho u0 v0) 3 0 0 _ 0 [(0, .int x0), (1, .int x1), (2, .int x2)] [] t a
  refine j_iload_n F 0 dX8_in_0 rfl rfl ?_
  refine j_iload_n F 1 dX8_in_1 rfl rfl ?_
  refine j_icmp_lt F 14 dX8_in_2 rfl h (fun h => ?_) (fun h => ?_)
  · refine j_iconst F dX8_in_14 cI_0 ?_
    exact j_zreturn F rfl dX8_in_15 h
  · refine j_iload_n F 0 dX8_in_5 rfl rfl ?_
    refine j_iload_n F 2 dX8_in_6 rfl rfl ?_
    refine j_icmp_gt F 14 dX8_in_7 rfl h (fun h => ?_) (fun h => ?_)
    · refine j_iconst F dX8_in_14 cI_0 ?_
      exact j_zreturn F rfl dX8_in_15 h
    · refine j_iconst F dX8_in_10 cI_1 ?_
      refine j_goto F 15 dX8_in_11 rfl ?_
      exact j_zreturn F rfl dX8_in_15 h
def gX8_weightOf_4 (nF : Nat) (r4 : Int32 → Int32 → Int32 → sT → sA → Rs) (x1 x2 x3 : Int32) (t : sT) (a : sA) : Rs := if 8 ≤ x3 then (some (x2, t, a)) else (if ((x1 >>> (x3 &&& 31)) &&& 1) = 0 then (r4 x1 (x2 + 0) (x3 + 1) t a) else (bnd x3 8 (r4 x1 (x2 + (a 57 x3.toNatClampNeg)) (x3 + 1) t a)))
def gX8_weightOf (nF : Nat) : Nat → (Int32 → Int32 → Int32 → sT → sA → Rs)
  | 0 => (fun _ _ _ _ _ => none)
  | n9 + 1 => (gX8_weightOf_4 nF (gX8_weightOf nF n9))
def fX8_weightOf (nF : Nat) (x1 : Int32) (t : sT) (a : sA) : Rs := (gX8_weightOf nF nF) x1 0 0 t a
set_option maxRecDepth 100000 in
set_option maxHeartbeats 4000000 in
theorem hX8_weightOf {p : Program} {l : Launch} {e : Env} {s : State} {m : MethodId} {args : Array Value} {below : List Frame} {meth : Method} {c : Code} {x : Cx} {N : Nat} {u0 v0 : Option Nat} {nF : Nat} (F : Fx p s m meth c cX8_weightOf 4 RX8 (some .int) x) (hsz : s.heap.size = cz x + N) (hN : 653 ≤ N) {rv : Int32} {rt : sT} {ra : sA} : ∀ n9 : Nat, (∀ (x1 x2 x3 : Int32) (t : sT) (a : sA), (gX8_weightOf nF n9) x1 x2 x3 t a = some (rv, rt, ra) → J p l e (k2_rm 0 0) s m args below meth c x N (rho u0 v0) 4 0 0 (MQ below (PostI x N (rho u0 v0) rt ra rv) args s 0 0 (cA x)) 4 [(0, .ref (cz x + 50)), (1, .int x1), (2, .int x2), (3, .int x3)] [] t a) := by
  intro n9
  induction n9 with
  | zero => exact fun _ _ _ _ _ h => by cases h
  | succ n9 ih =>
    intro x1 x2 x3 t a h
    have h : gX8_weightOf_4 nF (gX8_weightOf nF n9) x1 x2 x3 t a = some (rv, rt, ra) := h
    unfold gX8_weightOf_4 at h
    refine j_iload_n F 3 dX8_weightOf_4 rfl rfl ?_
    refine j_bipush F dX8_weightOf_5 cB_8 ?_
    refine j_icmp_ge F 37 dX8_weightOf_7 rfl h (fun h => ?_) (fun h => ?_)
    · refine j_iload_n F 2 dX8_weightOf_37 rfl rfl ?_
      exact j_ireturn F rfl dX8_weightOf_38 h
    · refine j_iload_n F 2 dX8_weightOf_10 rfl rfl ?_
      refine j_iload_n F 1 dX8_weightOf_11 rfl rfl ?_
      refine j_iload_n F 3 dX8_weightOf_12 rfl rfl ?_
      refine j_ishr F dX8_weightOf_13 ?_
      refine j_iconst F dX8_weightOf_14 cI_1 ?_
      refine j_iand F dX8_weightOf_15 ?_
      refine j_if_eq F 28 dX8_weightOf_16 rfl h (fun h => ?_) (fun h => ?_)
      · refine j_iconst F dX8_weightOf_28 cI_0 ?_
        refine j_iadd F dX8_weightOf_29 ?_
        refine j_istore_n F (lv' := [(2, .int (x2 + 0)), (0, .ref (cz x + 50)), (1, .int x1), (3, .int x3)]) dX8_weightOf_30 rfl (Nat.le_of_ble_eq_true rfl) rfl ?_
        refine j_iinc F (v := x3 + 1) (lv' := [(3, .int (x3 + 1)), (2, .int (x2 + 0)), (0, .ref (cz x + 50)), (1, .int x1)]) dX8_weightOf_31 3 rfl (congrArg (fun z => x3 + z) cI_1) (Nat.le_of_ble_eq_true rfl) rfl ?_
        refine j_goto F 4 dX8_weightOf_34 rfl ?_
        exact j_lv [2, 3, 1, 0] rfl (ih _ _ _ _ _ h)
      · refine j_aload_n F 0 dX8_weightOf_19 rfl rfl ?_
        refine j_getR F clX8 (j := 10) (lt653 rfl hN) ly50 (Nat.le_of_ble_eq_true rfl) rfl qf_X8_28 rfl dX8_weightOf_20 ?_
        refine j_iload_n F 3 dX8_weightOf_23 rfl rfl ?_
        refine j_iald F (lt653 rfl hN) ly57 dX8_weightOf_24 h (fun h => ?_)
        refine j_goto F 29 dX8_weightOf_25 rfl ?_
        refine j_iadd F dX8_weightOf_29 ?_
        refine j_istore_n F (lv' := [(2, .int (x2 + (a 57 x3.toNatClampNeg))), (0, .ref (cz x + 50)), (1, .int x1), (3, .int x3)]) dX8_weightOf_30 rfl (Nat.le_of_ble_eq_true rfl) rfl ?_
        refine j_iinc F (v := x3 + 1) (lv' := [(3, .int (x3 + 1)), (2, .int (x2 + (a 57 x3.toNatClampNeg))), (0, .ref (cz x + 50)), (1, .int x1)]) dX8_weightOf_31 3 rfl (congrArg (fun z => x3 + z) cI_1) (Nat.le_of_ble_eq_true rfl) rfl ?_
        refine j_goto F 4 dX8_weightOf_34 rfl ?_
        exact j_lv [2, 3, 1, 0] rfl (ih _ _ _ _ _ h)
set_option maxRecDepth 100000 in
set_option maxHeartbeats 4000000 in
theorem kX8_weightOf (l : Launch) {x : Cx} {N : Nat} {u0 v0 : Option Nat} {nF : Nat} {x1 : Int32} {t : sT} {a : sA} {rv : Int32} {rt : sT} {ra : sA} (hN : 653 ≤ N) (h : fX8_weightOf nF x1 t a = some (rv, rt, ra)) : Met l yX8_weightOf [.code yX8_weightOf cX8_weightOf 4 (some .int)] (k2_rm 0 0) (Pre x N (rho u0 v0) t a [.ref (cz x + 50), .int x1]) (PostI x N (rho u0 v0) rt ra rv) 0 0 (cA x) := by
  refine j_entry (by decide) rfl (Nat.le_of_ble_eq_true rfl) ?_
  intro p e s m below meth c F hsz hnm
  have F : Fx p s m meth c cX8_weightOf 4 RX8 (some .int) x := F
  unfold fX8_weightOf at h
  show J p l e _ s m _ below meth c x N (rho u0 v0) 4 0 0 _ 0 [(0, .ref (cz x + 50)), (1, .int x1)] [] t a
  refine j_iconst F dX8_weightOf_0 cI_0 ?_
  refine j_istore_n F (lv' := [(2, .int 0), (0, .ref (cz x + 50)), (1, .int x1)]) dX8_weightOf_1 rfl (Nat.le_of_ble_eq_true rfl) rfl ?_
  refine j_iconst F dX8_weightOf_2 cI_0 ?_
  refine j_istore_n F (lv' := [(3, .int 0), (2, .int 0), (0, .ref (cz x + 50)), (1, .int x1)]) dX8_weightOf_3 rfl (Nat.le_of_ble_eq_true rfl) rfl ?_
  exact j_lv [2, 3, 1, 0] rfl ((hX8_weightOf F hsz hN nF) _ _ _ _ _ h)
def fX8_mayFollow (nF : Nat) (x0 : Int32) (x1 : Int32) (x2 : Int32) (x3 : Int32) (x4 : Int32) (t : sT) (a : sA) : Rs := if x0 = 0 then (if x3 ≤ x1 then (zok 0 (some (0, t, a))) else (zok 1 (some (1, t, a)))) else (if x0 = 1 then (if x3 < x1 then (zok 0 (some (0, t, a))) else (zok 1 (some (1, t, a)))) else (if x0 = 2 then (if (x3 - x4) ≤ (x1 - x2) then (zok 0 (some (0, t, a))) else (zok 1 (some (1, t, a)))) else (if x0 = 3 then (if x1 = (x3 + 1) then (zok 1 (some (1, t, a))) else (zok 0 (some (0, t, a)))) else (zok 1 (some (1, t, a))))))
set_option maxRecDepth 100000 in
set_option maxHeartbeats 4000000 in
theorem kX8_mayFollow (l : Launch) {x : Cx} {N : Nat} {u0 v0 : Option Nat} {nF : Nat} {x0 : Int32} {x1 : Int32} {x2 : Int32} {x3 : Int32} {x4 : Int32} {t : sT} {a : sA} {rv : Int32} {rt : sT} {ra : sA} (hN : 653 ≤ N) (h : fX8_mayFollow nF x0 x1 x2 x3 x4 t a = some (rv, rt, ra)) : Met l yX8_mayFollow [.code yX8_mayFollow cX8_mayFollow 5 (some .boolean)] (k2_rm 0 0) (Pre x N (rho u0 v0) t a [.int x0, .int x1, .int x2, .int x3, .int x4]) (PostI x N (rho u0 v0) rt ra rv) 0 0 (cA x) := by
  refine j_entry (by decide) rfl (Nat.le_of_ble_eq_true rfl) ?_
  intro p e s m below meth c F hsz hnm
  have F : Fx p s m meth c cX8_mayFollow 5 RX8 (some .boolean) x := F
  unfold fX8_mayFollow at h
  show J p l e _ s m _ below meth c x N (rho u0 v0) 5 0 0 _ 0 [(0, .int x0), (1, .int x1), (2, .int x2), (3, .int x3), (4, .int x4)] [] t a
  refine j_iload_n F 0 dX8_mayFollow_0 rfl rfl ?_
  refine ifE h (fun e1_0 h => ?_) (fun e1_0 h => ?_)
  · refine j_tsI F 32 dX8_mayFollow_1 e1_0 (by decide) (by decide) rfl rfl ?_
    refine j_iload_n F 1 dX8_mayFollow_32 rfl rfl ?_
    refine j_iload_n F 3 dX8_mayFollow_33 rfl rfl ?_
    refine j_icmp_ge F 41 dX8_mayFollow_34 rfl h (fun h => ?_) (fun h => ?_)
    · refine j_iconst F dX8_mayFollow_41 cI_0 ?_
      exact j_zreturn F rfl dX8_mayFollow_42 h
    · refine j_iconst F dX8_mayFollow_37 cI_1 ?_
      refine j_goto F 42 dX8_mayFollow_38 rfl ?_
      exact j_zreturn F rfl dX8_mayFollow_42 h
  · refine ifE h (fun e1_1 h => ?_) (fun e1_1 h => ?_)
    · refine j_tsI F 43 dX8_mayFollow_1 e1_1 (by decide) (by decide) rfl rfl ?_
      refine j_iload_n F 1 dX8_mayFollow_43 rfl rfl ?_
      refine j_iload_n F 3 dX8_mayFollow_44 rfl rfl ?_
      refine j_icmp_gt F 52 dX8_mayFollow_45 rfl h (fun h => ?_) (fun h => ?_)
      · refine j_iconst F dX8_mayFollow_52 cI_0 ?_
        exact j_zreturn F rfl dX8_mayFollow_53 h
      · refine j_iconst F dX8_mayFollow_48 cI_1 ?_
        refine j_goto F 53 dX8_mayFollow_49 rfl ?_
        exact j_zreturn F rfl dX8_mayFollow_53 h
    · refine ifE h (fun e1_2 h => ?_) (fun e1_2 h => ?_)
      · refine j_tsI F 54 dX8_mayFollow_1 e1_2 (by decide) (by decide) rfl rfl ?_
        refine j_iload_n F 1 dX8_mayFollow_54 rfl rfl ?_
        refine j_iload_n F 2 dX8_mayFollow_55 rfl rfl ?_
        refine j_isub F dX8_mayFollow_56 ?_
        refine j_iload_n F 3 dX8_mayFollow_57 rfl rfl ?_
        refine j_iload F 4 dX8_mayFollow_58 rfl ?_
        refine j_isub F dX8_mayFollow_60 ?_
        refine j_icmp_ge F 68 dX8_mayFollow_61 rfl h (fun h => ?_) (fun h => ?_)
        · refine j_iconst F dX8_mayFollow_68 cI_0 ?_
          exact j_zreturn F rfl dX8_mayFollow_69 h
        · refine j_iconst F dX8_mayFollow_64 cI_1 ?_
          refine j_goto F 69 dX8_mayFollow_65 rfl ?_
          exact j_zreturn F rfl dX8_mayFollow_69 h
      · refine ifE h (fun e1_3 h => ?_) (fun e1_3 h => ?_)
        · refine j_tsI F 70 dX8_mayFollow_1 e1_3 (by decide) (by decide) rfl rfl ?_
          refine j_iload_n F 1 dX8_mayFollow_70 rfl rfl ?_
          refine j_iload_n F 3 dX8_mayFollow_71 rfl rfl ?_
          refine j_iconst F dX8_mayFollow_72 cI_1 ?_
          refine j_iadd F dX8_mayFollow_73 ?_
          refine j_icmp_ne F 81 dX8_mayFollow_74 rfl h (fun h => ?_) (fun h => ?_)
          · refine j_iconst F dX8_mayFollow_77 cI_1 ?_
            refine j_goto F 82 dX8_mayFollow_78 rfl ?_
            exact j_zreturn F rfl dX8_mayFollow_82 h
          · refine j_iconst F dX8_mayFollow_81 cI_0 ?_
            exact j_zreturn F rfl dX8_mayFollow_82 h
        · refine j_tsD F 83 dX8_mayFollow_1 rfl (fun i hi => ?_) rfl ?_
          · have hi : i < 4 := hi
            have hi : i = 0 ∨ i = 1 ∨ i = 2 ∨ i = 3 := by omega
            rcases hi with rfl | rfl | rfl | rfl
            · exact Or.inr (by have h9 := lv_neT (a := 0) e1_0 rfl; omega)
            · exact Or.inr (by have h9 := lv_neT (a := 1) e1_1 rfl; omega)
            · exact Or.inr (by have h9 := lv_neT (a := 2) e1_2 rfl; omega)
            · exact Or.inr (by have h9 := lv_neT (a := 3) e1_3 rfl; omega)
          refine j_iconst F dX8_mayFollow_83 cI_1 ?_
          exact j_zreturn F rfl dX8_mayFollow_84 h
