/-! 11.m2.lean.txt: functions and contracts, by program (wip/whole/gen.py) -/
def fX6_hasPerson (nF : Nat) (k0 : Nat) (x1 : Int32) (t : sT) (a : sA) : Rs := if x1 < 0 then (zok (0 : Int32) (some ((0 : Int32), t, a))) else (if (t (64 * k0 + 5)) ≤ x1 then (zok (0 : Int32) (some ((0 : Int32), t, a))) else (zok (1 : Int32) (some ((1 : Int32), t, a))))
set_option maxRecDepth 100000 in
set_option maxHeartbeats 4000000 in
theorem kX6_hasPerson (l : Launch) {x : Cx} {N : Nat} {u0 v0 : Option Nat} {nF : Nat} {k0 : Nat} {x1 : Int32} {t : sT} {a : sA} {rv : Int32} {rt : sT} {ra : sA} (hN : 653 ≤ N) (hk0 : isTg k0) (h : fX6_hasPerson nF k0 x1 t a = some (rv, rt, ra)) : Met l yX6_hasPerson [.code yX6_hasPerson cX6_hasPerson 2 (some .boolean)] (k2_rm 0 0) (Pre x N (rho u0 v0) t a [.ref (cz x + k0), .int x1]) (PostI x N (rho u0 v0) rt ra rv) 0 0 (cA x) := by
  refine j_entry (by decide) rfl (Nat.le_of_ble_eq_true rfl) ?_
  intro p e s m below meth c F hsz hnm
  have F : Fx p s m meth c cX6_hasPerson 2 RX6 (some .boolean) x := F
  unfold fX6_hasPerson at h
  show J p l e _ s m _ below meth c x N (rho u0 v0) 2 0 0 _ 0 [(0, .ref (cz x + k0)), (1, .int x1)] [] t a
  refine j_iload_n F 1 dX6_hasPerson_0 rfl rfl ?_
  refine j_if_lt F 16 dX6_hasPerson_1 rfl h (fun h => ?_) (fun h => ?_)
  · refine j_iconst F dX6_hasPerson_16 cI_0 ?_
    exact j_zreturn F rfl dX6_hasPerson_17 h
  · refine j_iload_n F 1 dX6_hasPerson_4 rfl rfl ?_
    refine j_aload_n F 0 dX6_hasPerson_5 rfl rfl ?_
    refine j_getI F clX6 (j := 5) (tt := (64 * k0 + 5)) (Tg_lt hk0 hN) (Tg_l hk0) (Nat.le_of_ble_eq_true rfl) rfl qf_X6_34 rfl dX6_hasPerson_6 ?_
    refine j_icmp_ge F 16 dX6_hasPerson_9 rfl h (fun h => ?_) (fun h => ?_)
    · refine j_iconst F dX6_hasPerson_16 cI_0 ?_
      exact j_zreturn F rfl dX6_hasPerson_17 h
    · refine j_iconst F dX6_hasPerson_12 cI_1 ?_
      refine j_goto F 17 dX6_hasPerson_13 rfl ?_
      exact j_zreturn F rfl dX6_hasPerson_17 h
def fX6_hasWord (nF : Nat) (k0 : Nat) (x1 : Int32) (t : sT) (a : sA) : Rs := if x1 < 0 then (zok (0 : Int32) (some ((0 : Int32), t, a))) else (if (t (64 * k0 + 4)) ≤ x1 then (zok (0 : Int32) (some ((0 : Int32), t, a))) else (zok (1 : Int32) (some ((1 : Int32), t, a))))
set_option maxRecDepth 100000 in
set_option maxHeartbeats 4000000 in
theorem kX6_hasWord (l : Launch) {x : Cx} {N : Nat} {u0 v0 : Option Nat} {nF : Nat} {k0 : Nat} {x1 : Int32} {t : sT} {a : sA} {rv : Int32} {rt : sT} {ra : sA} (hN : 653 ≤ N) (hk0 : isTg k0) (h : fX6_hasWord nF k0 x1 t a = some (rv, rt, ra)) : Met l yX6_hasWord [.code yX6_hasWord cX6_hasWord 2 (some .boolean)] (k2_rm 0 0) (Pre x N (rho u0 v0) t a [.ref (cz x + k0), .int x1]) (PostI x N (rho u0 v0) rt ra rv) 0 0 (cA x) := by
  refine j_entry (by decide) rfl (Nat.le_of_ble_eq_true rfl) ?_
  intro p e s m below meth c F hsz hnm
  have F : Fx p s m meth c cX6_hasWord 2 RX6 (some .boolean) x := F
  unfold fX6_hasWord at h
  show J p l e _ s m _ below meth c x N (rho u0 v0) 2 0 0 _ 0 [(0, .ref (cz x + k0)), (1, .int x1)] [] t a
  refine j_iload_n F 1 dX6_hasWord_0 rfl rfl ?_
  refine j_if_lt F 16 dX6_hasWord_1 rfl h (fun h => ?_) (fun h => ?_)
  · refine j_iconst F dX6_hasWord_16 cI_0 ?_
    exact j_zreturn F rfl dX6_hasWord_17 h
  · refine j_iload_n F 1 dX6_hasWord_4 rfl rfl ?_
    refine j_aload_n F 0 dX6_hasWord_5 rfl rfl ?_
    refine j_getI F clX6 (j := 4) (tt := (64 * k0 + 4)) (Tg_lt hk0 hN) (Tg_l hk0) (Nat.le_of_ble_eq_true rfl) rfl qf_X6_30 rfl dX6_hasWord_6 ?_
    refine j_icmp_ge F 16 dX6_hasWord_9 rfl h (fun h => ?_) (fun h => ?_)
    · refine j_iconst F dX6_hasWord_16 cI_0 ?_
      exact j_zreturn F rfl dX6_hasWord_17 h
    · refine j_iconst F dX6_hasWord_12 cI_1 ?_
      refine j_goto F 17 dX6_hasWord_13 rfl ?_
      exact j_zreturn F rfl dX6_hasWord_17 h
def gX6_weightOf_4 (nF : Nat) (k0 : Nat) (r4 : Int32 → Int32 → Int32 → sT → sA → Rs) (x1 x2 x3 : Int32) (t : sT) (a : sA) : Rs := if (8 : Int32) ≤ x3 then (some (x2, t, a)) else (if ((x1 >>> (x3 &&& 31)) &&& (1 : Int32)) = 0 then (r4 x1 x2 (x3 + (1 : Int32)) t a) else (bnd x3 8 (r4 x1 (x2 + (a (k0 + 3) x3.toNatClampNeg)) (x3 + (1 : Int32)) t a)))
def gX6_weightOf (nF : Nat) (k0 : Nat) : Nat → (Int32 → Int32 → Int32 → sT → sA → Rs)
  | 0 => (fun _ _ _ _ _ => none)
  | n9 + 1 => (gX6_weightOf_4 nF k0 (gX6_weightOf nF k0 n9))
def fX6_weightOf (nF : Nat) (k0 : Nat) (x1 : Int32) (t : sT) (a : sA) : Rs := (gX6_weightOf nF k0 nF) x1 (0 : Int32) (0 : Int32) t a
set_option maxRecDepth 100000 in
set_option maxHeartbeats 4000000 in
theorem hX6_weightOf {p : Program} {l : Launch} {e : Env} {s : State} {m : MethodId} {args : Array Value} {below : List Frame} {meth : Method} {c : Code} {x : Cx} {N : Nat} {u0 v0 : Option Nat} {nF : Nat} {k0 : Nat} (F : Fx p s m meth c cX6_weightOf 4 RX6 (some .int) x) (hsz : s.heap.size = cz x + N) (hN : 653 ≤ N) (hk0 : isTg k0) {rv : Int32} {rt : sT} {ra : sA} : ∀ n9 : Nat, (∀ (x1 x2 x3 : Int32) (t : sT) (a : sA), (gX6_weightOf nF k0 n9) x1 x2 x3 t a = some (rv, rt, ra) → J p l e (k2_rm 0 0) s m args below meth c x N (rho u0 v0) 4 0 0 (MQ below (PostI x N (rho u0 v0) rt ra rv) args s 0 0 (cA x)) 4 [(0, .ref (cz x + k0)), (1, .int x1), (2, .int x2), (3, .int x3)] [] t a) := by
  intro n9
  induction n9 with
  | zero => exact fun _ _ _ _ _ h => (by cases h)
  | succ n9 ih =>
    intro x1 x2 x3 t a h
    have h : gX6_weightOf_4 nF k0 (gX6_weightOf nF k0 n9) x1 x2 x3 t a = some (rv, rt, ra) := h
    unfold gX6_weightOf_4 at h
    refine j_iload_n F 3 dX6_weightOf_4 rfl rfl ?_
    refine j_bipush F dX6_weightOf_5 cB_8 ?_
    refine j_icmp_ge F 33 dX6_weightOf_7 rfl h (fun h => ?_) (fun h => ?_)
    · refine j_iload_n F 2 dX6_weightOf_33 rfl rfl ?_
      exact j_ireturn F rfl dX6_weightOf_34 h
    · refine j_iload_n F 1 dX6_weightOf_10 rfl rfl ?_
      refine j_iload_n F 3 dX6_weightOf_11 rfl rfl ?_
      refine j_ishr F dX6_weightOf_12 ?_
      refine j_iconst F dX6_weightOf_13 cI_1 ?_
      refine j_iand F dX6_weightOf_14 ?_
      refine j_if_eq F 27 dX6_weightOf_15 rfl h (fun h => ?_) (fun h => ?_)
      · refine j_iinc F (v := x3 + (1 : Int32)) (lv' := [(3, .int (x3 + (1 : Int32))), (0, .ref (cz x + k0)), (1, .int x1), (2, .int x2)]) dX6_weightOf_27 3 rfl (congrArg (fun z => x3 + z) cI_1) (Nat.le_of_ble_eq_true rfl) rfl ?_
        refine j_goto F 4 dX6_weightOf_30 rfl ?_
        exact j_lv [1, 2, 3, 0] rfl (ih _ _ _ _ _ h)
      · refine j_iload_n F 2 dX6_weightOf_18 rfl rfl ?_
        refine j_aload_n F 0 dX6_weightOf_19 rfl rfl ?_
        refine j_getR F clX6 (j := 2) (Tg_lt hk0 hN) (Tg_l hk0) (Nat.le_of_ble_eq_true rfl) rfl qf_X6_18 (Tg_r2 hk0) dX6_weightOf_20 ?_
        refine j_iload_n F 3 dX6_weightOf_23 rfl rfl ?_
        refine j_iald F (Tg_lt3 hk0 hN) (Tg_l3 hk0) dX6_weightOf_24 h (fun h => ?_)
        refine j_iadd F dX6_weightOf_25 ?_
        refine j_istore_n F (lv' := [(2, .int (x2 + (a (k0 + 3) x3.toNatClampNeg))), (0, .ref (cz x + k0)), (1, .int x1), (3, .int x3)]) dX6_weightOf_26 rfl (Nat.le_of_ble_eq_true rfl) rfl ?_
        refine j_iinc F (v := x3 + (1 : Int32)) (lv' := [(3, .int (x3 + (1 : Int32))), (2, .int (x2 + (a (k0 + 3) x3.toNatClampNeg))), (0, .ref (cz x + k0)), (1, .int x1)]) dX6_weightOf_27 3 rfl (congrArg (fun z => x3 + z) cI_1) (Nat.le_of_ble_eq_true rfl) rfl ?_
        refine j_goto F 4 dX6_weightOf_30 rfl ?_
        exact j_lv [2, 3, 1, 0] rfl (ih _ _ _ _ _ h)
set_option maxRecDepth 100000 in
set_option maxHeartbeats 4000000 in
theorem kX6_weightOf (l : Launch) {x : Cx} {N : Nat} {u0 v0 : Option Nat} {nF : Nat} {k0 : Nat} {x1 : Int32} {t : sT} {a : sA} {rv : Int32} {rt : sT} {ra : sA} (hN : 653 ≤ N) (hk0 : isTg k0) (h : fX6_weightOf nF k0 x1 t a = some (rv, rt, ra)) : Met l yX6_weightOf [.code yX6_weightOf cX6_weightOf 4 (some .int)] (k2_rm 0 0) (Pre x N (rho u0 v0) t a [.ref (cz x + k0), .int x1]) (PostI x N (rho u0 v0) rt ra rv) 0 0 (cA x) := by
  refine j_entry (by decide) rfl (Nat.le_of_ble_eq_true rfl) ?_
  intro p e s m below meth c F hsz hnm
  have F : Fx p s m meth c cX6_weightOf 4 RX6 (some .int) x := F
  unfold fX6_weightOf at h
  show J p l e _ s m _ below meth c x N (rho u0 v0) 4 0 0 _ 0 [(0, .ref (cz x + k0)), (1, .int x1)] [] t a
  refine j_iconst F dX6_weightOf_0 cI_0 ?_
  refine j_istore_n F (lv' := [(2, .int (0 : Int32)), (0, .ref (cz x + k0)), (1, .int x1)]) dX6_weightOf_1 rfl (Nat.le_of_ble_eq_true rfl) rfl ?_
  refine j_iconst F dX6_weightOf_2 cI_0 ?_
  refine j_istore_n F (lv' := [(3, .int (0 : Int32)), (2, .int (0 : Int32)), (0, .ref (cz x + k0)), (1, .int x1)]) dX6_weightOf_3 rfl (Nat.le_of_ble_eq_true rfl) rfl ?_
  exact j_lv [2, 3, 1, 0] rfl ((hX6_weightOf F hsz hN hk0 nF) _ _ _ _ _ h)
def fX7_asBit (nF : Nat) (x0 : Int32) (t : sT) (a : sA) : Rs := if x0 = 0 then (some ((0 : Int32), t, a)) else (some ((1 : Int32), t, a))
set_option maxRecDepth 100000 in
set_option maxHeartbeats 4000000 in
theorem kX7_asBit (l : Launch) {x : Cx} {N : Nat} {u0 v0 : Option Nat} {nF : Nat} {x0 : Int32} {t : sT} {a : sA} {rv : Int32} {rt : sT} {ra : sA} (hN : 653 ≤ N) (h : fX7_asBit nF x0 t a = some (rv, rt, ra)) : Met l yX7_asBit [.code yX7_asBit cX7_asBit 1 (some .int)] (k2_rm 0 0) (Pre x N (rho u0 v0) t a [.int x0]) (PostI x N (rho u0 v0) rt ra rv) 0 0 (cA x) := by
  refine j_entry (by decide) rfl (Nat.le_of_ble_eq_true rfl) ?_
  intro p e s m below meth c F hsz hnm
  have F : Fx p s m meth c cX7_asBit 1 RX7 (some .int) x := F
  unfold fX7_asBit at h
  show J p l e _ s m _ below meth c x N (rho u0 v0) 1 0 0 _ 0 [(0, .int x0)] [] t a
  refine j_iload_n F 0 dX7_asBit_0 rfl rfl ?_
  refine j_if_eq F 8 dX7_asBit_1 rfl h (fun h => ?_) (fun h => ?_)
  · refine j_iconst F dX7_asBit_8 cI_0 ?_
    exact j_ireturn F rfl dX7_asBit_9 h
  · refine j_iconst F dX7_asBit_4 cI_1 ?_
    refine j_goto F 9 dX7_asBit_5 rfl ?_
    exact j_ireturn F rfl dX7_asBit_9 h
def gX7_commonDivisor_7 (nF : Nat) (r7 : Int32 → Int32 → Int32 → sT → sA → Rs) (x2 x3 x4 : Int32) (t : sT) (a : sA) : Rs := if x3 = 0 then (some (x2, t, a)) else (if (100 : Int32) ≤ x4 then (some (x2, t, a)) else (dvz x3 (r7 x3 (x2 - x2 / x3 * x3) (x4 + (1 : Int32)) t a)))
def gX7_commonDivisor (nF : Nat) : Nat → (Int32 → Int32 → Int32 → sT → sA → Rs)
  | 0 => (fun _ _ _ _ _ => none)
  | n9 + 1 => (gX7_commonDivisor_7 nF (gX7_commonDivisor nF n9))
def fX7_commonDivisor (nF : Nat) (x0 : Int32) (x1 : Int32) (t : sT) (a : sA) : Rs := (gX7_commonDivisor nF nF) x0 x1 (0 : Int32) t a
set_option maxRecDepth 100000 in
set_option maxHeartbeats 4000000 in
theorem hX7_commonDivisor {p : Program} {l : Launch} {e : Env} {s : State} {m : MethodId} {args : Array Value} {below : List Frame} {meth : Method} {c : Code} {x : Cx} {N : Nat} {u0 v0 : Option Nat} {nF : Nat} (F : Fx p s m meth c cX7_commonDivisor 6 RX7 (some .int) x) (hsz : s.heap.size = cz x + N) (hN : 653 ≤ N) {rv : Int32} {rt : sT} {ra : sA} : ∀ n9 : Nat, (∀ (x2 x3 x4 : Int32) (t : sT) (a : sA), (gX7_commonDivisor nF n9) x2 x3 x4 t a = some (rv, rt, ra) → J p l e (k2_rm 0 0) s m args below meth c x N (rho u0 v0) 6 0 0 (MQ below (PostI x N (rho u0 v0) rt ra rv) args s 0 0 (cA x)) 7 [(2, .int x2), (3, .int x3), (4, .int x4)] [] t a) := by
  intro n9
  induction n9 with
  | zero => exact fun _ _ _ _ _ h => (by cases h)
  | succ n9 ih =>
    intro x2 x3 x4 t a h
    have h : gX7_commonDivisor_7 nF (gX7_commonDivisor nF n9) x2 x3 x4 t a = some (rv, rt, ra) := h
    unfold gX7_commonDivisor_7 at h
    refine j_iload_n F 1 dX7_commonDivisor_7 rfl rfl ?_
    refine j_if_eq F 34 dX7_commonDivisor_8 rfl h (fun h => ?_) (fun h => ?_)
    · refine j_iload_n F 0 dX7_commonDivisor_34 rfl rfl ?_
      exact j_ireturn F rfl dX7_commonDivisor_35 h
    · refine j_iload F 2 dX7_commonDivisor_11 rfl ?_
      refine j_bipush F dX7_commonDivisor_13 cB_100 ?_
      refine j_icmp_ge F 34 dX7_commonDivisor_15 rfl h (fun h => ?_) (fun h => ?_)
      · refine j_iload_n F 0 dX7_commonDivisor_34 rfl rfl ?_
        exact j_ireturn F rfl dX7_commonDivisor_35 h
      · refine j_iload_n F 0 dX7_commonDivisor_18 rfl rfl ?_
        refine j_iload_n F 1 dX7_commonDivisor_19 rfl rfl ?_
        refine j_irem F dX7_commonDivisor_20 h (fun h => ?_)
        refine j_istore F (k := 0) (lv' := [(5, .int (x2 - x2 / x3 * x3)), (2, .int x2), (3, .int x3), (4, .int x4)]) dX7_commonDivisor_21 (Nat.le_of_ble_eq_true rfl) rfl ?_
        refine j_iload_n F 2 dX7_commonDivisor_23 rfl rfl ?_
        refine j_istore_n F (lv' := [(2, .int x3), (5, .int (x2 - x2 / x3 * x3)), (3, .int x3), (4, .int x4)]) dX7_commonDivisor_24 rfl (Nat.le_of_ble_eq_true rfl) rfl ?_
        refine j_iload F 1 dX7_commonDivisor_25 rfl ?_
        refine j_istore_n F (lv' := [(3, .int (x2 - x2 / x3 * x3)), (2, .int x3), (5, .int (x2 - x2 / x3 * x3)), (4, .int x4)]) dX7_commonDivisor_27 rfl (Nat.le_of_ble_eq_true rfl) rfl ?_
        refine j_iinc F (v := x4 + (1 : Int32)) (lv' := [(4, .int (x4 + (1 : Int32))), (3, .int (x2 - x2 / x3 * x3)), (2, .int x3), (5, .int (x2 - x2 / x3 * x3))]) dX7_commonDivisor_28 3 rfl (congrArg (fun z => x4 + z) cI_1) (Nat.le_of_ble_eq_true rfl) rfl ?_
        refine j_goto F 7 dX7_commonDivisor_31 rfl ?_
        exact j_lv [2, 1, 0] rfl (ih _ _ _ _ _ h)
set_option maxRecDepth 100000 in
set_option maxHeartbeats 4000000 in
theorem kX7_commonDivisor (l : Launch) {x : Cx} {N : Nat} {u0 v0 : Option Nat} {nF : Nat} {x0 : Int32} {x1 : Int32} {t : sT} {a : sA} {rv : Int32} {rt : sT} {ra : sA} (hN : 653 ≤ N) (h : fX7_commonDivisor nF x0 x1 t a = some (rv, rt, ra)) : Met l yX7_commonDivisor [.code yX7_commonDivisor cX7_commonDivisor 6 (some .int)] (k2_rm 0 0) (Pre x N (rho u0 v0) t a [.int x0, .int x1]) (PostI x N (rho u0 v0) rt ra rv) 0 0 (cA x) := by
  refine j_entry (by decide) rfl (Nat.le_of_ble_eq_true rfl) ?_
  intro p e s m below meth c F hsz hnm
  have F : Fx p s m meth c cX7_commonDivisor 6 RX7 (some .int) x := F
  unfold fX7_commonDivisor at h
  show J p l e _ s m _ below meth c x N (rho u0 v0) 6 0 0 _ 0 [(0, .int x0), (1, .int x1)] [] t a
  refine j_iload_n F 0 dX7_commonDivisor_0 rfl rfl ?_
  refine j_istore_n F (lv' := [(2, .int x0), (0, .int x0), (1, .int x1)]) dX7_commonDivisor_1 rfl (Nat.le_of_ble_eq_true rfl) rfl ?_
  refine j_iload_n F 2 dX7_commonDivisor_2 rfl rfl ?_
  refine j_istore_n F (lv' := [(3, .int x1), (2, .int x0), (0, .int x0), (1, .int x1)]) dX7_commonDivisor_3 rfl (Nat.le_of_ble_eq_true rfl) rfl ?_
  refine j_iconst F dX7_commonDivisor_4 cI_0 ?_
  refine j_istore F (k := 0) (lv' := [(4, .int (0 : Int32)), (3, .int x1), (2, .int x0), (0, .int x0), (1, .int x1)]) dX7_commonDivisor_5 (Nat.le_of_ble_eq_true rfl) rfl ?_
  exact j_lv [2, 1, 0] rfl ((hX7_commonDivisor F hsz hN nF) _ _ _ _ _ h)
def fX7_count (nF : Nat) (x1 : Int32) (t : sT) (a : sA) : Rs := if x1 < (11 : Int32) then (if x1 = (0 : Int32) then (some (t 196, t, a)) else (if x1 = (1 : Int32) then (some (t 197, t, a)) else (if x1 = (2 : Int32) then (some (t 1089, t, a)) else (if x1 = (3 : Int32) then (some (t 833, t, a)) else (if x1 = (4 : Int32) then (some (t 65, t, a)) else (if x1 = (5 : Int32) then (some (t 198, t, a)) else (if x1 = (6 : Int32) then (some (t 199, t, a)) else (if x1 = (7 : Int32) then (cal (fX6_weightOf nF 3 (255 : Int32) t a) (fun v2 t2 a2 => some (v2, t2, a2))) else (if x1 = (8 : Int32) then (some (t 961, t, a)) else (some ((-9 : Int32), t, a))))))))))) else (if (16 : Int32) < x1 then (if x1 = (0 : Int32) then (some (t 196, t, a)) else (if x1 = (1 : Int32) then (some (t 197, t, a)) else (if x1 = (2 : Int32) then (some (t 1089, t, a)) else (if x1 = (3 : Int32) then (some (t 833, t, a)) else (if x1 = (4 : Int32) then (some (t 65, t, a)) else (if x1 = (5 : Int32) then (some (t 198, t, a)) else (if x1 = (6 : Int32) then (some (t 199, t, a)) else (if x1 = (7 : Int32) then (cal (fX6_weightOf nF 3 (255 : Int32) t a) (fun v4 t4 a4 => some (v4, t4, a4))) else (if x1 = (8 : Int32) then (some (t 961, t, a)) else (some ((-9 : Int32), t, a))))))))))) else (bnd (x1 - (10 : Int32)) 7 (some (a 49 (x1 - (10 : Int32)).toNatClampNeg, t, a))))
set_option maxRecDepth 100000 in
set_option maxHeartbeats 4000000 in
theorem kX7_count (l : Launch) {x : Cx} {N : Nat} {u0 v0 : Option Nat} {nF : Nat} {x1 : Int32} {t : sT} {a : sA} {rv : Int32} {rt : sT} {ra : sA} (hN : 653 ≤ N) (h : fX7_count nF x1 t a = some (rv, rt, ra)) : Met l yX7_count [.code yX7_count cX7_count 2 (some .int)] (k2_rm 1 23) (Pre x N (rho u0 v0) t a [.ref (cz x + 0), .int x1]) (PostI x N (rho u0 v0) rt ra rv) 0 0 (cA x) := by
  refine j_entry (by decide) rfl (Nat.le_of_ble_eq_true rfl) ?_
  intro p e s m below meth c F hsz hnm
  have F : Fx p s m meth c cX7_count 2 RX7 (some .int) x := F
  unfold fX7_count at h
  show J p l e _ s m _ below meth c x N (rho u0 v0) 2 0 0 _ 0 [(0, .ref (cz x + 0)), (1, .int x1)] [] t a
  refine j_iload_n F 1 dX7_count_0 rfl rfl ?_
  refine j_bipush F dX7_count_1 cB_11 ?_
  refine j_icmp_lt F 22 dX7_count_3 rfl h (fun h => ?_) (fun h => ?_)
  · refine j_iload_n F 1 dX7_count_22 rfl rfl ?_
    refine ifE h (fun e1_0 h => ?_) (fun e1_0 h => ?_)
    · refine j_tsI F 72 dX7_count_23 e1_0 (by decide) (by decide) rfl rfl ?_
      refine j_aload_n F 0 dX7_count_72 rfl rfl ?_
      refine j_getR F clX7 (j := 1) (lt653 rfl hN) ly0 (Nat.le_of_ble_eq_true rfl) rfl qf_X7_19 rfl dX7_count_73 ?_
      refine j_getI F clX6 (j := 4) (tt := 196) (lt653 rfl hN) ly3 (Nat.le_of_ble_eq_true rfl) rfl qf_X7_174 rfl dX7_count_76 ?_
      exact j_ireturn F rfl dX7_count_79 h
    · refine ifE h (fun e1_1 h => ?_) (fun e1_1 h => ?_)
      · refine j_tsI F 80 dX7_count_23 e1_1 (by decide) (by decide) rfl rfl ?_
        refine j_aload_n F 0 dX7_count_80 rfl rfl ?_
        refine j_getR F clX7 (j := 1) (lt653 rfl hN) ly0 (Nat.le_of_ble_eq_true rfl) rfl qf_X7_19 rfl dX7_count_81 ?_
        refine j_getI F clX6 (j := 5) (tt := 197) (lt653 rfl hN) ly3 (Nat.le_of_ble_eq_true rfl) rfl qf_X7_246 rfl dX7_count_84 ?_
        exact j_ireturn F rfl dX7_count_87 h
      · refine ifE h (fun e1_2 h => ?_) (fun e1_2 h => ?_)
        · refine j_tsI F 88 dX7_count_23 e1_2 (by decide) (by decide) rfl rfl ?_
          refine j_aload_n F 0 dX7_count_88 rfl rfl ?_
          refine j_getR F clX7 (j := 5) (lt653 rfl hN) ly0 (Nat.le_of_ble_eq_true rfl) rfl qf_X7_39 rfl dX7_count_89 ?_
          refine j_getI F clX5 (j := 1) (tt := 1089) (lt653 rfl hN) ly17 (Nat.le_of_ble_eq_true rfl) rfl qf_X7_203 rfl dX7_count_92 ?_
          exact j_ireturn F rfl dX7_count_95 h
        · refine ifE h (fun e1_3 h => ?_) (fun e1_3 h => ?_)
          · refine j_tsI F 96 dX7_count_23 e1_3 (by decide) (by decide) rfl rfl ?_
            refine j_aload_n F 0 dX7_count_96 rfl rfl ?_
            refine j_getR F clX7 (j := 3) (lt653 rfl hN) ly0 (Nat.le_of_ble_eq_true rfl) rfl qf_X7_29 rfl dX7_count_97 ?_
            refine j_getI F clX2 (j := 1) (tt := 833) (lt653 rfl hN) ly13 (Nat.le_of_ble_eq_true rfl) rfl qf_X7_190 rfl dX7_count_100 ?_
            exact j_ireturn F rfl dX7_count_103 h
          · refine ifE h (fun e1_4 h => ?_) (fun e1_4 h => ?_)
            · refine j_tsI F 104 dX7_count_23 e1_4 (by decide) (by decide) rfl rfl ?_
              refine j_aload_n F 0 dX7_count_104 rfl rfl ?_
              refine j_getR F clX7 (j := 0) (lt653 rfl hN) ly0 (Nat.le_of_ble_eq_true rfl) rfl qf_X7_10 rfl dX7_count_105 ?_
              refine j_getI F clX1 (j := 1) (tt := 65) (lt653 rfl hN) ly1 (Nat.le_of_ble_eq_true rfl) rfl qf_X7_70 rfl dX7_count_108 ?_
              exact j_ireturn F rfl dX7_count_111 h
            · refine ifE h (fun e1_5 h => ?_) (fun e1_5 h => ?_)
              · refine j_tsI F 112 dX7_count_23 e1_5 (by decide) (by decide) rfl rfl ?_
                refine j_aload_n F 0 dX7_count_112 rfl rfl ?_
                refine j_getR F clX7 (j := 1) (lt653 rfl hN) ly0 (Nat.le_of_ble_eq_true rfl) rfl qf_X7_19 rfl dX7_count_113 ?_
                refine j_getI F clX6 (j := 6) (tt := 198) (lt653 rfl hN) ly3 (Nat.le_of_ble_eq_true rfl) rfl qf_X7_115 rfl dX7_count_116 ?_
                exact j_ireturn F rfl dX7_count_119 h
              · refine ifE h (fun e1_6 h => ?_) (fun e1_6 h => ?_)
                · refine j_tsI F 120 dX7_count_23 e1_6 (by decide) (by decide) rfl rfl ?_
                  refine j_aload_n F 0 dX7_count_120 rfl rfl ?_
                  refine j_getR F clX7 (j := 1) (lt653 rfl hN) ly0 (Nat.le_of_ble_eq_true rfl) rfl qf_X7_19 rfl dX7_count_121 ?_
                  refine j_getI F clX6 (j := 7) (tt := 199) (lt653 rfl hN) ly3 (Nat.le_of_ble_eq_true rfl) rfl qf_X7_109 rfl dX7_count_124 ?_
                  exact j_ireturn F rfl dX7_count_127 h
                · refine ifE h (fun e1_7 h => ?_) (fun e1_7 h => ?_)
                  · refine j_tsI F 128 dX7_count_23 e1_7 (by decide) (by decide) rfl rfl ?_
                    refine j_aload_n F 0 dX7_count_128 rfl rfl ?_
                    refine j_getR F clX7 (j := 1) (lt653 rfl hN) ly0 (Nat.le_of_ble_eq_true rfl) rfl qf_X7_19 rfl dX7_count_129 ?_
                    refine j_sipush F dX7_count_132 cS_255 ?_
                    refine j_callVi F mwX6_weightOf ql_X7_197 clX6 (lt653 rfl hN) ly3 [.int (255 : Int32)] rfl ⟨rfl, rfl, Nat.le_of_ble_eq_true rfl, Nat.le_of_ble_eq_true rfl⟩ ⟨Nat.le_refl 0, Nat.le_refl 0⟩ rfl (Nat.le_of_ble_eq_true rfl) dX7_count_135 (fun _ _ _ h9 => kX6_weightOf l hN tg3 h9) h (fun v2 t2 a2 e2 h => ?_)
                    exact j_ireturn F rfl dX7_count_138 h
                  · refine ifE h (fun e1_8 h => ?_) (fun e1_8 h => ?_)
                    · refine j_tsI F 139 dX7_count_23 e1_8 (by decide) (by decide) rfl rfl ?_
                      refine j_aload_n F 0 dX7_count_139 rfl rfl ?_
                      refine j_getR F clX7 (j := 4) (lt653 rfl hN) ly0 (Nat.le_of_ble_eq_true rfl) rfl qf_X7_33 rfl dX7_count_140 ?_
                      refine j_getI F clX2 (j := 1) (tt := 961) (lt653 rfl hN) ly15 (Nat.le_of_ble_eq_true rfl) rfl qf_X7_190 rfl dX7_count_143 ?_
                      exact j_ireturn F rfl dX7_count_146 h
                    · refine j_tsD F 147 dX7_count_23 rfl (fun i hi => ?_) rfl ?_
                      · have hi : i < 9 := hi
                        have hi : i = 0 ∨ i = 1 ∨ i = 2 ∨ i = 3 ∨ i = 4 ∨ i = 5 ∨ i = 6 ∨ i = 7 ∨ i = 8 := by omega
                        rcases hi with rfl | rfl | rfl | rfl | rfl | rfl | rfl | rfl | rfl
                        · exact Or.inr (by have h9 := lv_neT (a := 0) e1_0 rfl; omega)
                        · exact Or.inr (by have h9 := lv_neT (a := 1) e1_1 rfl; omega)
                        · exact Or.inr (by have h9 := lv_neT (a := 2) e1_2 rfl; omega)
                        · exact Or.inr (by have h9 := lv_neT (a := 3) e1_3 rfl; omega)
                        · exact Or.inr (by have h9 := lv_neT (a := 4) e1_4 rfl; omega)
                        · exact Or.inr (by have h9 := lv_neT (a := 5) e1_5 rfl; omega)
                        · exact Or.inr (by have h9 := lv_neT (a := 6) e1_6 rfl; omega)
                        · exact Or.inr (by have h9 := lv_neT (a := 7) e1_7 rfl; omega)
                        · exact Or.inr (by have h9 := lv_neT (a := 8) e1_8 rfl; omega)
                      refine j_bipush F dX7_count_147 cB_m9 ?_
                      exact j_ireturn F rfl dX7_count_149 h
  · refine j_iload_n F 1 dX7_count_6 rfl rfl ?_
    refine j_bipush F dX7_count_7 cB_16 ?_
    refine j_icmp_gt F 22 dX7_count_9 rfl h (fun h => ?_) (fun h => ?_)
    · refine j_iload_n F 1 dX7_count_22 rfl rfl ?_
      refine ifE h (fun e3_0 h => ?_) (fun e3_0 h => ?_)
      · refine j_tsI F 72 dX7_count_23 e3_0 (by decide) (by decide) rfl rfl ?_
        refine j_aload_n F 0 dX7_count_72 rfl rfl ?_
        refine j_getR F clX7 (j := 1) (lt653 rfl hN) ly0 (Nat.le_of_ble_eq_true rfl) rfl qf_X7_19 rfl dX7_count_73 ?_
        refine j_getI F clX6 (j := 4) (tt := 196) (lt653 rfl hN) ly3 (Nat.le_of_ble_eq_true rfl) rfl qf_X7_174 rfl dX7_count_76 ?_
        exact j_ireturn F rfl dX7_count_79 h
      · refine ifE h (fun e3_1 h => ?_) (fun e3_1 h => ?_)
        · refine j_tsI F 80 dX7_count_23 e3_1 (by decide) (by decide) rfl rfl ?_
          refine j_aload_n F 0 dX7_count_80 rfl rfl ?_
          refine j_getR F clX7 (j := 1) (lt653 rfl hN) ly0 (Nat.le_of_ble_eq_true rfl) rfl qf_X7_19 rfl dX7_count_81 ?_
          refine j_getI F clX6 (j := 5) (tt := 197) (lt653 rfl hN) ly3 (Nat.le_of_ble_eq_true rfl) rfl qf_X7_246 rfl dX7_count_84 ?_
          exact j_ireturn F rfl dX7_count_87 h
        · refine ifE h (fun e3_2 h => ?_) (fun e3_2 h => ?_)
          · refine j_tsI F 88 dX7_count_23 e3_2 (by decide) (by decide) rfl rfl ?_
            refine j_aload_n F 0 dX7_count_88 rfl rfl ?_
            refine j_getR F clX7 (j := 5) (lt653 rfl hN) ly0 (Nat.le_of_ble_eq_true rfl) rfl qf_X7_39 rfl dX7_count_89 ?_
            refine j_getI F clX5 (j := 1) (tt := 1089) (lt653 rfl hN) ly17 (Nat.le_of_ble_eq_true rfl) rfl qf_X7_203 rfl dX7_count_92 ?_
            exact j_ireturn F rfl dX7_count_95 h
          · refine ifE h (fun e3_3 h => ?_) (fun e3_3 h => ?_)
            · refine j_tsI F 96 dX7_count_23 e3_3 (by decide) (by decide) rfl rfl ?_
              refine j_aload_n F 0 dX7_count_96 rfl rfl ?_
              refine j_getR F clX7 (j := 3) (lt653 rfl hN) ly0 (Nat.le_of_ble_eq_true rfl) rfl qf_X7_29 rfl dX7_count_97 ?_
              refine j_getI F clX2 (j := 1) (tt := 833) (lt653 rfl hN) ly13 (Nat.le_of_ble_eq_true rfl) rfl qf_X7_190 rfl dX7_count_100 ?_
              exact j_ireturn F rfl dX7_count_103 h
            · refine ifE h (fun e3_4 h => ?_) (fun e3_4 h => ?_)
              · refine j_tsI F 104 dX7_count_23 e3_4 (by decide) (by decide) rfl rfl ?_
                refine j_aload_n F 0 dX7_count_104 rfl rfl ?_
                refine j_getR F clX7 (j := 0) (lt653 rfl hN) ly0 (Nat.le_of_ble_eq_true rfl) rfl qf_X7_10 rfl dX7_count_105 ?_
                refine j_getI F clX1 (j := 1) (tt := 65) (lt653 rfl hN) ly1 (Nat.le_of_ble_eq_true rfl) rfl qf_X7_70 rfl dX7_count_108 ?_
                exact j_ireturn F rfl dX7_count_111 h
              · refine ifE h (fun e3_5 h => ?_) (fun e3_5 h => ?_)
                · refine j_tsI F 112 dX7_count_23 e3_5 (by decide) (by decide) rfl rfl ?_
                  refine j_aload_n F 0 dX7_count_112 rfl rfl ?_
                  refine j_getR F clX7 (j := 1) (lt653 rfl hN) ly0 (Nat.le_of_ble_eq_true rfl) rfl qf_X7_19 rfl dX7_count_113 ?_
                  refine j_getI F clX6 (j := 6) (tt := 198) (lt653 rfl hN) ly3 (Nat.le_of_ble_eq_true rfl) rfl qf_X7_115 rfl dX7_count_116 ?_
                  exact j_ireturn F rfl dX7_count_119 h
                · refine ifE h (fun e3_6 h => ?_) (fun e3_6 h => ?_)
                  · refine j_tsI F 120 dX7_count_23 e3_6 (by decide) (by decide) rfl rfl ?_
                    refine j_aload_n F 0 dX7_count_120 rfl rfl ?_
                    refine j_getR F clX7 (j := 1) (lt653 rfl hN) ly0 (Nat.le_of_ble_eq_true rfl) rfl qf_X7_19 rfl dX7_count_121 ?_
                    refine j_getI F clX6 (j := 7) (tt := 199) (lt653 rfl hN) ly3 (Nat.le_of_ble_eq_true rfl) rfl qf_X7_109 rfl dX7_count_124 ?_
                    exact j_ireturn F rfl dX7_count_127 h
                  · refine ifE h (fun e3_7 h => ?_) (fun e3_7 h => ?_)
                    · refine j_tsI F 128 dX7_count_23 e3_7 (by decide) (by decide) rfl rfl ?_
                      refine j_aload_n F 0 dX7_count_128 rfl rfl ?_
                      refine j_getR F clX7 (j := 1) (lt653 rfl hN) ly0 (Nat.le_of_ble_eq_true rfl) rfl qf_X7_19 rfl dX7_count_129 ?_
                      refine j_sipush F dX7_count_132 cS_255 ?_
                      refine j_callVi F mwX6_weightOf ql_X7_197 clX6 (lt653 rfl hN) ly3 [.int (255 : Int32)] rfl ⟨rfl, rfl, Nat.le_of_ble_eq_true rfl, Nat.le_of_ble_eq_true rfl⟩ ⟨Nat.le_refl 0, Nat.le_refl 0⟩ rfl (Nat.le_of_ble_eq_true rfl) dX7_count_135 (fun _ _ _ h9 => kX6_weightOf l hN tg3 h9) h (fun v4 t4 a4 e4 h => ?_)
                      exact j_ireturn F rfl dX7_count_138 h
                    · refine ifE h (fun e3_8 h => ?_) (fun e3_8 h => ?_)
                      · refine j_tsI F 139 dX7_count_23 e3_8 (by decide) (by decide) rfl rfl ?_
                        refine j_aload_n F 0 dX7_count_139 rfl rfl ?_
                        refine j_getR F clX7 (j := 4) (lt653 rfl hN) ly0 (Nat.le_of_ble_eq_true rfl) rfl qf_X7_33 rfl dX7_count_140 ?_
                        refine j_getI F clX2 (j := 1) (tt := 961) (lt653 rfl hN) ly15 (Nat.le_of_ble_eq_true rfl) rfl qf_X7_190 rfl dX7_count_143 ?_
                        exact j_ireturn F rfl dX7_count_146 h
                      · refine j_tsD F 147 dX7_count_23 rfl (fun i hi => ?_) rfl ?_
                        · have hi : i < 9 := hi
                          have hi : i = 0 ∨ i = 1 ∨ i = 2 ∨ i = 3 ∨ i = 4 ∨ i = 5 ∨ i = 6 ∨ i = 7 ∨ i = 8 := by omega
                          rcases hi with rfl | rfl | rfl | rfl | rfl | rfl | rfl | rfl | rfl
                          · exact Or.inr (by have h9 := lv_neT (a := 0) e3_0 rfl; omega)
                          · exact Or.inr (by have h9 := lv_neT (a := 1) e3_1 rfl; omega)
                          · exact Or.inr (by have h9 := lv_neT (a := 2) e3_2 rfl; omega)
                          · exact Or.inr (by have h9 := lv_neT (a := 3) e3_3 rfl; omega)
                          · exact Or.inr (by have h9 := lv_neT (a := 4) e3_4 rfl; omega)
                          · exact Or.inr (by have h9 := lv_neT (a := 5) e3_5 rfl; omega)
                          · exact Or.inr (by have h9 := lv_neT (a := 6) e3_6 rfl; omega)
                          · exact Or.inr (by have h9 := lv_neT (a := 7) e3_7 rfl; omega)
                          · exact Or.inr (by have h9 := lv_neT (a := 8) e3_8 rfl; omega)
                        refine j_bipush F dX7_count_147 cB_m9 ?_
                        exact j_ireturn F rfl dX7_count_149 h
    · refine j_aload_n F 0 dX7_count_12 rfl rfl ?_
      refine j_getR F clX7 (j := 9) (lt653 rfl hN) ly0 (Nat.le_of_ble_eq_true rfl) rfl qf_X7_62 rfl dX7_count_13 ?_
      refine j_iload_n F 1 dX7_count_16 rfl rfl ?_
      refine j_bipush F dX7_count_17 cB_10 ?_
      refine j_isub F dX7_count_19 ?_
      refine j_iald F (lt653 rfl hN) ly49 dX7_count_20 h (fun h => ?_)
      exact j_ireturn F rfl dX7_count_21 h
def fX7_drawn (nF : Nat) (x0 : Int32) (x1 : Int32) (t : sT) (a : sA) : Rs := if 0 < x1 then (dvz (256 : Int32) (dvz x1 (some (((x0 &&& (2147483647 : Int32)) / (256 : Int32)) - ((x0 &&& (2147483647 : Int32)) / (256 : Int32)) / x1 * x1, t, a)))) else (some ((0 : Int32), t, a))
set_option maxRecDepth 100000 in
set_option maxHeartbeats 4000000 in
theorem kX7_drawn (l : Launch) {x : Cx} {N : Nat} {u0 v0 : Option Nat} {nF : Nat} {x0 : Int32} {x1 : Int32} {t : sT} {a : sA} {rv : Int32} {rt : sT} {ra : sA} (hN : 653 ≤ N) (h : fX7_drawn nF x0 x1 t a = some (rv, rt, ra)) : Met l yX7_drawn [.code yX7_drawn cX7_drawn 2 (some .int)] (k2_rm 0 0) (Pre x N (rho u0 v0) t a [.int x0, .int x1]) (PostI x N (rho u0 v0) rt ra rv) 0 0 (cA x) := by
  refine j_entry (by decide) rfl (Nat.le_of_ble_eq_true rfl) ?_
  intro p e s m below meth c F hsz hnm
  have F : Fx p s m meth c cX7_drawn 2 RX7 (some .int) x := F
  unfold fX7_drawn at h
  show J p l e _ s m _ below meth c x N (rho u0 v0) 2 0 0 _ 0 [(0, .int x0), (1, .int x1)] [] t a
  refine j_iload_n F 1 dX7_drawn_0 rfl rfl ?_
  refine j_if_gt F 8 dX7_drawn_1 rfl h (fun h => ?_) (fun h => ?_)
  · refine j_iload_n F 0 dX7_drawn_8 rfl rfl ?_
    refine j_ldcw F dX7_drawn_9 qc_X7_273 ?_
    refine j_iand F dX7_drawn_12 ?_
    refine j_sipush F dX7_drawn_13 cS_256 ?_
    refine j_idiv F dX7_drawn_16 h (fun h => ?_)
    refine j_iload_n F 1 dX7_drawn_17 rfl rfl ?_
    refine j_irem F dX7_drawn_18 h (fun h => ?_)
    exact j_ireturn F rfl dX7_drawn_19 h
  · refine j_iconst F dX7_drawn_4 cI_0 ?_
    refine j_goto F 19 dX7_drawn_5 rfl ?_
    exact j_ireturn F rfl dX7_drawn_19 h
def fX7_forgetSayings (nF : Nat) (t : sT) (a : sA) : Rs := zok (0 : Int32) (zok (0 : Int32) (some (0, va_up (va_up t 1233 (0 : Int32)) 1937 (0 : Int32), a)))
set_option maxRecDepth 100000 in
set_option maxHeartbeats 4000000 in
theorem kX7_forgetSayings (l : Launch) {x : Cx} {N : Nat} {u0 v0 : Option Nat} {nF : Nat} {t : sT} {a : sA} {rv : Int32} {rt : sT} {ra : sA} (hN : 653 ≤ N) (h : fX7_forgetSayings nF t a = some (rv, rt, ra)) : Met l yX7_forgetSayings [.code yX7_forgetSayings cX7_forgetSayings 1 none] (k2_rm 0 0) (Pre x N (rho u0 v0) t a [.ref (cz x + 0)]) (PostV x N (rho u0 v0) rt ra) 0 0 (cA x) := by
  refine j_entry (by decide) rfl (Nat.le_of_ble_eq_true rfl) ?_
  intro p e s m below meth c F hsz hnm
  have F : Fx p s m meth c cX7_forgetSayings 1 RX7 none x := F
  unfold fX7_forgetSayings at h
  show J p l e _ s m _ below meth c x N (rho u0 v0) 1 0 0 _ 0 [(0, .ref (cz x + 0))] [] t a
  refine j_aload_n F 0 dX7_forgetSayings_0 rfl rfl ?_
  refine j_getR F clX7 (j := 6) (lt653 rfl hN) ly0 (Nat.le_of_ble_eq_true rfl) rfl qf_X7_48 rfl dX7_forgetSayings_1 ?_
  refine j_iconst F dX7_forgetSayings_4 cI_0 ?_
  refine j_putZ F clX3 (j := 17) (tt := 1233) (lt653 rfl hN) ly19 (Nat.le_of_ble_eq_true rfl) rfl qf_X7_256 rfl rfl rfl dX7_forgetSayings_5 h (fun h => ?_)
  refine j_aload_n F 0 dX7_forgetSayings_8 rfl rfl ?_
  refine j_getR F clX7 (j := 7) (lt653 rfl hN) ly0 (Nat.le_of_ble_eq_true rfl) rfl qf_X7_52 rfl dX7_forgetSayings_9 ?_
  refine j_iconst F dX7_forgetSayings_12 cI_0 ?_
  refine j_putZ F clX3 (j := 17) (tt := 1937) (lt653 rfl hN) ly30 (Nat.le_of_ble_eq_true rfl) rfl qf_X7_256 rfl rfl rfl dX7_forgetSayings_13 h (fun h => ?_)
  exact j_vreturn F rfl dX7_forgetSayings_16 h
def fX7_image (nF : Nat) (t : sT) (a : sA) : Rs := cal (fX6_copyFrom nF 42 3 t a) (fun v1 t1 a1 => cal (fX5_copyFrom nF 47 17 t1 a1) (fun v2 t2 a2 => zok (1 : Int32) (some ((va_up (va_up t2 2626 (t2 10)) 2627 (1 : Int32)) 196, va_up (va_up t2 2626 (t2 10)) 2627 (1 : Int32), a2))))
set_option maxRecDepth 100000 in
set_option maxHeartbeats 4000000 in
theorem kX7_image (l : Launch) {x : Cx} {N : Nat} {u0 v0 : Option Nat} {nF : Nat} {t : sT} {a : sA} {rv : Int32} {rt : sT} {ra : sA} (hN : 653 ≤ N) (h : fX7_image nF t a = some (rv, rt, ra)) : Met l yX7_image [.code yX7_image cX7_image 1 (some .int)] (k2_rm 2 81) (Pre x N (rho u0 v0) t a [.ref (cz x + 0)]) (PostI x N (rho u0 v0) rt ra rv) 0 0 (cA x) := by
  refine j_entry (by decide) rfl (Nat.le_of_ble_eq_true rfl) ?_
  intro p e s m below meth c F hsz hnm
  have F : Fx p s m meth c cX7_image 1 RX7 (some .int) x := F
  unfold fX7_image at h
  show J p l e _ s m _ below meth c x N (rho u0 v0) 1 0 0 _ 0 [(0, .ref (cz x + 0))] [] t a
  refine j_aload_n F 0 dX7_image_0 rfl rfl ?_
  refine j_getR F clX7 (j := 8) (lt653 rfl hN) ly0 (Nat.le_of_ble_eq_true rfl) rfl qf_X7_58 rfl dX7_image_1 ?_
  refine j_getR F clX0 (j := 0) (lt653 rfl hN) ly41 (Nat.le_of_ble_eq_true rfl) rfl qf_X7_230 rfl dX7_image_4 ?_
  refine j_aload_n F 0 dX7_image_7 rfl rfl ?_
  refine j_getR F clX7 (j := 1) (lt653 rfl hN) ly0 (Nat.le_of_ble_eq_true rfl) rfl qf_X7_19 rfl dX7_image_8 ?_
  refine j_callVv F mwX6_copyFrom ql_X7_82 clX6 (lt653 rfl hN) ly42 [.ref (cz x + 3)] rfl ⟨rfl, rfl, Nat.le_of_ble_eq_true rfl, Nat.le_of_ble_eq_true rfl⟩ ⟨Nat.le_refl 0, Nat.le_refl 0⟩ rfl (Nat.le_of_ble_eq_true rfl) dX7_image_11 (fun _ _ _ h9 => kX6_copyFrom l hN tg42 tg3 h9) h (fun v1 t1 a1 e1 h => ?_)
  refine j_aload_n F 0 dX7_image_14 rfl rfl ?_
  refine j_getR F clX7 (j := 8) (lt653 rfl hN) ly0 (Nat.le_of_ble_eq_true rfl) rfl qf_X7_58 rfl dX7_image_15 ?_
  refine j_getR F clX0 (j := 1) (lt653 rfl hN) ly41 (Nat.le_of_ble_eq_true rfl) rfl qf_X7_233 rfl dX7_image_18 ?_
  refine j_aload_n F 0 dX7_image_21 rfl rfl ?_
  refine j_getR F clX7 (j := 5) (lt653 rfl hN) ly0 (Nat.le_of_ble_eq_true rfl) rfl qf_X7_39 rfl dX7_image_22 ?_
  refine j_callVv F mwX5_copyFrom ql_X7_236 clX5 (lt653 rfl hN) ly47 [.ref (cz x + 17)] rfl ⟨rfl, rfl, Nat.le_of_ble_eq_true rfl, Nat.le_of_ble_eq_true rfl⟩ ⟨Nat.le_refl 0, Nat.le_refl 0⟩ rfl (Nat.le_of_ble_eq_true rfl) dX7_image_25 (fun _ _ _ h9 => kX5_copyFrom l hN tk47 tk17 h9) h (fun v2 t2 a2 e2 h => ?_)
  refine j_aload_n F 0 dX7_image_28 rfl rfl ?_
  refine j_getR F clX7 (j := 8) (lt653 rfl hN) ly0 (Nat.le_of_ble_eq_true rfl) rfl qf_X7_58 rfl dX7_image_29 ?_
  refine j_aload_n F 0 dX7_image_32 rfl rfl ?_
  refine j_getI F clX7 (j := 10) (tt := 10) (lt653 rfl hN) ly0 (Nat.le_of_ble_eq_true rfl) rfl qf_X7_194 rfl dX7_image_33 ?_
  refine j_putI F clX0 (j := 2) (tt := 2626) (lt653 rfl hN) ly41 (Nat.le_of_ble_eq_true rfl) rfl qf_X7_239 rfl rfl rfl dX7_image_36 ?_
  refine j_aload_n F 0 dX7_image_39 rfl rfl ?_
  refine j_getR F clX7 (j := 8) (lt653 rfl hN) ly0 (Nat.le_of_ble_eq_true rfl) rfl qf_X7_58 rfl dX7_image_40 ?_
  refine j_iconst F dX7_image_43 cI_1 ?_
  refine j_putZ F clX0 (j := 3) (tt := 2627) (lt653 rfl hN) ly41 (Nat.le_of_ble_eq_true rfl) rfl qf_X7_242 rfl rfl rfl dX7_image_44 h (fun h => ?_)
  refine j_aload_n F 0 dX7_image_47 rfl rfl ?_
  refine j_getR F clX7 (j := 1) (lt653 rfl hN) ly0 (Nat.le_of_ble_eq_true rfl) rfl qf_X7_19 rfl dX7_image_48 ?_
  refine j_getI F clX6 (j := 4) (tt := 196) (lt653 rfl hN) ly3 (Nat.le_of_ble_eq_true rfl) rfl qf_X7_174 rfl dX7_image_51 ?_
  exact j_ireturn F rfl dX7_image_54 h
def fX7_isCase (nF : Nat) (x0 : Int32) (t : sT) (a : sA) : Rs := if x0 < 0 then (zok (0 : Int32) (some ((0 : Int32), t, a))) else (if (8 : Int32) ≤ x0 then (zok (0 : Int32) (some ((0 : Int32), t, a))) else (zok (1 : Int32) (some ((1 : Int32), t, a))))
set_option maxRecDepth 100000 in
set_option maxHeartbeats 4000000 in
theorem kX7_isCase (l : Launch) {x : Cx} {N : Nat} {u0 v0 : Option Nat} {nF : Nat} {x0 : Int32} {t : sT} {a : sA} {rv : Int32} {rt : sT} {ra : sA} (hN : 653 ≤ N) (h : fX7_isCase nF x0 t a = some (rv, rt, ra)) : Met l yX7_isCase [.code yX7_isCase cX7_isCase 1 (some .boolean)] (k2_rm 0 0) (Pre x N (rho u0 v0) t a [.int x0]) (PostI x N (rho u0 v0) rt ra rv) 0 0 (cA x) := by
  refine j_entry (by decide) rfl (Nat.le_of_ble_eq_true rfl) ?_
  intro p e s m below meth c F hsz hnm
  have F : Fx p s m meth c cX7_isCase 1 RX7 (some .boolean) x := F
  unfold fX7_isCase at h
  show J p l e _ s m _ below meth c x N (rho u0 v0) 1 0 0 _ 0 [(0, .int x0)] [] t a
  refine j_iload_n F 0 dX7_isCase_0 rfl rfl ?_
  refine j_if_lt F 14 dX7_isCase_1 rfl h (fun h => ?_) (fun h => ?_)
  · refine j_iconst F dX7_isCase_14 cI_0 ?_
    exact j_zreturn F rfl dX7_isCase_15 h
  · refine j_iload_n F 0 dX7_isCase_4 rfl rfl ?_
    refine j_bipush F dX7_isCase_5 cB_8 ?_
    refine j_icmp_ge F 14 dX7_isCase_7 rfl h (fun h => ?_) (fun h => ?_)
    · refine j_iconst F dX7_isCase_14 cI_0 ?_
      exact j_zreturn F rfl dX7_isCase_15 h
    · refine j_iconst F dX7_isCase_10 cI_1 ?_
      refine j_goto F 15 dX7_isCase_11 rfl ?_
      exact j_zreturn F rfl dX7_isCase_15 h
def fX7_isLaw (nF : Nat) (x0 : Int32) (t : sT) (a : sA) : Rs := if x0 < 0 then (zok (0 : Int32) (some ((0 : Int32), t, a))) else (if (5 : Int32) ≤ x0 then (zok (0 : Int32) (some ((0 : Int32), t, a))) else (zok (1 : Int32) (some ((1 : Int32), t, a))))
set_option maxRecDepth 100000 in
set_option maxHeartbeats 4000000 in
theorem kX7_isLaw (l : Launch) {x : Cx} {N : Nat} {u0 v0 : Option Nat} {nF : Nat} {x0 : Int32} {t : sT} {a : sA} {rv : Int32} {rt : sT} {ra : sA} (hN : 653 ≤ N) (h : fX7_isLaw nF x0 t a = some (rv, rt, ra)) : Met l yX7_isLaw [.code yX7_isLaw cX7_isLaw 1 (some .boolean)] (k2_rm 0 0) (Pre x N (rho u0 v0) t a [.int x0]) (PostI x N (rho u0 v0) rt ra rv) 0 0 (cA x) := by
  refine j_entry (by decide) rfl (Nat.le_of_ble_eq_true rfl) ?_
  intro p e s m below meth c F hsz hnm
  have F : Fx p s m meth c cX7_isLaw 1 RX7 (some .boolean) x := F
  unfold fX7_isLaw at h
  show J p l e _ s m _ below meth c x N (rho u0 v0) 1 0 0 _ 0 [(0, .int x0)] [] t a
  refine j_iload_n F 0 dX7_isLaw_0 rfl rfl ?_
  refine j_if_lt F 13 dX7_isLaw_1 rfl h (fun h => ?_) (fun h => ?_)
  · refine j_iconst F dX7_isLaw_13 cI_0 ?_
    exact j_zreturn F rfl dX7_isLaw_14 h
  · refine j_iload_n F 0 dX7_isLaw_4 rfl rfl ?_
    refine j_iconst F dX7_isLaw_5 cI_5 ?_
    refine j_icmp_ge F 13 dX7_isLaw_6 rfl h (fun h => ?_) (fun h => ?_)
    · refine j_iconst F dX7_isLaw_13 cI_0 ?_
      exact j_zreturn F rfl dX7_isLaw_14 h
    · refine j_iconst F dX7_isLaw_9 cI_1 ?_
      refine j_goto F 14 dX7_isLaw_10 rfl ?_
      exact j_zreturn F rfl dX7_isLaw_14 h
def fX7_isOnOneSide (nF : Nat) (x0 : Int32) (x1 : Int32) (t : sT) (a : sA) : Rs := if (x0 &&& (x1 ^^^ (-1 : Int32))) = 0 then (zok (1 : Int32) (some ((1 : Int32), t, a))) else (if (x0 &&& x1) = 0 then (zok (1 : Int32) (some ((1 : Int32), t, a))) else (zok (0 : Int32) (some ((0 : Int32), t, a))))
set_option maxRecDepth 100000 in
set_option maxHeartbeats 4000000 in
theorem kX7_isOnOneSide (l : Launch) {x : Cx} {N : Nat} {u0 v0 : Option Nat} {nF : Nat} {x0 : Int32} {x1 : Int32} {t : sT} {a : sA} {rv : Int32} {rt : sT} {ra : sA} (hN : 653 ≤ N) (h : fX7_isOnOneSide nF x0 x1 t a = some (rv, rt, ra)) : Met l yX7_isOnOneSide [.code yX7_isOnOneSide cX7_isOnOneSide 2 (some .boolean)] (k2_rm 0 0) (Pre x N (rho u0 v0) t a [.int x0, .int x1]) (PostI x N (rho u0 v0) rt ra rv) 0 0 (cA x) := by
  refine j_entry (by decide) rfl (Nat.le_of_ble_eq_true rfl) ?_
  intro p e s m below meth c F hsz hnm
  have F : Fx p s m meth c cX7_isOnOneSide 2 RX7 (some .boolean) x := F
  unfold fX7_isOnOneSide at h
  show J p l e _ s m _ below meth c x N (rho u0 v0) 2 0 0 _ 0 [(0, .int x0), (1, .int x1)] [] t a
  refine j_iload_n F 0 dX7_isOnOneSide_0 rfl rfl ?_
  refine j_iload_n F 1 dX7_isOnOneSide_1 rfl rfl ?_
  refine j_iconst F dX7_isOnOneSide_2 cI_m1 ?_
  refine j_ixor F dX7_isOnOneSide_3 ?_
  refine j_iand F dX7_isOnOneSide_4 ?_
  refine j_if_eq F 14 dX7_isOnOneSide_5 rfl h (fun h => ?_) (fun h => ?_)
  · refine j_iconst F dX7_isOnOneSide_14 cI_1 ?_
    refine j_goto F 19 dX7_isOnOneSide_15 rfl ?_
    exact j_zreturn F rfl dX7_isOnOneSide_19 h
  · refine j_iload_n F 0 dX7_isOnOneSide_8 rfl rfl ?_
    refine j_iload_n F 1 dX7_isOnOneSide_9 rfl rfl ?_
    refine j_iand F dX7_isOnOneSide_10 ?_
    refine j_if_ne F 18 dX7_isOnOneSide_11 rfl h (fun h => ?_) (fun h => ?_)
    · refine j_iconst F dX7_isOnOneSide_14 cI_1 ?_
      refine j_goto F 19 dX7_isOnOneSide_15 rfl ?_
      exact j_zreturn F rfl dX7_isOnOneSide_19 h
    · refine j_iconst F dX7_isOnOneSide_18 cI_0 ?_
      exact j_zreturn F rfl dX7_isOnOneSide_19 h
def fX7_isSet (nF : Nat) (x0 : Int32) (t : sT) (a : sA) : Rs := if x0 < 0 then (zok (0 : Int32) (some ((0 : Int32), t, a))) else (if (255 : Int32) < x0 then (zok (0 : Int32) (some ((0 : Int32), t, a))) else (zok (1 : Int32) (some ((1 : Int32), t, a))))
set_option maxRecDepth 100000 in
set_option maxHeartbeats 4000000 in
theorem kX7_isSet (l : Launch) {x : Cx} {N : Nat} {u0 v0 : Option Nat} {nF : Nat} {x0 : Int32} {t : sT} {a : sA} {rv : Int32} {rt : sT} {ra : sA} (hN : 653 ≤ N) (h : fX7_isSet nF x0 t a = some (rv, rt, ra)) : Met l yX7_isSet [.code yX7_isSet cX7_isSet 1 (some .boolean)] (k2_rm 0 0) (Pre x N (rho u0 v0) t a [.int x0]) (PostI x N (rho u0 v0) rt ra rv) 0 0 (cA x) := by
  refine j_entry (by decide) rfl (Nat.le_of_ble_eq_true rfl) ?_
  intro p e s m below meth c F hsz hnm
  have F : Fx p s m meth c cX7_isSet 1 RX7 (some .boolean) x := F
  unfold fX7_isSet at h
  show J p l e _ s m _ below meth c x N (rho u0 v0) 1 0 0 _ 0 [(0, .int x0)] [] t a
  refine j_iload_n F 0 dX7_isSet_0 rfl rfl ?_
  refine j_if_lt F 15 dX7_isSet_1 rfl h (fun h => ?_) (fun h => ?_)
  · refine j_iconst F dX7_isSet_15 cI_0 ?_
    exact j_zreturn F rfl dX7_isSet_16 h
  · refine j_iload_n F 0 dX7_isSet_4 rfl rfl ?_
    refine j_sipush F dX7_isSet_5 cS_255 ?_
    refine j_icmp_gt F 15 dX7_isSet_8 rfl h (fun h => ?_) (fun h => ?_)
    · refine j_iconst F dX7_isSet_15 cI_0 ?_
      exact j_zreturn F rfl dX7_isSet_16 h
    · refine j_iconst F dX7_isSet_11 cI_1 ?_
      refine j_goto F 16 dX7_isSet_12 rfl ?_
      exact j_zreturn F rfl dX7_isSet_16 h
def fX7_isSettled (nF : Nat) (x0 : Int32) (x1 : Int32) (t : sT) (a : sA) : Rs := if x1 = 0 then (zok (0 : Int32) (some ((0 : Int32), t, a))) else (cal (fX7_isOnOneSide nF x1 x0 t a) (fun v1 t1 a1 => if v1 = 0 then (zok (0 : Int32) (some ((0 : Int32), t1, a1))) else (zok (1 : Int32) (some ((1 : Int32), t1, a1)))))
set_option maxRecDepth 100000 in
set_option maxHeartbeats 4000000 in
theorem kX7_isSettled (l : Launch) {x : Cx} {N : Nat} {u0 v0 : Option Nat} {nF : Nat} {x0 : Int32} {x1 : Int32} {t : sT} {a : sA} {rv : Int32} {rt : sT} {ra : sA} (hN : 653 ≤ N) (h : fX7_isSettled nF x0 x1 t a = some (rv, rt, ra)) : Met l yX7_isSettled [.code yX7_isSettled cX7_isSettled 2 (some .boolean)] (k2_rm 1 21) (Pre x N (rho u0 v0) t a [.int x0, .int x1]) (PostI x N (rho u0 v0) rt ra rv) 0 0 (cA x) := by
  refine j_entry (by decide) rfl (Nat.le_of_ble_eq_true rfl) ?_
  intro p e s m below meth c F hsz hnm
  have F : Fx p s m meth c cX7_isSettled 2 RX7 (some .boolean) x := F
  unfold fX7_isSettled at h
  show J p l e _ s m _ below meth c x N (rho u0 v0) 2 0 0 _ 0 [(0, .int x0), (1, .int x1)] [] t a
  refine j_iload_n F 1 dX7_isSettled_0 rfl rfl ?_
  refine j_if_eq F 16 dX7_isSettled_1 rfl h (fun h => ?_) (fun h => ?_)
  · refine j_iconst F dX7_isSettled_16 cI_0 ?_
    exact j_zreturn F rfl dX7_isSettled_17 h
  · refine j_iload_n F 1 dX7_isSettled_4 rfl rfl ?_
    refine j_iload_n F 0 dX7_isSettled_5 rfl rfl ?_
    refine j_callSi F mwX7_isOnOneSide ql_X7_274 [.int x1, .int x0] rfl ⟨rfl, rfl, Nat.le_of_ble_eq_true rfl, Nat.le_of_ble_eq_true rfl⟩ ⟨Nat.le_refl 0, Nat.le_refl 0⟩ rfl (Nat.le_of_ble_eq_true rfl) dX7_isSettled_6 (fun _ _ _ h9 => kX7_isOnOneSide l hN  h9) h (fun v1 t1 a1 e1 h => ?_)
    refine j_if_eq F 16 dX7_isSettled_9 rfl h (fun h => ?_) (fun h => ?_)
    · refine j_iconst F dX7_isSettled_16 cI_0 ?_
      exact j_zreturn F rfl dX7_isSettled_17 h
    · refine j_iconst F dX7_isSettled_12 cI_1 ?_
      refine j_goto F 17 dX7_isSettled_13 rfl ?_
      exact j_zreturn F rfl dX7_isSettled_17 h
def fX7_known (nF : Nat) (t : sT) (a : sA) : Rs := cal (fX5_meaningOfAnswers nF 17 t a) (fun v1 t1 a1 => some (v1, t1, a1))
set_option maxRecDepth 100000 in
set_option maxHeartbeats 4000000 in
theorem kX7_known (l : Launch) {x : Cx} {N : Nat} {u0 v0 : Option Nat} {nF : Nat} {t : sT} {a : sA} {rv : Int32} {rt : sT} {ra : sA} (hN : 653 ≤ N) (h : fX7_known nF t a = some (rv, rt, ra)) : Met l yX7_known [.code yX7_known cX7_known 1 (some .int)] (k2_rm 2 42) (Pre x N (rho u0 v0) t a [.ref (cz x + 0)]) (PostI x N (rho u0 v0) rt ra rv) 0 0 (cA x) := by
  refine j_entry (by decide) rfl (Nat.le_of_ble_eq_true rfl) ?_
  intro p e s m below meth c F hsz hnm
  have F : Fx p s m meth c cX7_known 1 RX7 (some .int) x := F
  unfold fX7_known at h
  show J p l e _ s m _ below meth c x N (rho u0 v0) 1 0 0 _ 0 [(0, .ref (cz x + 0))] [] t a
  refine j_aload_n F 0 dX7_known_0 rfl rfl ?_
  refine j_getR F clX7 (j := 5) (lt653 rfl hN) ly0 (Nat.le_of_ble_eq_true rfl) rfl qf_X7_39 rfl dX7_known_1 ?_
  refine j_callVi F mwX5_meaningOfAnswers ql_X7_217 clX5 (lt653 rfl hN) ly17 [] rfl ⟨rfl, rfl, Nat.le_of_ble_eq_true rfl, Nat.le_of_ble_eq_true rfl⟩ ⟨Nat.le_refl 0, Nat.le_refl 0⟩ rfl (Nat.le_of_ble_eq_true rfl) dX7_known_4 (fun _ _ _ h9 => kX5_meaningOfAnswers l hN tk17 h9) h (fun v1 t1 a1 e1 h => ?_)
  exact j_ireturn F rfl dX7_known_7 h
def fX7_lengthOrWord (nF : Nat) (x1 : Int32) (x2 : Int32) (t : sT) (a : sA) : Rs := if x2 = (-1 : Int32) then (cal (fX3_lengthOf nF 19 x1 t a) (fun v2 t2 a2 => some (v2, t2, a2))) else (cal (fX3_wordOf nF 19 x1 x2 t a) (fun v1 t1 a1 => some (v1, t1, a1)))
set_option maxRecDepth 100000 in
set_option maxHeartbeats 4000000 in
theorem kX7_lengthOrWord (l : Launch) {x : Cx} {N : Nat} {u0 v0 : Option Nat} {nF : Nat} {x1 : Int32} {x2 : Int32} {t : sT} {a : sA} {rv : Int32} {rt : sT} {ra : sA} (hN : 653 ≤ N) (h : fX7_lengthOrWord nF x1 x2 t a = some (rv, rt, ra)) : Met l yX7_lengthOrWord [.code yX7_lengthOrWord cX7_lengthOrWord 3 (some .int)] (k2_rm 2 49) (Pre x N (rho u0 v0) t a [.ref (cz x + 0), .int x1, .int x2]) (PostI x N (rho u0 v0) rt ra rv) 0 0 (cA x) := by
  refine j_entry (by decide) rfl (Nat.le_of_ble_eq_true rfl) ?_
  intro p e s m below meth c F hsz hnm
  have F : Fx p s m meth c cX7_lengthOrWord 3 RX7 (some .int) x := F
  unfold fX7_lengthOrWord at h
  show J p l e _ s m _ below meth c x N (rho u0 v0) 3 0 0 _ 0 [(0, .ref (cz x + 0)), (1, .int x1), (2, .int x2)] [] t a
  refine j_iload_n F 2 dX7_lengthOrWord_0 rfl rfl ?_
  refine j_iconst F dX7_lengthOrWord_1 cI_m1 ?_
  refine j_icmp_ne F 14 dX7_lengthOrWord_2 rfl h (fun h => ?_) (fun h => ?_)
  · refine j_aload_n F 0 dX7_lengthOrWord_5 rfl rfl ?_
    refine j_getR F clX7 (j := 6) (lt653 rfl hN) ly0 (Nat.le_of_ble_eq_true rfl) rfl qf_X7_48 rfl dX7_lengthOrWord_6 ?_
    refine j_iload_n F 1 dX7_lengthOrWord_9 rfl rfl ?_
    refine j_callVi F mwX3_lengthOf ql_X7_250 clX3 (lt653 rfl hN) ly19 [.int x1] rfl ⟨rfl, rfl, Nat.le_of_ble_eq_true rfl, Nat.le_of_ble_eq_true rfl⟩ ⟨Nat.le_refl 0, Nat.le_refl 0⟩ rfl (Nat.le_of_ble_eq_true rfl) dX7_lengthOrWord_10 (fun _ _ _ h9 => kX3_lengthOf l hN sy19 h9) h (fun v2 t2 a2 e2 h => ?_)
    exact j_ireturn F rfl dX7_lengthOrWord_13 h
  · refine j_aload_n F 0 dX7_lengthOrWord_14 rfl rfl ?_
    refine j_getR F clX7 (j := 6) (lt653 rfl hN) ly0 (Nat.le_of_ble_eq_true rfl) rfl qf_X7_48 rfl dX7_lengthOrWord_15 ?_
    refine j_iload_n F 1 dX7_lengthOrWord_18 rfl rfl ?_
    refine j_iload_n F 2 dX7_lengthOrWord_19 rfl rfl ?_
    refine j_callVi F mwX3_wordOf ql_X7_253 clX3 (lt653 rfl hN) ly19 [.int x1, .int x2] rfl ⟨rfl, rfl, Nat.le_of_ble_eq_true rfl, Nat.le_of_ble_eq_true rfl⟩ ⟨Nat.le_refl 0, Nat.le_refl 0⟩ rfl (Nat.le_of_ble_eq_true rfl) dX7_lengthOrWord_20 (fun _ _ _ h9 => kX3_wordOf l hN sy19 h9) h (fun v1 t1 a1 e1 h => ?_)
    exact j_ireturn F rfl dX7_lengthOrWord_23 h
def fX7_mayFollow (nF : Nat) (x0 : Int32) (x1 : Int32) (x2 : Int32) (t : sT) (a : sA) : Rs := cal (fX4_length nF x1 t a) (fun v1 t1 a1 => cal (fX4_length nF x2 t1 a1) (fun v2 t2 a2 => if x0 = (0 : Int32) then (if v2 ≤ v1 then (zok (0 : Int32) (some ((0 : Int32), t2, a2))) else (zok (1 : Int32) (some ((1 : Int32), t2, a2)))) else (if x0 = (1 : Int32) then (if v2 < v1 then (zok (0 : Int32) (some ((0 : Int32), t2, a2))) else (zok (1 : Int32) (some ((1 : Int32), t2, a2)))) else (if x0 = (2 : Int32) then (cal (fX4_idles nF x1 t2 a2) (fun v4 t4 a4 => cal (fX4_idles nF x2 t4 a4) (fun v5 t5 a5 => if (v2 - v5) ≤ (v1 - v4) then (zok (0 : Int32) (some ((0 : Int32), t5, a5))) else (zok (1 : Int32) (some ((1 : Int32), t5, a5)))))) else (if x0 = (3 : Int32) then (if v1 = (v2 + (1 : Int32)) then (zok (1 : Int32) (some ((1 : Int32), t2, a2))) else (zok (0 : Int32) (some ((0 : Int32), t2, a2)))) else (zok (1 : Int32) (some ((1 : Int32), t2, a2))))))))
set_option maxRecDepth 100000 in
set_option maxHeartbeats 4000000 in
theorem kX7_mayFollow (l : Launch) {x : Cx} {N : Nat} {u0 v0 : Option Nat} {nF : Nat} {x0 : Int32} {x1 : Int32} {x2 : Int32} {t : sT} {a : sA} {rv : Int32} {rt : sT} {ra : sA} (hN : 653 ≤ N) (h : fX7_mayFollow nF x0 x1 x2 t a = some (rv, rt, ra)) : Met l yX7_mayFollow [.code yX7_mayFollow cX7_mayFollow 5 (some .boolean)] (k2_rm 1 20) (Pre x N (rho u0 v0) t a [.int x0, .int x1, .int x2]) (PostI x N (rho u0 v0) rt ra rv) 0 0 (cA x) := by
  refine j_entry (by decide) rfl (Nat.le_of_ble_eq_true rfl) ?_
  intro p e s m below meth c F hsz hnm
  have F : Fx p s m meth c cX7_mayFollow 5 RX7 (some .boolean) x := F
  unfold fX7_mayFollow at h
  show J p l e _ s m _ below meth c x N (rho u0 v0) 5 0 0 _ 0 [(0, .int x0), (1, .int x1), (2, .int x2)] [] t a
  refine j_iload_n F 1 dX7_mayFollow_0 rfl rfl ?_
  refine j_callSi F mwX4_length ql_X7_211 [.int x1] rfl ⟨rfl, rfl, Nat.le_of_ble_eq_true rfl, Nat.le_of_ble_eq_true rfl⟩ ⟨Nat.le_refl 0, Nat.le_refl 0⟩ rfl (Nat.le_of_ble_eq_true rfl) dX7_mayFollow_1 (fun _ _ _ h9 => kX4_length l hN  h9) h (fun v1 t1 a1 e1 h => ?_)
  refine j_istore_n F (lv' := [(3, .int v1), (0, .int x0), (1, .int x1), (2, .int x2)]) dX7_mayFollow_4 rfl (Nat.le_of_ble_eq_true rfl) rfl ?_
  refine j_iload_n F 3 dX7_mayFollow_5 rfl rfl ?_
  refine j_callSi F mwX4_length ql_X7_211 [.int x2] rfl ⟨rfl, rfl, Nat.le_of_ble_eq_true rfl, Nat.le_of_ble_eq_true rfl⟩ ⟨Nat.le_refl 0, Nat.le_refl 0⟩ rfl (Nat.le_of_ble_eq_true rfl) dX7_mayFollow_6 (fun _ _ _ h9 => kX4_length l hN  h9) h (fun v2 t2 a2 e2 h => ?_)
  refine j_istore F (k := 0) (lv' := [(4, .int v2), (3, .int v1), (0, .int x0), (1, .int x1), (2, .int x2)]) dX7_mayFollow_9 (Nat.le_of_ble_eq_true rfl) rfl ?_
  refine j_iload_n F 2 dX7_mayFollow_11 rfl rfl ?_
  refine ifE h (fun e3_0 h => ?_) (fun e3_0 h => ?_)
  · refine j_tsI F 44 dX7_mayFollow_12 e3_0 (by decide) (by decide) rfl rfl ?_
    refine j_iload_n F 1 dX7_mayFollow_44 rfl rfl ?_
    refine j_iload F 0 dX7_mayFollow_45 rfl ?_
    refine j_icmp_ge F 54 dX7_mayFollow_47 rfl h (fun h => ?_) (fun h => ?_)
    · refine j_iconst F dX7_mayFollow_54 cI_0 ?_
      exact j_zreturn F rfl dX7_mayFollow_55 h
    · refine j_iconst F dX7_mayFollow_50 cI_1 ?_
      refine j_goto F 55 dX7_mayFollow_51 rfl ?_
      exact j_zreturn F rfl dX7_mayFollow_55 h
  · refine ifE h (fun e3_1 h => ?_) (fun e3_1 h => ?_)
    · refine j_tsI F 56 dX7_mayFollow_12 e3_1 (by decide) (by decide) rfl rfl ?_
      refine j_iload_n F 1 dX7_mayFollow_56 rfl rfl ?_
      refine j_iload F 0 dX7_mayFollow_57 rfl ?_
      refine j_icmp_gt F 66 dX7_mayFollow_59 rfl h (fun h => ?_) (fun h => ?_)
      · refine j_iconst F dX7_mayFollow_66 cI_0 ?_
        exact j_zreturn F rfl dX7_mayFollow_67 h
      · refine j_iconst F dX7_mayFollow_62 cI_1 ?_
        refine j_goto F 67 dX7_mayFollow_63 rfl ?_
        exact j_zreturn F rfl dX7_mayFollow_67 h
    · refine ifE h (fun e3_2 h => ?_) (fun e3_2 h => ?_)
      · refine j_tsI F 68 dX7_mayFollow_12 e3_2 (by decide) (by decide) rfl rfl ?_
        refine j_iload_n F 1 dX7_mayFollow_68 rfl rfl ?_
        refine j_iload_n F 3 dX7_mayFollow_69 rfl rfl ?_
        refine j_callSi F mwX4_idles ql_X7_214 [.int x1] rfl ⟨rfl, rfl, Nat.le_of_ble_eq_true rfl, Nat.le_of_ble_eq_true rfl⟩ ⟨Nat.le_refl 0, Nat.le_refl 0⟩ rfl (Nat.le_of_ble_eq_true rfl) dX7_mayFollow_70 (fun _ _ _ h9 => kX4_idles l hN  h9) h (fun v4 t4 a4 e4 h => ?_)
        refine j_isub F dX7_mayFollow_73 ?_
        refine j_iload F 0 dX7_mayFollow_74 rfl ?_
        refine j_iload_n F 4 dX7_mayFollow_76 rfl rfl ?_
        refine j_callSi F mwX4_idles ql_X7_214 [.int x2] rfl ⟨rfl, rfl, Nat.le_of_ble_eq_true rfl, Nat.le_of_ble_eq_true rfl⟩ ⟨Nat.le_refl 0, Nat.le_refl 0⟩ rfl (Nat.le_of_ble_eq_true rfl) dX7_mayFollow_77 (fun _ _ _ h9 => kX4_idles l hN  h9) h (fun v5 t5 a5 e5 h => ?_)
        refine j_isub F dX7_mayFollow_80 ?_
        refine j_icmp_ge F 88 dX7_mayFollow_81 rfl h (fun h => ?_) (fun h => ?_)
        · refine j_iconst F dX7_mayFollow_88 cI_0 ?_
          exact j_zreturn F rfl dX7_mayFollow_89 h
        · refine j_iconst F dX7_mayFollow_84 cI_1 ?_
          refine j_goto F 89 dX7_mayFollow_85 rfl ?_
          exact j_zreturn F rfl dX7_mayFollow_89 h
      · refine ifE h (fun e3_3 h => ?_) (fun e3_3 h => ?_)
        · refine j_tsI F 90 dX7_mayFollow_12 e3_3 (by decide) (by decide) rfl rfl ?_
          refine j_iload_n F 1 dX7_mayFollow_90 rfl rfl ?_
          refine j_iload F 0 dX7_mayFollow_91 rfl ?_
          refine j_iconst F dX7_mayFollow_93 cI_1 ?_
          refine j_iadd F dX7_mayFollow_94 ?_
          refine j_icmp_ne F 102 dX7_mayFollow_95 rfl h (fun h => ?_) (fun h => ?_)
          · refine j_iconst F dX7_mayFollow_98 cI_1 ?_
            refine j_goto F 103 dX7_mayFollow_99 rfl ?_
            exact j_zreturn F rfl dX7_mayFollow_103 h
          · refine j_iconst F dX7_mayFollow_102 cI_0 ?_
            exact j_zreturn F rfl dX7_mayFollow_103 h
        · refine j_tsD F 104 dX7_mayFollow_12 rfl (fun i hi => ?_) rfl ?_
          · have hi : i < 4 := hi
            have hi : i = 0 ∨ i = 1 ∨ i = 2 ∨ i = 3 := by omega
            rcases hi with rfl | rfl | rfl | rfl
            · exact Or.inr (by have h9 := lv_neT (a := 0) e3_0 rfl; omega)
            · exact Or.inr (by have h9 := lv_neT (a := 1) e3_1 rfl; omega)
            · exact Or.inr (by have h9 := lv_neT (a := 2) e3_2 rfl; omega)
            · exact Or.inr (by have h9 := lv_neT (a := 3) e3_3 rfl; omega)
          refine j_iconst F dX7_mayFollow_104 cI_1 ?_
          exact j_zreturn F rfl dX7_mayFollow_105 h
def fX7_refuse (nF : Nat) (x1 : Int32) (t : sT) (a : sA) : Rs := if 0 ≤ x1 then (some (x1, t, a)) else (if (Int32.ofNat 7) ≤ (-x1) then (some (x1, t, a)) else (bnd (-x1) 7 (bnd (-x1) 7 (some (x1, t, va_up a 49 (upd (a 49) (-x1).toNatClampNeg ((a 49 (-x1).toNatClampNeg) + (1 : Int32))))))))
set_option maxRecDepth 100000 in
set_option maxHeartbeats 4000000 in
theorem kX7_refuse (l : Launch) {x : Cx} {N : Nat} {u0 v0 : Option Nat} {nF : Nat} {x1 : Int32} {t : sT} {a : sA} {rv : Int32} {rt : sT} {ra : sA} (hN : 653 ≤ N) (h : fX7_refuse nF x1 t a = some (rv, rt, ra)) : Met l yX7_refuse [.code yX7_refuse cX7_refuse 2 (some .int)] (k2_rm 0 0) (Pre x N (rho u0 v0) t a [.ref (cz x + 0), .int x1]) (PostI x N (rho u0 v0) rt ra rv) 0 0 (cA x) := by
  refine j_entry (by decide) rfl (Nat.le_of_ble_eq_true rfl) ?_
  intro p e s m below meth c F hsz hnm
  have F : Fx p s m meth c cX7_refuse 2 RX7 (some .int) x := F
  unfold fX7_refuse at h
  show J p l e _ s m _ below meth c x N (rho u0 v0) 2 0 0 _ 0 [(0, .ref (cz x + 0)), (1, .int x1)] [] t a
  refine j_iload_n F 1 dX7_refuse_0 rfl rfl ?_
  refine j_if_ge F 25 dX7_refuse_1 rfl h (fun h => ?_) (fun h => ?_)
  · refine j_iload_n F 1 dX7_refuse_25 rfl rfl ?_
    exact j_ireturn F rfl dX7_refuse_26 h
  · refine j_iload_n F 1 dX7_refuse_4 rfl rfl ?_
    refine j_ineg F dX7_refuse_5 ?_
    refine j_aload_n F 0 dX7_refuse_6 rfl rfl ?_
    refine j_getR F clX7 (j := 9) (lt653 rfl hN) ly0 (Nat.le_of_ble_eq_true rfl) rfl qf_X7_62 rfl dX7_refuse_7 ?_
    refine j_alen F (lt653 rfl hN) ly49 rfl dX7_refuse_10 ?_
    refine j_icmp_ge F 25 dX7_refuse_11 rfl h (fun h => ?_) (fun h => ?_)
    · refine j_iload_n F 1 dX7_refuse_25 rfl rfl ?_
      exact j_ireturn F rfl dX7_refuse_26 h
    · refine j_aload_n F 0 dX7_refuse_14 rfl rfl ?_
      refine j_getR F clX7 (j := 9) (lt653 rfl hN) ly0 (Nat.le_of_ble_eq_true rfl) rfl qf_X7_62 rfl dX7_refuse_15 ?_
      refine j_iload_n F 1 dX7_refuse_18 rfl rfl ?_
      refine j_ineg F dX7_refuse_19 ?_
      refine j_dup2 F dX7_refuse_20 rfl rfl ?_
      refine j_iald F (lt653 rfl hN) ly49 dX7_refuse_21 h (fun h => ?_)
      refine j_iconst F dX7_refuse_22 cI_1 ?_
      refine j_iadd F dX7_refuse_23 ?_
      refine j_iast F (lt653 rfl hN) ly49 dX7_refuse_24 h (fun h => ?_)
      refine j_iload_n F 1 dX7_refuse_25 rfl rfl ?_
      exact j_ireturn F rfl dX7_refuse_26 h
def fX7_saying (nF : Nat) (x1 : Int32) (x2 : Int32) (t : sT) (a : sA) : Rs := if x1 < 0 then (cal (fX7_refuse nF (-1 : Int32) t a) (fun v1 t1 a1 => some (v1, t1, a1))) else (if x1 < (t 1089) then (bnd x1 12 (if x2 = (0 : Int32) then (cal (fX4_length nF (a 18 x1.toNatClampNeg) t a) (fun v3 t3 a3 => some (v3, t3, a3))) else (if x2 = (1 : Int32) then (cal (fX4_meaning nF (a 18 x1.toNatClampNeg) t a) (fun v4 t4 a4 => some (v4, t4, a4))) else (if x2 = (2 : Int32) then (cal (fX4_idles nF (a 18 x1.toNatClampNeg) t a) (fun v5 t5 a5 => some (v5, t5, a5))) else (cal (fX7_refuse nF (-2 : Int32) t a) (fun v6 t6 a6 => some (v6, t6, a6))))))) else (cal (fX7_refuse nF (-1 : Int32) t a) (fun v7 t7 a7 => some (v7, t7, a7))))
set_option maxRecDepth 100000 in
set_option maxHeartbeats 4000000 in
theorem kX7_saying (l : Launch) {x : Cx} {N : Nat} {u0 v0 : Option Nat} {nF : Nat} {x1 : Int32} {x2 : Int32} {t : sT} {a : sA} {rv : Int32} {rt : sT} {ra : sA} (hN : 653 ≤ N) (h : fX7_saying nF x1 x2 t a = some (rv, rt, ra)) : Met l yX7_saying [.code yX7_saying cX7_saying 4 (some .int)] (k2_rm 1 21) (Pre x N (rho u0 v0) t a [.ref (cz x + 0), .int x1, .int x2]) (PostI x N (rho u0 v0) rt ra rv) 0 0 (cA x) := by
  refine j_entry (by decide) rfl (Nat.le_of_ble_eq_true rfl) ?_
  intro p e s m below meth c F hsz hnm
  have F : Fx p s m meth c cX7_saying 4 RX7 (some .int) x := F
  unfold fX7_saying at h
  show J p l e _ s m _ below meth c x N (rho u0 v0) 4 0 0 _ 0 [(0, .ref (cz x + 0)), (1, .int x1), (2, .int x2)] [] t a
  refine j_iload_n F 1 dX7_saying_0 rfl rfl ?_
  refine j_if_lt F 15 dX7_saying_1 rfl h (fun h => ?_) (fun h => ?_)
  · refine j_aload_n F 0 dX7_saying_15 rfl rfl ?_
    refine j_iconst F dX7_saying_16 cI_m1 ?_
    refine j_callVi F mwX7_refuse ql_X7_66 clX7 (lt653 rfl hN) ly0 [.int (-1 : Int32)] rfl ⟨rfl, rfl, Nat.le_of_ble_eq_true rfl, Nat.le_of_ble_eq_true rfl⟩ ⟨Nat.le_refl 0, Nat.le_refl 0⟩ rfl (Nat.le_of_ble_eq_true rfl) dX7_saying_17 (fun _ _ _ h9 => kX7_refuse l hN  h9) h (fun v1 t1 a1 e1 h => ?_)
    exact j_ireturn F rfl dX7_saying_20 h
  · refine j_iload_n F 1 dX7_saying_4 rfl rfl ?_
    refine j_aload_n F 0 dX7_saying_5 rfl rfl ?_
    refine j_getR F clX7 (j := 5) (lt653 rfl hN) ly0 (Nat.le_of_ble_eq_true rfl) rfl qf_X7_39 rfl dX7_saying_6 ?_
    refine j_getI F clX5 (j := 1) (tt := 1089) (lt653 rfl hN) ly17 (Nat.le_of_ble_eq_true rfl) rfl qf_X7_203 rfl dX7_saying_9 ?_
    refine j_icmp_lt F 21 dX7_saying_12 rfl h (fun h => ?_) (fun h => ?_)
    · refine j_aload_n F 0 dX7_saying_21 rfl rfl ?_
      refine j_getR F clX7 (j := 5) (lt653 rfl hN) ly0 (Nat.le_of_ble_eq_true rfl) rfl qf_X7_39 rfl dX7_saying_22 ?_
      refine j_getR F clX5 (j := 0) (lt653 rfl hN) ly17 (Nat.le_of_ble_eq_true rfl) rfl qf_X7_208 rfl dX7_saying_25 ?_
      refine j_iload_n F 1 dX7_saying_28 rfl rfl ?_
      refine j_iald F (lt653 rfl hN) ly18 dX7_saying_29 h (fun h => ?_)
      refine j_istore_n F (lv' := [(3, .int (a 18 x1.toNatClampNeg)), (0, .ref (cz x + 0)), (1, .int x1), (2, .int x2)]) dX7_saying_30 rfl (Nat.le_of_ble_eq_true rfl) rfl ?_
      refine j_iload_n F 3 dX7_saying_31 rfl rfl ?_
      refine ifE h (fun e2_0 h => ?_) (fun e2_0 h => ?_)
      · refine j_tsI F 60 dX7_saying_32 e2_0 (by decide) (by decide) rfl rfl ?_
        refine j_iload_n F 0 dX7_saying_60 rfl rfl ?_
        refine j_callSi F mwX4_length ql_X7_211 [.int (a 18 x1.toNatClampNeg)] rfl ⟨rfl, rfl, Nat.le_of_ble_eq_true rfl, Nat.le_of_ble_eq_true rfl⟩ ⟨Nat.le_refl 0, Nat.le_refl 0⟩ rfl (Nat.le_of_ble_eq_true rfl) dX7_saying_61 (fun _ _ _ h9 => kX4_length l hN  h9) h (fun v3 t3 a3 e3 h => ?_)
        exact j_ireturn F rfl dX7_saying_64 h
      · refine ifE h (fun e2_1 h => ?_) (fun e2_1 h => ?_)
        · refine j_tsI F 65 dX7_saying_32 e2_1 (by decide) (by decide) rfl rfl ?_
          refine j_iload_n F 0 dX7_saying_65 rfl rfl ?_
          refine j_callSi F mwX4_meaning ql_X7_125 [.int (a 18 x1.toNatClampNeg)] rfl ⟨rfl, rfl, Nat.le_of_ble_eq_true rfl, Nat.le_of_ble_eq_true rfl⟩ ⟨Nat.le_refl 0, Nat.le_refl 0⟩ rfl (Nat.le_of_ble_eq_true rfl) dX7_saying_66 (fun _ _ _ h9 => kX4_meaning l hN  h9) h (fun v4 t4 a4 e4 h => ?_)
          exact j_ireturn F rfl dX7_saying_69 h
        · refine ifE h (fun e2_2 h => ?_) (fun e2_2 h => ?_)
          · refine j_tsI F 70 dX7_saying_32 e2_2 (by decide) (by decide) rfl rfl ?_
            refine j_iload_n F 0 dX7_saying_70 rfl rfl ?_
            refine j_callSi F mwX4_idles ql_X7_214 [.int (a 18 x1.toNatClampNeg)] rfl ⟨rfl, rfl, Nat.le_of_ble_eq_true rfl, Nat.le_of_ble_eq_true rfl⟩ ⟨Nat.le_refl 0, Nat.le_refl 0⟩ rfl (Nat.le_of_ble_eq_true rfl) dX7_saying_71 (fun _ _ _ h9 => kX4_idles l hN  h9) h (fun v5 t5 a5 e5 h => ?_)
            exact j_ireturn F rfl dX7_saying_74 h
          · refine j_tsD F 75 dX7_saying_32 rfl (fun i hi => ?_) rfl ?_
            · have hi : i < 3 := hi
              have hi : i = 0 ∨ i = 1 ∨ i = 2 := by omega
              rcases hi with rfl | rfl | rfl
              · exact Or.inr (by have h9 := lv_neT (a := 0) e2_0 rfl; omega)
              · exact Or.inr (by have h9 := lv_neT (a := 1) e2_1 rfl; omega)
              · exact Or.inr (by have h9 := lv_neT (a := 2) e2_2 rfl; omega)
            refine j_aload_n F 1 dX7_saying_75 rfl rfl ?_
            refine j_bipush F dX7_saying_76 cB_m2 ?_
            refine j_callVi F mwX7_refuse ql_X7_66 clX7 (lt653 rfl hN) ly0 [.int (-2 : Int32)] rfl ⟨rfl, rfl, Nat.le_of_ble_eq_true rfl, Nat.le_of_ble_eq_true rfl⟩ ⟨Nat.le_refl 0, Nat.le_refl 0⟩ rfl (Nat.le_of_ble_eq_true rfl) dX7_saying_78 (fun _ _ _ h9 => kX7_refuse l hN  h9) h (fun v6 t6 a6 e6 h => ?_)
            exact j_ireturn F rfl dX7_saying_81 h
    · refine j_aload_n F 0 dX7_saying_15 rfl rfl ?_
      refine j_iconst F dX7_saying_16 cI_m1 ?_
      refine j_callVi F mwX7_refuse ql_X7_66 clX7 (lt653 rfl hN) ly0 [.int (-1 : Int32)] rfl ⟨rfl, rfl, Nat.le_of_ble_eq_true rfl, Nat.le_of_ble_eq_true rfl⟩ ⟨Nat.le_refl 0, Nat.le_refl 0⟩ rfl (Nat.le_of_ble_eq_true rfl) dX7_saying_17 (fun _ _ _ h9 => kX7_refuse l hN  h9) h (fun v7 t7 a7 e7 h => ?_)
      exact j_ireturn F rfl dX7_saying_20 h
def fX7_silence (nF : Nat) (t : sT) (a : sA) : Rs := some (t 1089, va_up t 1089 (0 : Int32), a)
set_option maxRecDepth 100000 in
set_option maxHeartbeats 4000000 in
theorem kX7_silence (l : Launch) {x : Cx} {N : Nat} {u0 v0 : Option Nat} {nF : Nat} {t : sT} {a : sA} {rv : Int32} {rt : sT} {ra : sA} (hN : 653 ≤ N) (h : fX7_silence nF t a = some (rv, rt, ra)) : Met l yX7_silence [.code yX7_silence cX7_silence 2 (some .int)] (k2_rm 0 0) (Pre x N (rho u0 v0) t a [.ref (cz x + 0)]) (PostI x N (rho u0 v0) rt ra rv) 0 0 (cA x) := by
  refine j_entry (by decide) rfl (Nat.le_of_ble_eq_true rfl) ?_
  intro p e s m below meth c F hsz hnm
  have F : Fx p s m meth c cX7_silence 2 RX7 (some .int) x := F
  unfold fX7_silence at h
  show J p l e _ s m _ below meth c x N (rho u0 v0) 2 0 0 _ 0 [(0, .ref (cz x + 0))] [] t a
  refine j_aload_n F 0 dX7_silence_0 rfl rfl ?_
  refine j_getR F clX7 (j := 5) (lt653 rfl hN) ly0 (Nat.le_of_ble_eq_true rfl) rfl qf_X7_39 rfl dX7_silence_1 ?_
  refine j_getI F clX5 (j := 1) (tt := 1089) (lt653 rfl hN) ly17 (Nat.le_of_ble_eq_true rfl) rfl qf_X7_203 rfl dX7_silence_4 ?_
  refine j_istore_n F (lv' := [(1, .int (t 1089)), (0, .ref (cz x + 0))]) dX7_silence_7 rfl (Nat.le_of_ble_eq_true rfl) rfl ?_
  refine j_aload_n F 1 dX7_silence_8 rfl rfl ?_
  refine j_getR F clX7 (j := 5) (lt653 rfl hN) ly0 (Nat.le_of_ble_eq_true rfl) rfl qf_X7_39 rfl dX7_silence_9 ?_
  refine j_iconst F dX7_silence_12 cI_0 ?_
  refine j_putI F clX5 (j := 1) (tt := 1089) (lt653 rfl hN) ly17 (Nat.le_of_ble_eq_true rfl) rfl qf_X7_203 rfl rfl rfl dX7_silence_13 ?_
  refine j_iload_n F 0 dX7_silence_16 rfl rfl ?_
  exact j_ireturn F rfl dX7_silence_17 h
def fX7_stirred (nF : Nat) (x0 : Int32) (t : sT) (a : sA) : Rs := some ((x0 * (1664525 : Int32)) + (1013904223 : Int32), t, a)
set_option maxRecDepth 100000 in
set_option maxHeartbeats 4000000 in
theorem kX7_stirred (l : Launch) {x : Cx} {N : Nat} {u0 v0 : Option Nat} {nF : Nat} {x0 : Int32} {t : sT} {a : sA} {rv : Int32} {rt : sT} {ra : sA} (hN : 653 ≤ N) (h : fX7_stirred nF x0 t a = some (rv, rt, ra)) : Met l yX7_stirred [.code yX7_stirred cX7_stirred 1 (some .int)] (k2_rm 0 0) (Pre x N (rho u0 v0) t a [.int x0]) (PostI x N (rho u0 v0) rt ra rv) 0 0 (cA x) := by
  refine j_entry (by decide) rfl (Nat.le_of_ble_eq_true rfl) ?_
  intro p e s m below meth c F hsz hnm
  have F : Fx p s m meth c cX7_stirred 1 RX7 (some .int) x := F
  unfold fX7_stirred at h
  show J p l e _ s m _ below meth c x N (rho u0 v0) 1 0 0 _ 0 [(0, .int x0)] [] t a
  refine j_iload_n F 0 dX7_stirred_0 rfl rfl ?_
  refine j_ldcw F dX7_stirred_1 qc_X7_271 ?_
  refine j_imul F dX7_stirred_4 ?_
  refine j_ldcw F dX7_stirred_5 qc_X7_272 ?_
  refine j_iadd F dX7_stirred_8 ?_
  exact j_ireturn F rfl dX7_stirred_9 h
