/-! 18.m9.lean.txt: functions and contracts, by program (wip/whole/gen.py) -/
def gX7_longestFrom_14 (nF : Nat) (rs : Int32 → Int32 → Int32 → sT → sA → Rs) (r14 : Int32 → Int32 → Int32 → Int32 → Int32 → sT → sA → Rs) (x0 x1 x2 x3 x4 : Int32) (t : sT) (a : sA) : Rs := if (6 : Int32) < x4 then (some (x3 + (1 : Int32), t, a)) else (cal (fX4_ofLength nF x4 (0 : Int32) t a) (fun v1 t1 a1 => cal (fX4_ofLength nF x1 (0 : Int32) t1 a1) (fun v2 t2 a2 => cal (fX7_mayFollow nF x0 v1 v2 t2 a2) (fun v3 t3 a3 => if v3 = 0 then (r14 x0 x1 x2 x3 (x4 + (1 : Int32)) t3 a3) else (cal (rs x0 x4 (x2 + (1 : Int32)) t3 a3) (fun v4 t4 a4 => if 0 ≤ v4 then (r14 x0 x1 x2 (if x3 < v4 then v4 else x3) (x4 + (1 : Int32)) t4 a4) else (some ((-9 : Int32), t4, a4))))))))
def gX7_longestFrom (nF : Nat) (rs : Int32 → Int32 → Int32 → sT → sA → Rs) : Nat → Int32 → Int32 → Int32 → Int32 → Int32 → sT → sA → Rs
  | 0 => fun _ _ _ _ _ _ _ => none
  | n9 + 1 => gX7_longestFrom_14 nF rs (gX7_longestFrom nF rs n9)
def eX7_longestFrom (nF : Nat) (rs : Int32 → Int32 → Int32 → sT → sA → Rs) (x0 x1 x2 : Int32) (t : sT) (a : sA) : Rs := if x2 ≤ (6 : Int32) then ((gX7_longestFrom nF rs nF) x0 x1 x2 (0 : Int32) (1 : Int32) t a) else (some ((-9 : Int32), t, a))
def fX7_longestFrom (nF : Nat) : Nat → Int32 → Int32 → Int32 → sT → sA → Rs
  | 0 => fun _ _ _ _ _ => none
  | d9 + 1 => eX7_longestFrom nF (fX7_longestFrom nF d9)
set_option maxRecDepth 100000 in
set_option maxHeartbeats 4000000 in
theorem hX7_longestFrom {p : Program} {l : Launch} {e : Env} {s : State} {m : MethodId} {args : Array Value} {below : List Frame} {meth : Method} {c : Code} {x : Cx} {N : Nat} {u0 v0 : Option Nat} {nF d9 : Nat} {rs : Int32 → Int32 → Int32 → sT → sA → Rs} (F : Fx p s m meth c cX7_longestFrom 6 RX7 (some .int) x) (hsz : s.heap.size = cz x + N) (hN : 653 ≤ N) (hself : ∀ (x0 x1 x2 : Int32) (t : sT) (a : sA) (rv : Int32) (rt : sT) (ra : sA), rs x0 x1 x2 t a = some (rv, rt, ra) → Met l yX7_longestFrom [.code yX7_longestFrom cX7_longestFrom 6 (some .int)] (k2_rm (d9 + 2) (25 * d9 + 44)) (Pre x N (rho u0 v0) t a [.int x0, .int x1, .int x2]) (PostI x N (rho u0 v0) rt ra rv) 0 0 (cA x)) {rv : Int32} {rt : sT} {ra : sA} : ∀ n9 : Nat, (∀ (x0 x1 x2 x3 x4 : Int32) (t : sT) (a : sA), gX7_longestFrom nF rs n9 x0 x1 x2 x3 x4 t a = some (rv, rt, ra) → J p l e (k2_rm (d9 + 1 + 2) (25 * (d9 + 1) + 44)) s m args below meth c x N (rho u0 v0) 6 0 0 (MQ below (PostI x N (rho u0 v0) rt ra rv) args s 0 0 (cA x)) 14 [(0, .int x0), (1, .int x1), (2, .int x2), (3, .int x3), (4, .int x4)] [] t a) := by
  intro n9
  induction n9 with
  | zero => exact fun _ _ _ _ _ _ _ h => (by cases h)
  | succ n9 ih =>
    intro x0 x1 x2 x3 x4 t a h
    have h : gX7_longestFrom_14 nF rs (gX7_longestFrom nF rs n9) x0 x1 x2 x3 x4 t a = some (rv, rt, ra) := h
    unfold gX7_longestFrom_14 at h
    refine j_iload F 4 dX7_longestFrom_14 rfl ?_
    refine j_bipush F dX7_longestFrom_16 cB_6 ?_
    refine j_icmp_gt F 71 dX7_longestFrom_18 rfl h (fun h => ?_) (fun h => ?_)
    · refine j_iload_n F 3 dX7_longestFrom_71 rfl rfl ?_
      refine j_iconst F dX7_longestFrom_72 cI_1 ?_
      refine j_iadd F dX7_longestFrom_73 ?_
      exact j_ireturn F rfl dX7_longestFrom_74 h
    · refine j_iload_n F 0 dX7_longestFrom_21 rfl rfl ?_
      refine j_iload F 4 dX7_longestFrom_22 rfl ?_
      refine j_iconst F dX7_longestFrom_24 cI_0 ?_
      refine j_callSi F mwX4_ofLength ql_X7_130 [.int x4, .int (0 : Int32)] rfl ⟨rfl, rfl, by simp only [k2_rm]; omega, by simp only [k2_rm]; omega⟩ ⟨Nat.le_refl 0, Nat.le_refl 0⟩ rfl (Nat.le_of_ble_eq_true rfl) dX7_longestFrom_25 (fun _ _ _ h9 => kX4_ofLength l hN  h9) h (fun v1 t1 a1 e1 h => ?_)
      refine j_iload_n F 1 dX7_longestFrom_28 rfl rfl ?_
      refine j_iconst F dX7_longestFrom_29 cI_0 ?_
      refine j_callSi F mwX4_ofLength ql_X7_130 [.int x1, .int (0 : Int32)] rfl ⟨rfl, rfl, by simp only [k2_rm]; omega, by simp only [k2_rm]; omega⟩ ⟨Nat.le_refl 0, Nat.le_refl 0⟩ rfl (Nat.le_of_ble_eq_true rfl) dX7_longestFrom_30 (fun _ _ _ h9 => kX4_ofLength l hN  h9) h (fun v2 t2 a2 e2 h => ?_)
      refine j_callSi F mwX7_mayFollow ql_X7_134 [.int x0, .int v1, .int v2] rfl ⟨rfl, rfl, by simp only [k2_rm]; omega, by simp only [k2_rm]; omega⟩ ⟨Nat.le_refl 0, Nat.le_refl 0⟩ rfl (Nat.le_of_ble_eq_true rfl) dX7_longestFrom_33 (fun _ _ _ h9 => kX7_mayFollow l hN  h9) h (fun v3 t3 a3 e3 h => ?_)
      refine j_if_eq F 65 dX7_longestFrom_36 rfl h (fun h => ?_) (fun h => ?_)
      · refine j_iinc F (v := x4 + (1 : Int32)) (lv' := [(4, .int (x4 + (1 : Int32))), (0, .int x0), (1, .int x1), (2, .int x2), (3, .int x3)]) dX7_longestFrom_65 4 rfl (congrArg (fun z => x4 + z) cI_1) (Nat.le_of_ble_eq_true rfl) rfl ?_
        refine j_goto F 14 dX7_longestFrom_68 rfl ?_
        exact j_lv [1, 2, 3, 4, 0] rfl (ih _ _ _ _ _ _ _ h)
      · refine j_iload_n F 0 dX7_longestFrom_39 rfl rfl ?_
        refine j_iload F 4 dX7_longestFrom_40 rfl ?_
        refine j_iload_n F 2 dX7_longestFrom_42 rfl rfl ?_
        refine j_iconst F dX7_longestFrom_43 cI_1 ?_
        refine j_iadd F dX7_longestFrom_44 ?_
        refine j_callSi F mwX7_longestFrom ql_X7_220 [.int x0, .int x4, .int (x2 + (1 : Int32))] rfl ⟨rfl, rfl, by simp only [k2_rm]; omega, by simp only [k2_rm]; omega⟩ ⟨Nat.le_refl 0, Nat.le_refl 0⟩ rfl (Nat.le_of_ble_eq_true rfl) dX7_longestFrom_45 (fun _ _ _ h9 => hself _ _ _ _ _ _ _ _ h9) h (fun v4 t4 a4 e4 h => ?_)
        refine j_istore F (k := 0) (lv' := [(5, .int v4), (0, .int x0), (1, .int x1), (2, .int x2), (3, .int x3), (4, .int x4)]) dX7_longestFrom_48 (Nat.le_of_ble_eq_true rfl) rfl ?_
        refine j_iload F 0 dX7_longestFrom_50 rfl ?_
        refine j_if_ge F 58 dX7_longestFrom_52 rfl h (fun h => ?_) (fun h => ?_)
        · refine j_iload_n F 4 dX7_longestFrom_58 rfl rfl ?_
          refine j_iload F 0 dX7_longestFrom_59 rfl ?_
          refine j_max F ql_X7_277 (by simp only [k2_rm]; omega) (by simp only [k2_rm, List.map, List.sum_cons, List.sum_nil]; omega) (Nat.le_refl 0) (Nat.le_refl 0) dX7_longestFrom_61 ?_
          refine j_istore_n F (lv' := [(3, .int (if x3 < v4 then v4 else x3)), (5, .int v4), (0, .int x0), (1, .int x1), (2, .int x2), (4, .int x4)]) dX7_longestFrom_64 rfl (Nat.le_of_ble_eq_true rfl) rfl ?_
          refine j_iinc F (v := x4 + (1 : Int32)) (lv' := [(4, .int (x4 + (1 : Int32))), (3, .int (if x3 < v4 then v4 else x3)), (5, .int v4), (0, .int x0), (1, .int x1), (2, .int x2)]) dX7_longestFrom_65 5 rfl (congrArg (fun z => x4 + z) cI_1) (Nat.le_of_ble_eq_true rfl) rfl ?_
          refine j_goto F 14 dX7_longestFrom_68 rfl ?_
          exact j_lv [3, 4, 5, 1, 0] rfl (ih _ _ _ _ _ _ _ h)
        · refine j_bipush F dX7_longestFrom_55 cB_m9 ?_
          exact j_ireturn F rfl dX7_longestFrom_57 h
set_option maxRecDepth 100000 in
set_option maxHeartbeats 4000000 in
theorem kX7_longestFrom (l : Launch) {x : Cx} {N : Nat} {u0 v0 : Option Nat} {nF : Nat} (hN : 653 ≤ N) : ∀ (d9 : Nat) (x0 x1 x2 : Int32) (t : sT) (a : sA) (rv : Int32) (rt : sT) (ra : sA), fX7_longestFrom nF d9 x0 x1 x2 t a = some (rv, rt, ra) → Met l yX7_longestFrom [.code yX7_longestFrom cX7_longestFrom 6 (some .int)] (k2_rm (d9 + 2) (25 * d9 + 44)) (Pre x N (rho u0 v0) t a [.int x0, .int x1, .int x2]) (PostI x N (rho u0 v0) rt ra rv) 0 0 (cA x) := by
  intro d9
  induction d9 with
  | zero => exact fun _ _ _ _ _ _ _ _ h => (by cases h)
  | succ d9 hself =>
    intro x0 x1 x2 t a rv rt ra h
    have h : eX7_longestFrom nF (fX7_longestFrom nF d9) x0 x1 x2 t a = some (rv, rt, ra) := h
    refine j_entry (by decide) rfl (Nat.le_of_ble_eq_true rfl) ?_
    intro p e s m below meth c F hsz hnm
    have F : Fx p s m meth c cX7_longestFrom 6 RX7 (some .int) x := F
    unfold eX7_longestFrom at h
    show J p l e _ s m _ below meth c x N (rho u0 v0) 6 0 0 _ 0 [(0, .int x0), (1, .int x1), (2, .int x2)] [] t a
    refine j_iload_n F 2 dX7_longestFrom_0 rfl rfl ?_
    refine j_bipush F dX7_longestFrom_1 cB_6 ?_
    refine j_icmp_le F 9 dX7_longestFrom_3 rfl h (fun h => ?_) (fun h => ?_)
    · refine j_iconst F dX7_longestFrom_9 cI_0 ?_
      refine j_istore_n F (lv' := [(3, .int (0 : Int32)), (0, .int x0), (1, .int x1), (2, .int x2)]) dX7_longestFrom_10 rfl (Nat.le_of_ble_eq_true rfl) rfl ?_
      refine j_iconst F dX7_longestFrom_11 cI_1 ?_
      refine j_istore F (k := 0) (lv' := [(4, .int (1 : Int32)), (3, .int (0 : Int32)), (0, .int x0), (1, .int x1), (2, .int x2)]) dX7_longestFrom_12 (Nat.le_of_ble_eq_true rfl) rfl ?_
      exact j_lv [2, 3, 4, 1, 0] rfl (hX7_longestFrom F hsz hN hself nF _ _ _ _ _ _ _ h)
    · refine j_bipush F dX7_longestFrom_6 cB_m9 ?_
      exact j_ireturn F rfl dX7_longestFrom_8 h
def gX7_speaksLast_10 (nF : Nat) (rs : Int32 → Int32 → Int32 → sT → sA → Rs) (r10 : Int32 → Int32 → Int32 → Int32 → sT → sA → Rs) (x0 x1 x2 x3 : Int32) (t : sT) (a : sA) : Rs := if (6 : Int32) < x3 then (zok (1 : Int32) (some ((1 : Int32), t, a))) else (cal (fX4_ofLength nF x3 (0 : Int32) t a) (fun v1 t1 a1 => cal (fX4_ofLength nF x1 (0 : Int32) t1 a1) (fun v2 t2 a2 => cal (fX7_mayFollow nF x0 v1 v2 t2 a2) (fun v3 t3 a3 => if v3 = 0 then (r10 x0 x1 x2 (x3 + (1 : Int32)) t3 a3) else (cal (rs x0 x3 (x2 + (1 : Int32)) t3 a3) (fun v4 t4 a4 => if v4 = 0 then (r10 x0 x1 x2 (x3 + (1 : Int32)) t4 a4) else (zok (0 : Int32) (some ((0 : Int32), t4, a4)))))))))
def gX7_speaksLast (nF : Nat) (rs : Int32 → Int32 → Int32 → sT → sA → Rs) : Nat → Int32 → Int32 → Int32 → Int32 → sT → sA → Rs
  | 0 => fun _ _ _ _ _ _ => none
  | n9 + 1 => gX7_speaksLast_10 nF rs (gX7_speaksLast nF rs n9)
def eX7_speaksLast (nF : Nat) (rs : Int32 → Int32 → Int32 → sT → sA → Rs) (x0 x1 x2 : Int32) (t : sT) (a : sA) : Rs := if x2 ≤ (6 : Int32) then ((gX7_speaksLast nF rs nF) x0 x1 x2 (1 : Int32) t a) else (zok (1 : Int32) (some ((1 : Int32), t, a)))
def fX7_speaksLast (nF : Nat) : Nat → Int32 → Int32 → Int32 → sT → sA → Rs
  | 0 => fun _ _ _ _ _ => none
  | d9 + 1 => eX7_speaksLast nF (fX7_speaksLast nF d9)
set_option maxRecDepth 100000 in
set_option maxHeartbeats 4000000 in
theorem hX7_speaksLast {p : Program} {l : Launch} {e : Env} {s : State} {m : MethodId} {args : Array Value} {below : List Frame} {meth : Method} {c : Code} {x : Cx} {N : Nat} {u0 v0 : Option Nat} {nF d9 : Nat} {rs : Int32 → Int32 → Int32 → sT → sA → Rs} (F : Fx p s m meth c cX7_speaksLast 4 RX7 (some .boolean) x) (hsz : s.heap.size = cz x + N) (hN : 653 ≤ N) (hself : ∀ (x0 x1 x2 : Int32) (t : sT) (a : sA) (rv : Int32) (rt : sT) (ra : sA), rs x0 x1 x2 t a = some (rv, rt, ra) → Met l yX7_speaksLast [.code yX7_speaksLast cX7_speaksLast 4 (some .boolean)] (k2_rm (d9 + 2) (23 * d9 + 44)) (Pre x N (rho u0 v0) t a [.int x0, .int x1, .int x2]) (PostI x N (rho u0 v0) rt ra rv) 0 0 (cA x)) {rv : Int32} {rt : sT} {ra : sA} : ∀ n9 : Nat, (∀ (x0 x1 x2 x3 : Int32) (t : sT) (a : sA), gX7_speaksLast nF rs n9 x0 x1 x2 x3 t a = some (rv, rt, ra) → J p l e (k2_rm (d9 + 1 + 2) (23 * (d9 + 1) + 44)) s m args below meth c x N (rho u0 v0) 4 0 0 (MQ below (PostI x N (rho u0 v0) rt ra rv) args s 0 0 (cA x)) 10 [(0, .int x0), (1, .int x1), (2, .int x2), (3, .int x3)] [] t a) := by
  intro n9
  induction n9 with
  | zero => exact fun _ _ _ _ _ _ h => (by cases h)
  | succ n9 ih =>
    intro x0 x1 x2 x3 t a h
    have h : gX7_speaksLast_10 nF rs (gX7_speaksLast nF rs n9) x0 x1 x2 x3 t a = some (rv, rt, ra) := h
    unfold gX7_speaksLast_10 at h
    refine j_iload_n F 3 dX7_speaksLast_10 rfl rfl ?_
    refine j_bipush F dX7_speaksLast_11 cB_6 ?_
    refine j_icmp_gt F 52 dX7_speaksLast_13 rfl h (fun h => ?_) (fun h => ?_)
    · refine j_iconst F dX7_speaksLast_52 cI_1 ?_
      exact j_zreturn F rfl dX7_speaksLast_53 h
    · refine j_iload_n F 0 dX7_speaksLast_16 rfl rfl ?_
      refine j_iload_n F 3 dX7_speaksLast_17 rfl rfl ?_
      refine j_iconst F dX7_speaksLast_18 cI_0 ?_
      refine j_callSi F mwX4_ofLength ql_X7_130 [.int x3, .int (0 : Int32)] rfl ⟨rfl, rfl, by simp only [k2_rm]; omega, by simp only [k2_rm]; omega⟩ ⟨Nat.le_refl 0, Nat.le_refl 0⟩ rfl (Nat.le_of_ble_eq_true rfl) dX7_speaksLast_19 (fun _ _ _ h9 => kX4_ofLength l hN  h9) h (fun v1 t1 a1 e1 h => ?_)
      refine j_iload_n F 1 dX7_speaksLast_22 rfl rfl ?_
      refine j_iconst F dX7_speaksLast_23 cI_0 ?_
      refine j_callSi F mwX4_ofLength ql_X7_130 [.int x1, .int (0 : Int32)] rfl ⟨rfl, rfl, by simp only [k2_rm]; omega, by simp only [k2_rm]; omega⟩ ⟨Nat.le_refl 0, Nat.le_refl 0⟩ rfl (Nat.le_of_ble_eq_true rfl) dX7_speaksLast_24 (fun _ _ _ h9 => kX4_ofLength l hN  h9) h (fun v2 t2 a2 e2 h => ?_)
      refine j_callSi F mwX7_mayFollow ql_X7_134 [.int x0, .int v1, .int v2] rfl ⟨rfl, rfl, by simp only [k2_rm]; omega, by simp only [k2_rm]; omega⟩ ⟨Nat.le_refl 0, Nat.le_refl 0⟩ rfl (Nat.le_of_ble_eq_true rfl) dX7_speaksLast_27 (fun _ _ _ h9 => kX7_mayFollow l hN  h9) h (fun v3 t3 a3 e3 h => ?_)
      refine j_if_eq F 46 dX7_speaksLast_30 rfl h (fun h => ?_) (fun h => ?_)
      · refine j_iinc F (v := x3 + (1 : Int32)) (lv' := [(3, .int (x3 + (1 : Int32))), (0, .int x0), (1, .int x1), (2, .int x2)]) dX7_speaksLast_46 3 rfl (congrArg (fun z => x3 + z) cI_1) (Nat.le_of_ble_eq_true rfl) rfl ?_
        refine j_goto F 10 dX7_speaksLast_49 rfl ?_
        exact j_lv [1, 2, 3, 0] rfl (ih _ _ _ _ _ _ h)
      · refine j_iload_n F 0 dX7_speaksLast_33 rfl rfl ?_
        refine j_iload_n F 3 dX7_speaksLast_34 rfl rfl ?_
        refine j_iload_n F 2 dX7_speaksLast_35 rfl rfl ?_
        refine j_iconst F dX7_speaksLast_36 cI_1 ?_
        refine j_iadd F dX7_speaksLast_37 ?_
        refine j_callSi F mwX7_speaksLast ql_X7_223 [.int x0, .int x3, .int (x2 + (1 : Int32))] rfl ⟨rfl, rfl, by simp only [k2_rm]; omega, by simp only [k2_rm]; omega⟩ ⟨Nat.le_refl 0, Nat.le_refl 0⟩ rfl (Nat.le_of_ble_eq_true rfl) dX7_speaksLast_38 (fun _ _ _ h9 => hself _ _ _ _ _ _ _ _ h9) h (fun v4 t4 a4 e4 h => ?_)
        refine j_if_eq F 46 dX7_speaksLast_41 rfl h (fun h => ?_) (fun h => ?_)
        · refine j_iinc F (v := x3 + (1 : Int32)) (lv' := [(3, .int (x3 + (1 : Int32))), (0, .int x0), (1, .int x1), (2, .int x2)]) dX7_speaksLast_46 3 rfl (congrArg (fun z => x3 + z) cI_1) (Nat.le_of_ble_eq_true rfl) rfl ?_
          refine j_goto F 10 dX7_speaksLast_49 rfl ?_
          exact j_lv [1, 2, 3, 0] rfl (ih _ _ _ _ _ _ h)
        · refine j_iconst F dX7_speaksLast_44 cI_0 ?_
          exact j_zreturn F rfl dX7_speaksLast_45 h
set_option maxRecDepth 100000 in
set_option maxHeartbeats 4000000 in
theorem kX7_speaksLast (l : Launch) {x : Cx} {N : Nat} {u0 v0 : Option Nat} {nF : Nat} (hN : 653 ≤ N) : ∀ (d9 : Nat) (x0 x1 x2 : Int32) (t : sT) (a : sA) (rv : Int32) (rt : sT) (ra : sA), fX7_speaksLast nF d9 x0 x1 x2 t a = some (rv, rt, ra) → Met l yX7_speaksLast [.code yX7_speaksLast cX7_speaksLast 4 (some .boolean)] (k2_rm (d9 + 2) (23 * d9 + 44)) (Pre x N (rho u0 v0) t a [.int x0, .int x1, .int x2]) (PostI x N (rho u0 v0) rt ra rv) 0 0 (cA x) := by
  intro d9
  induction d9 with
  | zero => exact fun _ _ _ _ _ _ _ _ h => (by cases h)
  | succ d9 hself =>
    intro x0 x1 x2 t a rv rt ra h
    have h : eX7_speaksLast nF (fX7_speaksLast nF d9) x0 x1 x2 t a = some (rv, rt, ra) := h
    refine j_entry (by decide) rfl (Nat.le_of_ble_eq_true rfl) ?_
    intro p e s m below meth c F hsz hnm
    have F : Fx p s m meth c cX7_speaksLast 4 RX7 (some .boolean) x := F
    unfold eX7_speaksLast at h
    show J p l e _ s m _ below meth c x N (rho u0 v0) 4 0 0 _ 0 [(0, .int x0), (1, .int x1), (2, .int x2)] [] t a
    refine j_iload_n F 2 dX7_speaksLast_0 rfl rfl ?_
    refine j_bipush F dX7_speaksLast_1 cB_6 ?_
    refine j_icmp_le F 8 dX7_speaksLast_3 rfl h (fun h => ?_) (fun h => ?_)
    · refine j_iconst F dX7_speaksLast_8 cI_1 ?_
      refine j_istore_n F (lv' := [(3, .int (1 : Int32)), (0, .int x0), (1, .int x1), (2, .int x2)]) dX7_speaksLast_9 rfl (Nat.le_of_ble_eq_true rfl) rfl ?_
      exact j_lv [1, 2, 3, 0] rfl (hX7_speaksLast F hsz hN hself nF _ _ _ _ _ _ h)
    · refine j_iconst F dX7_speaksLast_6 cI_1 ?_
      exact j_zreturn F rfl dX7_speaksLast_7 h
def fX7_longest (nF : Nat) (x1 : Int32) (t : sT) (a : sA) : Rs := if (1 : Int32) ≤ x1 then (if x1 ≤ (6 : Int32) then (cal (fX7_longestFrom nF 8 (t 198) x1 (1 : Int32) t a) (fun v1 t1 a1 => some (v1, t1, a1))) else (cal (fX7_refuse nF (-6 : Int32) t a) (fun v2 t2 a2 => some (v2, t2, a2)))) else (cal (fX7_refuse nF (-4 : Int32) t a) (fun v3 t3 a3 => some (v3, t3, a3)))
set_option maxRecDepth 100000 in
set_option maxHeartbeats 4000000 in
theorem kX7_longest (l : Launch) {x : Cx} {N : Nat} {u0 v0 : Option Nat} {nF : Nat} {x1 : Int32} {t : sT} {a : sA} {rv : Int32} {rt : sT} {ra : sA} (hN : 653 ≤ N) (h : fX7_longest nF x1 t a = some (rv, rt, ra)) : Met l yX7_longest [.code yX7_longest cX7_longest 2 (some .int)] (k2_rm 11 269) (Pre x N (rho u0 v0) t a [.ref (cz x + 0), .int x1]) (PostI x N (rho u0 v0) rt ra rv) 0 0 (cA x) := by
  refine j_entry (by decide) rfl (Nat.le_of_ble_eq_true rfl) ?_
  intro p e s m below meth c F hsz hnm
  have F : Fx p s m meth c cX7_longest 2 RX7 (some .int) x := F
  unfold fX7_longest at h
  show J p l e _ s m _ below meth c x N (rho u0 v0) 2 0 0 _ 0 [(0, .ref (cz x + 0)), (1, .int x1)] [] t a
  refine j_iload_n F 1 dX7_longest_0 rfl rfl ?_
  refine j_iconst F dX7_longest_1 cI_1 ?_
  refine j_icmp_ge F 12 dX7_longest_2 rfl h (fun h => ?_) (fun h => ?_)
  · refine j_iload_n F 1 dX7_longest_12 rfl rfl ?_
    refine j_bipush F dX7_longest_13 cB_6 ?_
    refine j_icmp_le F 25 dX7_longest_15 rfl h (fun h => ?_) (fun h => ?_)
    · refine j_aload_n F 0 dX7_longest_25 rfl rfl ?_
      refine j_getR F clX7 (j := 1) (lt653 rfl hN) ly0 (Nat.le_of_ble_eq_true rfl) rfl qf_X7_19 rfl dX7_longest_26 ?_
      refine j_getI F clX6 (j := 6) (tt := 198) (lt653 rfl hN) ly3 (Nat.le_of_ble_eq_true rfl) rfl qf_X7_115 rfl dX7_longest_29 ?_
      refine j_iload_n F 1 dX7_longest_32 rfl rfl ?_
      refine j_iconst F dX7_longest_33 cI_1 ?_
      refine j_callSi F mwX7_longestFrom ql_X7_220 [.int (t 198), .int x1, .int (1 : Int32)] rfl ⟨rfl, rfl, Nat.le_of_ble_eq_true rfl, Nat.le_of_ble_eq_true rfl⟩ ⟨Nat.le_refl 0, Nat.le_refl 0⟩ rfl (Nat.le_of_ble_eq_true rfl) dX7_longest_34 (fun _ _ _ h9 => kX7_longestFrom l hN 8 _ _ _ _ _ _ _ _ h9) h (fun v1 t1 a1 e1 h => ?_)
      exact j_ireturn F rfl dX7_longest_37 h
    · refine j_aload_n F 0 dX7_longest_18 rfl rfl ?_
      refine j_bipush F dX7_longest_19 cB_m6 ?_
      refine j_callVi F mwX7_refuse ql_X7_66 clX7 (lt653 rfl hN) ly0 [.int (-6 : Int32)] rfl ⟨rfl, rfl, Nat.le_of_ble_eq_true rfl, Nat.le_of_ble_eq_true rfl⟩ ⟨Nat.le_refl 0, Nat.le_refl 0⟩ rfl (Nat.le_of_ble_eq_true rfl) dX7_longest_21 (fun _ _ _ h9 => kX7_refuse l hN  h9) h (fun v2 t2 a2 e2 h => ?_)
      exact j_ireturn F rfl dX7_longest_24 h
  · refine j_aload_n F 0 dX7_longest_5 rfl rfl ?_
    refine j_bipush F dX7_longest_6 cB_m4 ?_
    refine j_callVi F mwX7_refuse ql_X7_66 clX7 (lt653 rfl hN) ly0 [.int (-4 : Int32)] rfl ⟨rfl, rfl, Nat.le_of_ble_eq_true rfl, Nat.le_of_ble_eq_true rfl⟩ ⟨Nat.le_refl 0, Nat.le_refl 0⟩ rfl (Nat.le_of_ble_eq_true rfl) dX7_longest_8 (fun _ _ _ h9 => kX7_refuse l hN  h9) h (fun v3 t3 a3 e3 h => ?_)
    exact j_ireturn F rfl dX7_longest_11 h
def fX7_last (nF : Nat) (x1 : Int32) (t : sT) (a : sA) : Rs := if (1 : Int32) ≤ x1 then (if x1 ≤ (6 : Int32) then (cal (fX7_longestFrom nF 8 (t 198) x1 (1 : Int32) t a) (fun v1 t1 a1 => if 0 ≤ v1 then (cal (fX7_speaksLast nF 8 (t1 198) x1 (1 : Int32) t1 a1) (fun v2 t2 a2 => cal (fX7_asBit nF v2 t2 a2) (fun v3 t3 a3 => some (v3, t3, a3)))) else (some ((-9 : Int32), t1, a1)))) else (cal (fX7_refuse nF (-6 : Int32) t a) (fun v4 t4 a4 => some (v4, t4, a4)))) else (cal (fX7_refuse nF (-4 : Int32) t a) (fun v5 t5 a5 => some (v5, t5, a5)))
set_option maxRecDepth 100000 in
set_option maxHeartbeats 4000000 in
theorem kX7_last (l : Launch) {x : Cx} {N : Nat} {u0 v0 : Option Nat} {nF : Nat} {x1 : Int32} {t : sT} {a : sA} {rv : Int32} {rt : sT} {ra : sA} (hN : 653 ≤ N) (h : fX7_last nF x1 t a = some (rv, rt, ra)) : Met l yX7_last [.code yX7_last cX7_last 2 (some .int)] (k2_rm 11 269) (Pre x N (rho u0 v0) t a [.ref (cz x + 0), .int x1]) (PostI x N (rho u0 v0) rt ra rv) 0 0 (cA x) := by
  refine j_entry (by decide) rfl (Nat.le_of_ble_eq_true rfl) ?_
  intro p e s m below meth c F hsz hnm
  have F : Fx p s m meth c cX7_last 2 RX7 (some .int) x := F
  unfold fX7_last at h
  show J p l e _ s m _ below meth c x N (rho u0 v0) 2 0 0 _ 0 [(0, .ref (cz x + 0)), (1, .int x1)] [] t a
  refine j_iload_n F 1 dX7_last_0 rfl rfl ?_
  refine j_iconst F dX7_last_1 cI_1 ?_
  refine j_icmp_ge F 12 dX7_last_2 rfl h (fun h => ?_) (fun h => ?_)
  · refine j_iload_n F 1 dX7_last_12 rfl rfl ?_
    refine j_bipush F dX7_last_13 cB_6 ?_
    refine j_icmp_le F 25 dX7_last_15 rfl h (fun h => ?_) (fun h => ?_)
    · refine j_aload_n F 0 dX7_last_25 rfl rfl ?_
      refine j_getR F clX7 (j := 1) (lt653 rfl hN) ly0 (Nat.le_of_ble_eq_true rfl) rfl qf_X7_19 rfl dX7_last_26 ?_
      refine j_getI F clX6 (j := 6) (tt := 198) (lt653 rfl hN) ly3 (Nat.le_of_ble_eq_true rfl) rfl qf_X7_115 rfl dX7_last_29 ?_
      refine j_iload_n F 1 dX7_last_32 rfl rfl ?_
      refine j_iconst F dX7_last_33 cI_1 ?_
      refine j_callSi F mwX7_longestFrom ql_X7_220 [.int (t 198), .int x1, .int (1 : Int32)] rfl ⟨rfl, rfl, Nat.le_of_ble_eq_true rfl, Nat.le_of_ble_eq_true rfl⟩ ⟨Nat.le_refl 0, Nat.le_refl 0⟩ rfl (Nat.le_of_ble_eq_true rfl) dX7_last_34 (fun _ _ _ h9 => kX7_longestFrom l hN 8 _ _ _ _ _ _ _ _ h9) h (fun v1 t1 a1 e1 h => ?_)
      refine j_if_ge F 43 dX7_last_37 rfl h (fun h => ?_) (fun h => ?_)
      · refine j_aload_n F 0 dX7_last_43 rfl rfl ?_
        refine j_getR F clX7 (j := 1) (lt653 rfl hN) ly0 (Nat.le_of_ble_eq_true rfl) rfl qf_X7_19 rfl dX7_last_44 ?_
        refine j_getI F clX6 (j := 6) (tt := 198) (lt653 rfl hN) ly3 (Nat.le_of_ble_eq_true rfl) rfl qf_X7_115 rfl dX7_last_47 ?_
        refine j_iload_n F 1 dX7_last_50 rfl rfl ?_
        refine j_iconst F dX7_last_51 cI_1 ?_
        refine j_callSi F mwX7_speaksLast ql_X7_223 [.int (t1 198), .int x1, .int (1 : Int32)] rfl ⟨rfl, rfl, Nat.le_of_ble_eq_true rfl, Nat.le_of_ble_eq_true rfl⟩ ⟨Nat.le_refl 0, Nat.le_refl 0⟩ rfl (Nat.le_of_ble_eq_true rfl) dX7_last_52 (fun _ _ _ h9 => kX7_speaksLast l hN 8 _ _ _ _ _ _ _ _ h9) h (fun v2 t2 a2 e2 h => ?_)
        refine j_callSi F mwX7_asBit ql_X7_138 [.int v2] rfl ⟨rfl, rfl, Nat.le_of_ble_eq_true rfl, Nat.le_of_ble_eq_true rfl⟩ ⟨Nat.le_refl 0, Nat.le_refl 0⟩ rfl (Nat.le_of_ble_eq_true rfl) dX7_last_55 (fun _ _ _ h9 => kX7_asBit l hN  h9) h (fun v3 t3 a3 e3 h => ?_)
        exact j_ireturn F rfl dX7_last_58 h
      · refine j_bipush F dX7_last_40 cB_m9 ?_
        exact j_ireturn F rfl dX7_last_42 h
    · refine j_aload_n F 0 dX7_last_18 rfl rfl ?_
      refine j_bipush F dX7_last_19 cB_m6 ?_
      refine j_callVi F mwX7_refuse ql_X7_66 clX7 (lt653 rfl hN) ly0 [.int (-6 : Int32)] rfl ⟨rfl, rfl, Nat.le_of_ble_eq_true rfl, Nat.le_of_ble_eq_true rfl⟩ ⟨Nat.le_refl 0, Nat.le_refl 0⟩ rfl (Nat.le_of_ble_eq_true rfl) dX7_last_21 (fun _ _ _ h9 => kX7_refuse l hN  h9) h (fun v4 t4 a4 e4 h => ?_)
      exact j_ireturn F rfl dX7_last_24 h
  · refine j_aload_n F 0 dX7_last_5 rfl rfl ?_
    refine j_bipush F dX7_last_6 cB_m4 ?_
    refine j_callVi F mwX7_refuse ql_X7_66 clX7 (lt653 rfl hN) ly0 [.int (-4 : Int32)] rfl ⟨rfl, rfl, Nat.le_of_ble_eq_true rfl, Nat.le_of_ble_eq_true rfl⟩ ⟨Nat.le_refl 0, Nat.le_refl 0⟩ rfl (Nat.le_of_ble_eq_true rfl) dX7_last_8 (fun _ _ _ h9 => kX7_refuse l hN  h9) h (fun v5 t5 a5 e5 h => ?_)
    exact j_ireturn F rfl dX7_last_11 h
