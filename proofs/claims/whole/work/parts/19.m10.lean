/-! 19.m10.lean.txt: functions and contracts, by program (wip/whole/gen.py) -/
def fJ0_coder_7d493 (nF : Nat) (i0 : Nat) (t : sT) (a : sA) : Rs := if (1 : Int32) = 0 then (zok (1 : Int32) (some ((1 : Int32), t, a))) else (zok (0 : Int32) (some ((0 : Int32), t, a)))
set_option maxRecDepth 100000 in
set_option maxHeartbeats 4000000 in
theorem kJ0_coder_7d493 (l : Launch) {x : Cx} {N : Nat} {u0 v0 : Option Nat} {nF : Nat} {i0 : Nat} {t : sT} {a : sA} {rv : Int32} {rt : sT} {ra : sA} (hN : 653 ≤ N) (hi0 : i0 < 6) (h : fJ0_coder_7d493 nF i0 t a = some (rv, rt, ra)) : Met l yJ0_coder_7d493 [.code yJ0_coder_7d493 cJ0_coder_7d493 1 (some .byte)] (k2_rm 0 0) (Pre x N (rho u0 v0) t a [.ref (cAd x i0)]) (PostI x N (rho u0 v0) rt ra rv) 0 0 (cA x) := by
  refine j_entry (by decide) rfl (Nat.le_of_ble_eq_true rfl) ?_
  intro p e s m below meth c F hsz hnm
  have F : Fx p s m meth c cJ0_coder_7d493 1 RJ0 (some .byte) x := F
  unfold fJ0_coder_7d493 at h
  show J p l e _ s m _ below meth c x N (rho u0 v0) 1 0 0 _ 0 [(0, .ref (cAd x i0))] [] t a
  refine j_getsC F qf_J0_38 dJ0_coder_7d493_0 ?_
  refine j_if_eq F 13 dJ0_coder_7d493_3 rfl h (fun h => ?_) (fun h => ?_)
  · refine j_iconst F dJ0_coder_7d493_13 cI_1 ?_
    exact j_breturn F rfl dJ0_coder_7d493_14 h
  · refine j_aload_n F 0 dJ0_coder_7d493_6 rfl rfl ?_
    refine j_getS1 F hi0 qf_J0_15 dJ0_coder_7d493_7 ?_
    refine j_goto F 14 dJ0_coder_7d493_10 rfl ?_
    exact j_breturn F rfl dJ0_coder_7d493_14 h
def fJ0_isLatin1_aae02 (nF : Nat) (i0 : Nat) (t : sT) (a : sA) : Rs := if (1 : Int32) = 0 then (zok (0 : Int32) (some ((0 : Int32), t, a))) else (if (0 : Int32) = 0 then (zok (1 : Int32) (some ((1 : Int32), t, a))) else (zok (0 : Int32) (some ((0 : Int32), t, a))))
set_option maxRecDepth 100000 in
set_option maxHeartbeats 4000000 in
theorem kJ0_isLatin1_aae02 (l : Launch) {x : Cx} {N : Nat} {u0 v0 : Option Nat} {nF : Nat} {i0 : Nat} {t : sT} {a : sA} {rv : Int32} {rt : sT} {ra : sA} (hN : 653 ≤ N) (hi0 : i0 < 6) (h : fJ0_isLatin1_aae02 nF i0 t a = some (rv, rt, ra)) : Met l yJ0_isLatin1_aae02 [.code yJ0_isLatin1_aae02 cJ0_isLatin1_aae02 1 (some .boolean)] (k2_rm 0 0) (Pre x N (rho u0 v0) t a [.ref (cAd x i0)]) (PostI x N (rho u0 v0) rt ra rv) 0 0 (cA x) := by
  refine j_entry (by decide) rfl (Nat.le_of_ble_eq_true rfl) ?_
  intro p e s m below meth c F hsz hnm
  have F : Fx p s m meth c cJ0_isLatin1_aae02 1 RJ0 (some .boolean) x := F
  unfold fJ0_isLatin1_aae02 at h
  show J p l e _ s m _ below meth c x N (rho u0 v0) 1 0 0 _ 0 [(0, .ref (cAd x i0))] [] t a
  refine j_getsC F qf_J0_38 dJ0_isLatin1_aae02_0 ?_
  refine j_if_eq F 17 dJ0_isLatin1_aae02_3 rfl h (fun h => ?_) (fun h => ?_)
  · refine j_iconst F dJ0_isLatin1_aae02_17 cI_0 ?_
    exact j_zreturn F rfl dJ0_isLatin1_aae02_18 h
  · refine j_aload_n F 0 dJ0_isLatin1_aae02_6 rfl rfl ?_
    refine j_getS1 F hi0 qf_J0_15 dJ0_isLatin1_aae02_7 ?_
    refine j_if_ne F 17 dJ0_isLatin1_aae02_10 rfl h (fun h => ?_) (fun h => ?_)
    · refine j_iconst F dJ0_isLatin1_aae02_13 cI_1 ?_
      refine j_goto F 18 dJ0_isLatin1_aae02_14 rfl ?_
      exact j_zreturn F rfl dJ0_isLatin1_aae02_18 h
    · refine j_iconst F dJ0_isLatin1_aae02_17 cI_0 ?_
      exact j_zreturn F rfl dJ0_isLatin1_aae02_18 h
def fJ0_isEmpty_aae02 (nF : Nat) (i0 : Nat) (t : sT) (a : sA) : Rs := if (Int32.ofNat (strN.getD i0 0)) = 0 then (zok (1 : Int32) (some ((1 : Int32), t, a))) else (zok (0 : Int32) (some ((0 : Int32), t, a)))
set_option maxRecDepth 100000 in
set_option maxHeartbeats 4000000 in
theorem kJ0_isEmpty_aae02 (l : Launch) {x : Cx} {N : Nat} {u0 v0 : Option Nat} {nF : Nat} {i0 : Nat} {t : sT} {a : sA} {rv : Int32} {rt : sT} {ra : sA} (hN : 653 ≤ N) (hi0 : i0 < 6) (h : fJ0_isEmpty_aae02 nF i0 t a = some (rv, rt, ra)) : Met l yJ0_isEmpty_aae02 [.code yJ0_isEmpty_aae02 cJ0_isEmpty_aae02 1 (some .boolean)] (k2_rm 0 0) (Pre x N (rho u0 v0) t a [.ref (cAd x i0)]) (PostI x N (rho u0 v0) rt ra rv) 0 0 (cA x) := by
  refine j_entry (by decide) rfl (Nat.le_of_ble_eq_true rfl) ?_
  intro p e s m below meth c F hsz hnm
  have F : Fx p s m meth c cJ0_isEmpty_aae02 1 RJ0 (some .boolean) x := F
  unfold fJ0_isEmpty_aae02 at h
  show J p l e _ s m _ below meth c x N (rho u0 v0) 1 0 0 _ 0 [(0, .ref (cAd x i0))] [] t a
  refine j_aload_n F 0 dJ0_isEmpty_aae02_0 rfl rfl ?_
  refine j_getS0 F hi0 qf_J0_9 dJ0_isEmpty_aae02_1 ?_
  refine j_tlen F hi0 dJ0_isEmpty_aae02_4 ?_
  refine j_if_ne F 12 dJ0_isEmpty_aae02_5 rfl h (fun h => ?_) (fun h => ?_)
  · refine j_iconst F dJ0_isEmpty_aae02_8 cI_1 ?_
    refine j_goto F 13 dJ0_isEmpty_aae02_9 rfl ?_
    exact j_zreturn F rfl dJ0_isEmpty_aae02_13 h
  · refine j_iconst F dJ0_isEmpty_aae02_12 cI_0 ?_
    exact j_zreturn F rfl dJ0_isEmpty_aae02_13 h
def fJ0_length_8abf5 (nF : Nat) (i0 : Nat) (t : sT) (a : sA) : Rs := cal (fJ0_coder_7d493 nF i0 t a) (fun v1 t1 a1 => some ((Int32.ofNat (strN.getD i0 0)) >>> (v1 &&& 31), t1, a1))
set_option maxRecDepth 100000 in
set_option maxHeartbeats 4000000 in
theorem kJ0_length_8abf5 (l : Launch) {x : Cx} {N : Nat} {u0 v0 : Option Nat} {nF : Nat} {i0 : Nat} {t : sT} {a : sA} {rv : Int32} {rt : sT} {ra : sA} (hN : 653 ≤ N) (hi0 : i0 < 6) (h : fJ0_length_8abf5 nF i0 t a = some (rv, rt, ra)) : Met l yJ0_length_8abf5 [.code yJ0_length_8abf5 cJ0_length_8abf5 1 (some .int)] (k2_rm 1 20) (Pre x N (rho u0 v0) t a [.ref (cAd x i0)]) (PostI x N (rho u0 v0) rt ra rv) 0 0 (cA x) := by
  refine j_entry (by decide) rfl (Nat.le_of_ble_eq_true rfl) ?_
  intro p e s m below meth c F hsz hnm
  have F : Fx p s m meth c cJ0_length_8abf5 1 RJ0 (some .int) x := F
  unfold fJ0_length_8abf5 at h
  show J p l e _ s m _ below meth c x N (rho u0 v0) 1 0 0 _ 0 [(0, .ref (cAd x i0))] [] t a
  refine j_aload_n F 0 dJ0_length_8abf5_0 rfl rfl ?_
  refine j_getS0 F hi0 qf_J0_9 dJ0_length_8abf5_1 ?_
  refine j_tlen F hi0 dJ0_length_8abf5_4 ?_
  refine j_aload_n F 0 dJ0_length_8abf5_5 rfl rfl ?_
  refine j_callTi F mwJ0_coder_7d493 ql_J0_335 rfl hi0 [] rfl ⟨rfl, rfl, Nat.le_of_ble_eq_true rfl, Nat.le_of_ble_eq_true rfl⟩ ⟨Nat.le_refl 0, Nat.le_refl 0⟩ rfl (Nat.le_of_ble_eq_true rfl) dJ0_length_8abf5_6 (fun _ _ _ h9 => kJ0_coder_7d493 l hN hi0 h9) h (fun v1 t1 a1 e1 h => ?_)
  refine j_ishr F dJ0_length_8abf5_9 ?_
  exact j_ireturn F rfl dJ0_length_8abf5_10 h
def fJ1_charAt_3b067 (nF : Nat) (i0 : Nat) (x1 : Int32) (t : sT) (a : sA) : Rs := cal (fJ0_checkIndex_df160 nF x1 (Int32.ofNat (strN.getD i0 0)) t a) (fun v1 t1 a1 => bnd x1 (strN.getD i0 0) (cok (((((strB.getD i0 []).getD x1.toNatClampNeg 0) &&& (255 : Int32)).toUInt32 % 65536).toInt32) (some (((((strB.getD i0 []).getD x1.toNatClampNeg 0) &&& (255 : Int32)).toUInt32 % 65536).toInt32, t1, a1))))
set_option maxRecDepth 100000 in
set_option maxHeartbeats 4000000 in
theorem kJ1_charAt_3b067 (l : Launch) {x : Cx} {N : Nat} {u0 v0 : Option Nat} {nF : Nat} {i0 : Nat} {x1 : Int32} {t : sT} {a : sA} {rv : Int32} {rt : sT} {ra : sA} (hN : 653 ≤ N) (hi0 : i0 < 6) (h : fJ1_charAt_3b067 nF i0 x1 t a = some (rv, rt, ra)) : Met l yJ1_charAt_3b067 [.code yJ1_charAt_3b067 cJ1_charAt_3b067 2 (some .char)] (k2_rm 2 51) (Pre x N (rho u0 v0) t a [.ref (cAv x i0), .int x1]) (PostI x N (rho u0 v0) rt ra rv) 0 0 (cA x) := by
  refine j_entry (by decide) rfl (Nat.le_of_ble_eq_true rfl) ?_
  intro p e s m below meth c F hsz hnm
  have F : Fx p s m meth c cJ1_charAt_3b067 2 RJ1 (some .char) x := F
  unfold fJ1_charAt_3b067 at h
  show J p l e _ s m _ below meth c x N (rho u0 v0) 2 0 0 _ 0 [(0, .ref (cAv x i0)), (1, .int x1)] [] t a
  refine j_iload_n F 1 dJ1_charAt_3b067_0 rfl rfl ?_
  refine j_aload_n F 0 dJ1_charAt_3b067_1 rfl rfl ?_
  refine j_tlen F hi0 dJ1_charAt_3b067_2 ?_
  refine j_callSv F mwJ0_checkIndex_df160 ql_J1_9 [.int x1, .int (Int32.ofNat (strN.getD i0 0))] rfl ⟨rfl, rfl, Nat.le_of_ble_eq_true rfl, Nat.le_of_ble_eq_true rfl⟩ ⟨Nat.le_refl 0, Nat.le_refl 0⟩ rfl (Nat.le_of_ble_eq_true rfl) dJ1_charAt_3b067_3 (fun _ _ _ h9 => kJ0_checkIndex_df160 l hN  h9) h (fun v1 t1 a1 e1 h => ?_)
  refine j_aload_n F 0 dJ1_charAt_3b067_6 rfl rfl ?_
  refine j_iload_n F 1 dJ1_charAt_3b067_7 rfl rfl ?_
  refine j_tb F hi0 dJ1_charAt_3b067_8 h (fun h => ?_)
  refine j_sipush F dJ1_charAt_3b067_9 cS_255 ?_
  refine j_iand F dJ1_charAt_3b067_12 ?_
  refine j_i2c F dJ1_charAt_3b067_13 rfl ?_
  exact j_creturn F rfl dJ1_charAt_3b067_14 h
def fJ0_charAt_5068e (nF : Nat) (i0 : Nat) (x1 : Int32) (t : sT) (a : sA) : Rs := cal (fJ0_isLatin1_aae02 nF i0 t a) (fun v1 t1 a1 => if v1 = 0 then (none) else (cal (fJ1_charAt_3b067 nF i0 x1 t1 a1) (fun v2 t2 a2 => cok v2 (some (v2, t2, a2)))))
set_option maxRecDepth 100000 in
set_option maxHeartbeats 4000000 in
theorem kJ0_charAt_5068e (l : Launch) {x : Cx} {N : Nat} {u0 v0 : Option Nat} {nF : Nat} {i0 : Nat} {x1 : Int32} {t : sT} {a : sA} {rv : Int32} {rt : sT} {ra : sA} (hN : 653 ≤ N) (hi0 : i0 < 6) (h : fJ0_charAt_5068e nF i0 x1 t a = some (rv, rt, ra)) : Met l yJ0_charAt_5068e [.code yJ0_charAt_5068e cJ0_charAt_5068e 2 (some .char)] (k2_rm 3 72) (Pre x N (rho u0 v0) t a [.ref (cAd x i0), .int x1]) (PostI x N (rho u0 v0) rt ra rv) 0 0 (cA x) := by
  refine j_entry (by decide) rfl (Nat.le_of_ble_eq_true rfl) ?_
  intro p e s m below meth c F hsz hnm
  have F : Fx p s m meth c cJ0_charAt_5068e 2 RJ0 (some .char) x := F
  unfold fJ0_charAt_5068e at h
  show J p l e _ s m _ below meth c x N (rho u0 v0) 2 0 0 _ 0 [(0, .ref (cAd x i0)), (1, .int x1)] [] t a
  refine j_aload_n F 0 dJ0_charAt_5068e_0 rfl rfl ?_
  refine j_callTi F mwJ0_isLatin1_aae02 ql_J0_492 rfl hi0 [] rfl ⟨rfl, rfl, Nat.le_of_ble_eq_true rfl, Nat.le_of_ble_eq_true rfl⟩ ⟨Nat.le_refl 0, Nat.le_refl 0⟩ rfl (Nat.le_of_ble_eq_true rfl) dJ0_charAt_5068e_1 (fun _ _ _ h9 => kJ0_isLatin1_aae02 l hN hi0 h9) h (fun v1 t1 a1 e1 h => ?_)
  refine j_if_eq F 16 dJ0_charAt_5068e_4 rfl h (fun h => ?_) (fun h => ?_)
  · refine j_aload_n F 0 dJ0_charAt_5068e_16 rfl rfl ?_
    refine j_getS0 F hi0 qf_J0_9 dJ0_charAt_5068e_17 ?_
    refine j_iload_n F 1 dJ0_charAt_5068e_20 rfl rfl ?_
    cases h
  · refine j_aload_n F 0 dJ0_charAt_5068e_7 rfl rfl ?_
    refine j_getS0 F hi0 qf_J0_9 dJ0_charAt_5068e_8 ?_
    refine j_iload_n F 1 dJ0_charAt_5068e_11 rfl rfl ?_
    refine j_callSi F mwJ1_charAt_3b067 ql_J0_495 [.ref (cAv x i0), .int x1] rfl ⟨rfl, rfl, Nat.le_of_ble_eq_true rfl, Nat.le_of_ble_eq_true rfl⟩ ⟨Nat.le_refl 0, Nat.le_refl 0⟩ rfl (Nat.le_of_ble_eq_true rfl) dJ0_charAt_5068e_12 (fun _ _ _ h9 => kJ1_charAt_3b067 l hN hi0 h9) h (fun v2 t2 a2 e2 h => ?_)
    exact j_creturn F rfl dJ0_charAt_5068e_15 h
def fJ1_canEncode_9a6ad (nF : Nat) (x0 : Int32) (t : sT) (a : sA) : Rs := if x0 < 0 then (zok (0 : Int32) (some ((0 : Int32), t, a))) else (if (255 : Int32) < x0 then (zok (0 : Int32) (some ((0 : Int32), t, a))) else (zok (1 : Int32) (some ((1 : Int32), t, a))))
set_option maxRecDepth 100000 in
set_option maxHeartbeats 4000000 in
theorem kJ1_canEncode_9a6ad (l : Launch) {x : Cx} {N : Nat} {u0 v0 : Option Nat} {nF : Nat} {x0 : Int32} {t : sT} {a : sA} {rv : Int32} {rt : sT} {ra : sA} (hN : 653 ≤ N) (h : fJ1_canEncode_9a6ad nF x0 t a = some (rv, rt, ra)) : Met l yJ1_canEncode_9a6ad [.code yJ1_canEncode_9a6ad cJ1_canEncode_9a6ad 1 (some .boolean)] (k2_rm 0 0) (Pre x N (rho u0 v0) t a [.int x0]) (PostI x N (rho u0 v0) rt ra rv) 0 0 (cA x) := by
  refine j_entry (by decide) rfl (Nat.le_of_ble_eq_true rfl) ?_
  intro p e s m below meth c F hsz hnm
  have F : Fx p s m meth c cJ1_canEncode_9a6ad 1 RJ1 (some .boolean) x := F
  unfold fJ1_canEncode_9a6ad at h
  show J p l e _ s m _ below meth c x N (rho u0 v0) 1 0 0 _ 0 [(0, .int x0)] [] t a
  refine j_iload_n F 0 dJ1_canEncode_9a6ad_0 rfl rfl ?_
  refine j_if_lt F 15 dJ1_canEncode_9a6ad_1 rfl h (fun h => ?_) (fun h => ?_)
  · refine j_iconst F dJ1_canEncode_9a6ad_15 cI_0 ?_
    exact j_zreturn F rfl dJ1_canEncode_9a6ad_16 h
  · refine j_iload_n F 0 dJ1_canEncode_9a6ad_4 rfl rfl ?_
    refine j_sipush F dJ1_canEncode_9a6ad_5 cS_255 ?_
    refine j_icmp_gt F 15 dJ1_canEncode_9a6ad_8 rfl h (fun h => ?_) (fun h => ?_)
    · refine j_iconst F dJ1_canEncode_9a6ad_15 cI_0 ?_
      exact j_zreturn F rfl dJ1_canEncode_9a6ad_16 h
    · refine j_iconst F dJ1_canEncode_9a6ad_11 cI_1 ?_
      refine j_goto F 16 dJ1_canEncode_9a6ad_12 rfl ?_
      exact j_zreturn F rfl dJ1_canEncode_9a6ad_16 h
def gJ1_indexOfChar_4cfef_7 (nF : Nat) (i0 : Nat) (r7 : Int32 → Int32 → Int32 → sT → sA → Rs) (x3 x4 x5 : Int32) (t : sT) (a : sA) : Rs := if x3 ≤ x5 then (some ((-1 : Int32), t, a)) else (bnd x5 (strN.getD i0 0) (if ((strB.getD i0 []).getD x5.toNatClampNeg 0) = x4 then (some (x5, t, a)) else (r7 x3 x4 (x5 + (1 : Int32)) t a)))
def gJ1_indexOfChar_4cfef (nF : Nat) (i0 : Nat) : Nat → (Int32 → Int32 → Int32 → sT → sA → Rs)
  | 0 => (fun _ _ _ _ _ => none)
  | n9 + 1 => (gJ1_indexOfChar_4cfef_7 nF i0 (gJ1_indexOfChar_4cfef nF i0 n9))
def fJ1_indexOfChar_4cfef (nF : Nat) (i0 : Nat) (x1 : Int32) (x2 : Int32) (x3 : Int32) (t : sT) (a : sA) : Rs := (gJ1_indexOfChar_4cfef nF i0 nF) x3 x1.toInt8.toInt32 x2 t a
set_option maxRecDepth 100000 in
set_option maxHeartbeats 4000000 in
theorem hJ1_indexOfChar_4cfef {p : Program} {l : Launch} {e : Env} {s : State} {m : MethodId} {args : Array Value} {below : List Frame} {meth : Method} {c : Code} {x : Cx} {N : Nat} {u0 v0 : Option Nat} {nF : Nat} {i0 : Nat} (F : Fx p s m meth c cJ1_indexOfChar_4cfef 6 RJ1 (some .int) x) (hsz : s.heap.size = cz x + N) (hN : 653 ≤ N) (hi0 : i0 < 6) {rv : Int32} {rt : sT} {ra : sA} : ∀ n9 : Nat, (∀ (x3 x4 x5 : Int32) (t : sT) (a : sA), (gJ1_indexOfChar_4cfef nF i0 n9) x3 x4 x5 t a = some (rv, rt, ra) → J p l e (k2_rm 0 0) s m args below meth c x N (rho u0 v0) 6 0 0 (MQ below (PostI x N (rho u0 v0) rt ra rv) args s 0 0 (cA x)) 7 [(0, .ref (cAv x i0)), (3, .int x3), (4, .int x4), (5, .int x5)] [] t a) := by
  intro n9
  induction n9 with
  | zero => exact fun _ _ _ _ _ h => (by cases h)
  | succ n9 ih =>
    intro x3 x4 x5 t a h
    have h : gJ1_indexOfChar_4cfef_7 nF i0 (gJ1_indexOfChar_4cfef nF i0 n9) x3 x4 x5 t a = some (rv, rt, ra) := h
    unfold gJ1_indexOfChar_4cfef_7 at h
    refine j_iload F 3 dJ1_indexOfChar_4cfef_7 rfl ?_
    refine j_iload_n F 1 dJ1_indexOfChar_4cfef_9 rfl rfl ?_
    refine j_icmp_ge F 31 dJ1_indexOfChar_4cfef_10 rfl h (fun h => ?_) (fun h => ?_)
    · refine j_iconst F dJ1_indexOfChar_4cfef_31 cI_m1 ?_
      exact j_ireturn F rfl dJ1_indexOfChar_4cfef_32 h
    · refine j_aload_n F 0 dJ1_indexOfChar_4cfef_13 rfl rfl ?_
      refine j_iload F 3 dJ1_indexOfChar_4cfef_14 rfl ?_
      refine j_tb F hi0 dJ1_indexOfChar_4cfef_16 h (fun h => ?_)
      refine j_iload F 2 dJ1_indexOfChar_4cfef_17 rfl ?_
      refine j_icmp_ne F 25 dJ1_indexOfChar_4cfef_19 rfl h (fun h => ?_) (fun h => ?_)
      · refine j_iload F 3 dJ1_indexOfChar_4cfef_22 rfl ?_
        exact j_ireturn F rfl dJ1_indexOfChar_4cfef_24 h
      · refine j_iinc F (v := x5 + (1 : Int32)) (lv' := [(5, .int (x5 + (1 : Int32))), (0, .ref (cAv x i0)), (3, .int x3), (4, .int x4)]) dJ1_indexOfChar_4cfef_25 3 rfl (congrArg (fun z => x5 + z) cI_1) (Nat.le_of_ble_eq_true rfl) rfl ?_
        refine j_goto F 7 dJ1_indexOfChar_4cfef_28 rfl ?_
        exact j_lv [1, 2, 3, 0] rfl (ih _ _ _ _ _ h)
set_option maxRecDepth 100000 in
set_option maxHeartbeats 4000000 in
theorem kJ1_indexOfChar_4cfef (l : Launch) {x : Cx} {N : Nat} {u0 v0 : Option Nat} {nF : Nat} {i0 : Nat} {x1 : Int32} {x2 : Int32} {x3 : Int32} {t : sT} {a : sA} {rv : Int32} {rt : sT} {ra : sA} (hN : 653 ≤ N) (hi0 : i0 < 6) (h : fJ1_indexOfChar_4cfef nF i0 x1 x2 x3 t a = some (rv, rt, ra)) : Met l yJ1_indexOfChar_4cfef [.code yJ1_indexOfChar_4cfef cJ1_indexOfChar_4cfef 6 (some .int)] (k2_rm 0 0) (Pre x N (rho u0 v0) t a [.ref (cAv x i0), .int x1, .int x2, .int x3]) (PostI x N (rho u0 v0) rt ra rv) 0 0 (cA x) := by
  refine j_entry (by decide) rfl (Nat.le_of_ble_eq_true rfl) ?_
  intro p e s m below meth c F hsz hnm
  have F : Fx p s m meth c cJ1_indexOfChar_4cfef 6 RJ1 (some .int) x := F
  unfold fJ1_indexOfChar_4cfef at h
  show J p l e _ s m _ below meth c x N (rho u0 v0) 6 0 0 _ 0 [(0, .ref (cAv x i0)), (1, .int x1), (2, .int x2), (3, .int x3)] [] t a
  refine j_iload_n F 1 dJ1_indexOfChar_4cfef_0 rfl rfl ?_
  refine j_i2b F dJ1_indexOfChar_4cfef_1 rfl ?_
  refine j_istore F (k := 0) (lv' := [(4, .int x1.toInt8.toInt32), (0, .ref (cAv x i0)), (1, .int x1), (2, .int x2), (3, .int x3)]) dJ1_indexOfChar_4cfef_2 (Nat.le_of_ble_eq_true rfl) rfl ?_
  refine j_iload_n F 3 dJ1_indexOfChar_4cfef_4 rfl rfl ?_
  refine j_istore F (k := 0) (lv' := [(5, .int x2), (4, .int x1.toInt8.toInt32), (0, .ref (cAv x i0)), (1, .int x1), (2, .int x2), (3, .int x3)]) dJ1_indexOfChar_4cfef_5 (Nat.le_of_ble_eq_true rfl) rfl ?_
  exact j_lv [2, 5, 1, 0] rfl ((hJ1_indexOfChar_4cfef F hsz hN hi0 nF) _ _ _ _ _ h)
def fJ1_indexOf_4cfef (nF : Nat) (i0 : Nat) (x1 : Int32) (x2 : Int32) (x3 : Int32) (t : sT) (a : sA) : Rs := cal (fJ1_canEncode_9a6ad nF x1 t a) (fun v1 t1 a1 => if v1 = 0 then (some ((-1 : Int32), t1, a1)) else (if (if x2 < (0 : Int32) then (0 : Int32) else x2) < (if (Int32.ofNat (strN.getD i0 0)) < x3 then Int32.ofNat (strN.getD i0 0) else x3) then (cal (fJ1_indexOfChar_4cfef nF i0 x1 (if x2 < (0 : Int32) then (0 : Int32) else x2) (if (Int32.ofNat (strN.getD i0 0)) < x3 then Int32.ofNat (strN.getD i0 0) else x3) t1 a1) (fun v2 t2 a2 => some (v2, t2, a2))) else (some ((-1 : Int32), t1, a1))))
set_option maxRecDepth 100000 in
set_option maxHeartbeats 4000000 in
theorem kJ1_indexOf_4cfef (l : Launch) {x : Cx} {N : Nat} {u0 v0 : Option Nat} {nF : Nat} {i0 : Nat} {x1 : Int32} {x2 : Int32} {x3 : Int32} {t : sT} {a : sA} {rv : Int32} {rt : sT} {ra : sA} (hN : 653 ≤ N) (hi0 : i0 < 6) (h : fJ1_indexOf_4cfef nF i0 x1 x2 x3 t a = some (rv, rt, ra)) : Met l yJ1_indexOf_4cfef [.code yJ1_indexOf_4cfef cJ1_indexOf_4cfef 4 (some .int)] (k2_rm 1 25) (Pre x N (rho u0 v0) t a [.ref (cAv x i0), .int x1, .int x2, .int x3]) (PostI x N (rho u0 v0) rt ra rv) 0 0 (cA x) := by
  refine j_entry (by decide) rfl (Nat.le_of_ble_eq_true rfl) ?_
  intro p e s m below meth c F hsz hnm
  have F : Fx p s m meth c cJ1_indexOf_4cfef 4 RJ1 (some .int) x := F
  unfold fJ1_indexOf_4cfef at h
  show J p l e _ s m _ below meth c x N (rho u0 v0) 4 0 0 _ 0 [(0, .ref (cAv x i0)), (1, .int x1), (2, .int x2), (3, .int x3)] [] t a
  refine j_iload_n F 1 dJ1_indexOf_4cfef_0 rfl rfl ?_
  refine j_callSi F mwJ1_canEncode_9a6ad ql_J1_88 [.int x1] rfl ⟨rfl, rfl, Nat.le_of_ble_eq_true rfl, Nat.le_of_ble_eq_true rfl⟩ ⟨Nat.le_refl 0, Nat.le_refl 0⟩ rfl (Nat.le_of_ble_eq_true rfl) dJ1_indexOf_4cfef_1 (fun _ _ _ h9 => kJ1_canEncode_9a6ad l hN  h9) h (fun v1 t1 a1 e1 h => ?_)
  refine j_if_ne F 9 dJ1_indexOf_4cfef_4 rfl h (fun h => ?_) (fun h => ?_)
  · refine j_iconst F dJ1_indexOf_4cfef_7 cI_m1 ?_
    exact j_ireturn F rfl dJ1_indexOf_4cfef_8 h
  · refine j_iload_n F 2 dJ1_indexOf_4cfef_9 rfl rfl ?_
    refine j_iconst F dJ1_indexOf_4cfef_10 cI_0 ?_
    refine j_max F ql_J1_92 (Nat.le_of_ble_eq_true rfl) (Nat.le_of_ble_eq_true rfl) (Nat.le_refl 0) (Nat.le_refl 0) dJ1_indexOf_4cfef_11 ?_
    refine j_istore_n F (lv' := [(2, .int (if x2 < (0 : Int32) then (0 : Int32) else x2)), (0, .ref (cAv x i0)), (1, .int x1), (3, .int x3)]) dJ1_indexOf_4cfef_14 rfl (Nat.le_of_ble_eq_true rfl) rfl ?_
    refine j_iload_n F 3 dJ1_indexOf_4cfef_15 rfl rfl ?_
    refine j_aload_n F 1 dJ1_indexOf_4cfef_16 rfl rfl ?_
    refine j_tlen F hi0 dJ1_indexOf_4cfef_17 ?_
    refine j_min F ql_J1_38 (Nat.le_of_ble_eq_true rfl) (Nat.le_of_ble_eq_true rfl) (Nat.le_refl 0) (Nat.le_refl 0) dJ1_indexOf_4cfef_18 ?_
    refine j_istore_n F (lv' := [(3, .int (if (Int32.ofNat (strN.getD i0 0)) < x3 then Int32.ofNat (strN.getD i0 0) else x3)), (2, .int (if x2 < (0 : Int32) then (0 : Int32) else x2)), (0, .ref (cAv x i0)), (1, .int x1)]) dJ1_indexOf_4cfef_21 rfl (Nat.le_of_ble_eq_true rfl) rfl ?_
    refine j_iload_n F 1 dJ1_indexOf_4cfef_22 rfl rfl ?_
    refine j_iload_n F 0 dJ1_indexOf_4cfef_23 rfl rfl ?_
    refine j_icmp_lt F 29 dJ1_indexOf_4cfef_24 rfl h (fun h => ?_) (fun h => ?_)
    · refine j_aload_n F 2 dJ1_indexOf_4cfef_29 rfl rfl ?_
      refine j_iload_n F 3 dJ1_indexOf_4cfef_30 rfl rfl ?_
      refine j_iload_n F 1 dJ1_indexOf_4cfef_31 rfl rfl ?_
      refine j_iload_n F 0 dJ1_indexOf_4cfef_32 rfl rfl ?_
      refine j_callSi F mwJ1_indexOfChar_4cfef ql_J1_95 [.ref (cAv x i0), .int x1, .int (if x2 < (0 : Int32) then (0 : Int32) else x2), .int (if (Int32.ofNat (strN.getD i0 0)) < x3 then Int32.ofNat (strN.getD i0 0) else x3)] rfl ⟨rfl, rfl, Nat.le_of_ble_eq_true rfl, Nat.le_of_ble_eq_true rfl⟩ ⟨Nat.le_refl 0, Nat.le_refl 0⟩ rfl (Nat.le_of_ble_eq_true rfl) dJ1_indexOf_4cfef_33 (fun _ _ _ h9 => kJ1_indexOfChar_4cfef l hN hi0 h9) h (fun v2 t2 a2 e2 h => ?_)
      exact j_ireturn F rfl dJ1_indexOf_4cfef_36 h
    · refine j_iconst F dJ1_indexOf_4cfef_27 cI_m1 ?_
      exact j_ireturn F rfl dJ1_indexOf_4cfef_28 h
def fJ0_indexOf_7cf53 (nF : Nat) (i0 : Nat) (x1 : Int32) (x2 : Int32) (t : sT) (a : sA) : Rs := cal (fJ0_isLatin1_aae02 nF i0 t a) (fun v1 t1 a1 => if v1 = 0 then (cal (fJ0_length_8abf5 nF i0 t1 a1) (fun v2 t2 a2 => none)) else (cal (fJ0_length_8abf5 nF i0 t1 a1) (fun v3 t3 a3 => cal (fJ1_indexOf_4cfef nF i0 x1 x2 v3 t3 a3) (fun v4 t4 a4 => some (v4, t4, a4)))))
set_option maxRecDepth 100000 in
set_option maxHeartbeats 4000000 in
theorem kJ0_indexOf_7cf53 (l : Launch) {x : Cx} {N : Nat} {u0 v0 : Option Nat} {nF : Nat} {i0 : Nat} {x1 : Int32} {x2 : Int32} {t : sT} {a : sA} {rv : Int32} {rt : sT} {ra : sA} (hN : 653 ≤ N) (hi0 : i0 < 6) (h : fJ0_indexOf_7cf53 nF i0 x1 x2 t a = some (rv, rt, ra)) : Met l yJ0_indexOf_7cf53 [.code yJ0_indexOf_7cf53 cJ0_indexOf_7cf53 3 (some .int)] (k2_rm 2 48) (Pre x N (rho u0 v0) t a [.ref (cAd x i0), .int x1, .int x2]) (PostI x N (rho u0 v0) rt ra rv) 0 0 (cA x) := by
  refine j_entry (by decide) rfl (Nat.le_of_ble_eq_true rfl) ?_
  intro p e s m below meth c F hsz hnm
  have F : Fx p s m meth c cJ0_indexOf_7cf53 3 RJ0 (some .int) x := F
  unfold fJ0_indexOf_7cf53 at h
  show J p l e _ s m _ below meth c x N (rho u0 v0) 3 0 0 _ 0 [(0, .ref (cAd x i0)), (1, .int x1), (2, .int x2)] [] t a
  refine j_aload_n F 0 dJ0_indexOf_7cf53_0 rfl rfl ?_
  refine j_callTi F mwJ0_isLatin1_aae02 ql_J0_492 rfl hi0 [] rfl ⟨rfl, rfl, Nat.le_of_ble_eq_true rfl, Nat.le_of_ble_eq_true rfl⟩ ⟨Nat.le_refl 0, Nat.le_refl 0⟩ rfl (Nat.le_of_ble_eq_true rfl) dJ0_indexOf_7cf53_1 (fun _ _ _ h9 => kJ0_isLatin1_aae02 l hN hi0 h9) h (fun v1 t1 a1 e1 h => ?_)
  refine j_if_eq F 23 dJ0_indexOf_7cf53_4 rfl h (fun h => ?_) (fun h => ?_)
  · refine j_aload_n F 0 dJ0_indexOf_7cf53_23 rfl rfl ?_
    refine j_getS0 F hi0 qf_J0_9 dJ0_indexOf_7cf53_24 ?_
    refine j_iload_n F 1 dJ0_indexOf_7cf53_27 rfl rfl ?_
    refine j_iload_n F 2 dJ0_indexOf_7cf53_28 rfl rfl ?_
    refine j_aload_n F 0 dJ0_indexOf_7cf53_29 rfl rfl ?_
    refine j_callTi F mwJ0_length_8abf5 ql_J0_505 rfl hi0 [] rfl ⟨rfl, rfl, Nat.le_of_ble_eq_true rfl, Nat.le_of_ble_eq_true rfl⟩ ⟨Nat.le_refl 0, Nat.le_refl 0⟩ rfl (Nat.le_of_ble_eq_true rfl) dJ0_indexOf_7cf53_30 (fun _ _ _ h9 => kJ0_length_8abf5 l hN hi0 h9) h (fun v2 t2 a2 e2 h => ?_)
    cases h
  · refine j_aload_n F 0 dJ0_indexOf_7cf53_7 rfl rfl ?_
    refine j_getS0 F hi0 qf_J0_9 dJ0_indexOf_7cf53_8 ?_
    refine j_iload_n F 1 dJ0_indexOf_7cf53_11 rfl rfl ?_
    refine j_iload_n F 2 dJ0_indexOf_7cf53_12 rfl rfl ?_
    refine j_aload_n F 0 dJ0_indexOf_7cf53_13 rfl rfl ?_
    refine j_callTi F mwJ0_length_8abf5 ql_J0_505 rfl hi0 [] rfl ⟨rfl, rfl, Nat.le_of_ble_eq_true rfl, Nat.le_of_ble_eq_true rfl⟩ ⟨Nat.le_refl 0, Nat.le_refl 0⟩ rfl (Nat.le_of_ble_eq_true rfl) dJ0_indexOf_7cf53_14 (fun _ _ _ h9 => kJ0_length_8abf5 l hN hi0 h9) h (fun v3 t3 a3 e3 h => ?_)
    refine j_callSi F mwJ1_indexOf_4cfef ql_J0_637 [.ref (cAv x i0), .int x1, .int x2, .int v3] rfl ⟨rfl, rfl, Nat.le_of_ble_eq_true rfl, Nat.le_of_ble_eq_true rfl⟩ ⟨Nat.le_refl 0, Nat.le_refl 0⟩ rfl (Nat.le_of_ble_eq_true rfl) dJ0_indexOf_7cf53_17 (fun _ _ _ h9 => kJ1_indexOf_4cfef l hN hi0 h9) h (fun v4 t4 a4 e4 h => ?_)
    refine j_goto F 36 dJ0_indexOf_7cf53_20 rfl ?_
    exact j_ireturn F rfl dJ0_indexOf_7cf53_36 h
def fJ0_indexOf_0f7a4 (nF : Nat) (i0 : Nat) (x1 : Int32) (t : sT) (a : sA) : Rs := cal (fJ0_indexOf_7cf53 nF i0 x1 (0 : Int32) t a) (fun v1 t1 a1 => some (v1, t1, a1))
set_option maxRecDepth 100000 in
set_option maxHeartbeats 4000000 in
theorem kJ0_indexOf_0f7a4 (l : Launch) {x : Cx} {N : Nat} {u0 v0 : Option Nat} {nF : Nat} {i0 : Nat} {x1 : Int32} {t : sT} {a : sA} {rv : Int32} {rt : sT} {ra : sA} (hN : 653 ≤ N) (hi0 : i0 < 6) (h : fJ0_indexOf_0f7a4 nF i0 x1 t a = some (rv, rt, ra)) : Met l yJ0_indexOf_0f7a4 [.code yJ0_indexOf_0f7a4 cJ0_indexOf_0f7a4 2 (some .int)] (k2_rm 3 70) (Pre x N (rho u0 v0) t a [.ref (cAd x i0), .int x1]) (PostI x N (rho u0 v0) rt ra rv) 0 0 (cA x) := by
  refine j_entry (by decide) rfl (Nat.le_of_ble_eq_true rfl) ?_
  intro p e s m below meth c F hsz hnm
  have F : Fx p s m meth c cJ0_indexOf_0f7a4 2 RJ0 (some .int) x := F
  unfold fJ0_indexOf_0f7a4 at h
  show J p l e _ s m _ below meth c x N (rho u0 v0) 2 0 0 _ 0 [(0, .ref (cAd x i0)), (1, .int x1)] [] t a
  refine j_aload_n F 0 dJ0_indexOf_0f7a4_0 rfl rfl ?_
  refine j_iload_n F 1 dJ0_indexOf_0f7a4_1 rfl rfl ?_
  refine j_iconst F dJ0_indexOf_0f7a4_2 cI_0 ?_
  refine j_callTi F mwJ0_indexOf_7cf53 ql_J0_633 rfl hi0 [.int x1, .int (0 : Int32)] rfl ⟨rfl, rfl, Nat.le_of_ble_eq_true rfl, Nat.le_of_ble_eq_true rfl⟩ ⟨Nat.le_refl 0, Nat.le_refl 0⟩ rfl (Nat.le_of_ble_eq_true rfl) dJ0_indexOf_0f7a4_3 (fun _ _ _ h9 => kJ0_indexOf_7cf53 l hN hi0 h9) h (fun v1 t1 a1 e1 h => ?_)
  exact j_ireturn F rfl dJ0_indexOf_0f7a4_6 h
def fX1_talkerOf (nF : Nat) (x0 : Int32) (t : sT) (a : sA) : Rs := if 0 ≤ x0 then (cal (fJ0_indexOf_0f7a4 nF 5 ((x0.toUInt32 % 65536).toInt32) t a) (fun v1 t1 a1 => some (v1, t1, a1))) else (some ((-1 : Int32), t, a))
set_option maxRecDepth 100000 in
set_option maxHeartbeats 4000000 in
theorem kX1_talkerOf (l : Launch) {x : Cx} {N : Nat} {u0 v0 : Option Nat} {nF : Nat} {x0 : Int32} {t : sT} {a : sA} {rv : Int32} {rt : sT} {ra : sA} (hN : 653 ≤ N) (h : fX1_talkerOf nF x0 t a = some (rv, rt, ra)) : Met l yX1_talkerOf [.code yX1_talkerOf cX1_talkerOf 1 (some .int)] (k2_rm 4 91) (Pre x N (rho u0 v0) t a [.int x0]) (PostI x N (rho u0 v0) rt ra rv) 0 0 (cA x) := by
  refine j_entry (by decide) rfl (Nat.le_of_ble_eq_true rfl) ?_
  intro p e s m below meth c F hsz hnm
  have F : Fx p s m meth c cX1_talkerOf 1 RX1 (some .int) x := F
  unfold fX1_talkerOf at h
  show J p l e _ s m _ below meth c x N (rho u0 v0) 1 0 0 _ 0 [(0, .int x0)] [] t a
  refine j_iload_n F 0 dX1_talkerOf_0 rfl rfl ?_
  refine j_if_ge F 8 dX1_talkerOf_1 rfl h (fun h => ?_) (fun h => ?_)
  · refine j_ldcS F F.2.2.2.2.2.2.2.2.2.2.2.2.2.2.2.1 dX1_talkerOf_8 ?_
    refine j_iload_n F 0 dX1_talkerOf_10 rfl rfl ?_
    refine j_i2c F dX1_talkerOf_11 rfl ?_
    refine j_callTi F mwJ0_indexOf_0f7a4 ql_X1_102 rfl (Nat.le_of_ble_eq_true rfl) [.int ((x0.toUInt32 % 65536).toInt32)] rfl ⟨rfl, rfl, Nat.le_of_ble_eq_true rfl, Nat.le_of_ble_eq_true rfl⟩ ⟨Nat.le_refl 0, Nat.le_refl 0⟩ rfl (Nat.le_of_ble_eq_true rfl) dX1_talkerOf_12 (fun _ _ _ h9 => kJ0_indexOf_0f7a4 l hN (Nat.le_of_ble_eq_true rfl) h9) h (fun v1 t1 a1 e1 h => ?_)
    exact j_ireturn F rfl dX1_talkerOf_15 h
  · refine j_iconst F dX1_talkerOf_4 cI_m1 ?_
    refine j_goto F 15 dX1_talkerOf_5 rfl ?_
    exact j_ireturn F rfl dX1_talkerOf_15 h
def fX1_fits (nF : Nat) (x0 : Int32) (x1 : Int32) (t : sT) (a : sA) : Rs := if x0 = (48 : Int32) then (cal (fX1_isDigit nF x1 t a) (fun v2 t2 a2 => zok v2 (some (v2, t2, a2)))) else (if x0 = (107 : Int32) then (cal (fX1_talkerOf nF x1 t a) (fun v3 t3 a3 => if v3 < 0 then (zok (0 : Int32) (some ((0 : Int32), t3, a3))) else (zok (1 : Int32) (some ((1 : Int32), t3, a3))))) else (if x1 = x0 then (zok (1 : Int32) (some ((1 : Int32), t, a))) else (zok (0 : Int32) (some ((0 : Int32), t, a)))))
set_option maxRecDepth 100000 in
set_option maxHeartbeats 4000000 in
theorem kX1_fits (l : Launch) {x : Cx} {N : Nat} {u0 v0 : Option Nat} {nF : Nat} {x0 : Int32} {x1 : Int32} {t : sT} {a : sA} {rv : Int32} {rt : sT} {ra : sA} (hN : 653 ≤ N) (h : fX1_fits nF x0 x1 t a = some (rv, rt, ra)) : Met l yX1_fits [.code yX1_fits cX1_fits 2 (some .boolean)] (k2_rm 5 111) (Pre x N (rho u0 v0) t a [.int x0, .int x1]) (PostI x N (rho u0 v0) rt ra rv) 0 0 (cA x) := by
  refine j_entry (by decide) rfl (Nat.le_of_ble_eq_true rfl) ?_
  intro p e s m below meth c F hsz hnm
  have F : Fx p s m meth c cX1_fits 2 RX1 (some .boolean) x := F
  unfold fX1_fits at h
  show J p l e _ s m _ below meth c x N (rho u0 v0) 2 0 0 _ 0 [(0, .int x0), (1, .int x1)] [] t a
  refine j_iload_n F 0 dX1_fits_0 rfl rfl ?_
  refine ifE h (fun e1_0 h => ?_) (fun e1_0 h => ?_)
  · refine j_lsw F 28 (off := 27) dX1_fits_1 rfl (by rw [e1_0]; rfl) rfl ?_
    refine j_iload_n F 1 dX1_fits_28 rfl rfl ?_
    refine j_callSi F mwX1_isDigit ql_X1_41 [.int x1] rfl ⟨rfl, rfl, Nat.le_of_ble_eq_true rfl, Nat.le_of_ble_eq_true rfl⟩ ⟨Nat.le_refl 0, Nat.le_refl 0⟩ rfl (Nat.le_of_ble_eq_true rfl) dX1_fits_29 (fun _ _ _ h9 => kX1_isDigit l hN  h9) h (fun v2 t2 a2 e2 h => ?_)
    exact j_zreturn F rfl dX1_fits_32 h
  · refine ifE h (fun e1_1 h => ?_) (fun e1_1 h => ?_)
    · refine j_lsw F 33 (off := 32) dX1_fits_1 rfl (by rw [e1_1]; rfl) rfl ?_
      refine j_iload_n F 1 dX1_fits_33 rfl rfl ?_
      refine j_callSi F mwX1_talkerOf ql_X1_73 [.int x1] rfl ⟨rfl, rfl, Nat.le_of_ble_eq_true rfl, Nat.le_of_ble_eq_true rfl⟩ ⟨Nat.le_refl 0, Nat.le_refl 0⟩ rfl (Nat.le_of_ble_eq_true rfl) dX1_fits_34 (fun _ _ _ h9 => kX1_talkerOf l hN  h9) h (fun v3 t3 a3 e3 h => ?_)
      refine j_if_lt F 44 dX1_fits_37 rfl h (fun h => ?_) (fun h => ?_)
      · refine j_iconst F dX1_fits_44 cI_0 ?_
        exact j_zreturn F rfl dX1_fits_45 h
      · refine j_iconst F dX1_fits_40 cI_1 ?_
        refine j_goto F 45 dX1_fits_41 rfl ?_
        exact j_zreturn F rfl dX1_fits_45 h
    · refine j_lsw F 46 (off := 45) dX1_fits_1 rfl ((lv_osw e1_0 rfl).trans ((lv_osw e1_1 rfl).trans rfl)) rfl ?_
      refine j_iload_n F 1 dX1_fits_46 rfl rfl ?_
      refine j_iload_n F 0 dX1_fits_47 rfl rfl ?_
      refine j_icmp_ne F 55 dX1_fits_48 rfl h (fun h => ?_) (fun h => ?_)
      · refine j_iconst F dX1_fits_51 cI_1 ?_
        refine j_goto F 56 dX1_fits_52 rfl ?_
        exact j_zreturn F rfl dX1_fits_56 h
      · refine j_iconst F dX1_fits_55 cI_0 ?_
        exact j_zreturn F rfl dX1_fits_56 h
def fX1_formOf (nF : Nat) (x0 : Int32) (t : sT) (a : sA) : Rs := if x0 = (105 : Int32) then (some ((0 : Int32), t, a)) else (if x0 = (108 : Int32) then (some ((2 : Int32), t, a)) else (if x0 = (110 : Int32) then (some ((0 : Int32), t, a)) else (if x0 = (111 : Int32) then (some ((0 : Int32), t, a)) else (if x0 = (112 : Int32) then (some ((3 : Int32), t, a)) else (if x0 = (119 : Int32) then (some ((1 : Int32), t, a)) else (some ((4 : Int32), t, a)))))))
set_option maxRecDepth 100000 in
set_option maxHeartbeats 4000000 in
theorem kX1_formOf (l : Launch) {x : Cx} {N : Nat} {u0 v0 : Option Nat} {nF : Nat} {x0 : Int32} {t : sT} {a : sA} {rv : Int32} {rt : sT} {ra : sA} (hN : 653 ≤ N) (h : fX1_formOf nF x0 t a = some (rv, rt, ra)) : Met l yX1_formOf [.code yX1_formOf cX1_formOf 1 (some (.object "java/lang/String"))] (k2_rm 0 0) (Pre x N (rho u0 v0) t a [.int x0]) (PostS x N (rho u0 v0) rt ra rv) 0 0 (cA x) := by
  refine j_entry (by decide) rfl (Nat.le_of_ble_eq_true rfl) ?_
  intro p e s m below meth c F hsz hnm
  have F : Fx p s m meth c cX1_formOf 1 RX1 (some (.object "java/lang/String")) x := F
  unfold fX1_formOf at h
  show J p l e _ s m _ below meth c x N (rho u0 v0) 1 0 0 _ 0 [(0, .int x0)] [] t a
  refine j_iload_n F 0 dX1_formOf_0 rfl rfl ?_
  refine ifE h (fun e1_0 h => ?_) (fun e1_0 h => ?_)
  · refine j_tsI F 76 dX1_formOf_1 e1_0 (by decide) (by decide) rfl rfl ?_
    refine j_ldcS F F.2.2.2.2.2.2.2.2.2.2.1 dX1_formOf_76 ?_
    exact j_sreturn F rfl dX1_formOf_78 (v := 0) rfl h
  · refine ifE h (fun e1_1 h => ?_) (fun e1_1 h => ?_)
    · refine j_tsI F 82 dX1_formOf_1 e1_1 (by decide) (by decide) rfl rfl ?_
      refine j_ldcS F F.2.2.2.2.2.2.2.2.2.2.2.2.1 dX1_formOf_82 ?_
      exact j_sreturn F rfl dX1_formOf_84 (v := 2) rfl h
    · refine ifE h (fun e1_2 h => ?_) (fun e1_2 h => ?_)
      · refine j_tsI F 76 dX1_formOf_1 e1_2 (by decide) (by decide) rfl rfl ?_
        refine j_ldcS F F.2.2.2.2.2.2.2.2.2.2.1 dX1_formOf_76 ?_
        exact j_sreturn F rfl dX1_formOf_78 (v := 0) rfl h
      · refine ifE h (fun e1_3 h => ?_) (fun e1_3 h => ?_)
        · refine j_tsI F 76 dX1_formOf_1 e1_3 (by decide) (by decide) rfl rfl ?_
          refine j_ldcS F F.2.2.2.2.2.2.2.2.2.2.1 dX1_formOf_76 ?_
          exact j_sreturn F rfl dX1_formOf_78 (v := 0) rfl h
        · refine ifE h (fun e1_4 h => ?_) (fun e1_4 h => ?_)
          · refine j_tsI F 85 dX1_formOf_1 e1_4 (by decide) (by decide) rfl rfl ?_
            refine j_ldcS F F.2.2.2.2.2.2.2.2.2.2.2.2.2.1 dX1_formOf_85 ?_
            exact j_sreturn F rfl dX1_formOf_87 (v := 3) rfl h
          · refine ifE h (fun e1_5 h => ?_) (fun e1_5 h => ?_)
            · refine j_tsI F 79 dX1_formOf_1 e1_5 (by decide) (by decide) rfl rfl ?_
              refine j_ldcS F F.2.2.2.2.2.2.2.2.2.2.2.1 dX1_formOf_79 ?_
              exact j_sreturn F rfl dX1_formOf_81 (v := 1) rfl h
            · refine j_tsD F 88 dX1_formOf_1 rfl (fun i hi => ?_) rfl ?_
              · have hi : i < 15 := hi
                have hi : i = 0 ∨ i = 1 ∨ i = 2 ∨ i = 3 ∨ i = 4 ∨ i = 5 ∨ i = 6 ∨ i = 7 ∨ i = 8 ∨ i = 9 ∨ i = 10 ∨ i = 11 ∨ i = 12 ∨ i = 13 ∨ i = 14 := by omega
                rcases hi with rfl | rfl | rfl | rfl | rfl | rfl | rfl | rfl | rfl | rfl | rfl | rfl | rfl | rfl | rfl
                · exact Or.inr (by have h9 := lv_neT (a := 105) e1_0 rfl; omega)
                · exact Or.inl rfl
                · exact Or.inl rfl
                · exact Or.inr (by have h9 := lv_neT (a := 108) e1_1 rfl; omega)
                · exact Or.inl rfl
                · exact Or.inr (by have h9 := lv_neT (a := 110) e1_2 rfl; omega)
                · exact Or.inr (by have h9 := lv_neT (a := 111) e1_3 rfl; omega)
                · exact Or.inr (by have h9 := lv_neT (a := 112) e1_4 rfl; omega)
                · exact Or.inl rfl
                · exact Or.inl rfl
                · exact Or.inl rfl
                · exact Or.inl rfl
                · exact Or.inl rfl
                · exact Or.inl rfl
                · exact Or.inr (by have h9 := lv_neT (a := 119) e1_5 rfl; omega)
              refine j_ldcS F F.2.2.2.2.2.2.2.2.2.2.2.2.2.2.1 dX1_formOf_88 ?_
              exact j_sreturn F rfl dX1_formOf_90 (v := 4) rfl h
def gX1_behindForm_15 (nF : Nat) (i2 : Nat) (r15 : Int32 → Int32 → sT → sA → Rs) (x1 x3 : Int32) (t : sT) (a : sA) : Rs := cal (fJ0_length_8abf5 nF i2 t a) (fun v2 t2 a2 => if v2 ≤ x3 then (cal (fJ0_length_8abf5 nF i2 t2 a2) (fun v3 t3 a3 => some ((x1 + (1 : Int32)) + v3, t3, a3))) else (cal (fJ0_charAt_5068e nF i2 x3 t2 a2) (fun v4 t4 a4 => cal (fX1_sign nF ((x1 + (1 : Int32)) + x3) t4 a4) (fun v5 t5 a5 => cal (fX1_fits nF v4 v5 t5 a5) (fun v6 t6 a6 => if v6 = 0 then (some ((-1000 : Int32) - ((x1 + (1 : Int32)) + x3), t6, a6)) else (r15 x1 (x3 + (1 : Int32)) t6 a6))))))
def gX1_behindForm (nF : Nat) (i2 : Nat) : Nat → (Int32 → Int32 → sT → sA → Rs)
  | 0 => (fun _ _ _ _ => none)
  | n9 + 1 => (gX1_behindForm_15 nF i2 (gX1_behindForm nF i2 n9))
def fX1_behindForm (nF : Nat) (x1 : Int32) (i2 : Nat) (t : sT) (a : sA) : Rs := cal (fJ0_isEmpty_aae02 nF i2 t a) (fun v1 t1 a1 => if v1 = 0 then ((gX1_behindForm nF i2 nF) x1 (0 : Int32) t1 a1) else (some ((-1000 : Int32) - x1, t1, a1)))
set_option maxRecDepth 100000 in
set_option maxHeartbeats 4000000 in
theorem hX1_behindForm {p : Program} {l : Launch} {e : Env} {s : State} {m : MethodId} {args : Array Value} {below : List Frame} {meth : Method} {c : Code} {x : Cx} {N : Nat} {u0 v0 : Option Nat} {nF : Nat} {i2 : Nat} (F : Fx p s m meth c cX1_behindForm 5 RX1 (some .int) x) (hsz : s.heap.size = cz x + N) (hN : 653 ≤ N) (hi2 : i2 < 6) {rv : Int32} {rt : sT} {ra : sA} : ∀ n9 : Nat, (∀ (x1 x3 : Int32) (t : sT) (a : sA), (gX1_behindForm nF i2 n9) x1 x3 t a = some (rv, rt, ra) → J p l e (k2_rm 6 132) s m args below meth c x N (rho u0 v0) 5 0 0 (MQ below (PostI x N (rho u0 v0) rt ra rv) args s 0 0 (cA x)) 15 [(0, .ref (cz x + 1)), (1, .int x1), (2, .ref (cAd x i2)), (3, .int x3)] [] t a) := by
  intro n9
  induction n9 with
  | zero => exact fun _ _ _ _ h => (by cases h)
  | succ n9 ih =>
    intro x1 x3 t a h
    have h : gX1_behindForm_15 nF i2 (gX1_behindForm nF i2 n9) x1 x3 t a = some (rv, rt, ra) := h
    unfold gX1_behindForm_15 at h
    refine j_iload_n F 3 dX1_behindForm_15 rfl rfl ?_
    refine j_aload_n F 2 dX1_behindForm_16 rfl rfl ?_
    refine j_callTi F mwJ0_length_8abf5 ql_X1_51 rfl hi2 [] rfl ⟨rfl, rfl, Nat.le_of_ble_eq_true rfl, Nat.le_of_ble_eq_true rfl⟩ ⟨Nat.le_refl 0, Nat.le_refl 0⟩ rfl (Nat.le_of_ble_eq_true rfl) dX1_behindForm_17 (fun _ _ _ h9 => kJ0_length_8abf5 l hN hi2 h9) h (fun v2 t2 a2 e2 h => ?_)
    refine j_icmp_ge F 60 dX1_behindForm_20 rfl h (fun h => ?_) (fun h => ?_)
    · refine j_iload_n F 1 dX1_behindForm_60 rfl rfl ?_
      refine j_iconst F dX1_behindForm_61 cI_1 ?_
      refine j_iadd F dX1_behindForm_62 ?_
      refine j_aload_n F 2 dX1_behindForm_63 rfl rfl ?_
      refine j_callTi F mwJ0_length_8abf5 ql_X1_51 rfl hi2 [] rfl ⟨rfl, rfl, Nat.le_of_ble_eq_true rfl, Nat.le_of_ble_eq_true rfl⟩ ⟨Nat.le_refl 0, Nat.le_refl 0⟩ rfl (Nat.le_of_ble_eq_true rfl) dX1_behindForm_64 (fun _ _ _ h9 => kJ0_length_8abf5 l hN hi2 h9) h (fun v3 t3 a3 e3 h => ?_)
      refine j_iadd F dX1_behindForm_67 ?_
      exact j_ireturn F rfl dX1_behindForm_68 h
    · refine j_iload_n F 1 dX1_behindForm_23 rfl rfl ?_
      refine j_iconst F dX1_behindForm_24 cI_1 ?_
      refine j_iadd F dX1_behindForm_25 ?_
      refine j_iload_n F 3 dX1_behindForm_26 rfl rfl ?_
      refine j_iadd F dX1_behindForm_27 ?_
      refine j_istore F (k := 0) (lv' := [(4, .int ((x1 + (1 : Int32)) + x3)), (0, .ref (cz x + 1)), (1, .int x1), (2, .ref (cAd x i2)), (3, .int x3)]) dX1_behindForm_28 (Nat.le_of_ble_eq_true rfl) rfl ?_
      refine j_aload_n F 3 dX1_behindForm_30 rfl rfl ?_
      refine j_iload_n F 4 dX1_behindForm_31 rfl rfl ?_
      refine j_callTi F mwJ0_charAt_5068e ql_X1_55 rfl hi2 [.int x3] rfl ⟨rfl, rfl, Nat.le_of_ble_eq_true rfl, Nat.le_of_ble_eq_true rfl⟩ ⟨Nat.le_refl 0, Nat.le_refl 0⟩ rfl (Nat.le_of_ble_eq_true rfl) dX1_behindForm_32 (fun _ _ _ h9 => kJ0_charAt_5068e l hN hi2 h9) h (fun v4 t4 a4 e4 h => ?_)
      refine j_aload_n F 1 dX1_behindForm_35 rfl rfl ?_
      refine j_iload F 0 dX1_behindForm_36 rfl ?_
      refine j_callVi F mwX1_sign ql_X1_27 clX1 (lt653 rfl hN) ly1 [.int ((x1 + (1 : Int32)) + x3)] rfl ⟨rfl, rfl, Nat.le_of_ble_eq_true rfl, Nat.le_of_ble_eq_true rfl⟩ ⟨Nat.le_refl 0, Nat.le_refl 0⟩ rfl (Nat.le_of_ble_eq_true rfl) dX1_behindForm_38 (fun _ _ _ h9 => kX1_sign l hN  h9) h (fun v5 t5 a5 e5 h => ?_)
      refine j_callSi F mwX1_fits ql_X1_59 [.int v4, .int v5] rfl ⟨rfl, rfl, Nat.le_of_ble_eq_true rfl, Nat.le_of_ble_eq_true rfl⟩ ⟨Nat.le_refl 0, Nat.le_refl 0⟩ rfl (Nat.le_of_ble_eq_true rfl) dX1_behindForm_41 (fun _ _ _ h9 => kX1_fits l hN  h9) h (fun v6 t6 a6 e6 h => ?_)
      refine j_if_ne F 54 dX1_behindForm_44 rfl h (fun h => ?_) (fun h => ?_)
      · refine j_sipush F dX1_behindForm_47 cS_m1000 ?_
        refine j_iload F 0 dX1_behindForm_50 rfl ?_
        refine j_isub F dX1_behindForm_52 ?_
        exact j_ireturn F rfl dX1_behindForm_53 h
      · refine j_iinc F (v := x3 + (1 : Int32)) (lv' := [(3, .int (x3 + (1 : Int32))), (4, .int ((x1 + (1 : Int32)) + x3)), (0, .ref (cz x + 1)), (1, .int x1), (2, .ref (cAd x i2))]) dX1_behindForm_54 4 rfl (congrArg (fun z => x3 + z) cI_1) (Nat.le_of_ble_eq_true rfl) rfl ?_
        refine j_goto F 15 dX1_behindForm_57 rfl ?_
        exact j_lv [2, 3, 4, 0] rfl (ih _ _ _ _ h)
set_option maxRecDepth 100000 in
set_option maxHeartbeats 4000000 in
theorem kX1_behindForm (l : Launch) {x : Cx} {N : Nat} {u0 v0 : Option Nat} {nF : Nat} {x1 : Int32} {i2 : Nat} {t : sT} {a : sA} {rv : Int32} {rt : sT} {ra : sA} (hN : 653 ≤ N) (hi2 : i2 < 6) (h : fX1_behindForm nF x1 i2 t a = some (rv, rt, ra)) : Met l yX1_behindForm [.code yX1_behindForm cX1_behindForm 5 (some .int)] (k2_rm 6 132) (Pre x N (rho u0 v0) t a [.ref (cz x + 1), .int x1, .ref (cAd x i2)]) (PostI x N (rho u0 v0) rt ra rv) 0 0 (cA x) := by
  refine j_entry (by decide) rfl (Nat.le_of_ble_eq_true rfl) ?_
  intro p e s m below meth c F hsz hnm
  have F : Fx p s m meth c cX1_behindForm 5 RX1 (some .int) x := F
  unfold fX1_behindForm at h
  show J p l e _ s m _ below meth c x N (rho u0 v0) 5 0 0 _ 0 [(0, .ref (cz x + 1)), (1, .int x1), (2, .ref (cAd x i2))] [] t a
  refine j_aload_n F 2 dX1_behindForm_0 rfl rfl ?_
  refine j_callTi F mwJ0_isEmpty_aae02 ql_X1_45 rfl hi2 [] rfl ⟨rfl, rfl, Nat.le_of_ble_eq_true rfl, Nat.le_of_ble_eq_true rfl⟩ ⟨Nat.le_refl 0, Nat.le_refl 0⟩ rfl (Nat.le_of_ble_eq_true rfl) dX1_behindForm_1 (fun _ _ _ h9 => kJ0_isEmpty_aae02 l hN hi2 h9) h (fun v1 t1 a1 e1 h => ?_)
  refine j_if_eq F 13 dX1_behindForm_4 rfl h (fun h => ?_) (fun h => ?_)
  · refine j_iconst F dX1_behindForm_13 cI_0 ?_
    refine j_istore_n F (lv' := [(3, .int (0 : Int32)), (0, .ref (cz x + 1)), (1, .int x1), (2, .ref (cAd x i2))]) dX1_behindForm_14 rfl (Nat.le_of_ble_eq_true rfl) rfl ?_
    exact j_lv [1, 2, 3, 0] rfl ((hX1_behindForm F hsz hN hi2 nF) _ _ _ _ h)
  · refine j_sipush F dX1_behindForm_7 cS_m1000 ?_
    refine j_iload_n F 1 dX1_behindForm_10 rfl rfl ?_
    refine j_isub F dX1_behindForm_11 ?_
    exact j_ireturn F rfl dX1_behindForm_12 h
def fX1_behind (nF : Nat) (x1 : Int32) (t : sT) (a : sA) : Rs := cal (fX1_sign nF x1 t a) (fun v1 t1 a1 => if v1 = (116 : Int32) then (cal (fX1_behindTelling nF x1 t1 a1) (fun v4 t4 a4 => some (v4, t4, a4))) else (cal (fX1_formOf nF v1 t1 a1) (fun v2 t2 a2 => bnd v2 6 (cal (fX1_behindForm nF x1 v2.toNatClampNeg t2 a2) (fun v3 t3 a3 => some (v3, t3, a3))))))
set_option maxRecDepth 100000 in
set_option maxHeartbeats 4000000 in
theorem kX1_behind (l : Launch) {x : Cx} {N : Nat} {u0 v0 : Option Nat} {nF : Nat} {x1 : Int32} {t : sT} {a : sA} {rv : Int32} {rt : sT} {ra : sA} (hN : 653 ≤ N) (h : fX1_behind nF x1 t a = some (rv, rt, ra)) : Met l yX1_behind [.code yX1_behind cX1_behind 3 (some .int)] (k2_rm 7 156) (Pre x N (rho u0 v0) t a [.ref (cz x + 1), .int x1]) (PostI x N (rho u0 v0) rt ra rv) 0 0 (cA x) := by
  refine j_entry (by decide) rfl (Nat.le_of_ble_eq_true rfl) ?_
  intro p e s m below meth c F hsz hnm
  have F : Fx p s m meth c cX1_behind 3 RX1 (some .int) x := F
  unfold fX1_behind at h
  show J p l e _ s m _ below meth c x N (rho u0 v0) 3 0 0 _ 0 [(0, .ref (cz x + 1)), (1, .int x1)] [] t a
  refine j_aload_n F 0 dX1_behind_0 rfl rfl ?_
  refine j_iload_n F 1 dX1_behind_1 rfl rfl ?_
  refine j_callVi F mwX1_sign ql_X1_27 clX1 (lt653 rfl hN) ly1 [.int x1] rfl ⟨rfl, rfl, Nat.le_of_ble_eq_true rfl, Nat.le_of_ble_eq_true rfl⟩ ⟨Nat.le_refl 0, Nat.le_refl 0⟩ rfl (Nat.le_of_ble_eq_true rfl) dX1_behind_2 (fun _ _ _ h9 => kX1_sign l hN  h9) h (fun v1 t1 a1 e1 h => ?_)
  refine j_istore_n F (lv' := [(2, .int v1), (0, .ref (cz x + 1)), (1, .int x1)]) dX1_behind_5 rfl (Nat.le_of_ble_eq_true rfl) rfl ?_
  refine j_iload_n F 0 dX1_behind_6 rfl rfl ?_
  refine j_bipush F dX1_behind_7 cB_116 ?_
  refine j_icmp_ne F 20 dX1_behind_9 rfl h (fun h => ?_) (fun h => ?_)
  · refine j_aload_n F 1 dX1_behind_12 rfl rfl ?_
    refine j_iload_n F 2 dX1_behind_13 rfl rfl ?_
    refine j_callVi F mwX1_behindTelling ql_X1_30 clX1 (lt653 rfl hN) ly1 [.int x1] rfl ⟨rfl, rfl, Nat.le_of_ble_eq_true rfl, Nat.le_of_ble_eq_true rfl⟩ ⟨Nat.le_refl 0, Nat.le_refl 0⟩ rfl (Nat.le_of_ble_eq_true rfl) dX1_behind_14 (fun _ _ _ h9 => kX1_behindTelling l hN  h9) h (fun v4 t4 a4 e4 h => ?_)
    refine j_goto F 29 dX1_behind_17 rfl ?_
    exact j_ireturn F rfl dX1_behind_29 h
  · refine j_aload_n F 1 dX1_behind_20 rfl rfl ?_
    refine j_iload_n F 2 dX1_behind_21 rfl rfl ?_
    refine j_iload_n F 0 dX1_behind_22 rfl rfl ?_
    refine j_callSr F mwX1_formOf ql_X1_33 [.int v1] rfl ⟨rfl, rfl, Nat.le_of_ble_eq_true rfl, Nat.le_of_ble_eq_true rfl⟩ ⟨Nat.le_refl 0, Nat.le_refl 0⟩ rfl (Nat.le_of_ble_eq_true rfl) dX1_behind_23 (fun _ _ _ h9 => kX1_formOf l hN  h9) h (fun v2 t2 a2 e2 h => ?_)
    obtain ⟨hb2, h⟩ := bnd6 h
    refine j_callVi F mwX1_behindForm ql_X1_37 clX1 (lt653 rfl hN) ly1 [.int x1, .ref (cAd x v2.toNatClampNeg)] rfl ⟨rfl, rfl, Nat.le_of_ble_eq_true rfl, Nat.le_of_ble_eq_true rfl⟩ ⟨Nat.le_refl 0, Nat.le_refl 0⟩ rfl (Nat.le_of_ble_eq_true rfl) dX1_behind_26 (fun _ _ _ h9 => kX1_behindForm l hN hb2 h9) h (fun v3 t3 a3 e3 h => ?_)
    exact j_ireturn F rfl dX1_behind_29 h
def gX1_statements_17 (nF : Nat) (r17 : Int32 → Int32 → Int32 → sT → sA → Rs) (x1 x2 x3 : Int32) (t : sT) (a : sA) : Rs := if (t 65) ≤ x2 then (some (x1, t, a)) else (if (64 : Int32) ≤ x3 then (some (x1, t, a)) else (cal (fX1_behind nF x2 t a) (fun v1 t1 a1 => if 0 ≤ v1 then (r17 (x1 + (1 : Int32)) v1 (x3 + (1 : Int32)) t1 a1) else (some (v1, t1, a1)))))
def gX1_statements (nF : Nat) : Nat → (Int32 → Int32 → Int32 → sT → sA → Rs)
  | 0 => (fun _ _ _ _ _ => none)
  | n9 + 1 => (gX1_statements_17 nF (gX1_statements nF n9))
def fX1_statements (nF : Nat) (t : sT) (a : sA) : Rs := if (t 65) = 0 then (some ((-1000 : Int32), t, a)) else ((gX1_statements nF nF) (0 : Int32) (0 : Int32) (0 : Int32) t a)
set_option maxRecDepth 100000 in
set_option maxHeartbeats 4000000 in
theorem hX1_statements {p : Program} {l : Launch} {e : Env} {s : State} {m : MethodId} {args : Array Value} {below : List Frame} {meth : Method} {c : Code} {x : Cx} {N : Nat} {u0 v0 : Option Nat} {nF : Nat} (F : Fx p s m meth c cX1_statements 4 RX1 (some .int) x) (hsz : s.heap.size = cz x + N) (hN : 653 ≤ N) {rv : Int32} {rt : sT} {ra : sA} : ∀ n9 : Nat, (∀ (x1 x2 x3 : Int32) (t : sT) (a : sA), (gX1_statements nF n9) x1 x2 x3 t a = some (rv, rt, ra) → J p l e (k2_rm 8 178) s m args below meth c x N (rho u0 v0) 4 0 0 (MQ below (PostI x N (rho u0 v0) rt ra rv) args s 0 0 (cA x)) 17 [(0, .ref (cz x + 1)), (1, .int x1), (2, .int x2), (3, .int x3)] [] t a) := by
  intro n9
  induction n9 with
  | zero => exact fun _ _ _ _ _ h => (by cases h)
  | succ n9 ih =>
    intro x1 x2 x3 t a h
    have h : gX1_statements_17 nF (gX1_statements nF n9) x1 x2 x3 t a = some (rv, rt, ra) := h
    unfold gX1_statements_17 at h
    refine j_iload_n F 2 dX1_statements_17 rfl rfl ?_
    refine j_aload_n F 0 dX1_statements_18 rfl rfl ?_
    refine j_getI F clX1 (j := 1) (tt := 65) (lt653 rfl hN) ly1 (Nat.le_of_ble_eq_true rfl) rfl qf_X1_15 rfl dX1_statements_19 ?_
    refine j_icmp_ge F 52 dX1_statements_22 rfl h (fun h => ?_) (fun h => ?_)
    · refine j_iload_n F 1 dX1_statements_52 rfl rfl ?_
      exact j_ireturn F rfl dX1_statements_53 h
    · refine j_iload_n F 3 dX1_statements_25 rfl rfl ?_
      refine j_bipush F dX1_statements_26 cB_64 ?_
      refine j_icmp_ge F 52 dX1_statements_28 rfl h (fun h => ?_) (fun h => ?_)
      · refine j_iload_n F 1 dX1_statements_52 rfl rfl ?_
        exact j_ireturn F rfl dX1_statements_53 h
      · refine j_aload_n F 0 dX1_statements_31 rfl rfl ?_
        refine j_iload_n F 2 dX1_statements_32 rfl rfl ?_
        refine j_callVi F mwX1_behind ql_X1_19 clX1 (lt653 rfl hN) ly1 [.int x2] rfl ⟨rfl, rfl, Nat.le_of_ble_eq_true rfl, Nat.le_of_ble_eq_true rfl⟩ ⟨Nat.le_refl 0, Nat.le_refl 0⟩ rfl (Nat.le_of_ble_eq_true rfl) dX1_statements_33 (fun _ _ _ h9 => kX1_behind l hN  h9) h (fun v1 t1 a1 e1 h => ?_)
        refine j_istore_n F (lv' := [(2, .int v1), (0, .ref (cz x + 1)), (1, .int x1), (3, .int x3)]) dX1_statements_36 rfl (Nat.le_of_ble_eq_true rfl) rfl ?_
        refine j_iload_n F 0 dX1_statements_37 rfl rfl ?_
        refine j_if_ge F 43 dX1_statements_38 rfl h (fun h => ?_) (fun h => ?_)
        · refine j_iinc F (v := x1 + (1 : Int32)) (lv' := [(1, .int (x1 + (1 : Int32))), (2, .int v1), (0, .ref (cz x + 1)), (3, .int x3)]) dX1_statements_43 2 rfl (congrArg (fun z => x1 + z) cI_1) (Nat.le_of_ble_eq_true rfl) rfl ?_
          refine j_iinc F (v := x3 + (1 : Int32)) (lv' := [(3, .int (x3 + (1 : Int32))), (1, .int (x1 + (1 : Int32))), (2, .int v1), (0, .ref (cz x + 1))]) dX1_statements_46 3 rfl (congrArg (fun z => x3 + z) cI_1) (Nat.le_of_ble_eq_true rfl) rfl ?_
          refine j_goto F 17 dX1_statements_49 rfl ?_
          exact j_lv [3, 1, 2, 0] rfl (ih _ _ _ _ _ h)
        · refine j_iload_n F 0 dX1_statements_41 rfl rfl ?_
          exact j_ireturn F rfl dX1_statements_42 h
set_option maxRecDepth 100000 in
set_option maxHeartbeats 4000000 in
theorem kX1_statements (l : Launch) {x : Cx} {N : Nat} {u0 v0 : Option Nat} {nF : Nat} {t : sT} {a : sA} {rv : Int32} {rt : sT} {ra : sA} (hN : 653 ≤ N) (h : fX1_statements nF t a = some (rv, rt, ra)) : Met l yX1_statements [.code yX1_statements cX1_statements 4 (some .int)] (k2_rm 8 178) (Pre x N (rho u0 v0) t a [.ref (cz x + 1)]) (PostI x N (rho u0 v0) rt ra rv) 0 0 (cA x) := by
  refine j_entry (by decide) rfl (Nat.le_of_ble_eq_true rfl) ?_
  intro p e s m below meth c F hsz hnm
  have F : Fx p s m meth c cX1_statements 4 RX1 (some .int) x := F
  unfold fX1_statements at h
  show J p l e _ s m _ below meth c x N (rho u0 v0) 4 0 0 _ 0 [(0, .ref (cz x + 1))] [] t a
  refine j_aload_n F 0 dX1_statements_0 rfl rfl ?_
  refine j_getI F clX1 (j := 1) (tt := 65) (lt653 rfl hN) ly1 (Nat.le_of_ble_eq_true rfl) rfl qf_X1_15 rfl dX1_statements_1 ?_
  refine j_if_ne F 11 dX1_statements_4 rfl h (fun h => ?_) (fun h => ?_)
  · refine j_sipush F dX1_statements_7 cS_m1000 ?_
    exact j_ireturn F rfl dX1_statements_10 h
  · refine j_iconst F dX1_statements_11 cI_0 ?_
    refine j_istore_n F (lv' := [(1, .int (0 : Int32)), (0, .ref (cz x + 1))]) dX1_statements_12 rfl (Nat.le_of_ble_eq_true rfl) rfl ?_
    refine j_iconst F dX1_statements_13 cI_0 ?_
    refine j_istore_n F (lv' := [(2, .int (0 : Int32)), (1, .int (0 : Int32)), (0, .ref (cz x + 1))]) dX1_statements_14 rfl (Nat.le_of_ble_eq_true rfl) rfl ?_
    refine j_iconst F dX1_statements_15 cI_0 ?_
    refine j_istore_n F (lv' := [(3, .int (0 : Int32)), (2, .int (0 : Int32)), (1, .int (0 : Int32)), (0, .ref (cz x + 1))]) dX1_statements_16 rfl (Nat.le_of_ble_eq_true rfl) rfl ?_
    exact j_lv [3, 2, 1, 0] rfl ((hX1_statements F hsz hN nF) _ _ _ _ _ h)
def fX1_tellOne (nF : Nat) (k1 : Nat) (x2 : Int32) (x3 : Int32) (t : sT) (a : sA) : Rs := cal (fX1_sign nF x2 t a) (fun v1 t1 a1 => if v1 = (105 : Int32) then (cal (fX6_addWord nF k1 (3 : Int32) (0 : Int32) t1 a1) (fun v3 t3 a3 => zok v3 (some (v3, t3, a3)))) else (if v1 = (108 : Int32) then (cal (fX1_digit nF (x2 + (1 : Int32)) t1 a1) (fun v4 t4 a4 => cal (fX6_setLaw nF k1 v4 t4 a4) (fun v5 t5 a5 => zok v5 (some (v5, t5, a5))))) else (if v1 = (110 : Int32) then (cal (fX6_addWord nF k1 (1 : Int32) (0 : Int32) t1 a1) (fun v6 t6 a6 => zok v6 (some (v6, t6, a6)))) else (if v1 = (111 : Int32) then (cal (fX6_addWord nF k1 (2 : Int32) (0 : Int32) t1 a1) (fun v7 t7 a7 => zok v7 (some (v7, t7, a7)))) else (if v1 = (116 : Int32) then (cal (fX1_tellWord nF k1 (x2 + (1 : Int32)) x3 t1 a1) (fun v8 t8 a8 => zok v8 (some (v8, t8, a8)))) else (if v1 = (119 : Int32) then (cal (fX1_digit nF (x2 + (1 : Int32)) t1 a1) (fun v9 t9 a9 => cal (fX1_digit nF (x2 + (3 : Int32)) t9 a9) (fun v10 t10 a10 => cal (fX6_setWeight nF k1 v9 v10 t10 a10) (fun v11 t11 a11 => zok v11 (some (v11, t11, a11)))))) else (cal (fX1_sign nF (x2 + (1 : Int32)) t1 a1) (fun v12 t12 a12 => cal (fX1_talkerOf nF v12 t12 a12) (fun v13 t13 a13 => cal (fX6_addPerson nF k1 v13 t13 a13) (fun v14 t14 a14 => zok v14 (some (v14, t14, a14))))))))))))
set_option maxRecDepth 100000 in
set_option maxHeartbeats 4000000 in
theorem kX1_tellOne (l : Launch) {x : Cx} {N : Nat} {u0 v0 : Option Nat} {nF : Nat} {k1 : Nat} {x2 : Int32} {x3 : Int32} {t : sT} {a : sA} {rv : Int32} {rt : sT} {ra : sA} (hN : 653 ≤ N) (hk1 : isTg k1) (h : fX1_tellOne nF k1 x2 x3 t a = some (rv, rt, ra)) : Met l yX1_tellOne [.code yX1_tellOne cX1_tellOne 4 (some .boolean)] (k2_rm 5 111) (Pre x N (rho u0 v0) t a [.ref (cz x + 1), .ref (cz x + k1), .int x2, .int x3]) (PostI x N (rho u0 v0) rt ra rv) 0 0 (cA x) := by
  refine j_entry (by decide) rfl (Nat.le_of_ble_eq_true rfl) ?_
  intro p e s m below meth c F hsz hnm
  have F : Fx p s m meth c cX1_tellOne 4 RX1 (some .boolean) x := F
  unfold fX1_tellOne at h
  show J p l e _ s m _ below meth c x N (rho u0 v0) 4 0 0 _ 0 [(0, .ref (cz x + 1)), (1, .ref (cz x + k1)), (2, .int x2), (3, .int x3)] [] t a
  refine j_aload_n F 0 dX1_tellOne_0 rfl rfl ?_
  refine j_iload_n F 2 dX1_tellOne_1 rfl rfl ?_
  refine j_callVi F mwX1_sign ql_X1_27 clX1 (lt653 rfl hN) ly1 [.int x2] rfl ⟨rfl, rfl, Nat.le_of_ble_eq_true rfl, Nat.le_of_ble_eq_true rfl⟩ ⟨Nat.le_refl 0, Nat.le_refl 0⟩ rfl (Nat.le_of_ble_eq_true rfl) dX1_tellOne_2 (fun _ _ _ h9 => kX1_sign l hN  h9) h (fun v1 t1 a1 e1 h => ?_)
  refine ifE h (fun e2_0 h => ?_) (fun e2_0 h => ?_)
  · refine j_tsI F 104 dX1_tellOne_5 e2_0 (by decide) (by decide) rfl rfl ?_
    refine j_aload_n F 1 dX1_tellOne_104 rfl rfl ?_
    refine j_iconst F dX1_tellOne_105 cI_3 ?_
    refine j_iconst F dX1_tellOne_106 cI_0 ?_
    refine j_callVi F mwX6_addWord ql_X1_79 clX6 (Tg_lt hk1 hN) (Tg_l hk1) [.int (3 : Int32), .int (0 : Int32)] rfl ⟨rfl, rfl, Nat.le_of_ble_eq_true rfl, Nat.le_of_ble_eq_true rfl⟩ ⟨Nat.le_refl 0, Nat.le_refl 0⟩ rfl (Nat.le_of_ble_eq_true rfl) dX1_tellOne_107 (fun _ _ _ h9 => kX6_addWord l hN hk1 h9) h (fun v3 t3 a3 e3 h => ?_)
    exact j_zreturn F rfl dX1_tellOne_110 h
  · refine ifE h (fun e2_1 h => ?_) (fun e2_1 h => ?_)
    · refine j_tsI F 130 dX1_tellOne_5 e2_1 (by decide) (by decide) rfl rfl ?_
      refine j_aload_n F 1 dX1_tellOne_130 rfl rfl ?_
      refine j_aload_n F 0 dX1_tellOne_131 rfl rfl ?_
      refine j_iload_n F 2 dX1_tellOne_132 rfl rfl ?_
      refine j_iconst F dX1_tellOne_133 cI_1 ?_
      refine j_iadd F dX1_tellOne_134 ?_
      refine j_callVi F mwX1_digit ql_X1_85 clX1 (lt653 rfl hN) ly1 [.int (x2 + (1 : Int32))] rfl ⟨rfl, rfl, Nat.le_of_ble_eq_true rfl, Nat.le_of_ble_eq_true rfl⟩ ⟨Nat.le_refl 0, Nat.le_refl 0⟩ rfl (Nat.le_of_ble_eq_true rfl) dX1_tellOne_135 (fun _ _ _ h9 => kX1_digit l hN  h9) h (fun v4 t4 a4 e4 h => ?_)
      refine j_callVi F mwX6_setLaw ql_X1_91 clX6 (Tg_lt hk1 hN) (Tg_l hk1) [.int v4] rfl ⟨rfl, rfl, Nat.le_of_ble_eq_true rfl, Nat.le_of_ble_eq_true rfl⟩ ⟨Nat.le_refl 0, Nat.le_refl 0⟩ rfl (Nat.le_of_ble_eq_true rfl) dX1_tellOne_138 (fun _ _ _ h9 => kX6_setLaw l hN hk1 h9) h (fun v5 t5 a5 e5 h => ?_)
      exact j_zreturn F rfl dX1_tellOne_141 h
    · refine ifE h (fun e2_2 h => ?_) (fun e2_2 h => ?_)
      · refine j_tsI F 90 dX1_tellOne_5 e2_2 (by decide) (by decide) rfl rfl ?_
        refine j_aload_n F 1 dX1_tellOne_90 rfl rfl ?_
        refine j_iconst F dX1_tellOne_91 cI_1 ?_
        refine j_iconst F dX1_tellOne_92 cI_0 ?_
        refine j_callVi F mwX6_addWord ql_X1_79 clX6 (Tg_lt hk1 hN) (Tg_l hk1) [.int (1 : Int32), .int (0 : Int32)] rfl ⟨rfl, rfl, Nat.le_of_ble_eq_true rfl, Nat.le_of_ble_eq_true rfl⟩ ⟨Nat.le_refl 0, Nat.le_refl 0⟩ rfl (Nat.le_of_ble_eq_true rfl) dX1_tellOne_93 (fun _ _ _ h9 => kX6_addWord l hN hk1 h9) h (fun v6 t6 a6 e6 h => ?_)
        exact j_zreturn F rfl dX1_tellOne_96 h
      · refine ifE h (fun e2_3 h => ?_) (fun e2_3 h => ?_)
        · refine j_tsI F 97 dX1_tellOne_5 e2_3 (by decide) (by decide) rfl rfl ?_
          refine j_aload_n F 1 dX1_tellOne_97 rfl rfl ?_
          refine j_iconst F dX1_tellOne_98 cI_2 ?_
          refine j_iconst F dX1_tellOne_99 cI_0 ?_
          refine j_callVi F mwX6_addWord ql_X1_79 clX6 (Tg_lt hk1 hN) (Tg_l hk1) [.int (2 : Int32), .int (0 : Int32)] rfl ⟨rfl, rfl, Nat.le_of_ble_eq_true rfl, Nat.le_of_ble_eq_true rfl⟩ ⟨Nat.le_refl 0, Nat.le_refl 0⟩ rfl (Nat.le_of_ble_eq_true rfl) dX1_tellOne_100 (fun _ _ _ h9 => kX6_addWord l hN hk1 h9) h (fun v7 t7 a7 e7 h => ?_)
          exact j_zreturn F rfl dX1_tellOne_103 h
        · refine ifE h (fun e2_4 h => ?_) (fun e2_4 h => ?_)
          · refine j_tsI F 80 dX1_tellOne_5 e2_4 (by decide) (by decide) rfl rfl ?_
            refine j_aload_n F 0 dX1_tellOne_80 rfl rfl ?_
            refine j_aload_n F 1 dX1_tellOne_81 rfl rfl ?_
            refine j_iload_n F 2 dX1_tellOne_82 rfl rfl ?_
            refine j_iconst F dX1_tellOne_83 cI_1 ?_
            refine j_iadd F dX1_tellOne_84 ?_
            refine j_iload_n F 3 dX1_tellOne_85 rfl rfl ?_
            refine j_callVi F mwX1_tellWord ql_X1_76 clX1 (lt653 rfl hN) ly1 [.ref (cz x + k1), .int (x2 + (1 : Int32)), .int x3] rfl ⟨rfl, rfl, Nat.le_of_ble_eq_true rfl, Nat.le_of_ble_eq_true rfl⟩ ⟨Nat.le_refl 0, Nat.le_refl 0⟩ rfl (Nat.le_of_ble_eq_true rfl) dX1_tellOne_86 (fun _ _ _ h9 => kX1_tellWord l hN hk1 h9) h (fun v8 t8 a8 e8 h => ?_)
            exact j_zreturn F rfl dX1_tellOne_89 h
          · refine ifE h (fun e2_5 h => ?_) (fun e2_5 h => ?_)
            · refine j_tsI F 111 dX1_tellOne_5 e2_5 (by decide) (by decide) rfl rfl ?_
              refine j_aload_n F 1 dX1_tellOne_111 rfl rfl ?_
              refine j_aload_n F 0 dX1_tellOne_112 rfl rfl ?_
              refine j_iload_n F 2 dX1_tellOne_113 rfl rfl ?_
              refine j_iconst F dX1_tellOne_114 cI_1 ?_
              refine j_iadd F dX1_tellOne_115 ?_
              refine j_callVi F mwX1_digit ql_X1_85 clX1 (lt653 rfl hN) ly1 [.int (x2 + (1 : Int32))] rfl ⟨rfl, rfl, Nat.le_of_ble_eq_true rfl, Nat.le_of_ble_eq_true rfl⟩ ⟨Nat.le_refl 0, Nat.le_refl 0⟩ rfl (Nat.le_of_ble_eq_true rfl) dX1_tellOne_116 (fun _ _ _ h9 => kX1_digit l hN  h9) h (fun v9 t9 a9 e9 h => ?_)
              refine j_aload_n F 0 dX1_tellOne_119 rfl rfl ?_
              refine j_iload_n F 2 dX1_tellOne_120 rfl rfl ?_
              refine j_iconst F dX1_tellOne_121 cI_3 ?_
              refine j_iadd F dX1_tellOne_122 ?_
              refine j_callVi F mwX1_digit ql_X1_85 clX1 (lt653 rfl hN) ly1 [.int (x2 + (3 : Int32))] rfl ⟨rfl, rfl, Nat.le_of_ble_eq_true rfl, Nat.le_of_ble_eq_true rfl⟩ ⟨Nat.le_refl 0, Nat.le_refl 0⟩ rfl (Nat.le_of_ble_eq_true rfl) dX1_tellOne_123 (fun _ _ _ h9 => kX1_digit l hN  h9) h (fun v10 t10 a10 e10 h => ?_)
              refine j_callVi F mwX6_setWeight ql_X1_88 clX6 (Tg_lt hk1 hN) (Tg_l hk1) [.int v9, .int v10] rfl ⟨rfl, rfl, Nat.le_of_ble_eq_true rfl, Nat.le_of_ble_eq_true rfl⟩ ⟨Nat.le_refl 0, Nat.le_refl 0⟩ rfl (Nat.le_of_ble_eq_true rfl) dX1_tellOne_126 (fun _ _ _ h9 => kX6_setWeight l hN hk1 h9) h (fun v11 t11 a11 e11 h => ?_)
              exact j_zreturn F rfl dX1_tellOne_129 h
            · refine j_tsD F 142 dX1_tellOne_5 rfl (fun i hi => ?_) rfl ?_
              · have hi : i < 15 := hi
                have hi : i = 0 ∨ i = 1 ∨ i = 2 ∨ i = 3 ∨ i = 4 ∨ i = 5 ∨ i = 6 ∨ i = 7 ∨ i = 8 ∨ i = 9 ∨ i = 10 ∨ i = 11 ∨ i = 12 ∨ i = 13 ∨ i = 14 := by omega
                rcases hi with rfl | rfl | rfl | rfl | rfl | rfl | rfl | rfl | rfl | rfl | rfl | rfl | rfl | rfl | rfl
                · exact Or.inr (by have h9 := lv_neT (a := 105) e2_0 rfl; omega)
                · exact Or.inl rfl
                · exact Or.inl rfl
                · exact Or.inr (by have h9 := lv_neT (a := 108) e2_1 rfl; omega)
                · exact Or.inl rfl
                · exact Or.inr (by have h9 := lv_neT (a := 110) e2_2 rfl; omega)
                · exact Or.inr (by have h9 := lv_neT (a := 111) e2_3 rfl; omega)
                · exact Or.inl rfl
                · exact Or.inl rfl
                · exact Or.inl rfl
                · exact Or.inl rfl
                · exact Or.inr (by have h9 := lv_neT (a := 116) e2_4 rfl; omega)
                · exact Or.inl rfl
                · exact Or.inl rfl
                · exact Or.inr (by have h9 := lv_neT (a := 119) e2_5 rfl; omega)
              refine j_aload_n F 1 dX1_tellOne_142 rfl rfl ?_
              refine j_aload_n F 0 dX1_tellOne_143 rfl rfl ?_
              refine j_iload_n F 2 dX1_tellOne_144 rfl rfl ?_
              refine j_iconst F dX1_tellOne_145 cI_1 ?_
              refine j_iadd F dX1_tellOne_146 ?_
              refine j_callVi F mwX1_sign ql_X1_27 clX1 (lt653 rfl hN) ly1 [.int (x2 + (1 : Int32))] rfl ⟨rfl, rfl, Nat.le_of_ble_eq_true rfl, Nat.le_of_ble_eq_true rfl⟩ ⟨Nat.le_refl 0, Nat.le_refl 0⟩ rfl (Nat.le_of_ble_eq_true rfl) dX1_tellOne_147 (fun _ _ _ h9 => kX1_sign l hN  h9) h (fun v12 t12 a12 e12 h => ?_)
              refine j_callSi F mwX1_talkerOf ql_X1_73 [.int v12] rfl ⟨rfl, rfl, Nat.le_of_ble_eq_true rfl, Nat.le_of_ble_eq_true rfl⟩ ⟨Nat.le_refl 0, Nat.le_refl 0⟩ rfl (Nat.le_of_ble_eq_true rfl) dX1_tellOne_150 (fun _ _ _ h9 => kX1_talkerOf l hN  h9) h (fun v13 t13 a13 e13 h => ?_)
              refine j_callVi F mwX6_addPerson ql_X1_94 clX6 (Tg_lt hk1 hN) (Tg_l hk1) [.int v13] rfl ⟨rfl, rfl, Nat.le_of_ble_eq_true rfl, Nat.le_of_ble_eq_true rfl⟩ ⟨Nat.le_refl 0, Nat.le_refl 0⟩ rfl (Nat.le_of_ble_eq_true rfl) dX1_tellOne_153 (fun _ _ _ h9 => kX6_addPerson l hN hk1 h9) h (fun v14 t14 a14 e14 h => ?_)
              exact j_zreturn F rfl dX1_tellOne_156 h
def gX1_tellTo_7 (nF : Nat) (k1 : Nat) (r7 : Int32 → Int32 → Int32 → sT → sA → Rs) (x2 x3 x4 : Int32) (t : sT) (a : sA) : Rs := if (t 65) ≤ x3 then (some (x2, t, a)) else (if (64 : Int32) ≤ x4 then (some (x2, t, a)) else (cal (fX1_behind nF x3 t a) (fun v1 t1 a1 => if 0 ≤ v1 then (cal (fX1_tellOne nF k1 x3 (v1 - (1 : Int32)) t1 a1) (fun v2 t2 a2 => if v2 = 0 then (some ((-2000 : Int32) - x3, t2, a2)) else (r7 (x2 + (1 : Int32)) v1 (x4 + (1 : Int32)) t2 a2))) else (some (v1, t1, a1)))))
def gX1_tellTo (nF : Nat) (k1 : Nat) : Nat → (Int32 → Int32 → Int32 → sT → sA → Rs)
  | 0 => (fun _ _ _ _ _ => none)
  | n9 + 1 => (gX1_tellTo_7 nF k1 (gX1_tellTo nF k1 n9))
def fX1_tellTo (nF : Nat) (k1 : Nat) (t : sT) (a : sA) : Rs := (gX1_tellTo nF k1 nF) (0 : Int32) (0 : Int32) (0 : Int32) t a
set_option maxRecDepth 100000 in
set_option maxHeartbeats 4000000 in
theorem hX1_tellTo {p : Program} {l : Launch} {e : Env} {s : State} {m : MethodId} {args : Array Value} {below : List Frame} {meth : Method} {c : Code} {x : Cx} {N : Nat} {u0 v0 : Option Nat} {nF : Nat} {k1 : Nat} (F : Fx p s m meth c cX1_tellTo 6 RX1 (some .int) x) (hsz : s.heap.size = cz x + N) (hN : 653 ≤ N) (hk1 : isTg k1) {rv : Int32} {rt : sT} {ra : sA} : ∀ n9 : Nat, (∀ (x2 x3 x4 : Int32) (t : sT) (a : sA), (gX1_tellTo nF k1 n9) x2 x3 x4 t a = some (rv, rt, ra) → J p l e (k2_rm 8 178) s m args below meth c x N (rho u0 v0) 6 0 0 (MQ below (PostI x N (rho u0 v0) rt ra rv) args s 0 0 (cA x)) 7 [(0, .ref (cz x + 1)), (1, .ref (cz x + k1)), (2, .int x2), (3, .int x3), (4, .int x4)] [] t a) := by
  intro n9
  induction n9 with
  | zero => exact fun _ _ _ _ _ h => (by cases h)
  | succ n9 ih =>
    intro x2 x3 x4 t a h
    have h : gX1_tellTo_7 nF k1 (gX1_tellTo nF k1 n9) x2 x3 x4 t a = some (rv, rt, ra) := h
    unfold gX1_tellTo_7 at h
    refine j_iload_n F 3 dX1_tellTo_7 rfl rfl ?_
    refine j_aload_n F 0 dX1_tellTo_8 rfl rfl ?_
    refine j_getI F clX1 (j := 1) (tt := 65) (lt653 rfl hN) ly1 (Nat.le_of_ble_eq_true rfl) rfl qf_X1_15 rfl dX1_tellTo_9 ?_
    refine j_icmp_ge F 68 dX1_tellTo_12 rfl h (fun h => ?_) (fun h => ?_)
    · refine j_iload_n F 2 dX1_tellTo_68 rfl rfl ?_
      exact j_ireturn F rfl dX1_tellTo_69 h
    · refine j_iload F 4 dX1_tellTo_15 rfl ?_
      refine j_bipush F dX1_tellTo_17 cB_64 ?_
      refine j_icmp_ge F 68 dX1_tellTo_19 rfl h (fun h => ?_) (fun h => ?_)
      · refine j_iload_n F 2 dX1_tellTo_68 rfl rfl ?_
        exact j_ireturn F rfl dX1_tellTo_69 h
      · refine j_aload_n F 0 dX1_tellTo_22 rfl rfl ?_
        refine j_iload_n F 3 dX1_tellTo_23 rfl rfl ?_
        refine j_callVi F mwX1_behind ql_X1_19 clX1 (lt653 rfl hN) ly1 [.int x3] rfl ⟨rfl, rfl, Nat.le_of_ble_eq_true rfl, Nat.le_of_ble_eq_true rfl⟩ ⟨Nat.le_refl 0, Nat.le_refl 0⟩ rfl (Nat.le_of_ble_eq_true rfl) dX1_tellTo_24 (fun _ _ _ h9 => kX1_behind l hN  h9) h (fun v1 t1 a1 e1 h => ?_)
        refine j_istore F (k := 0) (lv' := [(5, .int v1), (0, .ref (cz x + 1)), (1, .ref (cz x + k1)), (2, .int x2), (3, .int x3), (4, .int x4)]) dX1_tellTo_27 (Nat.le_of_ble_eq_true rfl) rfl ?_
        refine j_iload F 0 dX1_tellTo_29 rfl ?_
        refine j_if_ge F 37 dX1_tellTo_31 rfl h (fun h => ?_) (fun h => ?_)
        · refine j_aload_n F 1 dX1_tellTo_37 rfl rfl ?_
          refine j_aload_n F 2 dX1_tellTo_38 rfl rfl ?_
          refine j_iload_n F 4 dX1_tellTo_39 rfl rfl ?_
          refine j_iload F 0 dX1_tellTo_40 rfl ?_
          refine j_iconst F dX1_tellTo_42 cI_1 ?_
          refine j_isub F dX1_tellTo_43 ?_
          refine j_callVi F mwX1_tellOne ql_X1_23 clX1 (lt653 rfl hN) ly1 [.ref (cz x + k1), .int x3, .int (v1 - (1 : Int32))] rfl ⟨rfl, rfl, Nat.le_of_ble_eq_true rfl, Nat.le_of_ble_eq_true rfl⟩ ⟨Nat.le_refl 0, Nat.le_refl 0⟩ rfl (Nat.le_of_ble_eq_true rfl) dX1_tellTo_44 (fun _ _ _ h9 => kX1_tellOne l hN hk1 h9) h (fun v2 t2 a2 e2 h => ?_)
          refine j_if_ne F 56 dX1_tellTo_47 rfl h (fun h => ?_) (fun h => ?_)
          · refine j_sipush F dX1_tellTo_50 cS_m2000 ?_
            refine j_iload_n F 4 dX1_tellTo_53 rfl rfl ?_
            refine j_isub F dX1_tellTo_54 ?_
            exact j_ireturn F rfl dX1_tellTo_55 h
          · refine j_iload F 0 dX1_tellTo_56 rfl ?_
            refine j_istore_n F (lv' := [(3, .int v1), (5, .int v1), (0, .ref (cz x + 1)), (1, .ref (cz x + k1)), (2, .int x2), (4, .int x4)]) dX1_tellTo_58 rfl (Nat.le_of_ble_eq_true rfl) rfl ?_
            refine j_iinc F (v := x2 + (1 : Int32)) (lv' := [(2, .int (x2 + (1 : Int32))), (3, .int v1), (5, .int v1), (0, .ref (cz x + 1)), (1, .ref (cz x + k1)), (4, .int x4)]) dX1_tellTo_59 4 rfl (congrArg (fun z => x2 + z) cI_1) (Nat.le_of_ble_eq_true rfl) rfl ?_
            refine j_iinc F (v := x4 + (1 : Int32)) (lv' := [(4, .int (x4 + (1 : Int32))), (2, .int (x2 + (1 : Int32))), (3, .int v1), (5, .int v1), (0, .ref (cz x + 1)), (1, .ref (cz x + k1))]) dX1_tellTo_62 5 rfl (congrArg (fun z => x4 + z) cI_1) (Nat.le_of_ble_eq_true rfl) rfl ?_
            refine j_goto F 7 dX1_tellTo_65 rfl ?_
            exact j_lv [4, 5, 1, 2, 0] rfl (ih _ _ _ _ _ h)
        · refine j_iload F 0 dX1_tellTo_34 rfl ?_
          exact j_ireturn F rfl dX1_tellTo_36 h
set_option maxRecDepth 100000 in
set_option maxHeartbeats 4000000 in
theorem kX1_tellTo (l : Launch) {x : Cx} {N : Nat} {u0 v0 : Option Nat} {nF : Nat} {k1 : Nat} {t : sT} {a : sA} {rv : Int32} {rt : sT} {ra : sA} (hN : 653 ≤ N) (hk1 : isTg k1) (h : fX1_tellTo nF k1 t a = some (rv, rt, ra)) : Met l yX1_tellTo [.code yX1_tellTo cX1_tellTo 6 (some .int)] (k2_rm 8 178) (Pre x N (rho u0 v0) t a [.ref (cz x + 1), .ref (cz x + k1)]) (PostI x N (rho u0 v0) rt ra rv) 0 0 (cA x) := by
  refine j_entry (by decide) rfl (Nat.le_of_ble_eq_true rfl) ?_
  intro p e s m below meth c F hsz hnm
  have F : Fx p s m meth c cX1_tellTo 6 RX1 (some .int) x := F
  unfold fX1_tellTo at h
  show J p l e _ s m _ below meth c x N (rho u0 v0) 6 0 0 _ 0 [(0, .ref (cz x + 1)), (1, .ref (cz x + k1))] [] t a
  refine j_iconst F dX1_tellTo_0 cI_0 ?_
  refine j_istore_n F (lv' := [(2, .int (0 : Int32)), (0, .ref (cz x + 1)), (1, .ref (cz x + k1))]) dX1_tellTo_1 rfl (Nat.le_of_ble_eq_true rfl) rfl ?_
  refine j_iconst F dX1_tellTo_2 cI_0 ?_
  refine j_istore_n F (lv' := [(3, .int (0 : Int32)), (2, .int (0 : Int32)), (0, .ref (cz x + 1)), (1, .ref (cz x + k1))]) dX1_tellTo_3 rfl (Nat.le_of_ble_eq_true rfl) rfl ?_
  refine j_iconst F dX1_tellTo_4 cI_0 ?_
  refine j_istore F (k := 0) (lv' := [(4, .int (0 : Int32)), (3, .int (0 : Int32)), (2, .int (0 : Int32)), (0, .ref (cz x + 1)), (1, .ref (cz x + k1))]) dX1_tellTo_5 (Nat.le_of_ble_eq_true rfl) rfl ?_
  exact j_lv [3, 4, 2, 1, 0] rfl ((hX1_tellTo F hsz hN hk1 nF) _ _ _ _ _ h)
def fX7_tongue (nF : Nat) (t : sT) (a : sA) : Rs := cal (fX1_statements nF t a) (fun v1 t1 a1 => if v1 ≤ 0 then (if v1 ≤ 0 then (some (v1, va_up t1 65 (0 : Int32), a1)) else (cal (fX6_copyFrom nF 3 8 t1 a1) (fun v2 t2 a2 => cal (fX7_forgetSayings nF t2 a2) (fun v3 t3 a3 => some (v1, va_up t3 65 (0 : Int32), a3))))) else (cal (fX6_copyFrom nF 8 3 t1 a1) (fun v4 t4 a4 => cal (fX1_tellTo nF 8 t4 a4) (fun v5 t5 a5 => if v5 ≤ 0 then (some (v5, va_up t5 65 (0 : Int32), a5)) else (cal (fX6_copyFrom nF 3 8 t5 a5) (fun v6 t6 a6 => cal (fX7_forgetSayings nF t6 a6) (fun v7 t7 a7 => some (v5, va_up t7 65 (0 : Int32), a7))))))))
set_option maxRecDepth 100000 in
set_option maxHeartbeats 4000000 in
theorem kX7_tongue (l : Launch) {x : Cx} {N : Nat} {u0 v0 : Option Nat} {nF : Nat} {t : sT} {a : sA} {rv : Int32} {rt : sT} {ra : sA} (hN : 653 ≤ N) (h : fX7_tongue nF t a = some (rv, rt, ra)) : Met l yX7_tongue [.code yX7_tongue cX7_tongue 2 (some .int)] (k2_rm 9 203) (Pre x N (rho u0 v0) t a [.ref (cz x + 0)]) (PostI x N (rho u0 v0) rt ra rv) 0 0 (cA x) := by
  refine j_entry (by decide) rfl (Nat.le_of_ble_eq_true rfl) ?_
  intro p e s m below meth c F hsz hnm
  have F : Fx p s m meth c cX7_tongue 2 RX7 (some .int) x := F
  unfold fX7_tongue at h
  show J p l e _ s m _ below meth c x N (rho u0 v0) 2 0 0 _ 0 [(0, .ref (cz x + 0))] [] t a
  refine j_aload_n F 0 dX7_tongue_0 rfl rfl ?_
  refine j_getR F clX7 (j := 0) (lt653 rfl hN) ly0 (Nat.le_of_ble_eq_true rfl) rfl qf_X7_10 rfl dX7_tongue_1 ?_
  refine j_callVi F mwX1_statements ql_X7_78 clX1 (lt653 rfl hN) ly1 [] rfl ⟨rfl, rfl, Nat.le_of_ble_eq_true rfl, Nat.le_of_ble_eq_true rfl⟩ ⟨Nat.le_refl 0, Nat.le_refl 0⟩ rfl (Nat.le_of_ble_eq_true rfl) dX7_tongue_4 (fun _ _ _ h9 => kX1_statements l hN  h9) h (fun v1 t1 a1 e1 h => ?_)
  refine j_istore_n F (lv' := [(1, .int v1), (0, .ref (cz x + 0))]) dX7_tongue_7 rfl (Nat.le_of_ble_eq_true rfl) rfl ?_
  refine j_iload_n F 0 dX7_tongue_8 rfl rfl ?_
  refine j_if_le F 35 dX7_tongue_9 rfl h (fun h => ?_) (fun h => ?_)
  · refine j_iload_n F 0 dX7_tongue_35 rfl rfl ?_
    refine j_if_le F 54 dX7_tongue_36 rfl h (fun h => ?_) (fun h => ?_)
    · refine j_aload_n F 1 dX7_tongue_54 rfl rfl ?_
      refine j_getR F clX7 (j := 0) (lt653 rfl hN) ly0 (Nat.le_of_ble_eq_true rfl) rfl qf_X7_10 rfl dX7_tongue_55 ?_
      refine j_iconst F dX7_tongue_58 cI_0 ?_
      refine j_putI F clX1 (j := 1) (tt := 65) (lt653 rfl hN) ly1 (Nat.le_of_ble_eq_true rfl) rfl qf_X7_70 rfl rfl rfl dX7_tongue_59 ?_
      refine j_iload_n F 0 dX7_tongue_62 rfl rfl ?_
      exact j_ireturn F rfl dX7_tongue_63 h
    · refine j_aload_n F 1 dX7_tongue_39 rfl rfl ?_
      refine j_getR F clX7 (j := 1) (lt653 rfl hN) ly0 (Nat.le_of_ble_eq_true rfl) rfl qf_X7_19 rfl dX7_tongue_40 ?_
      refine j_aload_n F 1 dX7_tongue_43 rfl rfl ?_
      refine j_getR F clX7 (j := 2) (lt653 rfl hN) ly0 (Nat.le_of_ble_eq_true rfl) rfl qf_X7_23 rfl dX7_tongue_44 ?_
      refine j_callVv F mwX6_copyFrom ql_X7_82 clX6 (lt653 rfl hN) ly3 [.ref (cz x + 8)] rfl ⟨rfl, rfl, Nat.le_of_ble_eq_true rfl, Nat.le_of_ble_eq_true rfl⟩ ⟨Nat.le_refl 0, Nat.le_refl 0⟩ rfl (Nat.le_of_ble_eq_true rfl) dX7_tongue_47 (fun _ _ _ h9 => kX6_copyFrom l hN tg3 tg8 h9) h (fun v2 t2 a2 e2 h => ?_)
      refine j_aload_n F 1 dX7_tongue_50 rfl rfl ?_
      refine j_callVv F mwX7_forgetSayings ql_X7_90 clX7 (lt653 rfl hN) ly0 [] rfl ⟨rfl, rfl, Nat.le_of_ble_eq_true rfl, Nat.le_of_ble_eq_true rfl⟩ ⟨Nat.le_refl 0, Nat.le_refl 0⟩ rfl (Nat.le_of_ble_eq_true rfl) dX7_tongue_51 (fun _ _ _ h9 => kX7_forgetSayings l hN  h9) h (fun v3 t3 a3 e3 h => ?_)
      refine j_aload_n F 1 dX7_tongue_54 rfl rfl ?_
      refine j_getR F clX7 (j := 0) (lt653 rfl hN) ly0 (Nat.le_of_ble_eq_true rfl) rfl qf_X7_10 rfl dX7_tongue_55 ?_
      refine j_iconst F dX7_tongue_58 cI_0 ?_
      refine j_putI F clX1 (j := 1) (tt := 65) (lt653 rfl hN) ly1 (Nat.le_of_ble_eq_true rfl) rfl qf_X7_70 rfl rfl rfl dX7_tongue_59 ?_
      refine j_iload_n F 0 dX7_tongue_62 rfl rfl ?_
      exact j_ireturn F rfl dX7_tongue_63 h
  · refine j_aload_n F 1 dX7_tongue_12 rfl rfl ?_
    refine j_getR F clX7 (j := 2) (lt653 rfl hN) ly0 (Nat.le_of_ble_eq_true rfl) rfl qf_X7_23 rfl dX7_tongue_13 ?_
    refine j_aload_n F 1 dX7_tongue_16 rfl rfl ?_
    refine j_getR F clX7 (j := 1) (lt653 rfl hN) ly0 (Nat.le_of_ble_eq_true rfl) rfl qf_X7_19 rfl dX7_tongue_17 ?_
    refine j_callVv F mwX6_copyFrom ql_X7_82 clX6 (lt653 rfl hN) ly8 [.ref (cz x + 3)] rfl ⟨rfl, rfl, Nat.le_of_ble_eq_true rfl, Nat.le_of_ble_eq_true rfl⟩ ⟨Nat.le_refl 0, Nat.le_refl 0⟩ rfl (Nat.le_of_ble_eq_true rfl) dX7_tongue_20 (fun _ _ _ h9 => kX6_copyFrom l hN tg8 tg3 h9) h (fun v4 t4 a4 e4 h => ?_)
    refine j_aload_n F 1 dX7_tongue_23 rfl rfl ?_
    refine j_getR F clX7 (j := 0) (lt653 rfl hN) ly0 (Nat.le_of_ble_eq_true rfl) rfl qf_X7_10 rfl dX7_tongue_24 ?_
    refine j_aload_n F 1 dX7_tongue_27 rfl rfl ?_
    refine j_getR F clX7 (j := 2) (lt653 rfl hN) ly0 (Nat.le_of_ble_eq_true rfl) rfl qf_X7_23 rfl dX7_tongue_28 ?_
    refine j_callVi F mwX1_tellTo ql_X7_86 clX1 (lt653 rfl hN) ly1 [.ref (cz x + 8)] rfl ⟨rfl, rfl, Nat.le_of_ble_eq_true rfl, Nat.le_of_ble_eq_true rfl⟩ ⟨Nat.le_refl 0, Nat.le_refl 0⟩ rfl (Nat.le_of_ble_eq_true rfl) dX7_tongue_31 (fun _ _ _ h9 => kX1_tellTo l hN tg8 h9) h (fun v5 t5 a5 e5 h => ?_)
    refine j_istore_n F (lv' := [(1, .int v5), (0, .ref (cz x + 0))]) dX7_tongue_34 rfl (Nat.le_of_ble_eq_true rfl) rfl ?_
    refine j_iload_n F 0 dX7_tongue_35 rfl rfl ?_
    refine j_if_le F 54 dX7_tongue_36 rfl h (fun h => ?_) (fun h => ?_)
    · refine j_aload_n F 1 dX7_tongue_54 rfl rfl ?_
      refine j_getR F clX7 (j := 0) (lt653 rfl hN) ly0 (Nat.le_of_ble_eq_true rfl) rfl qf_X7_10 rfl dX7_tongue_55 ?_
      refine j_iconst F dX7_tongue_58 cI_0 ?_
      refine j_putI F clX1 (j := 1) (tt := 65) (lt653 rfl hN) ly1 (Nat.le_of_ble_eq_true rfl) rfl qf_X7_70 rfl rfl rfl dX7_tongue_59 ?_
      refine j_iload_n F 0 dX7_tongue_62 rfl rfl ?_
      exact j_ireturn F rfl dX7_tongue_63 h
    · refine j_aload_n F 1 dX7_tongue_39 rfl rfl ?_
      refine j_getR F clX7 (j := 1) (lt653 rfl hN) ly0 (Nat.le_of_ble_eq_true rfl) rfl qf_X7_19 rfl dX7_tongue_40 ?_
      refine j_aload_n F 1 dX7_tongue_43 rfl rfl ?_
      refine j_getR F clX7 (j := 2) (lt653 rfl hN) ly0 (Nat.le_of_ble_eq_true rfl) rfl qf_X7_23 rfl dX7_tongue_44 ?_
      refine j_callVv F mwX6_copyFrom ql_X7_82 clX6 (lt653 rfl hN) ly3 [.ref (cz x + 8)] rfl ⟨rfl, rfl, Nat.le_of_ble_eq_true rfl, Nat.le_of_ble_eq_true rfl⟩ ⟨Nat.le_refl 0, Nat.le_refl 0⟩ rfl (Nat.le_of_ble_eq_true rfl) dX7_tongue_47 (fun _ _ _ h9 => kX6_copyFrom l hN tg3 tg8 h9) h (fun v6 t6 a6 e6 h => ?_)
      refine j_aload_n F 1 dX7_tongue_50 rfl rfl ?_
      refine j_callVv F mwX7_forgetSayings ql_X7_90 clX7 (lt653 rfl hN) ly0 [] rfl ⟨rfl, rfl, Nat.le_of_ble_eq_true rfl, Nat.le_of_ble_eq_true rfl⟩ ⟨Nat.le_refl 0, Nat.le_refl 0⟩ rfl (Nat.le_of_ble_eq_true rfl) dX7_tongue_51 (fun _ _ _ h9 => kX7_forgetSayings l hN  h9) h (fun v7 t7 a7 e7 h => ?_)
      refine j_aload_n F 1 dX7_tongue_54 rfl rfl ?_
      refine j_getR F clX7 (j := 0) (lt653 rfl hN) ly0 (Nat.le_of_ble_eq_true rfl) rfl qf_X7_10 rfl dX7_tongue_55 ?_
      refine j_iconst F dX7_tongue_58 cI_0 ?_
      refine j_putI F clX1 (j := 1) (tt := 65) (lt653 rfl hN) ly1 (Nat.le_of_ble_eq_true rfl) rfl qf_X7_70 rfl rfl rfl dX7_tongue_59 ?_
      refine j_iload_n F 0 dX7_tongue_62 rfl rfl ?_
      exact j_ireturn F rfl dX7_tongue_63 h
