/-! the reference: takeFrom, on, image, tongue -/
theorem md50 : isMd 50 := Or.inl rfl
theorem md_lt0 {k N : Nat} (h : k + 603 ≤ N) : k < N := by omega
theorem md_lt {k N i : Nat} (h : k + 603 ≤ N) (hi : Nat.blt i 603 = true) : k + i < N := by
  have : i < 603 := by simpa [Nat.blt_eq] using hi
  omega
section JN
variable {p : Program} {l : Launch} {e : Env} {R : Room} {s : State} {m : MethodId} {args : Array Value} {below : List Frame} {meth : Method} {c : Code} {x : Cx} {N : Nat} {r : sR} {nL cells slots : Nat} {Q : State → Prop} {own : String} {cc : ByteArray} {ret : Option FieldType} {pc : Nat} {lv : List (Nat × Value)} {st : List Value} {t : sT} {a : sA} {ρ : Type} {A B : Option ρ} {v9 : ρ}
theorem j_nnN (F : Fx p s m meth c cc nL own ret x) {off : Int} (hd : decode cc pc = .ok (.ifnonnull off, 3)) (kk : J p l e R s m args below meth c x N r nL cells slots Q (pc + 3) lv st t a) : J p l e R s m args below meth c x N r nL cells slots Q pc lv (.null :: st) t a := fun H locs ls hW hl => lv_ifnonnullN F.1 F.2.1 hd (kk H locs ls hW hl)
theorem j_nnR (F : Fx p s m meth c cc nL own ret x) {off : Int} {z : Nat} (tgt : Nat) (hd : decode cc pc = .ok (.ifnonnull off, 3)) (ht : (pc : Int) + off = (tgt : Int)) (kk : J p l e R s m args below meth c x N r nL cells slots Q tgt lv st t a) : J p l e R s m args below meth c x N r nL cells slots Q pc lv (.ref z :: st) t a := fun H locs ls hW hl => lv_ifnonnull F.1 F.2.1 hd ht (kk H locs ls hW hl)
end JN
def fX8_takeFrom (nF : Nat) (k0 : Nat) (k1 : Nat) (t : sT) (a : sA) : Rs := cal (fX8_over nF (k1 + 5) 8 (k0 + 5) 8 (va_up t (64 * k0 + 7) (t (64 * k1 + 7))) a) (fun v1 t1 a1 => cal (fX8_over nF (k1 + 6) 8 (k0 + 6) 8 t1 a1) (fun v2 t2 a2 => cal (fX8_over nF (k1 + 7) 8 (k0 + 7) 8 t2 a2) (fun v3 t3 a3 => cal (fX8_over nF (k1 + 8) 4 (k0 + 8) 4 (va_up t3 (64 * k0 + 11) (t3 (64 * k1 + 11))) a3) (fun v4 t4 a4 => cal (fX8_over nF (k1 + 9) 12 (k0 + 9) 12 (va_up (va_up (va_up t4 (64 * k0 + 13) (t4 (64 * k1 + 13))) (64 * k0 + 14) ((va_up t4 (64 * k0 + 13) (t4 (64 * k1 + 13))) (64 * k1 + 14))) (64 * k0 + 15) ((va_up (va_up t4 (64 * k0 + 13) (t4 (64 * k1 + 13))) (64 * k0 + 14) ((va_up t4 (64 * k0 + 13) (t4 (64 * k1 + 13))) (64 * k1 + 14))) (64 * k1 + 15))) a4) (fun v5 t5 a5 => cal (fX8_over nF (k1 + 10) 12 (k0 + 10) 12 t5 a5) (fun v6 t6 a6 => cal (fX8_over nF (k1 + 11) 12 (k0 + 11) 12 t6 a6) (fun v7 t7 a7 => some (0, va_up t7 (64 * k0 + 19) (t7 (64 * k1 + 19)), a7))))))))
set_option maxRecDepth 100000 in
set_option maxHeartbeats 4000000 in
theorem kX8_takeFrom (l : Launch) {x : Cx} {N : Nat} {u0 v0 : Option Nat} {nF : Nat} {k0 : Nat} {k1 : Nat} {t : sT} {a : sA} {rv : Int32} {rt : sT} {ra : sA} (hN : 653 ≤ N) (hk0 : isMd k0) (hn0 : k0 + 603 ≤ N) (hk1 : isMd k1) (hn1 : k1 + 603 ≤ N) (h : fX8_takeFrom nF k0 k1 t a = some (rv, rt, ra)) : Met l yX8_takeFrom [.code yX8_takeFrom cX8_takeFrom 2 none] (k2_rm 1 22) (Pre x N (rho u0 v0) t a [.ref (cz x + k0), .ref (cz x + k1)]) (PostV x N (rho u0 v0) rt ra) 0 0 (cA x) := by
  refine j_entry (by decide) rfl (Nat.le_of_ble_eq_true rfl) ?_
  intro p e s m below meth c F hsz hnm
  have F : Fx p s m meth c cX8_takeFrom 2 RX8 none x := F
  unfold fX8_takeFrom at h
  show J p l e _ s m _ below meth c x N (rho u0 v0) 2 0 0 _ 0 [(0, .ref (cz x + k0)), (1, .ref (cz x + k1))] [] t a
  refine j_aload_n F 0 dX8_takeFrom_0 rfl rfl ?_
  refine j_aload_n F 1 dX8_takeFrom_1 rfl rfl ?_
  refine j_getI F clX8 (j := 7) (tt := (64 * k1 + 7)) (md_lt0 hn1) (Md_l hk1) (Nat.le_of_ble_eq_true rfl) rfl qf_X8_67 rfl dX8_takeFrom_2 ?_
  refine j_putI F clX8 (j := 7) (tt := (64 * k0 + 7)) (md_lt0 hn0) (Md_l hk0) (Nat.le_of_ble_eq_true rfl) rfl qf_X8_67 rfl rfl rfl dX8_takeFrom_5 ?_
  refine j_aload_n F 1 dX8_takeFrom_8 rfl rfl ?_
  refine j_getR F clX8 (j := 8) (md_lt0 hn1) (Md_l hk1) (Nat.le_of_ble_eq_true rfl) rfl qf_X8_22 (Md_r8 hk1) dX8_takeFrom_9 ?_
  refine j_aload_n F 0 dX8_takeFrom_12 rfl rfl ?_
  refine j_getR F clX8 (j := 8) (md_lt0 hn0) (Md_l hk0) (Nat.le_of_ble_eq_true rfl) rfl qf_X8_22 (Md_r8 hk0) dX8_takeFrom_13 ?_
  refine j_callSv F mwX8_over ql_X8_243 [.ref (cz x + (k1 + 5)), .ref (cz x + (k0 + 5))] rfl ⟨rfl, rfl, Nat.le_of_ble_eq_true rfl, Nat.le_of_ble_eq_true rfl⟩ ⟨Nat.le_refl 0, Nat.le_refl 0⟩ rfl (Nat.le_of_ble_eq_true rfl) dX8_takeFrom_16 (fun _ _ _ h9 => kX8_over l hN (md_lt hn1 rfl) (Md_l5 hk1) (md_lt hn0 rfl) (Md_l5 hk0) h9) h (fun v1 t1 a1 e1 h => ?_)
  refine j_aload_n F 1 dX8_takeFrom_19 rfl rfl ?_
  refine j_getR F clX8 (j := 9) (md_lt0 hn1) (Md_l hk1) (Nat.le_of_ble_eq_true rfl) rfl qf_X8_25 (Md_r9 hk1) dX8_takeFrom_20 ?_
  refine j_aload_n F 0 dX8_takeFrom_23 rfl rfl ?_
  refine j_getR F clX8 (j := 9) (md_lt0 hn0) (Md_l hk0) (Nat.le_of_ble_eq_true rfl) rfl qf_X8_25 (Md_r9 hk0) dX8_takeFrom_24 ?_
  refine j_callSv F mwX8_over ql_X8_243 [.ref (cz x + (k1 + 6)), .ref (cz x + (k0 + 6))] rfl ⟨rfl, rfl, Nat.le_of_ble_eq_true rfl, Nat.le_of_ble_eq_true rfl⟩ ⟨Nat.le_refl 0, Nat.le_refl 0⟩ rfl (Nat.le_of_ble_eq_true rfl) dX8_takeFrom_27 (fun _ _ _ h9 => kX8_over l hN (md_lt hn1 rfl) (Md_l6 hk1) (md_lt hn0 rfl) (Md_l6 hk0) h9) h (fun v2 t2 a2 e2 h => ?_)
  refine j_aload_n F 1 dX8_takeFrom_30 rfl rfl ?_
  refine j_getR F clX8 (j := 10) (md_lt0 hn1) (Md_l hk1) (Nat.le_of_ble_eq_true rfl) rfl qf_X8_28 (Md_r10 hk1) dX8_takeFrom_31 ?_
  refine j_aload_n F 0 dX8_takeFrom_34 rfl rfl ?_
  refine j_getR F clX8 (j := 10) (md_lt0 hn0) (Md_l hk0) (Nat.le_of_ble_eq_true rfl) rfl qf_X8_28 (Md_r10 hk0) dX8_takeFrom_35 ?_
  refine j_callSv F mwX8_over ql_X8_243 [.ref (cz x + (k1 + 7)), .ref (cz x + (k0 + 7))] rfl ⟨rfl, rfl, Nat.le_of_ble_eq_true rfl, Nat.le_of_ble_eq_true rfl⟩ ⟨Nat.le_refl 0, Nat.le_refl 0⟩ rfl (Nat.le_of_ble_eq_true rfl) dX8_takeFrom_38 (fun _ _ _ h9 => kX8_over l hN (md_lt hn1 rfl) (Md_l7 hk1) (md_lt hn0 rfl) (Md_l7 hk0) h9) h (fun v3 t3 a3 e3 h => ?_)
  refine j_aload_n F 0 dX8_takeFrom_41 rfl rfl ?_
  refine j_aload_n F 1 dX8_takeFrom_42 rfl rfl ?_
  refine j_getI F clX8 (j := 11) (tt := (64 * k1 + 11)) (md_lt0 hn1) (Md_l hk1) (Nat.le_of_ble_eq_true rfl) rfl qf_X8_71 rfl dX8_takeFrom_43 ?_
  refine j_putI F clX8 (j := 11) (tt := (64 * k0 + 11)) (md_lt0 hn0) (Md_l hk0) (Nat.le_of_ble_eq_true rfl) rfl qf_X8_71 rfl rfl rfl dX8_takeFrom_46 ?_
  refine j_aload_n F 1 dX8_takeFrom_49 rfl rfl ?_
  refine j_getR F clX8 (j := 12) (md_lt0 hn1) (Md_l hk1) (Nat.le_of_ble_eq_true rfl) rfl qf_X8_31 (Md_r12 hk1) dX8_takeFrom_50 ?_
  refine j_aload_n F 0 dX8_takeFrom_53 rfl rfl ?_
  refine j_getR F clX8 (j := 12) (md_lt0 hn0) (Md_l hk0) (Nat.le_of_ble_eq_true rfl) rfl qf_X8_31 (Md_r12 hk0) dX8_takeFrom_54 ?_
  refine j_callSv F mwX8_over ql_X8_243 [.ref (cz x + (k1 + 8)), .ref (cz x + (k0 + 8))] rfl ⟨rfl, rfl, Nat.le_of_ble_eq_true rfl, Nat.le_of_ble_eq_true rfl⟩ ⟨Nat.le_refl 0, Nat.le_refl 0⟩ rfl (Nat.le_of_ble_eq_true rfl) dX8_takeFrom_57 (fun _ _ _ h9 => kX8_over l hN (md_lt hn1 rfl) (Md_l8 hk1) (md_lt hn0 rfl) (Md_l8 hk0) h9) h (fun v4 t4 a4 e4 h => ?_)
  refine j_aload_n F 0 dX8_takeFrom_60 rfl rfl ?_
  refine j_aload_n F 1 dX8_takeFrom_61 rfl rfl ?_
  refine j_getI F clX8 (j := 13) (tt := (64 * k1 + 13)) (md_lt0 hn1) (Md_l hk1) (Nat.le_of_ble_eq_true rfl) rfl qf_X8_111 rfl dX8_takeFrom_62 ?_
  refine j_putI F clX8 (j := 13) (tt := (64 * k0 + 13)) (md_lt0 hn0) (Md_l hk0) (Nat.le_of_ble_eq_true rfl) rfl qf_X8_111 rfl rfl rfl dX8_takeFrom_65 ?_
  refine j_aload_n F 0 dX8_takeFrom_68 rfl rfl ?_
  refine j_aload_n F 1 dX8_takeFrom_69 rfl rfl ?_
  refine j_getI F clX8 (j := 14) (tt := (64 * k1 + 14)) (md_lt0 hn1) (Md_l hk1) (Nat.le_of_ble_eq_true rfl) rfl qf_X8_136 rfl dX8_takeFrom_70 ?_
  refine j_putI F clX8 (j := 14) (tt := (64 * k0 + 14)) (md_lt0 hn0) (Md_l hk0) (Nat.le_of_ble_eq_true rfl) rfl qf_X8_136 rfl rfl rfl dX8_takeFrom_73 ?_
  refine j_aload_n F 0 dX8_takeFrom_76 rfl rfl ?_
  refine j_aload_n F 1 dX8_takeFrom_77 rfl rfl ?_
  refine j_getI F clX8 (j := 15) (tt := (64 * k1 + 15)) (md_lt0 hn1) (Md_l hk1) (Nat.le_of_ble_eq_true rfl) rfl qf_X8_230 rfl dX8_takeFrom_78 ?_
  refine j_putI F clX8 (j := 15) (tt := (64 * k0 + 15)) (md_lt0 hn0) (Md_l hk0) (Nat.le_of_ble_eq_true rfl) rfl qf_X8_230 rfl rfl rfl dX8_takeFrom_81 ?_
  refine j_aload_n F 1 dX8_takeFrom_84 rfl rfl ?_
  refine j_getR F clX8 (j := 16) (md_lt0 hn1) (Md_l hk1) (Nat.le_of_ble_eq_true rfl) rfl qf_X8_34 (Md_r16 hk1) dX8_takeFrom_85 ?_
  refine j_aload_n F 0 dX8_takeFrom_88 rfl rfl ?_
  refine j_getR F clX8 (j := 16) (md_lt0 hn0) (Md_l hk0) (Nat.le_of_ble_eq_true rfl) rfl qf_X8_34 (Md_r16 hk0) dX8_takeFrom_89 ?_
  refine j_callSv F mwX8_over ql_X8_243 [.ref (cz x + (k1 + 9)), .ref (cz x + (k0 + 9))] rfl ⟨rfl, rfl, Nat.le_of_ble_eq_true rfl, Nat.le_of_ble_eq_true rfl⟩ ⟨Nat.le_refl 0, Nat.le_refl 0⟩ rfl (Nat.le_of_ble_eq_true rfl) dX8_takeFrom_92 (fun _ _ _ h9 => kX8_over l hN (md_lt hn1 rfl) (Md_l9 hk1) (md_lt hn0 rfl) (Md_l9 hk0) h9) h (fun v5 t5 a5 e5 h => ?_)
  refine j_aload_n F 1 dX8_takeFrom_95 rfl rfl ?_
  refine j_getR F clX8 (j := 17) (md_lt0 hn1) (Md_l hk1) (Nat.le_of_ble_eq_true rfl) rfl qf_X8_37 (Md_r17 hk1) dX8_takeFrom_96 ?_
  refine j_aload_n F 0 dX8_takeFrom_99 rfl rfl ?_
  refine j_getR F clX8 (j := 17) (md_lt0 hn0) (Md_l hk0) (Nat.le_of_ble_eq_true rfl) rfl qf_X8_37 (Md_r17 hk0) dX8_takeFrom_100 ?_
  refine j_callSv F mwX8_over ql_X8_243 [.ref (cz x + (k1 + 10)), .ref (cz x + (k0 + 10))] rfl ⟨rfl, rfl, Nat.le_of_ble_eq_true rfl, Nat.le_of_ble_eq_true rfl⟩ ⟨Nat.le_refl 0, Nat.le_refl 0⟩ rfl (Nat.le_of_ble_eq_true rfl) dX8_takeFrom_103 (fun _ _ _ h9 => kX8_over l hN (md_lt hn1 rfl) (Md_l10 hk1) (md_lt hn0 rfl) (Md_l10 hk0) h9) h (fun v6 t6 a6 e6 h => ?_)
  refine j_aload_n F 1 dX8_takeFrom_106 rfl rfl ?_
  refine j_getR F clX8 (j := 18) (md_lt0 hn1) (Md_l hk1) (Nat.le_of_ble_eq_true rfl) rfl qf_X8_40 (Md_r18 hk1) dX8_takeFrom_107 ?_
  refine j_aload_n F 0 dX8_takeFrom_110 rfl rfl ?_
  refine j_getR F clX8 (j := 18) (md_lt0 hn0) (Md_l hk0) (Nat.le_of_ble_eq_true rfl) rfl qf_X8_40 (Md_r18 hk0) dX8_takeFrom_111 ?_
  refine j_callSv F mwX8_over ql_X8_243 [.ref (cz x + (k1 + 11)), .ref (cz x + (k0 + 11))] rfl ⟨rfl, rfl, Nat.le_of_ble_eq_true rfl, Nat.le_of_ble_eq_true rfl⟩ ⟨Nat.le_refl 0, Nat.le_refl 0⟩ rfl (Nat.le_of_ble_eq_true rfl) dX8_takeFrom_114 (fun _ _ _ h9 => kX8_over l hN (md_lt hn1 rfl) (Md_l11 hk1) (md_lt hn0 rfl) (Md_l11 hk0) h9) h (fun v7 t7 a7 e7 h => ?_)
  refine j_aload_n F 0 dX8_takeFrom_117 rfl rfl ?_
  refine j_aload_n F 1 dX8_takeFrom_118 rfl rfl ?_
  refine j_getI F clX8 (j := 19) (tt := (64 * k1 + 19)) (md_lt0 hn1) (Md_l hk1) (Nat.le_of_ble_eq_true rfl) rfl qf_X8_221 rfl dX8_takeFrom_119 ?_
  refine j_putI F clX8 (j := 19) (tt := (64 * k0 + 19)) (md_lt0 hn0) (Md_l hk0) (Nat.le_of_ble_eq_true rfl) rfl qf_X8_221 rfl rfl rfl dX8_takeFrom_122 ?_
  exact j_vreturn F rfl dX8_takeFrom_125 h
def fX8_onN (nF : Nat) (t : sT) (a : sA) : Rs := cal (fX8_refuse nF (-3 : Int32) t a) (fun v1 t1 a1 => some (v1, t1, a1))
set_option maxRecDepth 100000 in
set_option maxHeartbeats 4000000 in
theorem jX8_onN {p : Program} {l : Launch} {e : Env} {s : State} {m : MethodId} {args : Array Value} {below : List Frame} {meth : Method} {c : Code} {x : Cx} {N : Nat} {u0 v0 : Option Nat} {nF : Nat} {t : sT} {a : sA} (F : Fx p s m meth c cX8_on 1 RX8 (some .int) x) (hN : 653 ≤ N) {rv : Int32} {rt : sT} {ra : sA} (h : fX8_onN nF  t a = some (rv, rt, ra)) : J p l e (k2_rm 2 43) s m args below meth c x N (rho none v0) 1 0 0 (MQ below (PostI x N (rho none v0) rt ra rv) args s 0 0 (cA x)) 0 [(0, .ref (cz x + 50))] [] t a := by
  unfold fX8_onN at h
  refine j_aload_n F 0 dX8_on_0 rfl rfl ?_
  refine j_getN F clX8 (j := 20) (lt653 rfl hN) ly50 (Nat.le_of_ble_eq_true rfl) rfl qf_X8_247 rfl dX8_on_1 ?_
  refine j_nnN F dX8_on_4 ?_
  refine j_aload_n F 0 dX8_on_7 rfl rfl ?_
  refine j_bipush F dX8_on_8 cB_m3 ?_
  refine j_callVi F mwX8_refuse ql_X8_74 clX8 (lt653 rfl hN) ly50 [.int (-3 : Int32)] rfl ⟨rfl, rfl, Nat.le_of_ble_eq_true rfl, Nat.le_of_ble_eq_true rfl⟩ ⟨Nat.le_refl _, Nat.le_refl _⟩ rfl (Nat.le_of_ble_eq_true rfl) dX8_on_10 (fun _ _ _ h9 => kX8_refuse l hN  h9) h (fun v1 t1 a1 e1 h => ?_)
  exact j_ireturn F rfl dX8_on_13 h
def fX8_onS (nF : Nat) (ku : Nat) (t : sT) (a : sA) : Rs := cal (fX8_takeFrom nF 50 ku t a) (fun v1 t1 a1 => some ((va_up (va_up t1 3203 (0 : Int32)) 3205 (0 : Int32)) 3207, va_up (va_up t1 3203 (0 : Int32)) 3205 (0 : Int32), a1))
set_option maxRecDepth 100000 in
set_option maxHeartbeats 4000000 in
theorem jX8_onS {p : Program} {l : Launch} {e : Env} {s : State} {m : MethodId} {args : Array Value} {below : List Frame} {meth : Method} {c : Code} {x : Cx} {N : Nat} {u0 v0 : Option Nat} {nF : Nat} {ku : Nat} {t : sT} {a : sA} (F : Fx p s m meth c cX8_on 1 RX8 (some .int) x) (hN : 653 ≤ N) (hku : isMd ku) (hnu : ku + 603 ≤ N) {rv : Int32} {rt : sT} {ra : sA} (h : fX8_onS nF ku t a = some (rv, rt, ra)) : J p l e (k2_rm 2 43) s m args below meth c x N (rho (some ku) v0) 1 0 0 (MQ below (PostI x N (rho (some ku) v0) rt ra rv) args s 0 0 (cA x)) 0 [(0, .ref (cz x + 50))] [] t a := by
  unfold fX8_onS at h
  refine j_aload_n F 0 dX8_on_0 rfl rfl ?_
  refine j_getR F clX8 (j := 20) (lt653 rfl hN) ly50 (Nat.le_of_ble_eq_true rfl) rfl qf_X8_247 rfl dX8_on_1 ?_
  refine j_nnR F 14 dX8_on_4 rfl ?_
  refine j_aload_n F 0 dX8_on_14 rfl rfl ?_
  refine j_aload_n F 0 dX8_on_15 rfl rfl ?_
  refine j_getR F clX8 (j := 20) (lt653 rfl hN) ly50 (Nat.le_of_ble_eq_true rfl) rfl qf_X8_247 rfl dX8_on_16 ?_
  refine j_callVv F mwX8_takeFrom ql_X8_123 clX8 (lt653 rfl hN) ly50 [.ref (cz x + ku)] rfl ⟨rfl, rfl, Nat.le_of_ble_eq_true rfl, Nat.le_of_ble_eq_true rfl⟩ ⟨Nat.le_refl _, Nat.le_refl _⟩ rfl (Nat.le_of_ble_eq_true rfl) dX8_on_19 (fun _ _ _ h9 => kX8_takeFrom l hN md50 hN hku hnu h9) h (fun v1 t1 a1 e1 h => ?_)
  refine j_aload_n F 0 dX8_on_22 rfl rfl ?_
  refine j_iconst F dX8_on_23 cI_0 ?_
  refine j_putI F clX8 (j := 3) (tt := 3203) (lt653 rfl hN) ly50 (Nat.le_of_ble_eq_true rfl) rfl qf_X8_139 rfl rfl rfl dX8_on_24 ?_
  refine j_aload_n F 0 dX8_on_27 rfl rfl ?_
  refine j_iconst F dX8_on_28 cI_0 ?_
  refine j_putI F clX8 (j := 5) (tt := 3205) (lt653 rfl hN) ly50 (Nat.le_of_ble_eq_true rfl) rfl qf_X8_218 rfl rfl rfl dX8_on_29 ?_
  refine j_aload_n F 0 dX8_on_32 rfl rfl ?_
  refine j_getI F clX8 (j := 7) (tt := 3207) (lt653 rfl hN) ly50 (Nat.le_of_ble_eq_true rfl) rfl qf_X8_67 rfl dX8_on_33 ?_
  exact j_ireturn F rfl dX8_on_36 h
set_option maxRecDepth 100000 in
theorem kX8_onN (l : Launch) {x : Cx} {N : Nat} {u0 v0 : Option Nat} {nF : Nat}  {t : sT} {a : sA} {rv : Int32} {rt : sT} {ra : sA} (hN : 653 ≤ N)  (h : fX8_onN nF  t a = some (rv, rt, ra)) : Met l yX8_on [.code yX8_on cX8_on 1 (some .int)] (k2_rm 2 43) (Pre x N (rho none v0) t a [.ref (cz x + 50)]) (PostI x N (rho none v0) rt ra rv) 0 0 (cA x) := by
  refine j_entry (by decide) rfl (Nat.le_of_ble_eq_true rfl) ?_
  intro p e s m below meth c F hsz hnm
  exact jX8_onN (u0 := none) (v0 := v0) F hN  h
set_option maxRecDepth 100000 in
theorem kX8_onS (l : Launch) {x : Cx} {N : Nat} {u0 v0 : Option Nat} {nF : Nat} {ku : Nat} {t : sT} {a : sA} {rv : Int32} {rt : sT} {ra : sA} (hN : 653 ≤ N) (hku : isMd ku) (hnu : ku + 603 ≤ N) (h : fX8_onS nF ku t a = some (rv, rt, ra)) : Met l yX8_on [.code yX8_on cX8_on 1 (some .int)] (k2_rm 2 43) (Pre x N (rho (some ku) v0) t a [.ref (cz x + 50)]) (PostI x N (rho (some ku) v0) rt ra rv) 0 0 (cA x) := by
  refine j_entry (by decide) rfl (Nat.le_of_ble_eq_true rfl) ?_
  intro p e s m below meth c F hsz hnm
  exact jX8_onS (u0 := none) (v0 := v0) F hN hku hnu h
def fX8_imageT (nF : Nat) (ku : Nat) (t : sT) (a : sA) : Rs := cal (fX8_takeFrom nF ku 50 t a) (fun v1 t1 a1 => some (t1 3207, t1, a1))
set_option maxRecDepth 100000 in
set_option maxHeartbeats 4000000 in
theorem jX8_imageT {p : Program} {l : Launch} {e : Env} {s : State} {m : MethodId} {args : Array Value} {below : List Frame} {meth : Method} {c : Code} {x : Cx} {N : Nat} {u0 v0 : Option Nat} {nF : Nat} {ku : Nat} {t : sT} {a : sA} (F : Fx p s m meth c cX8_image 1 RX8 (some .int) x) (hN : 653 ≤ N) (hku : isMd ku) (hnu : ku + 603 ≤ N) {rv : Int32} {rt : sT} {ra : sA} (h : fX8_imageT nF ku t a = some (rv, rt, ra)) : J p l e { frames := 2, cells := 603, slots := 4286, locals := 43 } s m args below meth c x N (rho (some ku) v0) 1 603 4286 (MQ below (PostI x N (rho (some ku) v0) rt ra rv) args s 603 4286 (cA x)) 18 [(0, .ref (cz x + 50))] [] t a := by
  unfold fX8_imageT at h
  refine j_aload_n F 0 dX8_image_18 rfl rfl ?_
  refine j_getR F clX8 (j := 20) (lt653 rfl hN) ly50 (Nat.le_of_ble_eq_true rfl) rfl qf_X8_247 rfl dX8_image_19 ?_
  refine j_aload_n F 0 dX8_image_22 rfl rfl ?_
  refine j_callVv F mwX8_takeFrom ql_X8_123 clX8 (md_lt0 hnu) (Md_l hku) [.ref (cz x + 50)] rfl ⟨rfl, rfl, Nat.le_of_ble_eq_true rfl, Nat.le_of_ble_eq_true rfl⟩ ⟨Nat.le_refl _, Nat.le_refl _⟩ rfl (Nat.le_of_ble_eq_true rfl) dX8_image_23 (fun _ _ _ h9 => kX8_takeFrom l hN hku hnu md50 hN h9) h (fun v1 t1 a1 e1 h => ?_)
  refine j_aload_n F 0 dX8_image_26 rfl rfl ?_
  refine j_getI F clX8 (j := 7) (tt := 3207) (lt653 rfl hN) ly50 (Nat.le_of_ble_eq_true rfl) rfl qf_X8_67 rfl dX8_image_27 ?_
  exact j_ireturn F rfl dX8_image_30 h
def gX8_tongueT_55 (nF : Nat) (kb : Nat) (r55 : Int32 → sT → sA → Rs) (r97 : Int32 → sT → sA → Rs) (x2 : Int32) (t : sT) (a : sA) : Rs := if (t 3201) ≤ (t 3221) then (some (x2, va_up t 3201 (0 : Int32), a)) else (cal (fX8_comes nF t a) (fun v2 t2 a2 => if v2 = 0 then (cal (fX8_takeFrom nF 50 kb t2 a2) (fun v3 t3 a3 => some ((-2000 : Int32) - (t 3221), va_up t3 3201 (0 : Int32), a3))) else (r97 x2 t2 a2)))
def gX8_tongueT_97 (nF : Nat) (kb : Nat) (r55 : Int32 → sT → sA → Rs) (r97 : Int32 → sT → sA → Rs) (x2 : Int32) (t : sT) (a : sA) : Rs := bnd (t 3221) 64 (if (a 51 (t 3221).toNatClampNeg) = (59 : Int32) then (r55 (x2 + (1 : Int32)) (va_up t 3221 ((t 3221) + (1 : Int32))) a) else (r97 x2 (va_up t 3221 ((t 3221) + (1 : Int32))) a))
def gX8_tongueT (nF : Nat) (kb : Nat) : Nat → (Int32 → sT → sA → Rs) × (Int32 → sT → sA → Rs)
  | 0 => (fun _ _ _ => none, fun _ _ _ => none)
  | n9 + 1 => (gX8_tongueT_55 nF kb ((gX8_tongueT nF kb n9).1) ((gX8_tongueT nF kb n9).2), gX8_tongueT_97 nF kb ((gX8_tongueT nF kb n9).1) ((gX8_tongueT nF kb n9).2))
def fX8_tongueT (nF : Nat) (kb : Nat) (t : sT) (a : sA) : Rs := cal (fX8_takeFrom nF kb 50 t a) (fun v1 t1 a1 => ((gX8_tongueT nF kb nF).1) (0 : Int32) (va_up t1 3221 (0 : Int32)) a1)
set_option maxRecDepth 100000 in
set_option maxHeartbeats 4000000 in
theorem hX8_tongueT {p : Program} {l : Launch} {e : Env} {s : State} {m : MethodId} {args : Array Value} {below : List Frame} {meth : Method} {c : Code} {x : Cx} {N : Nat} {u0 v0 : Option Nat} {nF : Nat} {kb : Nat} (F : Fx p s m meth c cX8_tongue 4 RX8 (some .int) x) (hN : 653 ≤ N) (hkb : isMd kb) (hnb : kb + 603 ≤ N) {rv : Int32} {rt : sT} {ra : sA} : ∀ n9 : Nat, (∀ (x2 : Int32) (t : sT) (a : sA), (gX8_tongueT nF kb n9).1 x2 t a = some (rv, rt, ra) → J p l e { frames := 4, cells := 603, slots := 4286, locals := 84 } s m args below meth c x N (rho u0 (some kb)) 4 603 4286 (MQ below (PostI x N (rho u0 (some kb)) rt ra rv) args s 603 4286 (cA x)) 55 [(0, .ref (cz x + 50)), (2, .int x2)] [] t a) ∧ (∀ (x2 : Int32) (t : sT) (a : sA), (gX8_tongueT nF kb n9).2 x2 t a = some (rv, rt, ra) → J p l e { frames := 4, cells := 603, slots := 4286, locals := 84 } s m args below meth c x N (rho u0 (some kb)) 4 603 4286 (MQ below (PostI x N (rho u0 (some kb)) rt ra rv) args s 603 4286 (cA x)) 97 [(0, .ref (cz x + 50)), (2, .int x2)] [] t a) := by
  intro n9
  induction n9 with
  | zero => exact ⟨fun _ _ _ h => (by cases h), fun _ _ _ h => (by cases h)⟩
  | succ n9 ih =>
    refine ⟨?_, ?_⟩
    · intro x2 t a h
      have h : gX8_tongueT_55 nF kb ((gX8_tongueT nF kb n9).1) ((gX8_tongueT nF kb n9).2) x2 t a = some (rv, rt, ra) := h
      unfold gX8_tongueT_55 at h
      refine j_aload_n F 0 dX8_tongue_55 rfl rfl ?_
      refine j_getI F clX8 (j := 21) (tt := 3221) (lt653 rfl hN) ly50 (Nat.le_of_ble_eq_true rfl) rfl qf_X8_81 rfl dX8_tongue_56 ?_
      refine j_aload_n F 0 dX8_tongue_59 rfl rfl ?_
      refine j_getI F clX8 (j := 1) (tt := 3201) (lt653 rfl hN) ly50 (Nat.le_of_ble_eq_true rfl) rfl qf_X8_78 rfl dX8_tongue_60 ?_
      refine j_icmp_ge F 140 dX8_tongue_63 rfl h (fun h => ?_) (fun h => ?_)
      · refine j_aload_n F 0 dX8_tongue_140 rfl rfl ?_
        refine j_iconst F dX8_tongue_141 cI_0 ?_
        refine j_putI F clX8 (j := 1) (tt := 3201) (lt653 rfl hN) ly50 (Nat.le_of_ble_eq_true rfl) rfl qf_X8_78 rfl rfl rfl dX8_tongue_142 ?_
        refine j_iload_n F 1 dX8_tongue_145 rfl rfl ?_
        exact j_ireturn F rfl dX8_tongue_146 h
      · refine j_aload_n F 0 dX8_tongue_66 rfl rfl ?_
        refine j_getI F clX8 (j := 21) (tt := 3221) (lt653 rfl hN) ly50 (Nat.le_of_ble_eq_true rfl) rfl qf_X8_81 rfl dX8_tongue_67 ?_
        refine j_istore_n F (lv' := [(3, .int (t 3221)), (0, .ref (cz x + 50)), (2, .int x2)]) dX8_tongue_70 rfl (Nat.le_of_ble_eq_true rfl) rfl ?_
        refine j_aload_n F 1 dX8_tongue_71 rfl rfl ?_
        refine j_callVi F mwX8_comes ql_X8_127 clX8 (lt653 rfl hN) ly50 [] rfl ⟨rfl, rfl, Nat.le_of_ble_eq_true rfl, Nat.le_of_ble_eq_true rfl⟩ ⟨Nat.le_refl _, Nat.le_refl _⟩ rfl (Nat.le_of_ble_eq_true rfl) dX8_tongue_72 (fun _ _ _ h9 => kX8_comes l hN  h9) h (fun v2 t2 a2 e2 h => ?_)
        refine j_if_ne F 97 dX8_tongue_75 rfl h (fun h => ?_) (fun h => ?_)
        · refine j_aload_n F 1 dX8_tongue_78 rfl rfl ?_
          refine j_aload_n F 1 dX8_tongue_79 rfl rfl ?_
          refine j_getR F clX8 (j := 22) (lt653 rfl hN) ly50 (Nat.le_of_ble_eq_true rfl) rfl qf_X8_118 rfl dX8_tongue_80 ?_
          refine j_callVv F mwX8_takeFrom ql_X8_123 clX8 (lt653 rfl hN) ly50 [.ref (cz x + kb)] rfl ⟨rfl, rfl, Nat.le_of_ble_eq_true rfl, Nat.le_of_ble_eq_true rfl⟩ ⟨Nat.le_refl _, Nat.le_refl _⟩ rfl (Nat.le_of_ble_eq_true rfl) dX8_tongue_83 (fun _ _ _ h9 => kX8_takeFrom l hN md50 hN hkb hnb h9) h (fun v3 t3 a3 e3 h => ?_)
          refine j_aload_n F 1 dX8_tongue_86 rfl rfl ?_
          refine j_iconst F dX8_tongue_87 cI_0 ?_
          refine j_putI F clX8 (j := 1) (tt := 3201) (lt653 rfl hN) ly50 (Nat.le_of_ble_eq_true rfl) rfl qf_X8_78 rfl rfl rfl dX8_tongue_88 ?_
          refine j_sipush F dX8_tongue_91 cS_m2000 ?_
          refine j_iload_n F 0 dX8_tongue_94 rfl rfl ?_
          refine j_isub F dX8_tongue_95 ?_
          exact j_ireturn F rfl dX8_tongue_96 h
        · exact j_lv [1, 2] rfl (ih.2 _ _ _ h)
    · intro x2 t a h
      have h : gX8_tongueT_97 nF kb ((gX8_tongueT nF kb n9).1) ((gX8_tongueT nF kb n9).2) x2 t a = some (rv, rt, ra) := h
      unfold gX8_tongueT_97 at h
      refine j_aload_n F 0 dX8_tongue_97 rfl rfl ?_
      refine j_getR F clX8 (j := 0) (lt653 rfl hN) ly50 (Nat.le_of_ble_eq_true rfl) rfl qf_X8_9 rfl dX8_tongue_98 ?_
      refine j_aload_n F 0 dX8_tongue_101 rfl rfl ?_
      refine j_getI F clX8 (j := 21) (tt := 3221) (lt653 rfl hN) ly50 (Nat.le_of_ble_eq_true rfl) rfl qf_X8_81 rfl dX8_tongue_102 ?_
      refine j_iald F (lt653 rfl hN) ly51 dX8_tongue_105 h (fun h => ?_)
      refine j_bipush F dX8_tongue_106 cB_59 ?_
      refine j_icmp_eq F 124 dX8_tongue_108 rfl h (fun h => ?_) (fun h => ?_)
      · refine j_aload_n F 0 dX8_tongue_124 rfl rfl ?_
        refine j_dup F dX8_tongue_125 rfl ?_
        refine j_getI F clX8 (j := 21) (tt := 3221) (lt653 rfl hN) ly50 (Nat.le_of_ble_eq_true rfl) rfl qf_X8_81 rfl dX8_tongue_126 ?_
        refine j_iconst F dX8_tongue_129 cI_1 ?_
        refine j_iadd F dX8_tongue_130 ?_
        refine j_putI F clX8 (j := 21) (tt := 3221) (lt653 rfl hN) ly50 (Nat.le_of_ble_eq_true rfl) rfl qf_X8_81 rfl rfl rfl dX8_tongue_131 ?_
        refine j_iinc F (v := x2 + (1 : Int32)) (lv' := [(2, .int (x2 + (1 : Int32))), (0, .ref (cz x + 50))]) dX8_tongue_134 1 rfl (congrArg (fun z => x2 + z) cI_1) (Nat.le_of_ble_eq_true rfl) rfl ?_
        refine j_goto F 55 dX8_tongue_137 rfl ?_
        exact j_lv [1, 0] rfl (ih.1 _ _ _ h)
      · refine j_aload_n F 0 dX8_tongue_111 rfl rfl ?_
        refine j_dup F dX8_tongue_112 rfl ?_
        refine j_getI F clX8 (j := 21) (tt := 3221) (lt653 rfl hN) ly50 (Nat.le_of_ble_eq_true rfl) rfl qf_X8_81 rfl dX8_tongue_113 ?_
        refine j_iconst F dX8_tongue_116 cI_1 ?_
        refine j_iadd F dX8_tongue_117 ?_
        refine j_putI F clX8 (j := 21) (tt := 3221) (lt653 rfl hN) ly50 (Nat.le_of_ble_eq_true rfl) rfl qf_X8_81 rfl rfl rfl dX8_tongue_118 ?_
        refine j_goto F 97 dX8_tongue_121 rfl ?_
        exact j_lv [0, 1] rfl (ih.2 _ _ _ h)
set_option maxRecDepth 100000 in
set_option maxHeartbeats 4000000 in
theorem jX8_tongueT {p : Program} {l : Launch} {e : Env} {s : State} {m : MethodId} {args : Array Value} {below : List Frame} {meth : Method} {c : Code} {x : Cx} {N : Nat} {u0 v0 : Option Nat} {nF : Nat} {kb : Nat} {t : sT} {a : sA} (F : Fx p s m meth c cX8_tongue 4 RX8 (some .int) x) (hN : 653 ≤ N) (hkb : isMd kb) (hnb : kb + 603 ≤ N) {rv : Int32} {rt : sT} {ra : sA} (h : fX8_tongueT nF kb t a = some (rv, rt, ra)) : J p l e { frames := 4, cells := 603, slots := 4286, locals := 84 } s m args below meth c x N (rho u0 (some kb)) 4 603 4286 (MQ below (PostI x N (rho u0 (some kb)) rt ra rv) args s 603 4286 (cA x)) 40 [(0, .ref (cz x + 50))] [] t a := by
  unfold fX8_tongueT at h
  refine j_aload_n F 0 dX8_tongue_40 rfl rfl ?_
  refine j_getR F clX8 (j := 22) (lt653 rfl hN) ly50 (Nat.le_of_ble_eq_true rfl) rfl qf_X8_118 rfl dX8_tongue_41 ?_
  refine j_aload_n F 0 dX8_tongue_44 rfl rfl ?_
  refine j_callVv F mwX8_takeFrom ql_X8_123 clX8 (md_lt0 hnb) (Md_l hkb) [.ref (cz x + 50)] rfl ⟨rfl, rfl, Nat.le_of_ble_eq_true rfl, Nat.le_of_ble_eq_true rfl⟩ ⟨Nat.le_refl _, Nat.le_refl _⟩ rfl (Nat.le_of_ble_eq_true rfl) dX8_tongue_45 (fun _ _ _ h9 => kX8_takeFrom l hN hkb hnb md50 hN h9) h (fun v1 t1 a1 e1 h => ?_)
  refine j_iconst F dX8_tongue_48 cI_0 ?_
  refine j_istore_n F (lv' := [(2, .int (0 : Int32)), (0, .ref (cz x + 50))]) dX8_tongue_49 rfl (Nat.le_of_ble_eq_true rfl) rfl ?_
  refine j_aload_n F 1 dX8_tongue_50 rfl rfl ?_
  refine j_iconst F dX8_tongue_51 cI_0 ?_
  refine j_putI F clX8 (j := 21) (tt := 3221) (lt653 rfl hN) ly50 (Nat.le_of_ble_eq_true rfl) rfl qf_X8_81 rfl rfl rfl dX8_tongue_52 ?_
  exact j_lv [1, 0] rfl ((hX8_tongueT (u0 := u0) (v0 := v0) F hN hkb hnb nF).1 _ _ _ h)
theorem rho_20 {v : Option Nat} {g : Nat} : va_up (rho none v) 50 (va_up (rho none v 50) 20 (some g)) = rho (some g) v := by
  funext k j
  unfold va_up
  by_cases hk : k = 50
  · subst hk
    rw [if_pos rfl]
    by_cases hj : j = 20
    · subst hj
      rfl
    · rw [if_neg hj]
      simp [rho, ly50, hj]
  · rw [if_neg hk]
    simp [rho, hk]
theorem rho_22 {u : Option Nat} {g : Nat} : va_up (rho u none) 50 (va_up (rho u none 50) 22 (some g)) = rho u (some g) := by
  funext k j
  unfold va_up
  by_cases hk : k = 50
  · subst hk
    rw [if_pos rfl]
    by_cases hj : j = 22
    · subst hj
      rfl
    · rw [if_neg hj]
      simp [rho, ly50, hj]
  · rw [if_neg hk]
    simp [rho, hk]
set_option maxRecDepth 100000 in
theorem kX8_imageS (l : Launch) {x : Cx} {N ku : Nat} {v0 : Option Nat} {nF : Nat} {t : sT} {a : sA} {rv : Int32} {rt : sT} {ra : sA} (hN : 653 ≤ N) (hku : isMd ku) (hnu : ku + 603 ≤ N) (h : fX8_imageT nF ku t a = some (rv, rt, ra)) : Met l yX8_image [.code yX8_image cX8_image 1 (some .int)] { frames := 2, cells := 603, slots := 4286, locals := 43 } (Pre x N (rho (some ku) v0) t a [.ref (cz x + 50)]) (PostI x N (rho (some ku) v0) rt ra rv) 603 4286 (cA x) := by
  refine j_entry (by decide) rfl (Nat.le_of_ble_eq_true rfl) ?_
  intro p e s m below meth c F hsz hnm
  have F : Fx p s m meth c cX8_image 1 RX8 (some .int) x := F
  show J p l e _ s m _ below meth c x N (rho (some ku) v0) 1 0 0 _ 0 [(0, .ref (cz x + 50))] [] t a
  refine j_wid (c2 := 603) (s2 := 4286) (Nat.zero_le _) (Nat.zero_le _) ?_
  refine j_aload_n F 0 dX8_image_0 rfl rfl ?_
  refine j_getR F clX8 (j := 20) (lt653 rfl hN) ly50 (Nat.le_of_ble_eq_true rfl) rfl qf_X8_247 rfl dX8_image_1 ?_
  refine j_nnR F 18 dX8_image_4 rfl ?_
  exact jX8_imageT (u0 := none) F hN hku hnu h
set_option maxRecDepth 100000 in
theorem kX8_imageN (l : Launch) {x : Cx} {N : Nat} {v0 : Option Nat} {nF : Nat} {t : sT} {a : sA} {rv : Int32} {rt : sT} {ra : sA} (hN : 653 ≤ N) (hmd : isMd N) (hzt : zT t N) (hza : zA a N) (h : fX8_imageT nF N t (va_up a (N + 7) ones8) = some (rv, rt, ra)) : Met l yX8_image [.code yX8_image cX8_image 1 (some .int)] { frames := 2, cells := 603, slots := 4286, locals := 43 } (Pre x N (rho none v0) t a [.ref (cz x + 50)]) (PostI x (N + 603) (rho (some N) v0) rt ra rv) 603 4286 (cA x) := by
  refine j_entry (by decide) rfl (Nat.le_of_ble_eq_true rfl) ?_
  intro p e s m below meth c F hsz hnm
  have F : Fx p s m meth c cX8_image 1 RX8 (some .int) x := F
  show J p l e _ s m _ below meth c x N (rho none v0) 1 0 0 _ 0 [(0, .ref (cz x + 50))] [] t a
  refine j_aload_n F 0 dX8_image_0 rfl rfl ?_
  refine j_getN F clX8 (j := 20) (lt653 rfl hN) ly50 (Nat.le_of_ble_eq_true rfl) rfl qf_X8_247 rfl dX8_image_1 ?_
  refine j_nnN F dX8_image_4 ?_
  refine j_aload_n F 0 dX8_image_7 rfl rfl ?_
  refine j_cr (r2 := rQ [(N, [])] none v0) (by rw [← rQ_nil]; exact wl_begin) ?_
  refine j_newO F clX8 (Md_l hmd) (hdf_of hzt dvX8) qk_X8_7 qt_X8 qi_X8 dX8_image_8 (Nat.le_of_ble_eq_true rfl) (Nat.le_of_ble_eq_true rfl) ?_
  refine j_dup F dX8_image_11 rfl ?_
  refine j_callIP F (k := N) mwX8_init ql_X8_122 [] rfl ⟨rfl, rfl, (Nat.le_of_ble_eq_true rfl), (Nat.le_of_ble_eq_true rfl)⟩ ⟨(Nat.le_of_ble_eq_true rfl), (Nat.le_of_ble_eq_true rfl)⟩ rfl (Nat.le_of_ble_eq_true rfl) dX8_image_12 (kX8_init l hmd (zA.le hza (by omega)) (fun h9 => by omega)) ?_
  rw [rQ_nil]
  refine j_putR F clX8 (j := 20) (k := 50) (g := N) (by omega) ly50 (Nat.le_of_ble_eq_true rfl) rfl qf_X8_247 (Or.inl rfl) ⟨rfl, rfl⟩ rho_20 dX8_image_15 ?_
  exact jX8_imageT (u0 := none) F (by omega) hmd (Nat.le_refl _) h
/-- what tongue answers, the state behind it, how many places there are then, and where 'before' is -/
abbrev R5 : Type := Option (Int32 × sT × sA × Nat × Option Nat)
def r5 (N : Nat) (v : Option Nat) (o : Rs) : R5 := o.map (fun q => (q.1, q.2.1, q.2.2, N, v))
theorem r5_some {N : Nat} {v : Option Nat} {o : Rs} {rv : Int32} {rt : sT} {ra : sA} {rN : Nat} {ro : Option Nat} (h : r5 N v o = some (rv, rt, ra, rN, ro)) : o = some (rv, rt, ra) ∧ rN = N ∧ ro = v := by
  cases o with
  | none => cases h
  | some q => cases h; exact ⟨rfl, rfl, rfl⟩
theorem som5 {A B C D E : Type} {a a2 : A} {b b2 : B} {c c2 : C} {d d2 : D} {e e2 : E} (h : some (a, b, c, d, e) = some (a2, b2, c2, d2, e2)) : a = a2 ∧ b = b2 ∧ c = c2 ∧ d = d2 ∧ e = e2 := by
  cases h
  exact ⟨rfl, rfl, rfl, rfl, rfl⟩
def fX8_tongue (nF N : Nat) (v0 : Option Nat) (t : sT) (a : sA) : R5 := cal (fX8_faultOfForm nF t a) (fun v1 t1 a1 => if v1 = (-9 : Int32) then (match v0 with
  | none => r5 (N + 603) (some N) (fX8_tongueT nF N t1 (va_up a1 (N + 7) ones8))
  | some kb => r5 N (some kb) (fX8_tongueT nF kb t1 a1)) else some ((-1000 : Int32) - v1, va_up t1 3201 0, a1, N, v0))
set_option maxRecDepth 100000 in
theorem kX8_tongueS (l : Launch) {x : Cx} {N kb : Nat} {u0 : Option Nat} {nF : Nat} {t : sT} {a : sA} {rv : Int32} {rt : sT} {ra : sA} {rN : Nat} {ro : Option Nat} (hN : 653 ≤ N) (hkb : isMd kb) (hnb : kb + 603 ≤ N) (h : fX8_tongue nF N (some kb) t a = some (rv, rt, ra, rN, ro)) : Met l yX8_tongue [.code yX8_tongue cX8_tongue 4 (some .int)] { frames := 4, cells := 603, slots := 4286, locals := 84 } (Pre x N (rho u0 (some kb)) t a [.ref (cz x + 50)]) (PostI x rN (rho u0 ro) rt ra rv) 603 4286 (cA x) := by
  refine j_entry (by decide) rfl (Nat.le_of_ble_eq_true rfl) ?_
  intro p e s m below meth c F hsz hnm
  have F : Fx p s m meth c cX8_tongue 4 RX8 (some .int) x := F
  show J p l e _ s m _ below meth c x N _ 4 0 0 _ 0 [(0, .ref (cz x + 50))] [] t a
  unfold fX8_tongue at h
  refine j_aload_n F 0 dX8_tongue_0 rfl rfl ?_
  refine j_callVi F mwX8_faultOfForm ql_X8_114 clX8 (lt653 rfl hN) ly50 [] rfl ⟨rfl, rfl, (Nat.le_of_ble_eq_true rfl), (Nat.le_of_ble_eq_true rfl)⟩ ⟨Nat.zero_le _, Nat.zero_le _⟩ rfl (Nat.le_of_ble_eq_true rfl) dX8_tongue_1 (fun _ _ _ h9 => kX8_faultOfForm l hN h9) h (fun v1 t1 a1 e1 h => ?_)
  refine j_istore_n F (lv' := [(1, .int v1), (0, .ref (cz x + 50))]) dX8_tongue_4 rfl (Nat.le_of_ble_eq_true rfl) rfl ?_
  refine j_iload_n F 0 dX8_tongue_5 rfl rfl ?_
  refine j_bipush F dX8_tongue_6 cB_m9 ?_
  refine j_icmp_eq F 22 dX8_tongue_8 rfl h (fun h => ?_) (fun h => ?_)
  · obtain ⟨h8, e8, e9⟩ := r5_some h
    subst e8
    subst e9
    refine j_wid (c2 := 603) (s2 := 4286) (Nat.zero_le _) (Nat.zero_le _) ?_
    refine j_aload_n F 1 dX8_tongue_22 rfl rfl ?_
    refine j_getR F clX8 (j := 22) (lt653 rfl hN) ly50 (Nat.le_of_ble_eq_true rfl) rfl qf_X8_118 rfl dX8_tongue_23 ?_
    refine j_nnR F 40 dX8_tongue_26 rfl ?_
    exact j_lv [1] rfl (jX8_tongueT (v0 := none) F hN hkb hnb h8)
  · obtain ⟨q1, q2, q3, q4, q5⟩ := som5 h
    subst q1
    subst q2
    subst q3
    subst q4
    subst q5
    refine j_aload_n F 1 dX8_tongue_11 rfl rfl ?_
    refine j_iconst F dX8_tongue_12 cI_0 ?_
    refine j_putI F clX8 (j := 1) (tt := 3201) (lt653 rfl hN) ly50 (Nat.le_of_ble_eq_true rfl) rfl qf_X8_78 rfl rfl rfl dX8_tongue_13 ?_
    refine j_sipush F dX8_tongue_16 cS_m1000 ?_
    refine j_iload_n F 0 dX8_tongue_19 rfl rfl ?_
    refine j_isub F dX8_tongue_20 ?_
    refine j_wid (c2 := 603) (s2 := 4286) (Nat.zero_le _) (Nat.zero_le _) ?_
    exact j_ireturn F rfl dX8_tongue_21 rfl
set_option maxRecDepth 100000 in
theorem kX8_tongueN (l : Launch) {x : Cx} {N : Nat} {u0 : Option Nat} {nF : Nat} {t : sT} {a : sA} {rv : Int32} {rt : sT} {ra : sA} {rN : Nat} {ro : Option Nat} (hN : 653 ≤ N) (hmd : isMd N) (hz : ∀ v1 t1 a1, fX8_faultOfForm nF t a = some (v1, t1, a1) → zT t1 N ∧ zA a1 N) (h : fX8_tongue nF N none t a = some (rv, rt, ra, rN, ro)) : Met l yX8_tongue [.code yX8_tongue cX8_tongue 4 (some .int)] { frames := 4, cells := 603, slots := 4286, locals := 84 } (Pre x N (rho u0 none) t a [.ref (cz x + 50)]) (PostI x rN (rho u0 ro) rt ra rv) 603 4286 (cA x) := by
  refine j_entry (by decide) rfl (Nat.le_of_ble_eq_true rfl) ?_
  intro p e s m below meth c F hsz hnm
  have F : Fx p s m meth c cX8_tongue 4 RX8 (some .int) x := F
  show J p l e _ s m _ below meth c x N _ 4 0 0 _ 0 [(0, .ref (cz x + 50))] [] t a
  unfold fX8_tongue at h
  refine j_aload_n F 0 dX8_tongue_0 rfl rfl ?_
  refine j_callVi F mwX8_faultOfForm ql_X8_114 clX8 (lt653 rfl hN) ly50 [] rfl ⟨rfl, rfl, (Nat.le_of_ble_eq_true rfl), (Nat.le_of_ble_eq_true rfl)⟩ ⟨Nat.zero_le _, Nat.zero_le _⟩ rfl (Nat.le_of_ble_eq_true rfl) dX8_tongue_1 (fun _ _ _ h9 => kX8_faultOfForm l hN h9) h (fun v1 t1 a1 e1 h => ?_)
  refine j_istore_n F (lv' := [(1, .int v1), (0, .ref (cz x + 50))]) dX8_tongue_4 rfl (Nat.le_of_ble_eq_true rfl) rfl ?_
  refine j_iload_n F 0 dX8_tongue_5 rfl rfl ?_
  refine j_bipush F dX8_tongue_6 cB_m9 ?_
  refine j_icmp_eq F 22 dX8_tongue_8 rfl h (fun h => ?_) (fun h => ?_)
  · obtain ⟨h8, e8, e9⟩ := r5_some h
    subst e8
    subst e9
    obtain ⟨hzt, hza⟩ := hz _ _ _ e1
    refine j_aload_n F 1 dX8_tongue_22 rfl rfl ?_
    refine j_getN F clX8 (j := 22) (lt653 rfl hN) ly50 (Nat.le_of_ble_eq_true rfl) rfl qf_X8_118 rfl dX8_tongue_23 ?_
    refine j_nnN F dX8_tongue_26 ?_
    refine j_aload_n F 1 dX8_tongue_29 rfl rfl ?_
    refine j_cr (r2 := rQ [(N, [])] u0 none) (by rw [← rQ_nil]; exact wl_begin) ?_
    refine j_newO F clX8 (Md_l hmd) (hdf_of hzt dvX8) qk_X8_7 qt_X8 qi_X8 dX8_tongue_30 (Nat.le_of_ble_eq_true rfl) (Nat.le_of_ble_eq_true rfl) ?_
    refine j_dup F dX8_tongue_33 rfl ?_
    refine j_callIP F (k := N) mwX8_init ql_X8_122 [] rfl ⟨rfl, rfl, (Nat.le_of_ble_eq_true rfl), (Nat.le_of_ble_eq_true rfl)⟩ ⟨(Nat.le_of_ble_eq_true rfl), (Nat.le_of_ble_eq_true rfl)⟩ rfl (Nat.le_of_ble_eq_true rfl) dX8_tongue_34 (kX8_init l hmd (zA.le hza (by omega)) (fun h9 => by omega)) ?_
    rw [rQ_nil]
    refine j_putR F clX8 (j := 22) (k := 50) (g := N) (by omega) ly50 (Nat.le_of_ble_eq_true rfl) rfl qf_X8_118 (Or.inl rfl) ⟨rfl, rfl⟩ rho_22 dX8_tongue_37 ?_
    exact j_lv [1] rfl (jX8_tongueT (v0 := none) F (by omega) hmd (Nat.le_refl _) h8)
  · obtain ⟨q1, q2, q3, q4, q5⟩ := som5 h
    subst q1
    subst q2
    subst q3
    subst q4
    subst q5
    refine j_aload_n F 1 dX8_tongue_11 rfl rfl ?_
    refine j_iconst F dX8_tongue_12 cI_0 ?_
    refine j_putI F clX8 (j := 1) (tt := 3201) (lt653 rfl hN) ly50 (Nat.le_of_ble_eq_true rfl) rfl qf_X8_78 rfl rfl rfl dX8_tongue_13 ?_
    refine j_sipush F dX8_tongue_16 cS_m1000 ?_
    refine j_iload_n F 0 dX8_tongue_19 rfl rfl ?_
    refine j_isub F dX8_tongue_20 ?_
    refine j_wid (c2 := 603) (s2 := 4286) (Nat.zero_le _) (Nat.zero_le _) ?_
    exact j_ireturn F rfl dX8_tongue_21 rfl
