/-! 15.m6.lean.txt: functions and contracts, by program (wip/whole/gen.py) -/
def fX8_isAnswer (nF : Nat) (x1 : Int32) (t : sT) (a : sA) : Rs := bnd x1 585 (bnd x1 585 (cal (fX8_mayFollow nF (t 3231) (a 62 x1.toNatClampNeg) (a 650 x1.toNatClampNeg) (t 3228) (t 3229) t a) (fun v1 t1 a1 => if v1 = 0 then (zok (0 : Int32) (some ((0 : Int32), t1, a1))) else (bnd x1 585 (cal (fX8_doesSettle nF (t1 3230) (a1 649 x1.toNatClampNeg) t1 a1) (fun v2 t2 a2 => if v2 = 0 then (zok (0 : Int32) (some ((0 : Int32), t2, a2))) else (zok (1 : Int32) (some ((1 : Int32), t2, a2)))))))))
set_option maxRecDepth 100000 in
set_option maxHeartbeats 4000000 in
theorem kX8_isAnswer (l : Launch) {x : Cx} {N : Nat} {u0 v0 : Option Nat} {nF : Nat} {x1 : Int32} {t : sT} {a : sA} {rv : Int32} {rt : sT} {ra : sA} (hN : 653 ≤ N) (h : fX8_isAnswer nF x1 t a = some (rv, rt, ra)) : Met l yX8_isAnswer [.code yX8_isAnswer cX8_isAnswer 2 (some .boolean)] (k2_rm 1 24) (Pre x N (rho u0 v0) t a [.ref (cz x + 50), .int x1]) (PostI x N (rho u0 v0) rt ra rv) 0 0 (cA x) := by
  refine j_entry (by decide) rfl (Nat.le_of_ble_eq_true rfl) ?_
  intro p e s m below meth c F hsz hnm
  have F : Fx p s m meth c cX8_isAnswer 2 RX8 (some .boolean) x := F
  unfold fX8_isAnswer at h
  show J p l e _ s m _ below meth c x N (rho u0 v0) 2 0 0 _ 0 [(0, .ref (cz x + 50)), (1, .int x1)] [] t a
  refine j_aload_n F 0 dX8_isAnswer_0 rfl rfl ?_
  refine j_getI F clX8 (j := 31) (tt := 3231) (lt653 rfl hN) ly50 (Nat.le_of_ble_eq_true rfl) rfl qf_X8_175 rfl dX8_isAnswer_1 ?_
  refine j_aload_n F 0 dX8_isAnswer_4 rfl rfl ?_
  refine j_getR F clX8 (j := 23) (lt653 rfl hN) ly50 (Nat.le_of_ble_eq_true rfl) rfl qf_X8_43 rfl dX8_isAnswer_5 ?_
  refine j_iload_n F 1 dX8_isAnswer_8 rfl rfl ?_
  refine j_iald F (lt653 rfl hN) ly62 dX8_isAnswer_9 h (fun h => ?_)
  refine j_aload_n F 0 dX8_isAnswer_10 rfl rfl ?_
  refine j_getR F clX8 (j := 26) (lt653 rfl hN) ly50 (Nat.le_of_ble_eq_true rfl) rfl qf_X8_54 rfl dX8_isAnswer_11 ?_
  refine j_iload_n F 1 dX8_isAnswer_14 rfl rfl ?_
  refine j_iald F (lt653 rfl hN) ly650 dX8_isAnswer_15 h (fun h => ?_)
  refine j_aload_n F 0 dX8_isAnswer_16 rfl rfl ?_
  refine j_getI F clX8 (j := 28) (tt := 3228) (lt653 rfl hN) ly50 (Nat.le_of_ble_eq_true rfl) rfl qf_X8_166 rfl dX8_isAnswer_17 ?_
  refine j_aload_n F 0 dX8_isAnswer_20 rfl rfl ?_
  refine j_getI F clX8 (j := 29) (tt := 3229) (lt653 rfl hN) ly50 (Nat.le_of_ble_eq_true rfl) rfl qf_X8_169 rfl dX8_isAnswer_21 ?_
  refine j_callSi F mwX8_mayFollow ql_X8_149 [.int (t 3231), .int (a 62 x1.toNatClampNeg), .int (a 650 x1.toNatClampNeg), .int (t 3228), .int (t 3229)] rfl ⟨rfl, rfl, Nat.le_of_ble_eq_true rfl, Nat.le_of_ble_eq_true rfl⟩ ⟨Nat.le_refl 0, Nat.le_refl 0⟩ rfl (Nat.le_of_ble_eq_true rfl) dX8_isAnswer_24 (fun _ _ _ h9 => kX8_mayFollow l hN  h9) h (fun v1 t1 a1 e1 h => ?_)
  refine j_if_eq F 50 dX8_isAnswer_27 rfl h (fun h => ?_) (fun h => ?_)
  · refine j_iconst F dX8_isAnswer_50 cI_0 ?_
    exact j_zreturn F rfl dX8_isAnswer_51 h
  · refine j_aload_n F 0 dX8_isAnswer_30 rfl rfl ?_
    refine j_getI F clX8 (j := 30) (tt := 3230) (lt653 rfl hN) ly50 (Nat.le_of_ble_eq_true rfl) rfl qf_X8_172 rfl dX8_isAnswer_31 ?_
    refine j_aload_n F 0 dX8_isAnswer_34 rfl rfl ?_
    refine j_getR F clX8 (j := 25) (lt653 rfl hN) ly50 (Nat.le_of_ble_eq_true rfl) rfl qf_X8_51 rfl dX8_isAnswer_35 ?_
    refine j_iload_n F 1 dX8_isAnswer_38 rfl rfl ?_
    refine j_iald F (lt653 rfl hN) ly649 dX8_isAnswer_39 h (fun h => ?_)
    refine j_callSi F mwX8_doesSettle ql_X8_156 [.int (t1 3230), .int (a1 649 x1.toNatClampNeg)] rfl ⟨rfl, rfl, Nat.le_of_ble_eq_true rfl, Nat.le_of_ble_eq_true rfl⟩ ⟨Nat.le_refl 0, Nat.le_refl 0⟩ rfl (Nat.le_of_ble_eq_true rfl) dX8_isAnswer_40 (fun _ _ _ h9 => kX8_doesSettle l hN  h9) h (fun v2 t2 a2 e2 h => ?_)
    refine j_if_eq F 50 dX8_isAnswer_43 rfl h (fun h => ?_) (fun h => ?_)
    · refine j_iconst F dX8_isAnswer_50 cI_0 ?_
      exact j_zreturn F rfl dX8_isAnswer_51 h
    · refine j_iconst F dX8_isAnswer_46 cI_1 ?_
      refine j_goto F 51 dX8_isAnswer_47 rfl ?_
      exact j_zreturn F rfl dX8_isAnswer_51 h
def fX8_isBetter (nF : Nat) (x1 : Int32) (x2 : Int32) (x3 : Int32) (t : sT) (a : sA) : Rs := bnd x2 585 (cal (fX8_weightOf nF (a 649 x2.toNatClampNeg) t a) (fun v1 t1 a1 => bnd x3 585 (cal (fX8_weightOf nF (a1 649 x3.toNatClampNeg) t1 a1) (fun v2 t2 a2 => if x1 = (98 : Int32) then (bnd x2 585 (bnd x3 585 (if (a2 62 x2.toNatClampNeg) < (a2 62 x3.toNatClampNeg) then (zok (1 : Int32) (some ((1 : Int32), t2, a2))) else (bnd x2 585 (bnd x3 585 (if (a2 62 x2.toNatClampNeg) = (a2 62 x3.toNatClampNeg) then (if (v1 - v2) ≤ 0 then (zok (0 : Int32) (some ((0 : Int32), t2, a2))) else (zok (1 : Int32) (some ((1 : Int32), t2, a2)))) else (zok (0 : Int32) (some ((0 : Int32), t2, a2))))))))) else (if x1 = (103 : Int32) then (bnd x2 585 (bnd x3 585 (if (a2 62 x3.toNatClampNeg) < (a2 62 x2.toNatClampNeg) then (zok (1 : Int32) (some ((1 : Int32), t2, a2))) else (bnd x2 585 (bnd x3 585 (if (a2 62 x2.toNatClampNeg) = (a2 62 x3.toNatClampNeg) then (if 0 ≤ (v1 - v2) then (zok (0 : Int32) (some ((0 : Int32), t2, a2))) else (zok (1 : Int32) (some ((1 : Int32), t2, a2)))) else (zok (0 : Int32) (some ((0 : Int32), t2, a2))))))))) else (if x1 = (104 : Int32) then (if (v1 - v2) ≤ 0 then (zok (0 : Int32) (some ((0 : Int32), t2, a2))) else (zok (1 : Int32) (some ((1 : Int32), t2, a2)))) else (if x1 = (111 : Int32) then (if 0 ≤ (v1 - v2) then (zok (0 : Int32) (some ((0 : Int32), t2, a2))) else (zok (1 : Int32) (some ((1 : Int32), t2, a2)))) else (zok (0 : Int32) (some ((0 : Int32), t2, a2))))))))))
set_option maxRecDepth 100000 in
set_option maxHeartbeats 4000000 in
theorem kX8_isBetter (l : Launch) {x : Cx} {N : Nat} {u0 v0 : Option Nat} {nF : Nat} {x1 : Int32} {x2 : Int32} {x3 : Int32} {t : sT} {a : sA} {rv : Int32} {rt : sT} {ra : sA} (hN : 653 ≤ N) (h : fX8_isBetter nF x1 x2 x3 t a = some (rv, rt, ra)) : Met l yX8_isBetter [.code yX8_isBetter cX8_isBetter 5 (some .boolean)] (k2_rm 1 23) (Pre x N (rho u0 v0) t a [.ref (cz x + 50), .int x1, .int x2, .int x3]) (PostI x N (rho u0 v0) rt ra rv) 0 0 (cA x) := by
  refine j_entry (by decide) rfl (Nat.le_of_ble_eq_true rfl) ?_
  intro p e s m below meth c F hsz hnm
  have F : Fx p s m meth c cX8_isBetter 5 RX8 (some .boolean) x := F
  unfold fX8_isBetter at h
  show J p l e _ s m _ below meth c x N (rho u0 v0) 5 0 0 _ 0 [(0, .ref (cz x + 50)), (1, .int x1), (2, .int x2), (3, .int x3)] [] t a
  refine j_aload_n F 0 dX8_isBetter_0 rfl rfl ?_
  refine j_aload_n F 0 dX8_isBetter_1 rfl rfl ?_
  refine j_getR F clX8 (j := 25) (lt653 rfl hN) ly50 (Nat.le_of_ble_eq_true rfl) rfl qf_X8_51 rfl dX8_isBetter_2 ?_
  refine j_iload_n F 2 dX8_isBetter_5 rfl rfl ?_
  refine j_iald F (lt653 rfl hN) ly649 dX8_isBetter_6 h (fun h => ?_)
  refine j_callVi F mwX8_weightOf ql_X8_181 clX8 (lt653 rfl hN) ly50 [.int (a 649 x2.toNatClampNeg)] rfl ⟨rfl, rfl, Nat.le_of_ble_eq_true rfl, Nat.le_of_ble_eq_true rfl⟩ ⟨Nat.le_refl 0, Nat.le_refl 0⟩ rfl (Nat.le_of_ble_eq_true rfl) dX8_isBetter_7 (fun _ _ _ h9 => kX8_weightOf l hN  h9) h (fun v1 t1 a1 e1 h => ?_)
  refine j_aload_n F 0 dX8_isBetter_10 rfl rfl ?_
  refine j_aload_n F 0 dX8_isBetter_11 rfl rfl ?_
  refine j_getR F clX8 (j := 25) (lt653 rfl hN) ly50 (Nat.le_of_ble_eq_true rfl) rfl qf_X8_51 rfl dX8_isBetter_12 ?_
  refine j_iload_n F 3 dX8_isBetter_15 rfl rfl ?_
  refine j_iald F (lt653 rfl hN) ly649 dX8_isBetter_16 h (fun h => ?_)
  refine j_callVi F mwX8_weightOf ql_X8_181 clX8 (lt653 rfl hN) ly50 [.int (a1 649 x3.toNatClampNeg)] rfl ⟨rfl, rfl, Nat.le_of_ble_eq_true rfl, Nat.le_of_ble_eq_true rfl⟩ ⟨Nat.le_refl 0, Nat.le_refl 0⟩ rfl (Nat.le_of_ble_eq_true rfl) dX8_isBetter_17 (fun _ _ _ h9 => kX8_weightOf l hN  h9) h (fun v2 t2 a2 e2 h => ?_)
  refine j_isub F dX8_isBetter_20 ?_
  refine j_istore F (k := 0) (lv' := [(4, .int (v1 - v2)), (0, .ref (cz x + 50)), (1, .int x1), (2, .int x2), (3, .int x3)]) dX8_isBetter_21 (Nat.le_of_ble_eq_true rfl) rfl ?_
  refine j_iload_n F 2 dX8_isBetter_23 rfl rfl ?_
  refine ifE h (fun e3_0 h => ?_) (fun e3_0 h => ?_)
  · refine j_lsw F 90 (off := 66) dX8_isBetter_24 rfl (by rw [e3_0]; rfl) rfl ?_
    refine j_aload_n F 1 dX8_isBetter_90 rfl rfl ?_
    refine j_getR F clX8 (j := 23) (lt653 rfl hN) ly50 (Nat.le_of_ble_eq_true rfl) rfl qf_X8_43 rfl dX8_isBetter_91 ?_
    refine j_iload_n F 3 dX8_isBetter_94 rfl rfl ?_
    refine j_iald F (lt653 rfl hN) ly62 dX8_isBetter_95 h (fun h => ?_)
    refine j_aload_n F 1 dX8_isBetter_96 rfl rfl ?_
    refine j_getR F clX8 (j := 23) (lt653 rfl hN) ly50 (Nat.le_of_ble_eq_true rfl) rfl qf_X8_43 rfl dX8_isBetter_97 ?_
    refine j_iload_n F 4 dX8_isBetter_100 rfl rfl ?_
    refine j_iald F (lt653 rfl hN) ly62 dX8_isBetter_101 h (fun h => ?_)
    refine j_icmp_lt F 125 dX8_isBetter_102 rfl h (fun h => ?_) (fun h => ?_)
    · refine j_iconst F dX8_isBetter_125 cI_1 ?_
      refine j_goto F 130 dX8_isBetter_126 rfl ?_
      exact j_zreturn F rfl dX8_isBetter_130 h
    · refine j_aload_n F 1 dX8_isBetter_105 rfl rfl ?_
      refine j_getR F clX8 (j := 23) (lt653 rfl hN) ly50 (Nat.le_of_ble_eq_true rfl) rfl qf_X8_43 rfl dX8_isBetter_106 ?_
      refine j_iload_n F 3 dX8_isBetter_109 rfl rfl ?_
      refine j_iald F (lt653 rfl hN) ly62 dX8_isBetter_110 h (fun h => ?_)
      refine j_aload_n F 1 dX8_isBetter_111 rfl rfl ?_
      refine j_getR F clX8 (j := 23) (lt653 rfl hN) ly50 (Nat.le_of_ble_eq_true rfl) rfl qf_X8_43 rfl dX8_isBetter_112 ?_
      refine j_iload_n F 4 dX8_isBetter_115 rfl rfl ?_
      refine j_iald F (lt653 rfl hN) ly62 dX8_isBetter_116 h (fun h => ?_)
      refine j_icmp_ne F 129 dX8_isBetter_117 rfl h (fun h => ?_) (fun h => ?_)
      · refine j_iload F 0 dX8_isBetter_120 rfl ?_
        refine j_if_le F 129 dX8_isBetter_122 rfl h (fun h => ?_) (fun h => ?_)
        · refine j_iconst F dX8_isBetter_129 cI_0 ?_
          exact j_zreturn F rfl dX8_isBetter_130 h
        · refine j_iconst F dX8_isBetter_125 cI_1 ?_
          refine j_goto F 130 dX8_isBetter_126 rfl ?_
          exact j_zreturn F rfl dX8_isBetter_130 h
      · refine j_iconst F dX8_isBetter_129 cI_0 ?_
        exact j_zreturn F rfl dX8_isBetter_130 h
  · refine ifE h (fun e3_1 h => ?_) (fun e3_1 h => ?_)
    · refine j_lsw F 131 (off := 107) dX8_isBetter_24 rfl (by rw [e3_1]; rfl) rfl ?_
      refine j_aload_n F 1 dX8_isBetter_131 rfl rfl ?_
      refine j_getR F clX8 (j := 23) (lt653 rfl hN) ly50 (Nat.le_of_ble_eq_true rfl) rfl qf_X8_43 rfl dX8_isBetter_132 ?_
      refine j_iload_n F 3 dX8_isBetter_135 rfl rfl ?_
      refine j_iald F (lt653 rfl hN) ly62 dX8_isBetter_136 h (fun h => ?_)
      refine j_aload_n F 1 dX8_isBetter_137 rfl rfl ?_
      refine j_getR F clX8 (j := 23) (lt653 rfl hN) ly50 (Nat.le_of_ble_eq_true rfl) rfl qf_X8_43 rfl dX8_isBetter_138 ?_
      refine j_iload_n F 4 dX8_isBetter_141 rfl rfl ?_
      refine j_iald F (lt653 rfl hN) ly62 dX8_isBetter_142 h (fun h => ?_)
      refine j_icmp_gt F 166 dX8_isBetter_143 rfl h (fun h => ?_) (fun h => ?_)
      · refine j_iconst F dX8_isBetter_166 cI_1 ?_
        refine j_goto F 171 dX8_isBetter_167 rfl ?_
        exact j_zreturn F rfl dX8_isBetter_171 h
      · refine j_aload_n F 1 dX8_isBetter_146 rfl rfl ?_
        refine j_getR F clX8 (j := 23) (lt653 rfl hN) ly50 (Nat.le_of_ble_eq_true rfl) rfl qf_X8_43 rfl dX8_isBetter_147 ?_
        refine j_iload_n F 3 dX8_isBetter_150 rfl rfl ?_
        refine j_iald F (lt653 rfl hN) ly62 dX8_isBetter_151 h (fun h => ?_)
        refine j_aload_n F 1 dX8_isBetter_152 rfl rfl ?_
        refine j_getR F clX8 (j := 23) (lt653 rfl hN) ly50 (Nat.le_of_ble_eq_true rfl) rfl qf_X8_43 rfl dX8_isBetter_153 ?_
        refine j_iload_n F 4 dX8_isBetter_156 rfl rfl ?_
        refine j_iald F (lt653 rfl hN) ly62 dX8_isBetter_157 h (fun h => ?_)
        refine j_icmp_ne F 170 dX8_isBetter_158 rfl h (fun h => ?_) (fun h => ?_)
        · refine j_iload F 0 dX8_isBetter_161 rfl ?_
          refine j_if_ge F 170 dX8_isBetter_163 rfl h (fun h => ?_) (fun h => ?_)
          · refine j_iconst F dX8_isBetter_170 cI_0 ?_
            exact j_zreturn F rfl dX8_isBetter_171 h
          · refine j_iconst F dX8_isBetter_166 cI_1 ?_
            refine j_goto F 171 dX8_isBetter_167 rfl ?_
            exact j_zreturn F rfl dX8_isBetter_171 h
        · refine j_iconst F dX8_isBetter_170 cI_0 ?_
          exact j_zreturn F rfl dX8_isBetter_171 h
    · refine ifE h (fun e3_2 h => ?_) (fun e3_2 h => ?_)
      · refine j_lsw F 68 (off := 44) dX8_isBetter_24 rfl (by rw [e3_2]; rfl) rfl ?_
        refine j_iload F 0 dX8_isBetter_68 rfl ?_
        refine j_if_le F 77 dX8_isBetter_70 rfl h (fun h => ?_) (fun h => ?_)
        · refine j_iconst F dX8_isBetter_77 cI_0 ?_
          exact j_zreturn F rfl dX8_isBetter_78 h
        · refine j_iconst F dX8_isBetter_73 cI_1 ?_
          refine j_goto F 78 dX8_isBetter_74 rfl ?_
          exact j_zreturn F rfl dX8_isBetter_78 h
      · refine ifE h (fun e3_3 h => ?_) (fun e3_3 h => ?_)
        · refine j_lsw F 79 (off := 55) dX8_isBetter_24 rfl (by rw [e3_3]; rfl) rfl ?_
          refine j_iload F 0 dX8_isBetter_79 rfl ?_
          refine j_if_ge F 88 dX8_isBetter_81 rfl h (fun h => ?_) (fun h => ?_)
          · refine j_iconst F dX8_isBetter_88 cI_0 ?_
            exact j_zreturn F rfl dX8_isBetter_89 h
          · refine j_iconst F dX8_isBetter_84 cI_1 ?_
            refine j_goto F 89 dX8_isBetter_85 rfl ?_
            exact j_zreturn F rfl dX8_isBetter_89 h
        · refine j_lsw F 172 (off := 148) dX8_isBetter_24 rfl ((lv_osw e3_0 rfl).trans ((lv_osw e3_1 rfl).trans ((lv_osw e3_2 rfl).trans ((lv_osw e3_3 rfl).trans rfl)))) rfl ?_
          refine j_iconst F dX8_isBetter_172 cI_0 ?_
          exact j_zreturn F rfl dX8_isBetter_173 h
def fX8_last (nF : Nat) (x1 : Int32) (t : sT) (a : sA) : Rs := if (1 : Int32) ≤ x1 then (if x1 ≤ (6 : Int32) then (if (t 3213) = (0 : Int32) then (if x1 = (1 : Int32) then (some ((1 : Int32), t, a)) else (some ((0 : Int32), t, a))) else (if (t 3213) = (2 : Int32) then (if x1 = (1 : Int32) then (some ((1 : Int32), t, a)) else (some ((0 : Int32), t, a))) else (if (t 3213) = (3 : Int32) then (dvz (2 : Int32) (some (((7 : Int32) - x1) - ((7 : Int32) - x1) / (2 : Int32) * (2 : Int32), t, a))) else (some ((-9 : Int32), t, a))))) else (cal (fX8_refuse nF (-6 : Int32) t a) (fun v2 t2 a2 => some (v2, t2, a2)))) else (cal (fX8_refuse nF (-4 : Int32) t a) (fun v3 t3 a3 => some (v3, t3, a3)))
set_option maxRecDepth 100000 in
set_option maxHeartbeats 4000000 in
theorem kX8_last (l : Launch) {x : Cx} {N : Nat} {u0 v0 : Option Nat} {nF : Nat} {x1 : Int32} {t : sT} {a : sA} {rv : Int32} {rt : sT} {ra : sA} (hN : 653 ≤ N) (h : fX8_last nF x1 t a = some (rv, rt, ra)) : Met l yX8_last [.code yX8_last cX8_last 2 (some .int)] (k2_rm 1 21) (Pre x N (rho u0 v0) t a [.ref (cz x + 50), .int x1]) (PostI x N (rho u0 v0) rt ra rv) 0 0 (cA x) := by
  refine j_entry (by decide) rfl (Nat.le_of_ble_eq_true rfl) ?_
  intro p e s m below meth c F hsz hnm
  have F : Fx p s m meth c cX8_last 2 RX8 (some .int) x := F
  unfold fX8_last at h
  show J p l e _ s m _ below meth c x N (rho u0 v0) 2 0 0 _ 0 [(0, .ref (cz x + 50)), (1, .int x1)] [] t a
  refine j_iload_n F 1 dX8_last_0 rfl rfl ?_
  refine j_iconst F dX8_last_1 cI_1 ?_
  refine j_icmp_ge F 12 dX8_last_2 rfl h (fun h => ?_) (fun h => ?_)
  · refine j_iload_n F 1 dX8_last_12 rfl rfl ?_
    refine j_bipush F dX8_last_13 cB_6 ?_
    refine j_icmp_le F 25 dX8_last_15 rfl h (fun h => ?_) (fun h => ?_)
    · refine j_aload_n F 0 dX8_last_25 rfl rfl ?_
      refine j_getI F clX8 (j := 13) (tt := 3213) (lt653 rfl hN) ly50 (Nat.le_of_ble_eq_true rfl) rfl qf_X8_111 rfl dX8_last_26 ?_
      refine ifE h (fun e1_0 h => ?_) (fun e1_0 h => ?_)
      · refine j_tsI F 60 dX8_last_29 e1_0 (by decide) (by decide) rfl rfl ?_
        refine j_iload_n F 1 dX8_last_60 rfl rfl ?_
        refine j_iconst F dX8_last_61 cI_1 ?_
        refine j_icmp_ne F 69 dX8_last_62 rfl h (fun h => ?_) (fun h => ?_)
        · refine j_iconst F dX8_last_65 cI_1 ?_
          refine j_goto F 70 dX8_last_66 rfl ?_
          exact j_ireturn F rfl dX8_last_70 h
        · refine j_iconst F dX8_last_69 cI_0 ?_
          exact j_ireturn F rfl dX8_last_70 h
      · refine ifE h (fun e1_1 h => ?_) (fun e1_1 h => ?_)
        · refine j_tsI F 60 dX8_last_29 e1_1 (by decide) (by decide) rfl rfl ?_
          refine j_iload_n F 1 dX8_last_60 rfl rfl ?_
          refine j_iconst F dX8_last_61 cI_1 ?_
          refine j_icmp_ne F 69 dX8_last_62 rfl h (fun h => ?_) (fun h => ?_)
          · refine j_iconst F dX8_last_65 cI_1 ?_
            refine j_goto F 70 dX8_last_66 rfl ?_
            exact j_ireturn F rfl dX8_last_70 h
          · refine j_iconst F dX8_last_69 cI_0 ?_
            exact j_ireturn F rfl dX8_last_70 h
        · refine ifE h (fun e1_2 h => ?_) (fun e1_2 h => ?_)
          · refine j_tsI F 71 dX8_last_29 e1_2 (by decide) (by decide) rfl rfl ?_
            refine j_bipush F dX8_last_71 cB_7 ?_
            refine j_iload_n F 1 dX8_last_73 rfl rfl ?_
            refine j_isub F dX8_last_74 ?_
            refine j_iconst F dX8_last_75 cI_2 ?_
            refine j_irem F dX8_last_76 h (fun h => ?_)
            exact j_ireturn F rfl dX8_last_77 h
          · refine j_tsD F 78 dX8_last_29 rfl (fun i hi => ?_) rfl ?_
            · have hi : i < 4 := hi
              have hi : i = 0 ∨ i = 1 ∨ i = 2 ∨ i = 3 := by omega
              rcases hi with rfl | rfl | rfl | rfl
              · exact Or.inr (by have h9 := lv_neT (a := 0) e1_0 rfl; omega)
              · exact Or.inl rfl
              · exact Or.inr (by have h9 := lv_neT (a := 2) e1_1 rfl; omega)
              · exact Or.inr (by have h9 := lv_neT (a := 3) e1_2 rfl; omega)
            refine j_bipush F dX8_last_78 cB_m9 ?_
            exact j_ireturn F rfl dX8_last_80 h
    · refine j_aload_n F 0 dX8_last_18 rfl rfl ?_
      refine j_bipush F dX8_last_19 cB_m6 ?_
      refine j_callVi F mwX8_refuse ql_X8_74 clX8 (lt653 rfl hN) ly50 [.int (-6 : Int32)] rfl ⟨rfl, rfl, Nat.le_of_ble_eq_true rfl, Nat.le_of_ble_eq_true rfl⟩ ⟨Nat.le_refl 0, Nat.le_refl 0⟩ rfl (Nat.le_of_ble_eq_true rfl) dX8_last_21 (fun _ _ _ h9 => kX8_refuse l hN  h9) h (fun v2 t2 a2 e2 h => ?_)
      exact j_ireturn F rfl dX8_last_24 h
  · refine j_aload_n F 0 dX8_last_5 rfl rfl ?_
    refine j_bipush F dX8_last_6 cB_m4 ?_
    refine j_callVi F mwX8_refuse ql_X8_74 clX8 (lt653 rfl hN) ly50 [.int (-4 : Int32)] rfl ⟨rfl, rfl, Nat.le_of_ble_eq_true rfl, Nat.le_of_ble_eq_true rfl⟩ ⟨Nat.le_refl 0, Nat.le_refl 0⟩ rfl (Nat.le_of_ble_eq_true rfl) dX8_last_8 (fun _ _ _ h9 => kX8_refuse l hN  h9) h (fun v3 t3 a3 e3 h => ?_)
    exact j_ireturn F rfl dX8_last_11 h
def fX8_law (nF : Nat) (x1 : Int32) (t : sT) (a : sA) : Rs := cal (fX8_in nF x1 (0 : Int32) (4 : Int32) t a) (fun v1 t1 a1 => if v1 = 0 then (cal (fX8_refuse nF (-2 : Int32) t1 a1) (fun v2 t2 a2 => some (v2, t2, a2))) else (some (t1 3213, va_up t1 3213 x1, a1)))
set_option maxRecDepth 100000 in
set_option maxHeartbeats 4000000 in
theorem kX8_law (l : Launch) {x : Cx} {N : Nat} {u0 v0 : Option Nat} {nF : Nat} {x1 : Int32} {t : sT} {a : sA} {rv : Int32} {rt : sT} {ra : sA} (hN : 653 ≤ N) (h : fX8_law nF x1 t a = some (rv, rt, ra)) : Met l yX8_law [.code yX8_law cX8_law 3 (some .int)] (k2_rm 1 22) (Pre x N (rho u0 v0) t a [.ref (cz x + 50), .int x1]) (PostI x N (rho u0 v0) rt ra rv) 0 0 (cA x) := by
  refine j_entry (by decide) rfl (Nat.le_of_ble_eq_true rfl) ?_
  intro p e s m below meth c F hsz hnm
  have F : Fx p s m meth c cX8_law 3 RX8 (some .int) x := F
  unfold fX8_law at h
  show J p l e _ s m _ below meth c x N (rho u0 v0) 3 0 0 _ 0 [(0, .ref (cz x + 50)), (1, .int x1)] [] t a
  refine j_iload_n F 1 dX8_law_0 rfl rfl ?_
  refine j_iconst F dX8_law_1 cI_0 ?_
  refine j_iconst F dX8_law_2 cI_4 ?_
  refine j_callSi F mwX8_in ql_X8_63 [.int x1, .int (0 : Int32), .int (4 : Int32)] rfl ⟨rfl, rfl, Nat.le_of_ble_eq_true rfl, Nat.le_of_ble_eq_true rfl⟩ ⟨Nat.le_refl 0, Nat.le_refl 0⟩ rfl (Nat.le_of_ble_eq_true rfl) dX8_law_3 (fun _ _ _ h9 => kX8_in l hN  h9) h (fun v1 t1 a1 e1 h => ?_)
  refine j_if_ne F 16 dX8_law_6 rfl h (fun h => ?_) (fun h => ?_)
  · refine j_aload_n F 0 dX8_law_9 rfl rfl ?_
    refine j_bipush F dX8_law_10 cB_m2 ?_
    refine j_callVi F mwX8_refuse ql_X8_74 clX8 (lt653 rfl hN) ly50 [.int (-2 : Int32)] rfl ⟨rfl, rfl, Nat.le_of_ble_eq_true rfl, Nat.le_of_ble_eq_true rfl⟩ ⟨Nat.le_refl 0, Nat.le_refl 0⟩ rfl (Nat.le_of_ble_eq_true rfl) dX8_law_12 (fun _ _ _ h9 => kX8_refuse l hN  h9) h (fun v2 t2 a2 e2 h => ?_)
    exact j_ireturn F rfl dX8_law_15 h
  · refine j_aload_n F 0 dX8_law_16 rfl rfl ?_
    refine j_getI F clX8 (j := 13) (tt := 3213) (lt653 rfl hN) ly50 (Nat.le_of_ble_eq_true rfl) rfl qf_X8_111 rfl dX8_law_17 ?_
    refine j_istore_n F (lv' := [(2, .int (t1 3213)), (0, .ref (cz x + 50)), (1, .int x1)]) dX8_law_20 rfl (Nat.le_of_ble_eq_true rfl) rfl ?_
    refine j_aload_n F 1 dX8_law_21 rfl rfl ?_
    refine j_iload_n F 2 dX8_law_22 rfl rfl ?_
    refine j_putI F clX8 (j := 13) (tt := 3213) (lt653 rfl hN) ly50 (Nat.le_of_ble_eq_true rfl) rfl qf_X8_111 rfl rfl rfl dX8_law_23 ?_
    refine j_iload_n F 0 dX8_law_26 rfl rfl ?_
    exact j_ireturn F rfl dX8_law_27 h
def fX8_letter (nF : Nat) (x1 : Int32) (t : sT) (a : sA) : Rs := if 0 ≤ x1 then (if (255 : Int32) < x1 then (cal (fX8_refuse nF (-6 : Int32) t a) (fun v1 t1 a1 => some (v1, t1, a1))) else (if (t 3201) = (64 : Int32) then (cal (fX8_refuse nF (-6 : Int32) t a) (fun v2 t2 a2 => some (v2, t2, a2))) else (bnd (t 3201) 64 (some ((va_up t 3201 ((t 3201) + (1 : Int32))) 3201, va_up t 3201 ((t 3201) + (1 : Int32)), va_up a 51 (upd (a 51) (t 3201).toNatClampNeg x1)))))) else (cal (fX8_refuse nF (-4 : Int32) t a) (fun v3 t3 a3 => some (v3, t3, a3)))
set_option maxRecDepth 100000 in
set_option maxHeartbeats 4000000 in
theorem kX8_letter (l : Launch) {x : Cx} {N : Nat} {u0 v0 : Option Nat} {nF : Nat} {x1 : Int32} {t : sT} {a : sA} {rv : Int32} {rt : sT} {ra : sA} (hN : 653 ≤ N) (h : fX8_letter nF x1 t a = some (rv, rt, ra)) : Met l yX8_letter [.code yX8_letter cX8_letter 2 (some .int)] (k2_rm 1 21) (Pre x N (rho u0 v0) t a [.ref (cz x + 50), .int x1]) (PostI x N (rho u0 v0) rt ra rv) 0 0 (cA x) := by
  refine j_entry (by decide) rfl (Nat.le_of_ble_eq_true rfl) ?_
  intro p e s m below meth c F hsz hnm
  have F : Fx p s m meth c cX8_letter 2 RX8 (some .int) x := F
  unfold fX8_letter at h
  show J p l e _ s m _ below meth c x N (rho u0 v0) 2 0 0 _ 0 [(0, .ref (cz x + 50)), (1, .int x1)] [] t a
  refine j_iload_n F 1 dX8_letter_0 rfl rfl ?_
  refine j_if_ge F 11 dX8_letter_1 rfl h (fun h => ?_) (fun h => ?_)
  · refine j_iload_n F 1 dX8_letter_11 rfl rfl ?_
    refine j_sipush F dX8_letter_12 cS_255 ?_
    refine j_icmp_gt F 27 dX8_letter_15 rfl h (fun h => ?_) (fun h => ?_)
    · refine j_aload_n F 0 dX8_letter_27 rfl rfl ?_
      refine j_bipush F dX8_letter_28 cB_m6 ?_
      refine j_callVi F mwX8_refuse ql_X8_74 clX8 (lt653 rfl hN) ly50 [.int (-6 : Int32)] rfl ⟨rfl, rfl, Nat.le_of_ble_eq_true rfl, Nat.le_of_ble_eq_true rfl⟩ ⟨Nat.le_refl 0, Nat.le_refl 0⟩ rfl (Nat.le_of_ble_eq_true rfl) dX8_letter_30 (fun _ _ _ h9 => kX8_refuse l hN  h9) h (fun v1 t1 a1 e1 h => ?_)
      exact j_ireturn F rfl dX8_letter_33 h
    · refine j_aload_n F 0 dX8_letter_18 rfl rfl ?_
      refine j_getI F clX8 (j := 1) (tt := 3201) (lt653 rfl hN) ly50 (Nat.le_of_ble_eq_true rfl) rfl qf_X8_78 rfl dX8_letter_19 ?_
      refine j_bipush F dX8_letter_22 cB_64 ?_
      refine j_icmp_ne F 34 dX8_letter_24 rfl h (fun h => ?_) (fun h => ?_)
      · refine j_aload_n F 0 dX8_letter_27 rfl rfl ?_
        refine j_bipush F dX8_letter_28 cB_m6 ?_
        refine j_callVi F mwX8_refuse ql_X8_74 clX8 (lt653 rfl hN) ly50 [.int (-6 : Int32)] rfl ⟨rfl, rfl, Nat.le_of_ble_eq_true rfl, Nat.le_of_ble_eq_true rfl⟩ ⟨Nat.le_refl 0, Nat.le_refl 0⟩ rfl (Nat.le_of_ble_eq_true rfl) dX8_letter_30 (fun _ _ _ h9 => kX8_refuse l hN  h9) h (fun v2 t2 a2 e2 h => ?_)
        exact j_ireturn F rfl dX8_letter_33 h
      · refine j_aload_n F 0 dX8_letter_34 rfl rfl ?_
        refine j_getR F clX8 (j := 0) (lt653 rfl hN) ly50 (Nat.le_of_ble_eq_true rfl) rfl qf_X8_9 rfl dX8_letter_35 ?_
        refine j_aload_n F 0 dX8_letter_38 rfl rfl ?_
        refine j_dup F dX8_letter_39 rfl ?_
        refine j_getI F clX8 (j := 1) (tt := 3201) (lt653 rfl hN) ly50 (Nat.le_of_ble_eq_true rfl) rfl qf_X8_78 rfl dX8_letter_40 ?_
        refine j_dup_x1 F dX8_letter_43 rfl rfl ?_
        refine j_iconst F dX8_letter_44 cI_1 ?_
        refine j_iadd F dX8_letter_45 ?_
        refine j_putI F clX8 (j := 1) (tt := 3201) (lt653 rfl hN) ly50 (Nat.le_of_ble_eq_true rfl) rfl qf_X8_78 rfl rfl rfl dX8_letter_46 ?_
        refine j_iload_n F 1 dX8_letter_49 rfl rfl ?_
        refine j_iast F (lt653 rfl hN) ly51 dX8_letter_50 h (fun h => ?_)
        refine j_aload_n F 0 dX8_letter_51 rfl rfl ?_
        refine j_getI F clX8 (j := 1) (tt := 3201) (lt653 rfl hN) ly50 (Nat.le_of_ble_eq_true rfl) rfl qf_X8_78 rfl dX8_letter_52 ?_
        exact j_ireturn F rfl dX8_letter_55 h
  · refine j_aload_n F 0 dX8_letter_4 rfl rfl ?_
    refine j_bipush F dX8_letter_5 cB_m4 ?_
    refine j_callVi F mwX8_refuse ql_X8_74 clX8 (lt653 rfl hN) ly50 [.int (-4 : Int32)] rfl ⟨rfl, rfl, Nat.le_of_ble_eq_true rfl, Nat.le_of_ble_eq_true rfl⟩ ⟨Nat.le_refl 0, Nat.le_refl 0⟩ rfl (Nat.le_of_ble_eq_true rfl) dX8_letter_7 (fun _ _ _ h9 => kX8_refuse l hN  h9) h (fun v3 t3 a3 e3 h => ?_)
    exact j_ireturn F rfl dX8_letter_10 h
def gX8_list_15 (nF : Nat) (r15 : Int32 → sT → sA → Rs) (r39 : Int32 → sT → sA → Rs) (r49 : Int32 → Int32 → sT → sA → Rs) (r79 : Int32 → sT → sA → Rs) (r89 : Int32 → Int32 → sT → sA → Rs) (r99 : Int32 → Int32 → Int32 → sT → sA → Rs) (x1 : Int32) (t : sT) (a : sA) : Rs := if (t 3207) ≤ x1 then (r39 (0 : Int32) t a) else (cal (fX8_add nF (1 : Int32) x1 (0 : Int32) (0 : Int32) t a) (fun v2 t2 a2 => r15 (x1 + (1 : Int32)) t2 a2))
def gX8_list_39 (nF : Nat) (r15 : Int32 → sT → sA → Rs) (r39 : Int32 → sT → sA → Rs) (r49 : Int32 → Int32 → sT → sA → Rs) (r79 : Int32 → sT → sA → Rs) (r89 : Int32 → Int32 → sT → sA → Rs) (r99 : Int32 → Int32 → Int32 → sT → sA → Rs) (x1 : Int32) (t : sT) (a : sA) : Rs := if (t 3207) ≤ x1 then (r79 (0 : Int32) t a) else (r49 x1 (0 : Int32) t a)
def gX8_list_49 (nF : Nat) (r15 : Int32 → sT → sA → Rs) (r39 : Int32 → sT → sA → Rs) (r49 : Int32 → Int32 → sT → sA → Rs) (r79 : Int32 → sT → sA → Rs) (r89 : Int32 → Int32 → sT → sA → Rs) (r99 : Int32 → Int32 → Int32 → sT → sA → Rs) (x1 x2 : Int32) (t : sT) (a : sA) : Rs := if (t 3207) ≤ x2 then (r39 (x1 + (1 : Int32)) t a) else (cal (fX8_add nF (2 : Int32) x1 x2 (0 : Int32) t a) (fun v3 t3 a3 => r49 x1 (x2 + (1 : Int32)) t3 a3))
def gX8_list_79 (nF : Nat) (r15 : Int32 → sT → sA → Rs) (r39 : Int32 → sT → sA → Rs) (r49 : Int32 → Int32 → sT → sA → Rs) (r79 : Int32 → sT → sA → Rs) (r89 : Int32 → Int32 → sT → sA → Rs) (r99 : Int32 → Int32 → Int32 → sT → sA → Rs) (x1 : Int32) (t : sT) (a : sA) : Rs := if (t 3207) ≤ x1 then (some (0, t, a)) else (r89 x1 (0 : Int32) t a)
def gX8_list_89 (nF : Nat) (r15 : Int32 → sT → sA → Rs) (r39 : Int32 → sT → sA → Rs) (r49 : Int32 → Int32 → sT → sA → Rs) (r79 : Int32 → sT → sA → Rs) (r89 : Int32 → Int32 → sT → sA → Rs) (r99 : Int32 → Int32 → Int32 → sT → sA → Rs) (x1 x2 : Int32) (t : sT) (a : sA) : Rs := if (t 3207) ≤ x2 then (r79 (x1 + (1 : Int32)) t a) else (r99 x1 x2 (0 : Int32) t a)
def gX8_list_99 (nF : Nat) (r15 : Int32 → sT → sA → Rs) (r39 : Int32 → sT → sA → Rs) (r49 : Int32 → Int32 → sT → sA → Rs) (r79 : Int32 → sT → sA → Rs) (r89 : Int32 → Int32 → sT → sA → Rs) (r99 : Int32 → Int32 → Int32 → sT → sA → Rs) (x1 x2 x3 : Int32) (t : sT) (a : sA) : Rs := if (t 3207) ≤ x3 then (r89 x1 (x2 + (1 : Int32)) t a) else (cal (fX8_add nF (3 : Int32) x1 x2 x3 t a) (fun v4 t4 a4 => r99 x1 x2 (x3 + (1 : Int32)) t4 a4))
def gX8_list (nF : Nat) : Nat → (Int32 → sT → sA → Rs) × (Int32 → sT → sA → Rs) × (Int32 → Int32 → sT → sA → Rs) × (Int32 → sT → sA → Rs) × (Int32 → Int32 → sT → sA → Rs) × (Int32 → Int32 → Int32 → sT → sA → Rs)
  | 0 => (fun _ _ _ => none, fun _ _ _ => none, fun _ _ _ _ => none, fun _ _ _ => none, fun _ _ _ _ => none, fun _ _ _ _ _ => none)
  | n9 + 1 => (gX8_list_15 nF ((gX8_list nF n9).1) ((gX8_list nF n9).2.1) ((gX8_list nF n9).2.2.1) ((gX8_list nF n9).2.2.2.1) ((gX8_list nF n9).2.2.2.2.1) ((gX8_list nF n9).2.2.2.2.2), gX8_list_39 nF ((gX8_list nF n9).1) ((gX8_list nF n9).2.1) ((gX8_list nF n9).2.2.1) ((gX8_list nF n9).2.2.2.1) ((gX8_list nF n9).2.2.2.2.1) ((gX8_list nF n9).2.2.2.2.2), gX8_list_49 nF ((gX8_list nF n9).1) ((gX8_list nF n9).2.1) ((gX8_list nF n9).2.2.1) ((gX8_list nF n9).2.2.2.1) ((gX8_list nF n9).2.2.2.2.1) ((gX8_list nF n9).2.2.2.2.2), gX8_list_79 nF ((gX8_list nF n9).1) ((gX8_list nF n9).2.1) ((gX8_list nF n9).2.2.1) ((gX8_list nF n9).2.2.2.1) ((gX8_list nF n9).2.2.2.2.1) ((gX8_list nF n9).2.2.2.2.2), gX8_list_89 nF ((gX8_list nF n9).1) ((gX8_list nF n9).2.1) ((gX8_list nF n9).2.2.1) ((gX8_list nF n9).2.2.2.1) ((gX8_list nF n9).2.2.2.2.1) ((gX8_list nF n9).2.2.2.2.2), gX8_list_99 nF ((gX8_list nF n9).1) ((gX8_list nF n9).2.1) ((gX8_list nF n9).2.2.1) ((gX8_list nF n9).2.2.2.1) ((gX8_list nF n9).2.2.2.2.1) ((gX8_list nF n9).2.2.2.2.2))
def fX8_list (nF : Nat) (t : sT) (a : sA) : Rs := cal (fX8_add nF (0 : Int32) (0 : Int32) (0 : Int32) (0 : Int32) (va_up t 3227 (0 : Int32)) a) (fun v1 t1 a1 => ((gX8_list nF nF).1) (0 : Int32) t1 a1)
set_option maxRecDepth 100000 in
set_option maxHeartbeats 4000000 in
theorem hX8_list {p : Program} {l : Launch} {e : Env} {s : State} {m : MethodId} {args : Array Value} {below : List Frame} {meth : Method} {c : Code} {x : Cx} {N : Nat} {u0 v0 : Option Nat} {nF : Nat} (F : Fx p s m meth c cX8_list 4 RX8 none x) (hsz : s.heap.size = cz x + N) (hN : 653 ≤ N) {rv : Int32} {rt : sT} {ra : sA} : ∀ n9 : Nat, (∀ (x1 : Int32) (t : sT) (a : sA), (gX8_list nF n9).1 x1 t a = some (rv, rt, ra) → J p l e (k2_rm 2 54) s m args below meth c x N (rho u0 v0) 4 0 0 (MQ below (PostV x N (rho u0 v0) rt ra) args s 0 0 (cA x)) 15 [(0, .ref (cz x + 50)), (1, .int x1)] [] t a) ∧ (∀ (x1 : Int32) (t : sT) (a : sA), (gX8_list nF n9).2.1 x1 t a = some (rv, rt, ra) → J p l e (k2_rm 2 54) s m args below meth c x N (rho u0 v0) 4 0 0 (MQ below (PostV x N (rho u0 v0) rt ra) args s 0 0 (cA x)) 39 [(0, .ref (cz x + 50)), (1, .int x1)] [] t a) ∧ (∀ (x1 x2 : Int32) (t : sT) (a : sA), (gX8_list nF n9).2.2.1 x1 x2 t a = some (rv, rt, ra) → J p l e (k2_rm 2 54) s m args below meth c x N (rho u0 v0) 4 0 0 (MQ below (PostV x N (rho u0 v0) rt ra) args s 0 0 (cA x)) 49 [(0, .ref (cz x + 50)), (1, .int x1), (2, .int x2)] [] t a) ∧ (∀ (x1 : Int32) (t : sT) (a : sA), (gX8_list nF n9).2.2.2.1 x1 t a = some (rv, rt, ra) → J p l e (k2_rm 2 54) s m args below meth c x N (rho u0 v0) 4 0 0 (MQ below (PostV x N (rho u0 v0) rt ra) args s 0 0 (cA x)) 79 [(0, .ref (cz x + 50)), (1, .int x1)] [] t a) ∧ (∀ (x1 x2 : Int32) (t : sT) (a : sA), (gX8_list nF n9).2.2.2.2.1 x1 x2 t a = some (rv, rt, ra) → J p l e (k2_rm 2 54) s m args below meth c x N (rho u0 v0) 4 0 0 (MQ below (PostV x N (rho u0 v0) rt ra) args s 0 0 (cA x)) 89 [(0, .ref (cz x + 50)), (1, .int x1), (2, .int x2)] [] t a) ∧ (∀ (x1 x2 x3 : Int32) (t : sT) (a : sA), (gX8_list nF n9).2.2.2.2.2 x1 x2 x3 t a = some (rv, rt, ra) → J p l e (k2_rm 2 54) s m args below meth c x N (rho u0 v0) 4 0 0 (MQ below (PostV x N (rho u0 v0) rt ra) args s 0 0 (cA x)) 99 [(0, .ref (cz x + 50)), (1, .int x1), (2, .int x2), (3, .int x3)] [] t a) := by
  intro n9
  induction n9 with
  | zero => exact ⟨fun _ _ _ h => (by cases h), fun _ _ _ h => (by cases h), fun _ _ _ _ h => (by cases h), fun _ _ _ h => (by cases h), fun _ _ _ _ h => (by cases h), fun _ _ _ _ _ h => (by cases h)⟩
  | succ n9 ih =>
    refine ⟨?_, ?_, ?_, ?_, ?_, ?_⟩
    · intro x1 t a h
      have h : gX8_list_15 nF ((gX8_list nF n9).1) ((gX8_list nF n9).2.1) ((gX8_list nF n9).2.2.1) ((gX8_list nF n9).2.2.2.1) ((gX8_list nF n9).2.2.2.2.1) ((gX8_list nF n9).2.2.2.2.2) x1 t a = some (rv, rt, ra) := h
      unfold gX8_list_15 at h
      refine j_iload_n F 1 dX8_list_15 rfl rfl ?_
      refine j_aload_n F 0 dX8_list_16 rfl rfl ?_
      refine j_getI F clX8 (j := 7) (tt := 3207) (lt653 rfl hN) ly50 (Nat.le_of_ble_eq_true rfl) rfl qf_X8_67 rfl dX8_list_17 ?_
      refine j_icmp_ge F 37 dX8_list_20 rfl h (fun h => ?_) (fun h => ?_)
      · refine j_iconst F dX8_list_37 cI_0 ?_
        refine j_istore_n F (lv' := [(1, .int (0 : Int32)), (0, .ref (cz x + 50))]) dX8_list_38 rfl (Nat.le_of_ble_eq_true rfl) rfl ?_
        exact j_lv [1, 0] rfl (ih.2.1 _ _ _ h)
      · refine j_aload_n F 0 dX8_list_23 rfl rfl ?_
        refine j_iconst F dX8_list_24 cI_1 ?_
        refine j_iload_n F 1 dX8_list_25 rfl rfl ?_
        refine j_iconst F dX8_list_26 cI_0 ?_
        refine j_iconst F dX8_list_27 cI_0 ?_
        refine j_callVv F mwX8_add ql_X8_162 clX8 (lt653 rfl hN) ly50 [.int (1 : Int32), .int x1, .int (0 : Int32), .int (0 : Int32)] rfl ⟨rfl, rfl, Nat.le_of_ble_eq_true rfl, Nat.le_of_ble_eq_true rfl⟩ ⟨Nat.le_refl 0, Nat.le_refl 0⟩ rfl (Nat.le_of_ble_eq_true rfl) dX8_list_28 (fun _ _ _ h9 => kX8_add l hN  h9) h (fun v2 t2 a2 e2 h => ?_)
        refine j_iinc F (v := x1 + (1 : Int32)) (lv' := [(1, .int (x1 + (1 : Int32))), (0, .ref (cz x + 50))]) dX8_list_31 1 rfl (congrArg (fun z => x1 + z) cI_1) (Nat.le_of_ble_eq_true rfl) rfl ?_
        refine j_goto F 15 dX8_list_34 rfl ?_
        exact j_lv [1, 0] rfl (ih.1 _ _ _ h)
    · intro x1 t a h
      have h : gX8_list_39 nF ((gX8_list nF n9).1) ((gX8_list nF n9).2.1) ((gX8_list nF n9).2.2.1) ((gX8_list nF n9).2.2.2.1) ((gX8_list nF n9).2.2.2.2.1) ((gX8_list nF n9).2.2.2.2.2) x1 t a = some (rv, rt, ra) := h
      unfold gX8_list_39 at h
      refine j_iload_n F 1 dX8_list_39 rfl rfl ?_
      refine j_aload_n F 0 dX8_list_40 rfl rfl ?_
      refine j_getI F clX8 (j := 7) (tt := 3207) (lt653 rfl hN) ly50 (Nat.le_of_ble_eq_true rfl) rfl qf_X8_67 rfl dX8_list_41 ?_
      refine j_icmp_ge F 77 dX8_list_44 rfl h (fun h => ?_) (fun h => ?_)
      · refine j_iconst F dX8_list_77 cI_0 ?_
        refine j_istore_n F (lv' := [(1, .int (0 : Int32)), (0, .ref (cz x + 50))]) dX8_list_78 rfl (Nat.le_of_ble_eq_true rfl) rfl ?_
        exact j_lv [1, 0] rfl (ih.2.2.2.1 _ _ _ h)
      · refine j_iconst F dX8_list_47 cI_0 ?_
        refine j_istore_n F (lv' := [(2, .int (0 : Int32)), (0, .ref (cz x + 50)), (1, .int x1)]) dX8_list_48 rfl (Nat.le_of_ble_eq_true rfl) rfl ?_
        exact j_lv [1, 2, 0] rfl (ih.2.2.1 _ _ _ _ h)
    · intro x1 x2 t a h
      have h : gX8_list_49 nF ((gX8_list nF n9).1) ((gX8_list nF n9).2.1) ((gX8_list nF n9).2.2.1) ((gX8_list nF n9).2.2.2.1) ((gX8_list nF n9).2.2.2.2.1) ((gX8_list nF n9).2.2.2.2.2) x1 x2 t a = some (rv, rt, ra) := h
      unfold gX8_list_49 at h
      refine j_iload_n F 2 dX8_list_49 rfl rfl ?_
      refine j_aload_n F 0 dX8_list_50 rfl rfl ?_
      refine j_getI F clX8 (j := 7) (tt := 3207) (lt653 rfl hN) ly50 (Nat.le_of_ble_eq_true rfl) rfl qf_X8_67 rfl dX8_list_51 ?_
      refine j_icmp_ge F 71 dX8_list_54 rfl h (fun h => ?_) (fun h => ?_)
      · refine j_iinc F (v := x1 + (1 : Int32)) (lv' := [(1, .int (x1 + (1 : Int32))), (0, .ref (cz x + 50)), (2, .int x2)]) dX8_list_71 1 rfl (congrArg (fun z => x1 + z) cI_1) (Nat.le_of_ble_eq_true rfl) rfl ?_
        refine j_goto F 39 dX8_list_74 rfl ?_
        exact j_lv [1, 0] rfl (ih.2.1 _ _ _ h)
      · refine j_aload_n F 0 dX8_list_57 rfl rfl ?_
        refine j_iconst F dX8_list_58 cI_2 ?_
        refine j_iload_n F 1 dX8_list_59 rfl rfl ?_
        refine j_iload_n F 2 dX8_list_60 rfl rfl ?_
        refine j_iconst F dX8_list_61 cI_0 ?_
        refine j_callVv F mwX8_add ql_X8_162 clX8 (lt653 rfl hN) ly50 [.int (2 : Int32), .int x1, .int x2, .int (0 : Int32)] rfl ⟨rfl, rfl, Nat.le_of_ble_eq_true rfl, Nat.le_of_ble_eq_true rfl⟩ ⟨Nat.le_refl 0, Nat.le_refl 0⟩ rfl (Nat.le_of_ble_eq_true rfl) dX8_list_62 (fun _ _ _ h9 => kX8_add l hN  h9) h (fun v3 t3 a3 e3 h => ?_)
        refine j_iinc F (v := x2 + (1 : Int32)) (lv' := [(2, .int (x2 + (1 : Int32))), (0, .ref (cz x + 50)), (1, .int x1)]) dX8_list_65 2 rfl (congrArg (fun z => x2 + z) cI_1) (Nat.le_of_ble_eq_true rfl) rfl ?_
        refine j_goto F 49 dX8_list_68 rfl ?_
        exact j_lv [1, 2, 0] rfl (ih.2.2.1 _ _ _ _ h)
    · intro x1 t a h
      have h : gX8_list_79 nF ((gX8_list nF n9).1) ((gX8_list nF n9).2.1) ((gX8_list nF n9).2.2.1) ((gX8_list nF n9).2.2.2.1) ((gX8_list nF n9).2.2.2.2.1) ((gX8_list nF n9).2.2.2.2.2) x1 t a = some (rv, rt, ra) := h
      unfold gX8_list_79 at h
      refine j_iload_n F 1 dX8_list_79 rfl rfl ?_
      refine j_aload_n F 0 dX8_list_80 rfl rfl ?_
      refine j_getI F clX8 (j := 7) (tt := 3207) (lt653 rfl hN) ly50 (Nat.le_of_ble_eq_true rfl) rfl qf_X8_67 rfl dX8_list_81 ?_
      refine j_icmp_ge F 133 dX8_list_84 rfl h (fun h => ?_) (fun h => ?_)
      · exact j_vreturn F rfl dX8_list_133 h
      · refine j_iconst F dX8_list_87 cI_0 ?_
        refine j_istore_n F (lv' := [(2, .int (0 : Int32)), (0, .ref (cz x + 50)), (1, .int x1)]) dX8_list_88 rfl (Nat.le_of_ble_eq_true rfl) rfl ?_
        exact j_lv [1, 2, 0] rfl (ih.2.2.2.2.1 _ _ _ _ h)
    · intro x1 x2 t a h
      have h : gX8_list_89 nF ((gX8_list nF n9).1) ((gX8_list nF n9).2.1) ((gX8_list nF n9).2.2.1) ((gX8_list nF n9).2.2.2.1) ((gX8_list nF n9).2.2.2.2.1) ((gX8_list nF n9).2.2.2.2.2) x1 x2 t a = some (rv, rt, ra) := h
      unfold gX8_list_89 at h
      refine j_iload_n F 2 dX8_list_89 rfl rfl ?_
      refine j_aload_n F 0 dX8_list_90 rfl rfl ?_
      refine j_getI F clX8 (j := 7) (tt := 3207) (lt653 rfl hN) ly50 (Nat.le_of_ble_eq_true rfl) rfl qf_X8_67 rfl dX8_list_91 ?_
      refine j_icmp_ge F 127 dX8_list_94 rfl h (fun h => ?_) (fun h => ?_)
      · refine j_iinc F (v := x1 + (1 : Int32)) (lv' := [(1, .int (x1 + (1 : Int32))), (0, .ref (cz x + 50)), (2, .int x2)]) dX8_list_127 1 rfl (congrArg (fun z => x1 + z) cI_1) (Nat.le_of_ble_eq_true rfl) rfl ?_
        refine j_goto F 79 dX8_list_130 rfl ?_
        exact j_lv [1, 0] rfl (ih.2.2.2.1 _ _ _ h)
      · refine j_iconst F dX8_list_97 cI_0 ?_
        refine j_istore_n F (lv' := [(3, .int (0 : Int32)), (0, .ref (cz x + 50)), (1, .int x1), (2, .int x2)]) dX8_list_98 rfl (Nat.le_of_ble_eq_true rfl) rfl ?_
        exact j_lv [1, 2, 3, 0] rfl (ih.2.2.2.2.2 _ _ _ _ _ h)
    · intro x1 x2 x3 t a h
      have h : gX8_list_99 nF ((gX8_list nF n9).1) ((gX8_list nF n9).2.1) ((gX8_list nF n9).2.2.1) ((gX8_list nF n9).2.2.2.1) ((gX8_list nF n9).2.2.2.2.1) ((gX8_list nF n9).2.2.2.2.2) x1 x2 x3 t a = some (rv, rt, ra) := h
      unfold gX8_list_99 at h
      refine j_iload_n F 3 dX8_list_99 rfl rfl ?_
      refine j_aload_n F 0 dX8_list_100 rfl rfl ?_
      refine j_getI F clX8 (j := 7) (tt := 3207) (lt653 rfl hN) ly50 (Nat.le_of_ble_eq_true rfl) rfl qf_X8_67 rfl dX8_list_101 ?_
      refine j_icmp_ge F 121 dX8_list_104 rfl h (fun h => ?_) (fun h => ?_)
      · refine j_iinc F (v := x2 + (1 : Int32)) (lv' := [(2, .int (x2 + (1 : Int32))), (0, .ref (cz x + 50)), (1, .int x1), (3, .int x3)]) dX8_list_121 2 rfl (congrArg (fun z => x2 + z) cI_1) (Nat.le_of_ble_eq_true rfl) rfl ?_
        refine j_goto F 89 dX8_list_124 rfl ?_
        exact j_lv [1, 2, 0] rfl (ih.2.2.2.2.1 _ _ _ _ h)
      · refine j_aload_n F 0 dX8_list_107 rfl rfl ?_
        refine j_iconst F dX8_list_108 cI_3 ?_
        refine j_iload_n F 1 dX8_list_109 rfl rfl ?_
        refine j_iload_n F 2 dX8_list_110 rfl rfl ?_
        refine j_iload_n F 3 dX8_list_111 rfl rfl ?_
        refine j_callVv F mwX8_add ql_X8_162 clX8 (lt653 rfl hN) ly50 [.int (3 : Int32), .int x1, .int x2, .int x3] rfl ⟨rfl, rfl, Nat.le_of_ble_eq_true rfl, Nat.le_of_ble_eq_true rfl⟩ ⟨Nat.le_refl 0, Nat.le_refl 0⟩ rfl (Nat.le_of_ble_eq_true rfl) dX8_list_112 (fun _ _ _ h9 => kX8_add l hN  h9) h (fun v4 t4 a4 e4 h => ?_)
        refine j_iinc F (v := x3 + (1 : Int32)) (lv' := [(3, .int (x3 + (1 : Int32))), (0, .ref (cz x + 50)), (1, .int x1), (2, .int x2)]) dX8_list_115 3 rfl (congrArg (fun z => x3 + z) cI_1) (Nat.le_of_ble_eq_true rfl) rfl ?_
        refine j_goto F 99 dX8_list_118 rfl ?_
        exact j_lv [1, 2, 3, 0] rfl (ih.2.2.2.2.2 _ _ _ _ _ h)
set_option maxRecDepth 100000 in
set_option maxHeartbeats 4000000 in
theorem kX8_list (l : Launch) {x : Cx} {N : Nat} {u0 v0 : Option Nat} {nF : Nat} {t : sT} {a : sA} {rv : Int32} {rt : sT} {ra : sA} (hN : 653 ≤ N) (h : fX8_list nF t a = some (rv, rt, ra)) : Met l yX8_list [.code yX8_list cX8_list 4 none] (k2_rm 2 54) (Pre x N (rho u0 v0) t a [.ref (cz x + 50)]) (PostV x N (rho u0 v0) rt ra) 0 0 (cA x) := by
  refine j_entry (by decide) rfl (Nat.le_of_ble_eq_true rfl) ?_
  intro p e s m below meth c F hsz hnm
  have F : Fx p s m meth c cX8_list 4 RX8 none x := F
  unfold fX8_list at h
  show J p l e _ s m _ below meth c x N (rho u0 v0) 4 0 0 _ 0 [(0, .ref (cz x + 50))] [] t a
  refine j_aload_n F 0 dX8_list_0 rfl rfl ?_
  refine j_iconst F dX8_list_1 cI_0 ?_
  refine j_putI F clX8 (j := 27) (tt := 3227) (lt653 rfl hN) ly50 (Nat.le_of_ble_eq_true rfl) rfl qf_X8_159 rfl rfl rfl dX8_list_2 ?_
  refine j_aload_n F 0 dX8_list_5 rfl rfl ?_
  refine j_iconst F dX8_list_6 cI_0 ?_
  refine j_iconst F dX8_list_7 cI_0 ?_
  refine j_iconst F dX8_list_8 cI_0 ?_
  refine j_iconst F dX8_list_9 cI_0 ?_
  refine j_callVv F mwX8_add ql_X8_162 clX8 (lt653 rfl hN) ly50 [.int (0 : Int32), .int (0 : Int32), .int (0 : Int32), .int (0 : Int32)] rfl ⟨rfl, rfl, Nat.le_of_ble_eq_true rfl, Nat.le_of_ble_eq_true rfl⟩ ⟨Nat.le_refl 0, Nat.le_refl 0⟩ rfl (Nat.le_of_ble_eq_true rfl) dX8_list_10 (fun _ _ _ h9 => kX8_add l hN  h9) h (fun v1 t1 a1 e1 h => ?_)
  refine j_iconst F dX8_list_13 cI_0 ?_
  refine j_istore_n F (lv' := [(1, .int (0 : Int32)), (0, .ref (cz x + 50))]) dX8_list_14 rfl (Nat.le_of_ble_eq_true rfl) rfl ?_
  exact j_lv [1, 0] rfl ((hX8_list F hsz hN nF).1 _ _ _ h)
def fX8_longest (nF : Nat) (x1 : Int32) (t : sT) (a : sA) : Rs := if (1 : Int32) ≤ x1 then (if x1 ≤ (6 : Int32) then (if (t 3213) = (0 : Int32) then (some (x1, t, a)) else (if (t 3213) = (2 : Int32) then (some (x1, t, a)) else (if (t 3213) = (3 : Int32) then (some ((7 : Int32) - x1, t, a)) else (some ((-9 : Int32), t, a))))) else (cal (fX8_refuse nF (-6 : Int32) t a) (fun v2 t2 a2 => some (v2, t2, a2)))) else (cal (fX8_refuse nF (-4 : Int32) t a) (fun v3 t3 a3 => some (v3, t3, a3)))
set_option maxRecDepth 100000 in
set_option maxHeartbeats 4000000 in
theorem kX8_longest (l : Launch) {x : Cx} {N : Nat} {u0 v0 : Option Nat} {nF : Nat} {x1 : Int32} {t : sT} {a : sA} {rv : Int32} {rt : sT} {ra : sA} (hN : 653 ≤ N) (h : fX8_longest nF x1 t a = some (rv, rt, ra)) : Met l yX8_longest [.code yX8_longest cX8_longest 2 (some .int)] (k2_rm 1 21) (Pre x N (rho u0 v0) t a [.ref (cz x + 50), .int x1]) (PostI x N (rho u0 v0) rt ra rv) 0 0 (cA x) := by
  refine j_entry (by decide) rfl (Nat.le_of_ble_eq_true rfl) ?_
  intro p e s m below meth c F hsz hnm
  have F : Fx p s m meth c cX8_longest 2 RX8 (some .int) x := F
  unfold fX8_longest at h
  show J p l e _ s m _ below meth c x N (rho u0 v0) 2 0 0 _ 0 [(0, .ref (cz x + 50)), (1, .int x1)] [] t a
  refine j_iload_n F 1 dX8_longest_0 rfl rfl ?_
  refine j_iconst F dX8_longest_1 cI_1 ?_
  refine j_icmp_ge F 12 dX8_longest_2 rfl h (fun h => ?_) (fun h => ?_)
  · refine j_iload_n F 1 dX8_longest_12 rfl rfl ?_
    refine j_bipush F dX8_longest_13 cB_6 ?_
    refine j_icmp_le F 25 dX8_longest_15 rfl h (fun h => ?_) (fun h => ?_)
    · refine j_aload_n F 0 dX8_longest_25 rfl rfl ?_
      refine j_getI F clX8 (j := 13) (tt := 3213) (lt653 rfl hN) ly50 (Nat.le_of_ble_eq_true rfl) rfl qf_X8_111 rfl dX8_longest_26 ?_
      refine ifE h (fun e1_0 h => ?_) (fun e1_0 h => ?_)
      · refine j_tsI F 60 dX8_longest_29 e1_0 (by decide) (by decide) rfl rfl ?_
        refine j_iload_n F 1 dX8_longest_60 rfl rfl ?_
        exact j_ireturn F rfl dX8_longest_61 h
      · refine ifE h (fun e1_1 h => ?_) (fun e1_1 h => ?_)
        · refine j_tsI F 60 dX8_longest_29 e1_1 (by decide) (by decide) rfl rfl ?_
          refine j_iload_n F 1 dX8_longest_60 rfl rfl ?_
          exact j_ireturn F rfl dX8_longest_61 h
        · refine ifE h (fun e1_2 h => ?_) (fun e1_2 h => ?_)
          · refine j_tsI F 62 dX8_longest_29 e1_2 (by decide) (by decide) rfl rfl ?_
            refine j_bipush F dX8_longest_62 cB_7 ?_
            refine j_iload_n F 1 dX8_longest_64 rfl rfl ?_
            refine j_isub F dX8_longest_65 ?_
            exact j_ireturn F rfl dX8_longest_66 h
          · refine j_tsD F 67 dX8_longest_29 rfl (fun i hi => ?_) rfl ?_
            · have hi : i < 4 := hi
              have hi : i = 0 ∨ i = 1 ∨ i = 2 ∨ i = 3 := by omega
              rcases hi with rfl | rfl | rfl | rfl
              · exact Or.inr (by have h9 := lv_neT (a := 0) e1_0 rfl; omega)
              · exact Or.inl rfl
              · exact Or.inr (by have h9 := lv_neT (a := 2) e1_1 rfl; omega)
              · exact Or.inr (by have h9 := lv_neT (a := 3) e1_2 rfl; omega)
            refine j_bipush F dX8_longest_67 cB_m9 ?_
            exact j_ireturn F rfl dX8_longest_69 h
    · refine j_aload_n F 0 dX8_longest_18 rfl rfl ?_
      refine j_bipush F dX8_longest_19 cB_m6 ?_
      refine j_callVi F mwX8_refuse ql_X8_74 clX8 (lt653 rfl hN) ly50 [.int (-6 : Int32)] rfl ⟨rfl, rfl, Nat.le_of_ble_eq_true rfl, Nat.le_of_ble_eq_true rfl⟩ ⟨Nat.le_refl 0, Nat.le_refl 0⟩ rfl (Nat.le_of_ble_eq_true rfl) dX8_longest_21 (fun _ _ _ h9 => kX8_refuse l hN  h9) h (fun v2 t2 a2 e2 h => ?_)
      exact j_ireturn F rfl dX8_longest_24 h
  · refine j_aload_n F 0 dX8_longest_5 rfl rfl ?_
    refine j_bipush F dX8_longest_6 cB_m4 ?_
    refine j_callVi F mwX8_refuse ql_X8_74 clX8 (lt653 rfl hN) ly50 [.int (-4 : Int32)] rfl ⟨rfl, rfl, Nat.le_of_ble_eq_true rfl, Nat.le_of_ble_eq_true rfl⟩ ⟨Nat.le_refl 0, Nat.le_refl 0⟩ rfl (Nat.le_of_ble_eq_true rfl) dX8_longest_8 (fun _ _ _ h9 => kX8_refuse l hN  h9) h (fun v3 t3 a3 e3 h => ?_)
    exact j_ireturn F rfl dX8_longest_11 h
def fX8_must (nF : Nat) (x1 : Int32) (t : sT) (a : sA) : Rs := cal (fX8_sees nF x1 t a) (fun v1 t1 a1 => if v1 = 0 then (zok v1 (some (v1, va_up t1 3221 ((t1 3221) + (0 : Int32)), a1))) else (zok v1 (some (v1, va_up t1 3221 ((t1 3221) + (1 : Int32)), a1))))
set_option maxRecDepth 100000 in
set_option maxHeartbeats 4000000 in
theorem kX8_must (l : Launch) {x : Cx} {N : Nat} {u0 v0 : Option Nat} {nF : Nat} {x1 : Int32} {t : sT} {a : sA} {rv : Int32} {rt : sT} {ra : sA} (hN : 653 ≤ N) (h : fX8_must nF x1 t a = some (rv, rt, ra)) : Met l yX8_must [.code yX8_must cX8_must 3 (some .boolean)] (k2_rm 1 21) (Pre x N (rho u0 v0) t a [.ref (cz x + 50), .int x1]) (PostI x N (rho u0 v0) rt ra rv) 0 0 (cA x) := by
  refine j_entry (by decide) rfl (Nat.le_of_ble_eq_true rfl) ?_
  intro p e s m below meth c F hsz hnm
  have F : Fx p s m meth c cX8_must 3 RX8 (some .boolean) x := F
  unfold fX8_must at h
  show J p l e _ s m _ below meth c x N (rho u0 v0) 3 0 0 _ 0 [(0, .ref (cz x + 50)), (1, .int x1)] [] t a
  refine j_aload_n F 0 dX8_must_0 rfl rfl ?_
  refine j_iload_n F 1 dX8_must_1 rfl rfl ?_
  refine j_callVi F mwX8_sees ql_X8_88 clX8 (lt653 rfl hN) ly50 [.int x1] rfl ⟨rfl, rfl, Nat.le_of_ble_eq_true rfl, Nat.le_of_ble_eq_true rfl⟩ ⟨Nat.le_refl 0, Nat.le_refl 0⟩ rfl (Nat.le_of_ble_eq_true rfl) dX8_must_2 (fun _ _ _ h9 => kX8_sees l hN  h9) h (fun v1 t1 a1 e1 h => ?_)
  refine j_istore_n F (lv' := [(2, .int v1), (0, .ref (cz x + 50)), (1, .int x1)]) dX8_must_5 rfl (Nat.le_of_ble_eq_true rfl) rfl ?_
  refine j_aload_n F 1 dX8_must_6 rfl rfl ?_
  refine j_dup F dX8_must_7 rfl ?_
  refine j_getI F clX8 (j := 21) (tt := 3221) (lt653 rfl hN) ly50 (Nat.le_of_ble_eq_true rfl) rfl qf_X8_81 rfl dX8_must_8 ?_
  refine j_iload_n F 0 dX8_must_11 rfl rfl ?_
  refine j_if_eq F 19 dX8_must_12 rfl h (fun h => ?_) (fun h => ?_)
  · refine j_iconst F dX8_must_19 cI_0 ?_
    refine j_iadd F dX8_must_20 ?_
    refine j_putI F clX8 (j := 21) (tt := 3221) (lt653 rfl hN) ly50 (Nat.le_of_ble_eq_true rfl) rfl qf_X8_81 rfl rfl rfl dX8_must_21 ?_
    refine j_iload_n F 0 dX8_must_24 rfl rfl ?_
    exact j_zreturn F rfl dX8_must_25 h
  · refine j_iconst F dX8_must_15 cI_1 ?_
    refine j_goto F 20 dX8_must_16 rfl ?_
    refine j_iadd F dX8_must_20 ?_
    refine j_putI F clX8 (j := 21) (tt := 3221) (lt653 rfl hN) ly50 (Nat.le_of_ble_eq_true rfl) rfl qf_X8_81 rfl rfl rfl dX8_must_21 ?_
    refine j_iload_n F 0 dX8_must_24 rfl rfl ?_
    exact j_zreturn F rfl dX8_must_25 h
def gX2_sense_6 (nF : Nat) (k0 : Nat) (k1 : Nat) (r6 : Int32 → Int32 → sT → sA → Rs) (x2 x3 : Int32) (t : sT) (a : sA) : Rs := if (t (64 * k0 + 1)) ≤ x3 then (some (x2, t, a)) else (if (6 : Int32) ≤ x3 then (some (x2, t, a)) else (bnd x3 6 (cal (fX6_grown nF k1 x2 (a (k0 + 1) x3.toNatClampNeg) t a) (fun v1 t1 a1 => r6 v1 (x3 + (1 : Int32)) t1 a1))))
def gX2_sense (nF : Nat) (k0 : Nat) (k1 : Nat) : Nat → (Int32 → Int32 → sT → sA → Rs)
  | 0 => (fun _ _ _ _ => none)
  | n9 + 1 => (gX2_sense_6 nF k0 k1 (gX2_sense nF k0 k1 n9))
def fX2_sense (nF : Nat) (k0 : Nat) (k1 : Nat) (t : sT) (a : sA) : Rs := (gX2_sense nF k0 k1 nF) (255 : Int32) (0 : Int32) t a
set_option maxRecDepth 100000 in
set_option maxHeartbeats 4000000 in
theorem hX2_sense {p : Program} {l : Launch} {e : Env} {s : State} {m : MethodId} {args : Array Value} {below : List Frame} {meth : Method} {c : Code} {x : Cx} {N : Nat} {u0 v0 : Option Nat} {nF : Nat} {k0 : Nat} {k1 : Nat} (F : Fx p s m meth c cX2_sense 4 RX2 (some .int) x) (hsz : s.heap.size = cz x + N) (hN : 653 ≤ N) (hk0 : isRw k0) (hk1 : isTg k1) {rv : Int32} {rt : sT} {ra : sA} : ∀ n9 : Nat, (∀ (x2 x3 : Int32) (t : sT) (a : sA), (gX2_sense nF k0 k1 n9) x2 x3 t a = some (rv, rt, ra) → J p l e (k2_rm 3 69) s m args below meth c x N (rho u0 v0) 4 0 0 (MQ below (PostI x N (rho u0 v0) rt ra rv) args s 0 0 (cA x)) 6 [(0, .ref (cz x + k0)), (1, .ref (cz x + k1)), (2, .int x2), (3, .int x3)] [] t a) := by
  intro n9
  induction n9 with
  | zero => exact fun _ _ _ _ h => (by cases h)
  | succ n9 ih =>
    intro x2 x3 t a h
    have h : gX2_sense_6 nF k0 k1 (gX2_sense nF k0 k1 n9) x2 x3 t a = some (rv, rt, ra) := h
    unfold gX2_sense_6 at h
    refine j_iload_n F 3 dX2_sense_6 rfl rfl ?_
    refine j_aload_n F 0 dX2_sense_7 rfl rfl ?_
    refine j_getI F clX2 (j := 1) (tt := (64 * k0 + 1)) (Rw_lt hk0 hN) (Rw_l hk0) (Nat.le_of_ble_eq_true rfl) rfl qf_X2_15 rfl dX2_sense_8 ?_
    refine j_icmp_ge F 38 dX2_sense_11 rfl h (fun h => ?_) (fun h => ?_)
    · refine j_iload_n F 2 dX2_sense_38 rfl rfl ?_
      exact j_ireturn F rfl dX2_sense_39 h
    · refine j_iload_n F 3 dX2_sense_14 rfl rfl ?_
      refine j_bipush F dX2_sense_15 cB_6 ?_
      refine j_icmp_ge F 38 dX2_sense_17 rfl h (fun h => ?_) (fun h => ?_)
      · refine j_iload_n F 2 dX2_sense_38 rfl rfl ?_
        exact j_ireturn F rfl dX2_sense_39 h
      · refine j_aload_n F 1 dX2_sense_20 rfl rfl ?_
        refine j_iload_n F 2 dX2_sense_21 rfl rfl ?_
        refine j_aload_n F 0 dX2_sense_22 rfl rfl ?_
        refine j_getR F clX2 (j := 0) (Rw_lt hk0 hN) (Rw_l hk0) (Nat.le_of_ble_eq_true rfl) rfl qf_X2_9 (Rw_r0 hk0) dX2_sense_23 ?_
        refine j_iload_n F 3 dX2_sense_26 rfl rfl ?_
        refine j_iald F (Rw_lt1 hk0 hN) (Rw_l1 hk0) dX2_sense_27 h (fun h => ?_)
        refine j_callVi F mwX6_grown ql_X2_21 clX6 (Tg_lt hk1 hN) (Tg_l hk1) [.int x2, .int (a (k0 + 1) x3.toNatClampNeg)] rfl ⟨rfl, rfl, Nat.le_of_ble_eq_true rfl, Nat.le_of_ble_eq_true rfl⟩ ⟨Nat.le_refl 0, Nat.le_refl 0⟩ rfl (Nat.le_of_ble_eq_true rfl) dX2_sense_28 (fun _ _ _ h9 => kX6_grown l hN hk1 h9) h (fun v1 t1 a1 e1 h => ?_)
        refine j_istore_n F (lv' := [(2, .int v1), (0, .ref (cz x + k0)), (1, .ref (cz x + k1)), (3, .int x3)]) dX2_sense_31 rfl (Nat.le_of_ble_eq_true rfl) rfl ?_
        refine j_iinc F (v := x3 + (1 : Int32)) (lv' := [(3, .int (x3 + (1 : Int32))), (2, .int v1), (0, .ref (cz x + k0)), (1, .ref (cz x + k1))]) dX2_sense_32 3 rfl (congrArg (fun z => x3 + z) cI_1) (Nat.le_of_ble_eq_true rfl) rfl ?_
        refine j_goto F 6 dX2_sense_35 rfl ?_
        exact j_lv [2, 3, 1, 0] rfl (ih _ _ _ _ h)
set_option maxRecDepth 100000 in
set_option maxHeartbeats 4000000 in
theorem kX2_sense (l : Launch) {x : Cx} {N : Nat} {u0 v0 : Option Nat} {nF : Nat} {k0 : Nat} {k1 : Nat} {t : sT} {a : sA} {rv : Int32} {rt : sT} {ra : sA} (hN : 653 ≤ N) (hk0 : isRw k0) (hk1 : isTg k1) (h : fX2_sense nF k0 k1 t a = some (rv, rt, ra)) : Met l yX2_sense [.code yX2_sense cX2_sense 4 (some .int)] (k2_rm 3 69) (Pre x N (rho u0 v0) t a [.ref (cz x + k0), .ref (cz x + k1)]) (PostI x N (rho u0 v0) rt ra rv) 0 0 (cA x) := by
  refine j_entry (by decide) rfl (Nat.le_of_ble_eq_true rfl) ?_
  intro p e s m below meth c F hsz hnm
  have F : Fx p s m meth c cX2_sense 4 RX2 (some .int) x := F
  unfold fX2_sense at h
  show J p l e _ s m _ below meth c x N (rho u0 v0) 4 0 0 _ 0 [(0, .ref (cz x + k0)), (1, .ref (cz x + k1))] [] t a
  refine j_sipush F dX2_sense_0 cS_255 ?_
  refine j_istore_n F (lv' := [(2, .int (255 : Int32)), (0, .ref (cz x + k0)), (1, .ref (cz x + k1))]) dX2_sense_3 rfl (Nat.le_of_ble_eq_true rfl) rfl ?_
  refine j_iconst F dX2_sense_4 cI_0 ?_
  refine j_istore_n F (lv' := [(3, .int (0 : Int32)), (2, .int (255 : Int32)), (0, .ref (cz x + k0)), (1, .ref (cz x + k1))]) dX2_sense_5 rfl (Nat.le_of_ble_eq_true rfl) rfl ?_
  exact j_lv [2, 3, 1, 0] rfl ((hX2_sense F hsz hN hk0 hk1 nF) _ _ _ _ h)
def gX3_chosen_5 (nF : Nat) (k0 : Nat) (r5 : Int32 → Int32 → Int32 → Int32 → sT → sA → Rs) (x1 x2 x3 x4 : Int32) (t : sT) (a : sA) : Rs := if (t (64 * k0 + 15)) ≤ x4 then (some (x3, t, a)) else (bnd x4 585 (cal (fX3_holdsCase nF k0 (a (k0 + 7) x4.toNatClampNeg) x2 t a) (fun v1 t1 a1 => if v1 = 0 then (r5 x1 x2 x3 (x4 + (1 : Int32)) t1 a1) else (if x3 < 0 then (r5 x1 x2 (a (k0 + 7) x4.toNatClampNeg) (x4 + (1 : Int32)) t1 a1) else (cal (fX3_isLiked nF k0 x1 (a (k0 + 7) x4.toNatClampNeg) x3 t1 a1) (fun v2 t2 a2 => if v2 = 0 then (r5 x1 x2 x3 (x4 + (1 : Int32)) t2 a2) else (r5 x1 x2 (a (k0 + 7) x4.toNatClampNeg) (x4 + (1 : Int32)) t2 a2)))))))
def gX3_chosen (nF : Nat) (k0 : Nat) : Nat → (Int32 → Int32 → Int32 → Int32 → sT → sA → Rs)
  | 0 => (fun _ _ _ _ _ _ => none)
  | n9 + 1 => (gX3_chosen_5 nF k0 (gX3_chosen nF k0 n9))
def fX3_chosen (nF : Nat) (k0 : Nat) (x1 : Int32) (x2 : Int32) (t : sT) (a : sA) : Rs := (gX3_chosen nF k0 nF) x1 x2 (-1 : Int32) (0 : Int32) t a
set_option maxRecDepth 100000 in
set_option maxHeartbeats 4000000 in
theorem hX3_chosen {p : Program} {l : Launch} {e : Env} {s : State} {m : MethodId} {args : Array Value} {below : List Frame} {meth : Method} {c : Code} {x : Cx} {N : Nat} {u0 v0 : Option Nat} {nF : Nat} {k0 : Nat} (F : Fx p s m meth c cX3_chosen 6 RX3 (some .int) x) (hsz : s.heap.size = cz x + N) (hN : 653 ≤ N) (hk0 : isSy k0) {rv : Int32} {rt : sT} {ra : sA} : ∀ n9 : Nat, (∀ (x1 x2 x3 x4 : Int32) (t : sT) (a : sA), (gX3_chosen nF k0 n9) x1 x2 x3 x4 t a = some (rv, rt, ra) → J p l e (k2_rm 2 45) s m args below meth c x N (rho u0 v0) 6 0 0 (MQ below (PostI x N (rho u0 v0) rt ra rv) args s 0 0 (cA x)) 5 [(0, .ref (cz x + k0)), (1, .int x1), (2, .int x2), (3, .int x3), (4, .int x4)] [] t a) := by
  intro n9
  induction n9 with
  | zero => exact fun _ _ _ _ _ _ h => (by cases h)
  | succ n9 ih =>
    intro x1 x2 x3 x4 t a h
    have h : gX3_chosen_5 nF k0 (gX3_chosen nF k0 n9) x1 x2 x3 x4 t a = some (rv, rt, ra) := h
    unfold gX3_chosen_5 at h
    refine j_iload F 4 dX3_chosen_5 rfl ?_
    refine j_aload_n F 0 dX3_chosen_7 rfl rfl ?_
    refine j_getI F clX3 (j := 15) (tt := (64 * k0 + 15)) (Sy_lt hk0 hN) (Sy_l hk0) (Nat.le_of_ble_eq_true rfl) rfl qf_X3_66 rfl dX3_chosen_8 ?_
    refine j_icmp_ge F 57 dX3_chosen_11 rfl h (fun h => ?_) (fun h => ?_)
    · refine j_iload_n F 3 dX3_chosen_57 rfl rfl ?_
      exact j_ireturn F rfl dX3_chosen_58 h
    · refine j_aload_n F 0 dX3_chosen_14 rfl rfl ?_
      refine j_getR F clX3 (j := 8) (Sy_lt hk0 hN) (Sy_l hk0) (Nat.le_of_ble_eq_true rfl) rfl qf_X3_30 (Sy_r8 hk0) dX3_chosen_15 ?_
      refine j_iload F 4 dX3_chosen_18 rfl ?_
      refine j_iald F (Sy_lt7 hk0 hN) (Sy_l7 hk0) dX3_chosen_20 h (fun h => ?_)
      refine j_istore F (k := 0) (lv' := [(5, .int (a (k0 + 7) x4.toNatClampNeg)), (0, .ref (cz x + k0)), (1, .int x1), (2, .int x2), (3, .int x3), (4, .int x4)]) dX3_chosen_21 (Nat.le_of_ble_eq_true rfl) rfl ?_
      refine j_aload_n F 1 dX3_chosen_23 rfl rfl ?_
      refine j_iload F 0 dX3_chosen_24 rfl ?_
      refine j_iload_n F 3 dX3_chosen_26 rfl rfl ?_
      refine j_callVi F mwX3_holdsCase ql_X3_69 clX3 (Sy_lt hk0 hN) (Sy_l hk0) [.int (a (k0 + 7) x4.toNatClampNeg), .int x2] rfl ⟨rfl, rfl, Nat.le_of_ble_eq_true rfl, Nat.le_of_ble_eq_true rfl⟩ ⟨Nat.le_refl 0, Nat.le_refl 0⟩ rfl (Nat.le_of_ble_eq_true rfl) dX3_chosen_27 (fun _ _ _ h9 => kX3_holdsCase l hN hk0 h9) h (fun v1 t1 a1 e1 h => ?_)
      refine j_if_eq F 51 dX3_chosen_30 rfl h (fun h => ?_) (fun h => ?_)
      · refine j_iinc F (v := x4 + (1 : Int32)) (lv' := [(4, .int (x4 + (1 : Int32))), (5, .int (a (k0 + 7) x4.toNatClampNeg)), (0, .ref (cz x + k0)), (1, .int x1), (2, .int x2), (3, .int x3)]) dX3_chosen_51 5 rfl (congrArg (fun z => x4 + z) cI_1) (Nat.le_of_ble_eq_true rfl) rfl ?_
        refine j_goto F 5 dX3_chosen_54 rfl ?_
        exact j_lv [2, 3, 4, 5, 0] rfl (ih _ _ _ _ _ _ h)
      · refine j_iload_n F 4 dX3_chosen_33 rfl rfl ?_
        refine j_if_lt F 48 dX3_chosen_34 rfl h (fun h => ?_) (fun h => ?_)
        · refine j_iload F 0 dX3_chosen_48 rfl ?_
          refine j_istore_n F (lv' := [(3, .int (a (k0 + 7) x4.toNatClampNeg)), (5, .int (a (k0 + 7) x4.toNatClampNeg)), (0, .ref (cz x + k0)), (1, .int x1), (2, .int x2), (4, .int x4)]) dX3_chosen_50 rfl (Nat.le_of_ble_eq_true rfl) rfl ?_
          refine j_iinc F (v := x4 + (1 : Int32)) (lv' := [(4, .int (x4 + (1 : Int32))), (3, .int (a (k0 + 7) x4.toNatClampNeg)), (5, .int (a (k0 + 7) x4.toNatClampNeg)), (0, .ref (cz x + k0)), (1, .int x1), (2, .int x2)]) dX3_chosen_51 5 rfl (congrArg (fun z => x4 + z) cI_1) (Nat.le_of_ble_eq_true rfl) rfl ?_
          refine j_goto F 5 dX3_chosen_54 rfl ?_
          exact j_lv [3, 4, 5, 1, 0] rfl (ih _ _ _ _ _ _ h)
        · refine j_aload_n F 1 dX3_chosen_37 rfl rfl ?_
          refine j_iload_n F 2 dX3_chosen_38 rfl rfl ?_
          refine j_iload F 0 dX3_chosen_39 rfl ?_
          refine j_iload_n F 4 dX3_chosen_41 rfl rfl ?_
          refine j_callVi F mwX3_isLiked ql_X3_170 clX3 (Sy_lt hk0 hN) (Sy_l hk0) [.int x1, .int (a (k0 + 7) x4.toNatClampNeg), .int x3] rfl ⟨rfl, rfl, Nat.le_of_ble_eq_true rfl, Nat.le_of_ble_eq_true rfl⟩ ⟨Nat.le_refl 0, Nat.le_refl 0⟩ rfl (Nat.le_of_ble_eq_true rfl) dX3_chosen_42 (fun _ _ _ h9 => kX3_isLiked l hN hk0 h9) h (fun v2 t2 a2 e2 h => ?_)
          refine j_if_eq F 51 dX3_chosen_45 rfl h (fun h => ?_) (fun h => ?_)
          · refine j_iinc F (v := x4 + (1 : Int32)) (lv' := [(4, .int (x4 + (1 : Int32))), (5, .int (a (k0 + 7) x4.toNatClampNeg)), (0, .ref (cz x + k0)), (1, .int x1), (2, .int x2), (3, .int x3)]) dX3_chosen_51 5 rfl (congrArg (fun z => x4 + z) cI_1) (Nat.le_of_ble_eq_true rfl) rfl ?_
            refine j_goto F 5 dX3_chosen_54 rfl ?_
            exact j_lv [2, 3, 4, 5, 0] rfl (ih _ _ _ _ _ _ h)
          · refine j_iload F 0 dX3_chosen_48 rfl ?_
            refine j_istore_n F (lv' := [(3, .int (a (k0 + 7) x4.toNatClampNeg)), (5, .int (a (k0 + 7) x4.toNatClampNeg)), (0, .ref (cz x + k0)), (1, .int x1), (2, .int x2), (4, .int x4)]) dX3_chosen_50 rfl (Nat.le_of_ble_eq_true rfl) rfl ?_
            refine j_iinc F (v := x4 + (1 : Int32)) (lv' := [(4, .int (x4 + (1 : Int32))), (3, .int (a (k0 + 7) x4.toNatClampNeg)), (5, .int (a (k0 + 7) x4.toNatClampNeg)), (0, .ref (cz x + k0)), (1, .int x1), (2, .int x2)]) dX3_chosen_51 5 rfl (congrArg (fun z => x4 + z) cI_1) (Nat.le_of_ble_eq_true rfl) rfl ?_
            refine j_goto F 5 dX3_chosen_54 rfl ?_
            exact j_lv [3, 4, 5, 1, 0] rfl (ih _ _ _ _ _ _ h)
set_option maxRecDepth 100000 in
set_option maxHeartbeats 4000000 in
theorem kX3_chosen (l : Launch) {x : Cx} {N : Nat} {u0 v0 : Option Nat} {nF : Nat} {k0 : Nat} {x1 : Int32} {x2 : Int32} {t : sT} {a : sA} {rv : Int32} {rt : sT} {ra : sA} (hN : 653 ≤ N) (hk0 : isSy k0) (h : fX3_chosen nF k0 x1 x2 t a = some (rv, rt, ra)) : Met l yX3_chosen [.code yX3_chosen cX3_chosen 6 (some .int)] (k2_rm 2 45) (Pre x N (rho u0 v0) t a [.ref (cz x + k0), .int x1, .int x2]) (PostI x N (rho u0 v0) rt ra rv) 0 0 (cA x) := by
  refine j_entry (by decide) rfl (Nat.le_of_ble_eq_true rfl) ?_
  intro p e s m below meth c F hsz hnm
  have F : Fx p s m meth c cX3_chosen 6 RX3 (some .int) x := F
  unfold fX3_chosen at h
  show J p l e _ s m _ below meth c x N (rho u0 v0) 6 0 0 _ 0 [(0, .ref (cz x + k0)), (1, .int x1), (2, .int x2)] [] t a
  refine j_iconst F dX3_chosen_0 cI_m1 ?_
  refine j_istore_n F (lv' := [(3, .int (-1 : Int32)), (0, .ref (cz x + k0)), (1, .int x1), (2, .int x2)]) dX3_chosen_1 rfl (Nat.le_of_ble_eq_true rfl) rfl ?_
  refine j_iconst F dX3_chosen_2 cI_0 ?_
  refine j_istore F (k := 0) (lv' := [(4, .int (0 : Int32)), (3, .int (-1 : Int32)), (0, .ref (cz x + k0)), (1, .int x1), (2, .int x2)]) dX3_chosen_3 (Nat.le_of_ble_eq_true rfl) rfl ?_
  exact j_lv [2, 3, 4, 1, 0] rfl ((hX3_chosen F hsz hN hk0 nF) _ _ _ _ _ _ h)
def gX3_clearGroups_2 (nF : Nat) (k0 : Nat) (r2 : Int32 → sT → sA → Rs) (x1 : Int32) (t : sT) (a : sA) : Rs := if (t (64 * k0 + 14)) ≤ x1 then (some (0, va_up t (64 * k0 + 14) (0 : Int32), a)) else (bnd x1 585 (cal (fX3_keyOf nF (a (k0 + 2) x1.toNatClampNeg) t a) (fun v1 t1 a1 => bnd v1 2560 (r2 (x1 + (1 : Int32)) t1 (va_up a1 (k0 + 6) (upd (a1 (k0 + 6)) v1.toNatClampNeg (0 : Int32)))))))
def gX3_clearGroups (nF : Nat) (k0 : Nat) : Nat → (Int32 → sT → sA → Rs)
  | 0 => (fun _ _ _ => none)
  | n9 + 1 => (gX3_clearGroups_2 nF k0 (gX3_clearGroups nF k0 n9))
def fX3_clearGroups (nF : Nat) (k0 : Nat) (t : sT) (a : sA) : Rs := (gX3_clearGroups nF k0 nF) (0 : Int32) t a
set_option maxRecDepth 100000 in
set_option maxHeartbeats 4000000 in
theorem hX3_clearGroups {p : Program} {l : Launch} {e : Env} {s : State} {m : MethodId} {args : Array Value} {below : List Frame} {meth : Method} {c : Code} {x : Cx} {N : Nat} {u0 v0 : Option Nat} {nF : Nat} {k0 : Nat} (F : Fx p s m meth c cX3_clearGroups 2 RX3 none x) (hsz : s.heap.size = cz x + N) (hN : 653 ≤ N) (hk0 : isSy k0) {rv : Int32} {rt : sT} {ra : sA} : ∀ n9 : Nat, (∀ (x1 : Int32) (t : sT) (a : sA), (gX3_clearGroups nF k0 n9) x1 t a = some (rv, rt, ra) → J p l e (k2_rm 2 42) s m args below meth c x N (rho u0 v0) 2 0 0 (MQ below (PostV x N (rho u0 v0) rt ra) args s 0 0 (cA x)) 2 [(0, .ref (cz x + k0)), (1, .int x1)] [] t a) := by
  intro n9
  induction n9 with
  | zero => exact fun _ _ _ h => (by cases h)
  | succ n9 ih =>
    intro x1 t a h
    have h : gX3_clearGroups_2 nF k0 (gX3_clearGroups nF k0 n9) x1 t a = some (rv, rt, ra) := h
    unfold gX3_clearGroups_2 at h
    refine j_iload_n F 1 dX3_clearGroups_2 rfl rfl ?_
    refine j_aload_n F 0 dX3_clearGroups_3 rfl rfl ?_
    refine j_getI F clX3 (j := 14) (tt := (64 * k0 + 14)) (Sy_lt hk0 hN) (Sy_l hk0) (Nat.le_of_ble_eq_true rfl) rfl qf_X3_92 rfl dX3_clearGroups_4 ?_
    refine j_icmp_ge F 31 dX3_clearGroups_7 rfl h (fun h => ?_) (fun h => ?_)
    · refine j_aload_n F 0 dX3_clearGroups_31 rfl rfl ?_
      refine j_iconst F dX3_clearGroups_32 cI_0 ?_
      refine j_putI F clX3 (j := 14) (tt := (64 * k0 + 14)) (Sy_lt hk0 hN) (Sy_l hk0) (Nat.le_of_ble_eq_true rfl) rfl qf_X3_92 rfl rfl rfl dX3_clearGroups_33 ?_
      exact j_vreturn F rfl dX3_clearGroups_36 h
    · refine j_aload_n F 0 dX3_clearGroups_10 rfl rfl ?_
      refine j_getR F clX3 (j := 7) (Sy_lt hk0 hN) (Sy_l hk0) (Nat.le_of_ble_eq_true rfl) rfl qf_X3_27 (Sy_r7 hk0) dX3_clearGroups_11 ?_
      refine j_aload_n F 0 dX3_clearGroups_14 rfl rfl ?_
      refine j_getR F clX3 (j := 3) (Sy_lt hk0 hN) (Sy_l hk0) (Nat.le_of_ble_eq_true rfl) rfl qf_X3_15 (Sy_r3 hk0) dX3_clearGroups_15 ?_
      refine j_iload_n F 1 dX3_clearGroups_18 rfl rfl ?_
      refine j_iald F (Sy_lt2 hk0 hN) (Sy_l2 hk0) dX3_clearGroups_19 h (fun h => ?_)
      refine j_callSi F mwX3_keyOf ql_X3_148 [.int (a (k0 + 2) x1.toNatClampNeg)] rfl ⟨rfl, rfl, Nat.le_of_ble_eq_true rfl, Nat.le_of_ble_eq_true rfl⟩ ⟨Nat.le_refl 0, Nat.le_refl 0⟩ rfl (Nat.le_of_ble_eq_true rfl) dX3_clearGroups_20 (fun _ _ _ h9 => kX3_keyOf l hN  h9) h (fun v1 t1 a1 e1 h => ?_)
      refine j_iconst F dX3_clearGroups_23 cI_0 ?_
      refine j_iast F (Sy_lt6 hk0 hN) (Sy_l6 hk0) dX3_clearGroups_24 h (fun h => ?_)
      refine j_iinc F (v := x1 + (1 : Int32)) (lv' := [(1, .int (x1 + (1 : Int32))), (0, .ref (cz x + k0))]) dX3_clearGroups_25 1 rfl (congrArg (fun z => x1 + z) cI_1) (Nat.le_of_ble_eq_true rfl) rfl ?_
      refine j_goto F 2 dX3_clearGroups_28 rfl ?_
      exact j_lv [1, 0] rfl (ih _ _ _ h)
set_option maxRecDepth 100000 in
set_option maxHeartbeats 4000000 in
theorem kX3_clearGroups (l : Launch) {x : Cx} {N : Nat} {u0 v0 : Option Nat} {nF : Nat} {k0 : Nat} {t : sT} {a : sA} {rv : Int32} {rt : sT} {ra : sA} (hN : 653 ≤ N) (hk0 : isSy k0) (h : fX3_clearGroups nF k0 t a = some (rv, rt, ra)) : Met l yX3_clearGroups [.code yX3_clearGroups cX3_clearGroups 2 none] (k2_rm 2 42) (Pre x N (rho u0 v0) t a [.ref (cz x + k0)]) (PostV x N (rho u0 v0) rt ra) 0 0 (cA x) := by
  refine j_entry (by decide) rfl (Nat.le_of_ble_eq_true rfl) ?_
  intro p e s m below meth c F hsz hnm
  have F : Fx p s m meth c cX3_clearGroups 2 RX3 none x := F
  unfold fX3_clearGroups at h
  show J p l e _ s m _ below meth c x N (rho u0 v0) 2 0 0 _ 0 [(0, .ref (cz x + k0))] [] t a
  refine j_iconst F dX3_clearGroups_0 cI_0 ?_
  refine j_istore_n F (lv' := [(1, .int (0 : Int32)), (0, .ref (cz x + k0))]) dX3_clearGroups_1 rfl (Nat.le_of_ble_eq_true rfl) rfl ?_
  exact j_lv [1, 0] rfl ((hX3_clearGroups F hsz hN hk0 nF) _ _ _ h)
def gX3_findFirsts_10 (nF : Nat) (k0 : Nat) (r10 : Int32 → sT → sA → Rs) (r51 : Int32 → sT → sA → Rs) (r61 : Int32 → Int32 → sT → sA → Rs) (x1 : Int32) (t : sT) (a : sA) : Rs := if (t (64 * k0 + 13)) ≤ x1 then (dvz (if (t (64 * k0 + 12)) < (1 : Int32) then (1 : Int32) else t (64 * k0 + 12)) (r51 (((t (64 * k0 + 13)) - (1 : Int32)) / (if (t (64 * k0 + 12)) < (1 : Int32) then (1 : Int32) else t (64 * k0 + 12))) t a)) else (bnd x1 585 (cal (fX3_noteFirst nF k0 (a (k0 + 1) x1.toNatClampNeg) x1 t a) (fun v2 t2 a2 => r10 (x1 + (1 : Int32)) t2 a2)))
def gX3_findFirsts_51 (nF : Nat) (k0 : Nat) (r10 : Int32 → sT → sA → Rs) (r51 : Int32 → sT → sA → Rs) (r61 : Int32 → Int32 → sT → sA → Rs) (x1 : Int32) (t : sT) (a : sA) : Rs := if (t (64 * k0 + 13)) ≤ x1 then (zok (1 : Int32) (some (0, va_up t (64 * k0 + 16) (1 : Int32), a))) else (r61 x1 (0 : Int32) t a)
def gX3_findFirsts_61 (nF : Nat) (k0 : Nat) (r10 : Int32 → sT → sA → Rs) (r51 : Int32 → sT → sA → Rs) (r61 : Int32 → Int32 → sT → sA → Rs) (x1 x2 : Int32) (t : sT) (a : sA) : Rs := if (t (64 * k0 + 12)) ≤ x2 then (r51 (x1 + (1 : Int32)) t a) else (bnd x1 585 (cal (fX6_grown nF 3 (a (k0 + 1) x1.toNatClampNeg) x2 t a) (fun v3 t3 a3 => cal (fX3_noteFirst nF k0 v3 (((x1 * (t3 (64 * k0 + 12))) + (1 : Int32)) + x2) t3 a3) (fun v4 t4 a4 => r61 x1 (x2 + (1 : Int32)) t4 a4))))
def gX3_findFirsts (nF : Nat) (k0 : Nat) : Nat → (Int32 → sT → sA → Rs) × (Int32 → sT → sA → Rs) × (Int32 → Int32 → sT → sA → Rs)
  | 0 => (fun _ _ _ => none, fun _ _ _ => none, fun _ _ _ _ => none)
  | n9 + 1 => (gX3_findFirsts_10 nF k0 ((gX3_findFirsts nF k0 n9).1) ((gX3_findFirsts nF k0 n9).2.1) ((gX3_findFirsts nF k0 n9).2.2), gX3_findFirsts_51 nF k0 ((gX3_findFirsts nF k0 n9).1) ((gX3_findFirsts nF k0 n9).2.1) ((gX3_findFirsts nF k0 n9).2.2), gX3_findFirsts_61 nF k0 ((gX3_findFirsts nF k0 n9).1) ((gX3_findFirsts nF k0 n9).2.1) ((gX3_findFirsts nF k0 n9).2.2))
def fX3_findFirsts (nF : Nat) (k0 : Nat) (t : sT) (a : sA) : Rs := cal (fJ7_fill_53178 nF (k0 + 8) 256 (-1 : Int32) t a) (fun v1 t1 a1 => ((gX3_findFirsts nF k0 nF).1) (0 : Int32) t1 a1)
set_option maxRecDepth 100000 in
set_option maxHeartbeats 4000000 in
theorem hX3_findFirsts {p : Program} {l : Launch} {e : Env} {s : State} {m : MethodId} {args : Array Value} {below : List Frame} {meth : Method} {c : Code} {x : Cx} {N : Nat} {u0 v0 : Option Nat} {nF : Nat} {k0 : Nat} (F : Fx p s m meth c cX3_findFirsts 3 RX3 none x) (hsz : s.heap.size = cz x + N) (hN : 653 ≤ N) (hk0 : isSy k0) {rv : Int32} {rt : sT} {ra : sA} : ∀ n9 : Nat, (∀ (x1 : Int32) (t : sT) (a : sA), (gX3_findFirsts nF k0 n9).1 x1 t a = some (rv, rt, ra) → J p l e (k2_rm 3 69) s m args below meth c x N (rho u0 v0) 3 0 0 (MQ below (PostV x N (rho u0 v0) rt ra) args s 0 0 (cA x)) 10 [(0, .ref (cz x + k0)), (1, .int x1)] [] t a) ∧ (∀ (x1 : Int32) (t : sT) (a : sA), (gX3_findFirsts nF k0 n9).2.1 x1 t a = some (rv, rt, ra) → J p l e (k2_rm 3 69) s m args below meth c x N (rho u0 v0) 3 0 0 (MQ below (PostV x N (rho u0 v0) rt ra) args s 0 0 (cA x)) 51 [(0, .ref (cz x + k0)), (1, .int x1)] [] t a) ∧ (∀ (x1 x2 : Int32) (t : sT) (a : sA), (gX3_findFirsts nF k0 n9).2.2 x1 x2 t a = some (rv, rt, ra) → J p l e (k2_rm 3 69) s m args below meth c x N (rho u0 v0) 3 0 0 (MQ below (PostV x N (rho u0 v0) rt ra) args s 0 0 (cA x)) 61 [(0, .ref (cz x + k0)), (1, .int x1), (2, .int x2)] [] t a) := by
  intro n9
  induction n9 with
  | zero => exact ⟨fun _ _ _ h => (by cases h), fun _ _ _ h => (by cases h), fun _ _ _ _ h => (by cases h)⟩
  | succ n9 ih =>
    refine ⟨?_, ?_, ?_⟩
    · intro x1 t a h
      have h : gX3_findFirsts_10 nF k0 ((gX3_findFirsts nF k0 n9).1) ((gX3_findFirsts nF k0 n9).2.1) ((gX3_findFirsts nF k0 n9).2.2) x1 t a = some (rv, rt, ra) := h
      unfold gX3_findFirsts_10 at h
      refine j_iload_n F 1 dX3_findFirsts_10 rfl rfl ?_
      refine j_aload_n F 0 dX3_findFirsts_11 rfl rfl ?_
      refine j_getI F clX3 (j := 13) (tt := (64 * k0 + 13)) (Sy_lt hk0 hN) (Sy_l hk0) (Nat.le_of_ble_eq_true rfl) rfl qf_X3_137 rfl dX3_findFirsts_12 ?_
      refine j_icmp_ge F 35 dX3_findFirsts_15 rfl h (fun h => ?_) (fun h => ?_)
      · refine j_aload_n F 0 dX3_findFirsts_35 rfl rfl ?_
        refine j_getI F clX3 (j := 13) (tt := (64 * k0 + 13)) (Sy_lt hk0 hN) (Sy_l hk0) (Nat.le_of_ble_eq_true rfl) rfl qf_X3_137 rfl dX3_findFirsts_36 ?_
        refine j_iconst F dX3_findFirsts_39 cI_1 ?_
        refine j_isub F dX3_findFirsts_40 ?_
        refine j_aload_n F 0 dX3_findFirsts_41 rfl rfl ?_
        refine j_getI F clX3 (j := 12) (tt := (64 * k0 + 12)) (Sy_lt hk0 hN) (Sy_l hk0) (Nat.le_of_ble_eq_true rfl) rfl qf_X3_114 rfl dX3_findFirsts_42 ?_
        refine j_iconst F dX3_findFirsts_45 cI_1 ?_
        refine j_max F ql_X3_160 (Nat.le_of_ble_eq_true rfl) (Nat.le_of_ble_eq_true rfl) (Nat.le_refl 0) (Nat.le_refl 0) dX3_findFirsts_46 ?_
        refine j_idiv F dX3_findFirsts_49 h (fun h => ?_)
        refine j_istore_n F (lv' := [(1, .int (((t (64 * k0 + 13)) - (1 : Int32)) / (if (t (64 * k0 + 12)) < (1 : Int32) then (1 : Int32) else t (64 * k0 + 12)))), (0, .ref (cz x + k0))]) dX3_findFirsts_50 rfl (Nat.le_of_ble_eq_true rfl) rfl ?_
        exact j_lv [1, 0] rfl (ih.2.1 _ _ _ h)
      · refine j_aload_n F 0 dX3_findFirsts_18 rfl rfl ?_
        refine j_aload_n F 0 dX3_findFirsts_19 rfl rfl ?_
        refine j_getR F clX3 (j := 2) (Sy_lt hk0 hN) (Sy_l hk0) (Nat.le_of_ble_eq_true rfl) rfl qf_X3_11 (Sy_r2 hk0) dX3_findFirsts_20 ?_
        refine j_iload_n F 1 dX3_findFirsts_23 rfl rfl ?_
        refine j_iald F (Sy_lt1 hk0 hN) (Sy_l1 hk0) dX3_findFirsts_24 h (fun h => ?_)
        refine j_iload_n F 1 dX3_findFirsts_25 rfl rfl ?_
        refine j_callVv F mwX3_noteFirst ql_X3_157 clX3 (Sy_lt hk0 hN) (Sy_l hk0) [.int (a (k0 + 1) x1.toNatClampNeg), .int x1] rfl ⟨rfl, rfl, Nat.le_of_ble_eq_true rfl, Nat.le_of_ble_eq_true rfl⟩ ⟨Nat.le_refl 0, Nat.le_refl 0⟩ rfl (Nat.le_of_ble_eq_true rfl) dX3_findFirsts_26 (fun _ _ _ h9 => kX3_noteFirst l hN hk0 h9) h (fun v2 t2 a2 e2 h => ?_)
        refine j_iinc F (v := x1 + (1 : Int32)) (lv' := [(1, .int (x1 + (1 : Int32))), (0, .ref (cz x + k0))]) dX3_findFirsts_29 1 rfl (congrArg (fun z => x1 + z) cI_1) (Nat.le_of_ble_eq_true rfl) rfl ?_
        refine j_goto F 10 dX3_findFirsts_32 rfl ?_
        exact j_lv [1, 0] rfl (ih.1 _ _ _ h)
    · intro x1 t a h
      have h : gX3_findFirsts_51 nF k0 ((gX3_findFirsts nF k0 n9).1) ((gX3_findFirsts nF k0 n9).2.1) ((gX3_findFirsts nF k0 n9).2.2) x1 t a = some (rv, rt, ra) := h
      unfold gX3_findFirsts_51 at h
      refine j_iload_n F 1 dX3_findFirsts_51 rfl rfl ?_
      refine j_aload_n F 0 dX3_findFirsts_52 rfl rfl ?_
      refine j_getI F clX3 (j := 13) (tt := (64 * k0 + 13)) (Sy_lt hk0 hN) (Sy_l hk0) (Nat.le_of_ble_eq_true rfl) rfl qf_X3_137 rfl dX3_findFirsts_53 ?_
      refine j_icmp_ge F 109 dX3_findFirsts_56 rfl h (fun h => ?_) (fun h => ?_)
      · refine j_aload_n F 0 dX3_findFirsts_109 rfl rfl ?_
        refine j_iconst F dX3_findFirsts_110 cI_1 ?_
        refine j_putZ F clX3 (j := 16) (tt := (64 * k0 + 16)) (Sy_lt hk0 hN) (Sy_l hk0) (Nat.le_of_ble_eq_true rfl) rfl qf_X3_99 rfl rfl rfl dX3_findFirsts_111 h (fun h => ?_)
        exact j_vreturn F rfl dX3_findFirsts_114 h
      · refine j_iconst F dX3_findFirsts_59 cI_0 ?_
        refine j_istore_n F (lv' := [(2, .int (0 : Int32)), (0, .ref (cz x + k0)), (1, .int x1)]) dX3_findFirsts_60 rfl (Nat.le_of_ble_eq_true rfl) rfl ?_
        exact j_lv [1, 2, 0] rfl (ih.2.2 _ _ _ _ h)
    · intro x1 x2 t a h
      have h : gX3_findFirsts_61 nF k0 ((gX3_findFirsts nF k0 n9).1) ((gX3_findFirsts nF k0 n9).2.1) ((gX3_findFirsts nF k0 n9).2.2) x1 x2 t a = some (rv, rt, ra) := h
      unfold gX3_findFirsts_61 at h
      refine j_iload_n F 2 dX3_findFirsts_61 rfl rfl ?_
      refine j_aload_n F 0 dX3_findFirsts_62 rfl rfl ?_
      refine j_getI F clX3 (j := 12) (tt := (64 * k0 + 12)) (Sy_lt hk0 hN) (Sy_l hk0) (Nat.le_of_ble_eq_true rfl) rfl qf_X3_114 rfl dX3_findFirsts_63 ?_
      refine j_icmp_ge F 103 dX3_findFirsts_66 rfl h (fun h => ?_) (fun h => ?_)
      · refine j_iinc F (v := x1 + (1 : Int32)) (lv' := [(1, .int (x1 + (1 : Int32))), (0, .ref (cz x + k0)), (2, .int x2)]) dX3_findFirsts_103 1 rfl (congrArg (fun z => x1 + z) cI_1) (Nat.le_of_ble_eq_true rfl) rfl ?_
        refine j_goto F 51 dX3_findFirsts_106 rfl ?_
        exact j_lv [1, 0] rfl (ih.2.1 _ _ _ h)
      · refine j_aload_n F 0 dX3_findFirsts_69 rfl rfl ?_
        refine j_aload_n F 0 dX3_findFirsts_70 rfl rfl ?_
        refine j_getR F clX3 (j := 0) (Sy_lt hk0 hN) (Sy_l hk0) (Nat.le_of_ble_eq_true rfl) rfl qf_X3_42 (Sy_r0 hk0) dX3_findFirsts_71 ?_
        refine j_aload_n F 0 dX3_findFirsts_74 rfl rfl ?_
        refine j_getR F clX3 (j := 2) (Sy_lt hk0 hN) (Sy_l hk0) (Nat.le_of_ble_eq_true rfl) rfl qf_X3_11 (Sy_r2 hk0) dX3_findFirsts_75 ?_
        refine j_iload_n F 1 dX3_findFirsts_78 rfl rfl ?_
        refine j_iald F (Sy_lt1 hk0 hN) (Sy_l1 hk0) dX3_findFirsts_79 h (fun h => ?_)
        refine j_iload_n F 2 dX3_findFirsts_80 rfl rfl ?_
        refine j_callVi F mwX6_grown ql_X3_134 clX6 (lt653 rfl hN) ly3 [.int (a (k0 + 1) x1.toNatClampNeg), .int x2] rfl ⟨rfl, rfl, Nat.le_of_ble_eq_true rfl, Nat.le_of_ble_eq_true rfl⟩ ⟨Nat.le_refl 0, Nat.le_refl 0⟩ rfl (Nat.le_of_ble_eq_true rfl) dX3_findFirsts_81 (fun _ _ _ h9 => kX6_grown l hN tg3 h9) h (fun v3 t3 a3 e3 h => ?_)
        refine j_iload_n F 1 dX3_findFirsts_84 rfl rfl ?_
        refine j_aload_n F 0 dX3_findFirsts_85 rfl rfl ?_
        refine j_getI F clX3 (j := 12) (tt := (64 * k0 + 12)) (Sy_lt hk0 hN) (Sy_l hk0) (Nat.le_of_ble_eq_true rfl) rfl qf_X3_114 rfl dX3_findFirsts_86 ?_
        refine j_imul F dX3_findFirsts_89 ?_
        refine j_iconst F dX3_findFirsts_90 cI_1 ?_
        refine j_iadd F dX3_findFirsts_91 ?_
        refine j_iload_n F 2 dX3_findFirsts_92 rfl rfl ?_
        refine j_iadd F dX3_findFirsts_93 ?_
        refine j_callVv F mwX3_noteFirst ql_X3_157 clX3 (Sy_lt hk0 hN) (Sy_l hk0) [.int v3, .int (((x1 * (t3 (64 * k0 + 12))) + (1 : Int32)) + x2)] rfl ⟨rfl, rfl, Nat.le_of_ble_eq_true rfl, Nat.le_of_ble_eq_true rfl⟩ ⟨Nat.le_refl 0, Nat.le_refl 0⟩ rfl (Nat.le_of_ble_eq_true rfl) dX3_findFirsts_94 (fun _ _ _ h9 => kX3_noteFirst l hN hk0 h9) h (fun v4 t4 a4 e4 h => ?_)
        refine j_iinc F (v := x2 + (1 : Int32)) (lv' := [(2, .int (x2 + (1 : Int32))), (0, .ref (cz x + k0)), (1, .int x1)]) dX3_findFirsts_97 2 rfl (congrArg (fun z => x2 + z) cI_1) (Nat.le_of_ble_eq_true rfl) rfl ?_
        refine j_goto F 61 dX3_findFirsts_100 rfl ?_
        exact j_lv [1, 2, 0] rfl (ih.2.2 _ _ _ _ h)
set_option maxRecDepth 100000 in
set_option maxHeartbeats 4000000 in
theorem kX3_findFirsts (l : Launch) {x : Cx} {N : Nat} {u0 v0 : Option Nat} {nF : Nat} {k0 : Nat} {t : sT} {a : sA} {rv : Int32} {rt : sT} {ra : sA} (hN : 653 ≤ N) (hk0 : isSy k0) (h : fX3_findFirsts nF k0 t a = some (rv, rt, ra)) : Met l yX3_findFirsts [.code yX3_findFirsts cX3_findFirsts 3 none] (k2_rm 3 69) (Pre x N (rho u0 v0) t a [.ref (cz x + k0)]) (PostV x N (rho u0 v0) rt ra) 0 0 (cA x) := by
  refine j_entry (by decide) rfl (Nat.le_of_ble_eq_true rfl) ?_
  intro p e s m below meth c F hsz hnm
  have F : Fx p s m meth c cX3_findFirsts 3 RX3 none x := F
  unfold fX3_findFirsts at h
  show J p l e _ s m _ below meth c x N (rho u0 v0) 3 0 0 _ 0 [(0, .ref (cz x + k0))] [] t a
  refine j_aload_n F 0 dX3_findFirsts_0 rfl rfl ?_
  refine j_getR F clX3 (j := 9) (Sy_lt hk0 hN) (Sy_l hk0) (Nat.le_of_ble_eq_true rfl) rfl qf_X3_33 (Sy_r9 hk0) dX3_findFirsts_1 ?_
  refine j_iconst F dX3_findFirsts_4 cI_m1 ?_
  refine j_callSv F mwJ7_fill_53178 ql_X3_142 [.ref (cz x + (k0 + 8)), .int (-1 : Int32)] rfl ⟨rfl, rfl, Nat.le_of_ble_eq_true rfl, Nat.le_of_ble_eq_true rfl⟩ ⟨Nat.le_refl 0, Nat.le_refl 0⟩ rfl (Nat.le_of_ble_eq_true rfl) dX3_findFirsts_5 (fun _ _ _ h9 => kJ7_fill_53178 l hN (Sy_lt8 hk0 hN) (Sy_l8 hk0) h9) h (fun v1 t1 a1 e1 h => ?_)
  refine j_iconst F dX3_findFirsts_8 cI_0 ?_
  refine j_istore_n F (lv' := [(1, .int (0 : Int32)), (0, .ref (cz x + k0))]) dX3_findFirsts_9 rfl (Nat.le_of_ble_eq_true rfl) rfl ?_
  exact j_lv [1, 0] rfl ((hX3_findFirsts F hsz hN hk0 nF).1 _ _ _ h)
def gX3_leftUnder_24 (nF : Nat) (k0 : Nat) (r24 : Int32 → Int32 → Int32 → Int32 → sT → sA → Rs) (x2 x4 x5 x6 : Int32) (t : sT) (a : sA) : Rs := if (8 : Int32) ≤ x6 then (some (x5, t, a)) else (bnd x6 8 (if (a 6 x6.toNatClampNeg) ≤ 0 then (r24 x2 x4 x5 (x6 + (1 : Int32)) t a) else (cal (fX3_chosen nF k0 x2 x6 t a) (fun v3 t3 a3 => bnd x6 8 (if 0 ≤ v3 then (bnd v3 585 (r24 x2 x4 (x5 + ((a3 6 x6.toNatClampNeg) * (a3 (k0 + 5) v3.toNatClampNeg))) (x6 + (1 : Int32)) t3 a3)) else (r24 x2 x4 (x5 + ((a3 6 x6.toNatClampNeg) * x4)) (x6 + (1 : Int32)) t3 a3))))))
def gX3_leftUnder (nF : Nat) (k0 : Nat) : Nat → (Int32 → Int32 → Int32 → Int32 → sT → sA → Rs)
  | 0 => (fun _ _ _ _ _ _ => none)
  | n9 + 1 => (gX3_leftUnder_24 nF k0 (gX3_leftUnder nF k0 n9))
def fX3_leftUnder (nF : Nat) (k0 : Nat) (x1 : Int32) (x2 : Int32) (x3 : Int32) (t : sT) (a : sA) : Rs := cal (fX3_gather nF k0 x1 x3 t a) (fun v1 t1 a1 => cal (fX6_weightOf nF 3 (255 : Int32) t1 a1) (fun v2 t2 a2 => (gX3_leftUnder nF k0 nF) x2 v2 (0 : Int32) (0 : Int32) t2 a2))
set_option maxRecDepth 100000 in
set_option maxHeartbeats 4000000 in
theorem hX3_leftUnder {p : Program} {l : Launch} {e : Env} {s : State} {m : MethodId} {args : Array Value} {below : List Frame} {meth : Method} {c : Code} {x : Cx} {N : Nat} {u0 v0 : Option Nat} {nF : Nat} {k0 : Nat} (F : Fx p s m meth c cX3_leftUnder 8 RX3 (some .int) x) (hsz : s.heap.size = cz x + N) (hN : 653 ≤ N) (hk0 : isSy k0) {rv : Int32} {rt : sT} {ra : sA} : ∀ n9 : Nat, (∀ (x2 x4 x5 x6 : Int32) (t : sT) (a : sA), (gX3_leftUnder nF k0 n9) x2 x4 x5 x6 t a = some (rv, rt, ra) → J p l e (k2_rm 3 70) s m args below meth c x N (rho u0 v0) 8 0 0 (MQ below (PostI x N (rho u0 v0) rt ra rv) args s 0 0 (cA x)) 24 [(0, .ref (cz x + k0)), (2, .int x2), (4, .int x4), (5, .int x5), (6, .int x6)] [] t a) := by
  intro n9
  induction n9 with
  | zero => exact fun _ _ _ _ _ _ h => (by cases h)
  | succ n9 ih =>
    intro x2 x4 x5 x6 t a h
    have h : gX3_leftUnder_24 nF k0 (gX3_leftUnder nF k0 n9) x2 x4 x5 x6 t a = some (rv, rt, ra) := h
    unfold gX3_leftUnder_24 at h
    refine j_iload F 4 dX3_leftUnder_24 rfl ?_
    refine j_bipush F dX3_leftUnder_26 cB_8 ?_
    refine j_icmp_ge F 92 dX3_leftUnder_28 rfl h (fun h => ?_) (fun h => ?_)
    · refine j_iload F 3 dX3_leftUnder_92 rfl ?_
      exact j_ireturn F rfl dX3_leftUnder_94 h
    · refine j_aload_n F 0 dX3_leftUnder_31 rfl rfl ?_
      refine j_getR F clX3 (j := 0) (Sy_lt hk0 hN) (Sy_l hk0) (Nat.le_of_ble_eq_true rfl) rfl qf_X3_42 (Sy_r0 hk0) dX3_leftUnder_32 ?_
      refine j_getR F clX6 (j := 2) (lt653 rfl hN) ly3 (Nat.le_of_ble_eq_true rfl) rfl qf_X3_86 rfl dX3_leftUnder_35 ?_
      refine j_iload F 4 dX3_leftUnder_38 rfl ?_
      refine j_iald F (lt653 rfl hN) ly6 dX3_leftUnder_40 h (fun h => ?_)
      refine j_if_le F 86 dX3_leftUnder_41 rfl h (fun h => ?_) (fun h => ?_)
      · refine j_iinc F (v := x6 + (1 : Int32)) (lv' := [(6, .int (x6 + (1 : Int32))), (0, .ref (cz x + k0)), (2, .int x2), (4, .int x4), (5, .int x5)]) dX3_leftUnder_86 4 rfl (congrArg (fun z => x6 + z) cI_1) (Nat.le_of_ble_eq_true rfl) rfl ?_
        refine j_goto F 24 dX3_leftUnder_89 rfl ?_
        exact j_lv [1, 2, 3, 4, 0] rfl (ih _ _ _ _ _ _ h)
      · refine j_aload_n F 0 dX3_leftUnder_44 rfl rfl ?_
        refine j_iload_n F 1 dX3_leftUnder_45 rfl rfl ?_
        refine j_iload F 4 dX3_leftUnder_46 rfl ?_
        refine j_callVi F mwX3_chosen ql_X3_62 clX3 (Sy_lt hk0 hN) (Sy_l hk0) [.int x2, .int x6] rfl ⟨rfl, rfl, Nat.le_of_ble_eq_true rfl, Nat.le_of_ble_eq_true rfl⟩ ⟨Nat.le_refl 0, Nat.le_refl 0⟩ rfl (Nat.le_of_ble_eq_true rfl) dX3_leftUnder_48 (fun _ _ _ h9 => kX3_chosen l hN hk0 h9) h (fun v3 t3 a3 e3 h => ?_)
        refine j_istore F (k := 0) (lv' := [(7, .int v3), (0, .ref (cz x + k0)), (2, .int x2), (4, .int x4), (5, .int x5), (6, .int x6)]) dX3_leftUnder_51 (Nat.le_of_ble_eq_true rfl) rfl ?_
        refine j_iload F 4 dX3_leftUnder_53 rfl ?_
        refine j_aload_n F 1 dX3_leftUnder_55 rfl rfl ?_
        refine j_getR F clX3 (j := 0) (Sy_lt hk0 hN) (Sy_l hk0) (Nat.le_of_ble_eq_true rfl) rfl qf_X3_42 (Sy_r0 hk0) dX3_leftUnder_56 ?_
        refine j_getR F clX6 (j := 2) (lt653 rfl hN) ly3 (Nat.le_of_ble_eq_true rfl) rfl qf_X3_86 rfl dX3_leftUnder_59 ?_
        refine j_iload F 5 dX3_leftUnder_62 rfl ?_
        refine j_iald F (lt653 rfl hN) ly6 dX3_leftUnder_64 h (fun h => ?_)
        refine j_iload F 0 dX3_leftUnder_65 rfl ?_
        refine j_if_ge F 75 dX3_leftUnder_67 rfl h (fun h => ?_) (fun h => ?_)
        · refine j_aload_n F 1 dX3_leftUnder_75 rfl rfl ?_
          refine j_getR F clX3 (j := 6) (Sy_lt hk0 hN) (Sy_l hk0) (Nat.le_of_ble_eq_true rfl) rfl qf_X3_24 (Sy_r6 hk0) dX3_leftUnder_76 ?_
          refine j_iload F 0 dX3_leftUnder_79 rfl ?_
          refine j_iald F (Sy_lt5 hk0 hN) (Sy_l5 hk0) dX3_leftUnder_81 h (fun h => ?_)
          refine j_imul F dX3_leftUnder_82 ?_
          refine j_iadd F dX3_leftUnder_83 ?_
          refine j_istore F (k := 0) (lv' := [(5, .int (x5 + ((a3 6 x6.toNatClampNeg) * (a3 (k0 + 5) v3.toNatClampNeg)))), (7, .int v3), (0, .ref (cz x + k0)), (2, .int x2), (4, .int x4), (6, .int x6)]) dX3_leftUnder_84 (Nat.le_of_ble_eq_true rfl) rfl ?_
          refine j_iinc F (v := x6 + (1 : Int32)) (lv' := [(6, .int (x6 + (1 : Int32))), (5, .int (x5 + ((a3 6 x6.toNatClampNeg) * (a3 (k0 + 5) v3.toNatClampNeg)))), (7, .int v3), (0, .ref (cz x + k0)), (2, .int x2), (4, .int x4)]) dX3_leftUnder_86 5 rfl (congrArg (fun z => x6 + z) cI_1) (Nat.le_of_ble_eq_true rfl) rfl ?_
          refine j_goto F 24 dX3_leftUnder_89 rfl ?_
          exact j_lv [3, 4, 5, 1, 0] rfl (ih _ _ _ _ _ _ h)
        · refine j_iload F 3 dX3_leftUnder_70 rfl ?_
          refine j_goto F 82 dX3_leftUnder_72 rfl ?_
          refine j_imul F dX3_leftUnder_82 ?_
          refine j_iadd F dX3_leftUnder_83 ?_
          refine j_istore F (k := 0) (lv' := [(5, .int (x5 + ((a3 6 x6.toNatClampNeg) * x4))), (7, .int v3), (0, .ref (cz x + k0)), (2, .int x2), (4, .int x4), (6, .int x6)]) dX3_leftUnder_84 (Nat.le_of_ble_eq_true rfl) rfl ?_
          refine j_iinc F (v := x6 + (1 : Int32)) (lv' := [(6, .int (x6 + (1 : Int32))), (5, .int (x5 + ((a3 6 x6.toNatClampNeg) * x4))), (7, .int v3), (0, .ref (cz x + k0)), (2, .int x2), (4, .int x4)]) dX3_leftUnder_86 5 rfl (congrArg (fun z => x6 + z) cI_1) (Nat.le_of_ble_eq_true rfl) rfl ?_
          refine j_goto F 24 dX3_leftUnder_89 rfl ?_
          exact j_lv [3, 4, 5, 1, 0] rfl (ih _ _ _ _ _ _ h)
set_option maxRecDepth 100000 in
set_option maxHeartbeats 4000000 in
theorem kX3_leftUnder (l : Launch) {x : Cx} {N : Nat} {u0 v0 : Option Nat} {nF : Nat} {k0 : Nat} {x1 : Int32} {x2 : Int32} {x3 : Int32} {t : sT} {a : sA} {rv : Int32} {rt : sT} {ra : sA} (hN : 653 ≤ N) (hk0 : isSy k0) (h : fX3_leftUnder nF k0 x1 x2 x3 t a = some (rv, rt, ra)) : Met l yX3_leftUnder [.code yX3_leftUnder cX3_leftUnder 8 (some .int)] (k2_rm 3 70) (Pre x N (rho u0 v0) t a [.ref (cz x + k0), .int x1, .int x2, .int x3]) (PostI x N (rho u0 v0) rt ra rv) 0 0 (cA x) := by
  refine j_entry (by decide) rfl (Nat.le_of_ble_eq_true rfl) ?_
  intro p e s m below meth c F hsz hnm
  have F : Fx p s m meth c cX3_leftUnder 8 RX3 (some .int) x := F
  unfold fX3_leftUnder at h
  show J p l e _ s m _ below meth c x N (rho u0 v0) 8 0 0 _ 0 [(0, .ref (cz x + k0)), (1, .int x1), (2, .int x2), (3, .int x3)] [] t a
  refine j_aload_n F 0 dX3_leftUnder_0 rfl rfl ?_
  refine j_iload_n F 1 dX3_leftUnder_1 rfl rfl ?_
  refine j_iload_n F 3 dX3_leftUnder_2 rfl rfl ?_
  refine j_callVv F mwX3_gather ql_X3_58 clX3 (Sy_lt hk0 hN) (Sy_l hk0) [.int x1, .int x3] rfl ⟨rfl, rfl, Nat.le_of_ble_eq_true rfl, Nat.le_of_ble_eq_true rfl⟩ ⟨Nat.le_refl 0, Nat.le_refl 0⟩ rfl (Nat.le_of_ble_eq_true rfl) dX3_leftUnder_3 (fun _ _ _ h9 => kX3_gather l hN hk0 h9) h (fun v1 t1 a1 e1 h => ?_)
  refine j_aload_n F 0 dX3_leftUnder_6 rfl rfl ?_
  refine j_getR F clX3 (j := 0) (Sy_lt hk0 hN) (Sy_l hk0) (Nat.le_of_ble_eq_true rfl) rfl qf_X3_42 (Sy_r0 hk0) dX3_leftUnder_7 ?_
  refine j_sipush F dX3_leftUnder_10 cS_255 ?_
  refine j_callVi F mwX6_weightOf ql_X3_83 clX6 (lt653 rfl hN) ly3 [.int (255 : Int32)] rfl ⟨rfl, rfl, Nat.le_of_ble_eq_true rfl, Nat.le_of_ble_eq_true rfl⟩ ⟨Nat.le_refl 0, Nat.le_refl 0⟩ rfl (Nat.le_of_ble_eq_true rfl) dX3_leftUnder_13 (fun _ _ _ h9 => kX6_weightOf l hN tg3 h9) h (fun v2 t2 a2 e2 h => ?_)
  refine j_istore F (k := 0) (lv' := [(4, .int v2), (0, .ref (cz x + k0)), (1, .int x1), (2, .int x2), (3, .int x3)]) dX3_leftUnder_16 (Nat.le_of_ble_eq_true rfl) rfl ?_
  refine j_iconst F dX3_leftUnder_18 cI_0 ?_
  refine j_istore F (k := 0) (lv' := [(5, .int (0 : Int32)), (4, .int v2), (0, .ref (cz x + k0)), (1, .int x1), (2, .int x2), (3, .int x3)]) dX3_leftUnder_19 (Nat.le_of_ble_eq_true rfl) rfl ?_
  refine j_iconst F dX3_leftUnder_21 cI_0 ?_
  refine j_istore F (k := 0) (lv' := [(6, .int (0 : Int32)), (5, .int (0 : Int32)), (4, .int v2), (0, .ref (cz x + k0)), (1, .int x1), (2, .int x2), (3, .int x3)]) dX3_leftUnder_22 (Nat.le_of_ble_eq_true rfl) rfl ?_
  exact j_lv [3, 5, 2, 1, 0] rfl ((hX3_leftUnder F hsz hN hk0 nF) _ _ _ _ _ _ h)
def gX3_refresh_61 (nF : Nat) (k0 : Nat) (r61 : Int32 → Int32 → sT → sA → Rs) (r68 : Int32 → Int32 → Int32 → sT → sA → Rs) (r131 : Int32 → sT → sA → Rs) (x1 x2 : Int32) (t : sT) (a : sA) : Rs := if x1 ≤ x2 then (r131 (0 : Int32) (va_up t (64 * k0 + 13) ((x1 * (t (64 * k0 + 12))) + (1 : Int32))) a) else (r68 x1 x2 (0 : Int32) t a)
def gX3_refresh_68 (nF : Nat) (k0 : Nat) (r61 : Int32 → Int32 → sT → sA → Rs) (r68 : Int32 → Int32 → Int32 → sT → sA → Rs) (r131 : Int32 → sT → sA → Rs) (x1 x2 x3 : Int32) (t : sT) (a : sA) : Rs := if (t (64 * k0 + 12)) ≤ x3 then (r61 x1 (x2 + (1 : Int32)) t a) else (bnd x2 585 (cal (fX6_grown nF 3 (a (k0 + 1) x2.toNatClampNeg) x3 t a) (fun v4 t4 a4 => bnd (((x2 * (t (64 * k0 + 12))) + (1 : Int32)) + x3) 585 (r68 x1 x2 (x3 + (1 : Int32)) t4 (va_up a4 (k0 + 1) (upd (a4 (k0 + 1)) (((x2 * (t (64 * k0 + 12))) + (1 : Int32)) + x3).toNatClampNeg v4))))))
def gX3_refresh_131 (nF : Nat) (k0 : Nat) (r61 : Int32 → Int32 → sT → sA → Rs) (r68 : Int32 → Int32 → Int32 → sT → sA → Rs) (r131 : Int32 → sT → sA → Rs) (x2 : Int32) (t : sT) (a : sA) : Rs := if (t (64 * k0 + 13)) ≤ x2 then (cal (fJ7_fill_53178 nF (k0 + 10) 25 (-1 : Int32) t a) (fun v2 t2 a2 => zok (0 : Int32) (zok (1 : Int32) (some (0, va_up (va_up t2 (64 * k0 + 16) (0 : Int32)) (64 * k0 + 17) (1 : Int32), a2))))) else (cal (fX3_putInGroup nF k0 x2 t a) (fun v3 t3 a3 => r131 (x2 + (1 : Int32)) t3 a3))
def gX3_refresh (nF : Nat) (k0 : Nat) : Nat → (Int32 → Int32 → sT → sA → Rs) × (Int32 → Int32 → Int32 → sT → sA → Rs) × (Int32 → sT → sA → Rs)
  | 0 => (fun _ _ _ _ => none, fun _ _ _ _ _ => none, fun _ _ _ => none)
  | n9 + 1 => (gX3_refresh_61 nF k0 ((gX3_refresh nF k0 n9).1) ((gX3_refresh nF k0 n9).2.1) ((gX3_refresh nF k0 n9).2.2), gX3_refresh_68 nF k0 ((gX3_refresh nF k0 n9).1) ((gX3_refresh nF k0 n9).2.1) ((gX3_refresh nF k0 n9).2.2), gX3_refresh_131 nF k0 ((gX3_refresh nF k0 n9).1) ((gX3_refresh nF k0 n9).2.1) ((gX3_refresh nF k0 n9).2.2))
def fX3_refresh (nF : Nat) (k0 : Nat) (t : sT) (a : sA) : Rs := if (t (64 * k0 + 17)) = 0 then (cal (fX3_clearGroups nF k0 t a) (fun v1 t1 a1 => bnd (0 : Int32) 585 (((gX3_refresh nF k0 nF).1) (((1 : Int32) + ((va_up t1 (64 * k0 + 12) (if (8 : Int32) < ((t1 196) + (t1 (64 * k0 + 1))) then (8 : Int32) else (t1 196) + (t1 (64 * k0 + 1)))) (64 * k0 + 12))) + (((va_up t1 (64 * k0 + 12) (if (8 : Int32) < ((t1 196) + (t1 (64 * k0 + 1))) then (8 : Int32) else (t1 196) + (t1 (64 * k0 + 1)))) (64 * k0 + 12)) * ((va_up t1 (64 * k0 + 12) (if (8 : Int32) < ((t1 196) + (t1 (64 * k0 + 1))) then (8 : Int32) else (t1 196) + (t1 (64 * k0 + 1)))) (64 * k0 + 12)))) (0 : Int32) (va_up t1 (64 * k0 + 12) (if (8 : Int32) < ((t1 196) + (t1 (64 * k0 + 1))) then (8 : Int32) else (t1 196) + (t1 (64 * k0 + 1)))) (va_up a1 (k0 + 1) (upd (a1 (k0 + 1)) (0 : Int32).toNatClampNeg (255 : Int32)))))) else (some (0, t, a))
set_option maxRecDepth 100000 in
set_option maxHeartbeats 4000000 in
theorem hX3_refresh {p : Program} {l : Launch} {e : Env} {s : State} {m : MethodId} {args : Array Value} {below : List Frame} {meth : Method} {c : Code} {x : Cx} {N : Nat} {u0 v0 : Option Nat} {nF : Nat} {k0 : Nat} (F : Fx p s m meth c cX3_refresh 4 RX3 none x) (hsz : s.heap.size = cz x + N) (hN : 653 ≤ N) (hk0 : isSy k0) {rv : Int32} {rt : sT} {ra : sA} : ∀ n9 : Nat, (∀ (x1 x2 : Int32) (t : sT) (a : sA), (gX3_refresh nF k0 n9).1 x1 x2 t a = some (rv, rt, ra) → J p l e (k2_rm 3 69) s m args below meth c x N (rho u0 v0) 4 0 0 (MQ below (PostV x N (rho u0 v0) rt ra) args s 0 0 (cA x)) 61 [(0, .ref (cz x + k0)), (1, .int x1), (2, .int x2)] [] t a) ∧ (∀ (x1 x2 x3 : Int32) (t : sT) (a : sA), (gX3_refresh nF k0 n9).2.1 x1 x2 x3 t a = some (rv, rt, ra) → J p l e (k2_rm 3 69) s m args below meth c x N (rho u0 v0) 4 0 0 (MQ below (PostV x N (rho u0 v0) rt ra) args s 0 0 (cA x)) 68 [(0, .ref (cz x + k0)), (1, .int x1), (2, .int x2), (3, .int x3)] [] t a) ∧ (∀ (x2 : Int32) (t : sT) (a : sA), (gX3_refresh nF k0 n9).2.2 x2 t a = some (rv, rt, ra) → J p l e (k2_rm 3 69) s m args below meth c x N (rho u0 v0) 4 0 0 (MQ below (PostV x N (rho u0 v0) rt ra) args s 0 0 (cA x)) 131 [(0, .ref (cz x + k0)), (2, .int x2)] [] t a) := by
  intro n9
  induction n9 with
  | zero => exact ⟨fun _ _ _ _ h => (by cases h), fun _ _ _ _ _ h => (by cases h), fun _ _ _ h => (by cases h)⟩
  | succ n9 ih =>
    refine ⟨?_, ?_, ?_⟩
    · intro x1 x2 t a h
      have h : gX3_refresh_61 nF k0 ((gX3_refresh nF k0 n9).1) ((gX3_refresh nF k0 n9).2.1) ((gX3_refresh nF k0 n9).2.2) x1 x2 t a = some (rv, rt, ra) := h
      unfold gX3_refresh_61 at h
      refine j_iload_n F 2 dX3_refresh_61 rfl rfl ?_
      refine j_iload_n F 1 dX3_refresh_62 rfl rfl ?_
      refine j_icmp_ge F 117 dX3_refresh_63 rfl h (fun h => ?_) (fun h => ?_)
      · refine j_aload_n F 0 dX3_refresh_117 rfl rfl ?_
        refine j_iload_n F 1 dX3_refresh_118 rfl rfl ?_
        refine j_aload_n F 0 dX3_refresh_119 rfl rfl ?_
        refine j_getI F clX3 (j := 12) (tt := (64 * k0 + 12)) (Sy_lt hk0 hN) (Sy_l hk0) (Nat.le_of_ble_eq_true rfl) rfl qf_X3_114 rfl dX3_refresh_120 ?_
        refine j_imul F dX3_refresh_123 ?_
        refine j_iconst F dX3_refresh_124 cI_1 ?_
        refine j_iadd F dX3_refresh_125 ?_
        refine j_putI F clX3 (j := 13) (tt := (64 * k0 + 13)) (Sy_lt hk0 hN) (Sy_l hk0) (Nat.le_of_ble_eq_true rfl) rfl qf_X3_137 rfl rfl rfl dX3_refresh_126 ?_
        refine j_iconst F dX3_refresh_129 cI_0 ?_
        refine j_istore_n F (lv' := [(2, .int (0 : Int32)), (0, .ref (cz x + k0)), (1, .int x1)]) dX3_refresh_130 rfl (Nat.le_of_ble_eq_true rfl) rfl ?_
        exact j_lv [1, 0] rfl (ih.2.2 _ _ _ h)
      · refine j_iconst F dX3_refresh_66 cI_0 ?_
        refine j_istore_n F (lv' := [(3, .int (0 : Int32)), (0, .ref (cz x + k0)), (1, .int x1), (2, .int x2)]) dX3_refresh_67 rfl (Nat.le_of_ble_eq_true rfl) rfl ?_
        exact j_lv [1, 2, 3, 0] rfl (ih.2.1 _ _ _ _ _ h)
    · intro x1 x2 x3 t a h
      have h : gX3_refresh_68 nF k0 ((gX3_refresh nF k0 n9).1) ((gX3_refresh nF k0 n9).2.1) ((gX3_refresh nF k0 n9).2.2) x1 x2 x3 t a = some (rv, rt, ra) := h
      unfold gX3_refresh_68 at h
      refine j_iload_n F 3 dX3_refresh_68 rfl rfl ?_
      refine j_aload_n F 0 dX3_refresh_69 rfl rfl ?_
      refine j_getI F clX3 (j := 12) (tt := (64 * k0 + 12)) (Sy_lt hk0 hN) (Sy_l hk0) (Nat.le_of_ble_eq_true rfl) rfl qf_X3_114 rfl dX3_refresh_70 ?_
      refine j_icmp_ge F 111 dX3_refresh_73 rfl h (fun h => ?_) (fun h => ?_)
      · refine j_iinc F (v := x2 + (1 : Int32)) (lv' := [(2, .int (x2 + (1 : Int32))), (0, .ref (cz x + k0)), (1, .int x1), (3, .int x3)]) dX3_refresh_111 2 rfl (congrArg (fun z => x2 + z) cI_1) (Nat.le_of_ble_eq_true rfl) rfl ?_
        refine j_goto F 61 dX3_refresh_114 rfl ?_
        exact j_lv [1, 2, 0] rfl (ih.1 _ _ _ _ h)
      · refine j_aload_n F 0 dX3_refresh_76 rfl rfl ?_
        refine j_getR F clX3 (j := 2) (Sy_lt hk0 hN) (Sy_l hk0) (Nat.le_of_ble_eq_true rfl) rfl qf_X3_11 (Sy_r2 hk0) dX3_refresh_77 ?_
        refine j_iload_n F 2 dX3_refresh_80 rfl rfl ?_
        refine j_aload_n F 0 dX3_refresh_81 rfl rfl ?_
        refine j_getI F clX3 (j := 12) (tt := (64 * k0 + 12)) (Sy_lt hk0 hN) (Sy_l hk0) (Nat.le_of_ble_eq_true rfl) rfl qf_X3_114 rfl dX3_refresh_82 ?_
        refine j_imul F dX3_refresh_85 ?_
        refine j_iconst F dX3_refresh_86 cI_1 ?_
        refine j_iadd F dX3_refresh_87 ?_
        refine j_iload_n F 3 dX3_refresh_88 rfl rfl ?_
        refine j_iadd F dX3_refresh_89 ?_
        refine j_aload_n F 0 dX3_refresh_90 rfl rfl ?_
        refine j_getR F clX3 (j := 0) (Sy_lt hk0 hN) (Sy_l hk0) (Nat.le_of_ble_eq_true rfl) rfl qf_X3_42 (Sy_r0 hk0) dX3_refresh_91 ?_
        refine j_aload_n F 0 dX3_refresh_94 rfl rfl ?_
        refine j_getR F clX3 (j := 2) (Sy_lt hk0 hN) (Sy_l hk0) (Nat.le_of_ble_eq_true rfl) rfl qf_X3_11 (Sy_r2 hk0) dX3_refresh_95 ?_
        refine j_iload_n F 2 dX3_refresh_98 rfl rfl ?_
        refine j_iald F (Sy_lt1 hk0 hN) (Sy_l1 hk0) dX3_refresh_99 h (fun h => ?_)
        refine j_iload_n F 3 dX3_refresh_100 rfl rfl ?_
        refine j_callVi F mwX6_grown ql_X3_134 clX6 (lt653 rfl hN) ly3 [.int (a (k0 + 1) x2.toNatClampNeg), .int x3] rfl ⟨rfl, rfl, Nat.le_of_ble_eq_true rfl, Nat.le_of_ble_eq_true rfl⟩ ⟨Nat.le_refl 0, Nat.le_refl 0⟩ rfl (Nat.le_of_ble_eq_true rfl) dX3_refresh_101 (fun _ _ _ h9 => kX6_grown l hN tg3 h9) h (fun v4 t4 a4 e4 h => ?_)
        refine j_iast F (Sy_lt1 hk0 hN) (Sy_l1 hk0) dX3_refresh_104 h (fun h => ?_)
        refine j_iinc F (v := x3 + (1 : Int32)) (lv' := [(3, .int (x3 + (1 : Int32))), (0, .ref (cz x + k0)), (1, .int x1), (2, .int x2)]) dX3_refresh_105 3 rfl (congrArg (fun z => x3 + z) cI_1) (Nat.le_of_ble_eq_true rfl) rfl ?_
        refine j_goto F 68 dX3_refresh_108 rfl ?_
        exact j_lv [1, 2, 3, 0] rfl (ih.2.1 _ _ _ _ _ h)
    · intro x2 t a h
      have h : gX3_refresh_131 nF k0 ((gX3_refresh nF k0 n9).1) ((gX3_refresh nF k0 n9).2.1) ((gX3_refresh nF k0 n9).2.2) x2 t a = some (rv, rt, ra) := h
      unfold gX3_refresh_131 at h
      refine j_iload_n F 1 dX3_refresh_131 rfl rfl ?_
      refine j_aload_n F 0 dX3_refresh_132 rfl rfl ?_
      refine j_getI F clX3 (j := 13) (tt := (64 * k0 + 13)) (Sy_lt hk0 hN) (Sy_l hk0) (Nat.le_of_ble_eq_true rfl) rfl qf_X3_137 rfl dX3_refresh_133 ?_
      refine j_icmp_ge F 150 dX3_refresh_136 rfl h (fun h => ?_) (fun h => ?_)
      · refine j_aload_n F 0 dX3_refresh_150 rfl rfl ?_
        refine j_getR F clX3 (j := 11) (Sy_lt hk0 hN) (Sy_l hk0) (Nat.le_of_ble_eq_true rfl) rfl qf_X3_39 (Sy_r11 hk0) dX3_refresh_151 ?_
        refine j_iconst F dX3_refresh_154 cI_m1 ?_
        refine j_callSv F mwJ7_fill_53178 ql_X3_142 [.ref (cz x + (k0 + 10)), .int (-1 : Int32)] rfl ⟨rfl, rfl, Nat.le_of_ble_eq_true rfl, Nat.le_of_ble_eq_true rfl⟩ ⟨Nat.le_refl 0, Nat.le_refl 0⟩ rfl (Nat.le_of_ble_eq_true rfl) dX3_refresh_155 (fun _ _ _ h9 => kJ7_fill_53178 l hN (Sy_lt10 hk0 hN) (Sy_l10 hk0) h9) h (fun v2 t2 a2 e2 h => ?_)
        refine j_aload_n F 0 dX3_refresh_158 rfl rfl ?_
        refine j_iconst F dX3_refresh_159 cI_0 ?_
        refine j_putZ F clX3 (j := 16) (tt := (64 * k0 + 16)) (Sy_lt hk0 hN) (Sy_l hk0) (Nat.le_of_ble_eq_true rfl) rfl qf_X3_99 rfl rfl rfl dX3_refresh_160 h (fun h => ?_)
        refine j_aload_n F 0 dX3_refresh_163 rfl rfl ?_
        refine j_iconst F dX3_refresh_164 cI_1 ?_
        refine j_putZ F clX3 (j := 17) (tt := (64 * k0 + 17)) (Sy_lt hk0 hN) (Sy_l hk0) (Nat.le_of_ble_eq_true rfl) rfl qf_X3_122 rfl rfl rfl dX3_refresh_165 h (fun h => ?_)
        exact j_vreturn F rfl dX3_refresh_168 h
      · refine j_aload_n F 0 dX3_refresh_139 rfl rfl ?_
        refine j_iload_n F 1 dX3_refresh_140 rfl rfl ?_
        refine j_callVv F mwX3_putInGroup ql_X3_138 clX3 (Sy_lt hk0 hN) (Sy_l hk0) [.int x2] rfl ⟨rfl, rfl, Nat.le_of_ble_eq_true rfl, Nat.le_of_ble_eq_true rfl⟩ ⟨Nat.le_refl 0, Nat.le_refl 0⟩ rfl (Nat.le_of_ble_eq_true rfl) dX3_refresh_141 (fun _ _ _ h9 => kX3_putInGroup l hN hk0 h9) h (fun v3 t3 a3 e3 h => ?_)
        refine j_iinc F (v := x2 + (1 : Int32)) (lv' := [(2, .int (x2 + (1 : Int32))), (0, .ref (cz x + k0))]) dX3_refresh_144 1 rfl (congrArg (fun z => x2 + z) cI_1) (Nat.le_of_ble_eq_true rfl) rfl ?_
        refine j_goto F 131 dX3_refresh_147 rfl ?_
        exact j_lv [1, 0] rfl (ih.2.2 _ _ _ h)
set_option maxRecDepth 100000 in
set_option maxHeartbeats 4000000 in
theorem kX3_refresh (l : Launch) {x : Cx} {N : Nat} {u0 v0 : Option Nat} {nF : Nat} {k0 : Nat} {t : sT} {a : sA} {rv : Int32} {rt : sT} {ra : sA} (hN : 653 ≤ N) (hk0 : isSy k0) (h : fX3_refresh nF k0 t a = some (rv, rt, ra)) : Met l yX3_refresh [.code yX3_refresh cX3_refresh 4 none] (k2_rm 3 69) (Pre x N (rho u0 v0) t a [.ref (cz x + k0)]) (PostV x N (rho u0 v0) rt ra) 0 0 (cA x) := by
  refine j_entry (by decide) rfl (Nat.le_of_ble_eq_true rfl) ?_
  intro p e s m below meth c F hsz hnm
  have F : Fx p s m meth c cX3_refresh 4 RX3 none x := F
  unfold fX3_refresh at h
  show J p l e _ s m _ below meth c x N (rho u0 v0) 4 0 0 _ 0 [(0, .ref (cz x + k0))] [] t a
  refine j_aload_n F 0 dX3_refresh_0 rfl rfl ?_
  refine j_getI F clX3 (j := 17) (tt := (64 * k0 + 17)) (Sy_lt hk0 hN) (Sy_l hk0) (Nat.le_of_ble_eq_true rfl) rfl qf_X3_122 rfl dX3_refresh_1 ?_
  refine j_if_eq F 8 dX3_refresh_4 rfl h (fun h => ?_) (fun h => ?_)
  · refine j_aload_n F 0 dX3_refresh_8 rfl rfl ?_
    refine j_callVv F mwX3_clearGroups ql_X3_125 clX3 (Sy_lt hk0 hN) (Sy_l hk0) [] rfl ⟨rfl, rfl, Nat.le_of_ble_eq_true rfl, Nat.le_of_ble_eq_true rfl⟩ ⟨Nat.le_refl 0, Nat.le_refl 0⟩ rfl (Nat.le_of_ble_eq_true rfl) dX3_refresh_9 (fun _ _ _ h9 => kX3_clearGroups l hN hk0 h9) h (fun v1 t1 a1 e1 h => ?_)
    refine j_aload_n F 0 dX3_refresh_12 rfl rfl ?_
    refine j_aload_n F 0 dX3_refresh_13 rfl rfl ?_
    refine j_getR F clX3 (j := 0) (Sy_lt hk0 hN) (Sy_l hk0) (Nat.le_of_ble_eq_true rfl) rfl qf_X3_42 (Sy_r0 hk0) dX3_refresh_14 ?_
    refine j_getI F clX6 (j := 4) (tt := 196) (lt653 rfl hN) ly3 (Nat.le_of_ble_eq_true rfl) rfl qf_X3_128 rfl dX3_refresh_17 ?_
    refine j_aload_n F 0 dX3_refresh_20 rfl rfl ?_
    refine j_getI F clX3 (j := 1) (tt := (64 * k0 + 1)) (Sy_lt hk0 hN) (Sy_l hk0) (Nat.le_of_ble_eq_true rfl) rfl qf_X3_46 rfl dX3_refresh_21 ?_
    refine j_iadd F dX3_refresh_24 ?_
    refine j_bipush F dX3_refresh_25 cB_8 ?_
    refine j_min F ql_X3_129 (Nat.le_of_ble_eq_true rfl) (Nat.le_of_ble_eq_true rfl) (Nat.le_refl 0) (Nat.le_refl 0) dX3_refresh_27 ?_
    refine j_putI F clX3 (j := 12) (tt := (64 * k0 + 12)) (Sy_lt hk0 hN) (Sy_l hk0) (Nat.le_of_ble_eq_true rfl) rfl qf_X3_114 rfl rfl rfl dX3_refresh_30 ?_
    refine j_iconst F dX3_refresh_33 cI_1 ?_
    refine j_aload_n F 0 dX3_refresh_34 rfl rfl ?_
    refine j_getI F clX3 (j := 12) (tt := (64 * k0 + 12)) (Sy_lt hk0 hN) (Sy_l hk0) (Nat.le_of_ble_eq_true rfl) rfl qf_X3_114 rfl dX3_refresh_35 ?_
    refine j_iadd F dX3_refresh_38 ?_
    refine j_aload_n F 0 dX3_refresh_39 rfl rfl ?_
    refine j_getI F clX3 (j := 12) (tt := (64 * k0 + 12)) (Sy_lt hk0 hN) (Sy_l hk0) (Nat.le_of_ble_eq_true rfl) rfl qf_X3_114 rfl dX3_refresh_40 ?_
    refine j_aload_n F 0 dX3_refresh_43 rfl rfl ?_
    refine j_getI F clX3 (j := 12) (tt := (64 * k0 + 12)) (Sy_lt hk0 hN) (Sy_l hk0) (Nat.le_of_ble_eq_true rfl) rfl qf_X3_114 rfl dX3_refresh_44 ?_
    refine j_imul F dX3_refresh_47 ?_
    refine j_iadd F dX3_refresh_48 ?_
    refine j_istore_n F (lv' := [(1, .int (((1 : Int32) + ((va_up t1 (64 * k0 + 12) (if (8 : Int32) < ((t1 196) + (t1 (64 * k0 + 1))) then (8 : Int32) else (t1 196) + (t1 (64 * k0 + 1)))) (64 * k0 + 12))) + (((va_up t1 (64 * k0 + 12) (if (8 : Int32) < ((t1 196) + (t1 (64 * k0 + 1))) then (8 : Int32) else (t1 196) + (t1 (64 * k0 + 1)))) (64 * k0 + 12)) * ((va_up t1 (64 * k0 + 12) (if (8 : Int32) < ((t1 196) + (t1 (64 * k0 + 1))) then (8 : Int32) else (t1 196) + (t1 (64 * k0 + 1)))) (64 * k0 + 12))))), (0, .ref (cz x + k0))]) dX3_refresh_49 rfl (Nat.le_of_ble_eq_true rfl) rfl ?_
    refine j_aload_n F 1 dX3_refresh_50 rfl rfl ?_
    refine j_getR F clX3 (j := 2) (Sy_lt hk0 hN) (Sy_l hk0) (Nat.le_of_ble_eq_true rfl) rfl qf_X3_11 (Sy_r2 hk0) dX3_refresh_51 ?_
    refine j_iconst F dX3_refresh_54 cI_0 ?_
    refine j_sipush F dX3_refresh_55 cS_255 ?_
    refine j_iast F (Sy_lt1 hk0 hN) (Sy_l1 hk0) dX3_refresh_58 h (fun h => ?_)
    refine j_iconst F dX3_refresh_59 cI_0 ?_
    refine j_istore_n F (lv' := [(2, .int (0 : Int32)), (1, .int (((1 : Int32) + ((va_up t1 (64 * k0 + 12) (if (8 : Int32) < ((t1 196) + (t1 (64 * k0 + 1))) then (8 : Int32) else (t1 196) + (t1 (64 * k0 + 1)))) (64 * k0 + 12))) + (((va_up t1 (64 * k0 + 12) (if (8 : Int32) < ((t1 196) + (t1 (64 * k0 + 1))) then (8 : Int32) else (t1 196) + (t1 (64 * k0 + 1)))) (64 * k0 + 12)) * ((va_up t1 (64 * k0 + 12) (if (8 : Int32) < ((t1 196) + (t1 (64 * k0 + 1))) then (8 : Int32) else (t1 196) + (t1 (64 * k0 + 1)))) (64 * k0 + 12))))), (0, .ref (cz x + k0))]) dX3_refresh_60 rfl (Nat.le_of_ble_eq_true rfl) rfl ?_
    exact j_lv [2, 1, 0] rfl ((hX3_refresh F hsz hN hk0 nF).1 _ _ _ _ h)
  · exact j_vreturn F rfl dX3_refresh_7 h
def fX7_say (nF : Nat) (t : sT) (a : sA) : Rs := cal (fX2_sense nF 13 3 t a) (fun v1 t1 a1 => if (t1 1089) ≤ 0 then (if (t1 1089) < (12 : Int32) then (cal (fX5_add nF 17 v1 (va_up t1 833 (0 : Int32)) a1) (fun v2 t2 a2 => some (t2 1089, t2, a2))) else (cal (fX7_refuse nF (-6 : Int32) t1 a1) (fun v3 t3 a3 => some (v3, t3, a3)))) else (cal (fX5_latest nF 17 t1 a1) (fun v4 t4 a4 => cal (fX7_mayFollow nF (t1 198) v1 v4 t4 a4) (fun v5 t5 a5 => if v5 = 0 then (cal (fX7_refuse nF (-3 : Int32) t5 a5) (fun v8 t8 a8 => some (v8, t8, a8))) else (if (t5 1089) < (12 : Int32) then (cal (fX5_add nF 17 v1 (va_up t5 833 (0 : Int32)) a5) (fun v6 t6 a6 => some (t6 1089, t6, a6))) else (cal (fX7_refuse nF (-6 : Int32) t5 a5) (fun v7 t7 a7 => some (v7, t7, a7))))))))
set_option maxRecDepth 100000 in
set_option maxHeartbeats 4000000 in
theorem kX7_say (l : Launch) {x : Cx} {N : Nat} {u0 v0 : Option Nat} {nF : Nat} {t : sT} {a : sA} {rv : Int32} {rt : sT} {ra : sA} (hN : 653 ≤ N) (h : fX7_say nF t a = some (rv, rt, ra)) : Met l yX7_say [.code yX7_say cX7_say 2 (some .int)] (k2_rm 4 92) (Pre x N (rho u0 v0) t a [.ref (cz x + 0)]) (PostI x N (rho u0 v0) rt ra rv) 0 0 (cA x) := by
  refine j_entry (by decide) rfl (Nat.le_of_ble_eq_true rfl) ?_
  intro p e s m below meth c F hsz hnm
  have F : Fx p s m meth c cX7_say 2 RX7 (some .int) x := F
  unfold fX7_say at h
  show J p l e _ s m _ below meth c x N (rho u0 v0) 2 0 0 _ 0 [(0, .ref (cz x + 0))] [] t a
  refine j_aload_n F 0 dX7_say_0 rfl rfl ?_
  refine j_getR F clX7 (j := 3) (lt653 rfl hN) ly0 (Nat.le_of_ble_eq_true rfl) rfl qf_X7_29 rfl dX7_say_1 ?_
  refine j_aload_n F 0 dX7_say_4 rfl rfl ?_
  refine j_getR F clX7 (j := 1) (lt653 rfl hN) ly0 (Nat.le_of_ble_eq_true rfl) rfl qf_X7_19 rfl dX7_say_5 ?_
  refine j_callVi F mwX2_sense ql_X7_152 clX2 (lt653 rfl hN) ly13 [.ref (cz x + 3)] rfl ⟨rfl, rfl, Nat.le_of_ble_eq_true rfl, Nat.le_of_ble_eq_true rfl⟩ ⟨Nat.le_refl 0, Nat.le_refl 0⟩ rfl (Nat.le_of_ble_eq_true rfl) dX7_say_8 (fun _ _ _ h9 => kX2_sense l hN rw13 tg3 h9) h (fun v1 t1 a1 e1 h => ?_)
  refine j_istore_n F (lv' := [(1, .int v1), (0, .ref (cz x + 0))]) dX7_say_11 rfl (Nat.le_of_ble_eq_true rfl) rfl ?_
  refine j_aload_n F 1 dX7_say_12 rfl rfl ?_
  refine j_getR F clX7 (j := 5) (lt653 rfl hN) ly0 (Nat.le_of_ble_eq_true rfl) rfl qf_X7_39 rfl dX7_say_13 ?_
  refine j_getI F clX5 (j := 1) (tt := 1089) (lt653 rfl hN) ly17 (Nat.le_of_ble_eq_true rfl) rfl qf_X7_203 rfl dX7_say_16 ?_
  refine j_if_le F 50 dX7_say_19 rfl h (fun h => ?_) (fun h => ?_)
  · refine j_aload_n F 1 dX7_say_50 rfl rfl ?_
    refine j_getR F clX7 (j := 5) (lt653 rfl hN) ly0 (Nat.le_of_ble_eq_true rfl) rfl qf_X7_39 rfl dX7_say_51 ?_
    refine j_getI F clX5 (j := 1) (tt := 1089) (lt653 rfl hN) ly17 (Nat.le_of_ble_eq_true rfl) rfl qf_X7_203 rfl dX7_say_54 ?_
    refine j_bipush F dX7_say_57 cB_12 ?_
    refine j_icmp_lt F 69 dX7_say_59 rfl h (fun h => ?_) (fun h => ?_)
    · refine j_aload_n F 1 dX7_say_69 rfl rfl ?_
      refine j_getR F clX7 (j := 3) (lt653 rfl hN) ly0 (Nat.le_of_ble_eq_true rfl) rfl qf_X7_29 rfl dX7_say_70 ?_
      refine j_iconst F dX7_say_73 cI_0 ?_
      refine j_putI F clX2 (j := 1) (tt := 833) (lt653 rfl hN) ly13 (Nat.le_of_ble_eq_true rfl) rfl qf_X7_190 rfl rfl rfl dX7_say_74 ?_
      refine j_aload_n F 1 dX7_say_77 rfl rfl ?_
      refine j_getR F clX7 (j := 5) (lt653 rfl hN) ly0 (Nat.le_of_ble_eq_true rfl) rfl qf_X7_39 rfl dX7_say_78 ?_
      refine j_iload_n F 0 dX7_say_81 rfl rfl ?_
      refine j_callVv F mwX5_add ql_X7_207 clX5 (lt653 rfl hN) ly17 [.int v1] rfl ⟨rfl, rfl, Nat.le_of_ble_eq_true rfl, Nat.le_of_ble_eq_true rfl⟩ ⟨Nat.le_refl 0, Nat.le_refl 0⟩ rfl (Nat.le_of_ble_eq_true rfl) dX7_say_82 (fun _ _ _ h9 => kX5_add l hN tk17 h9) h (fun v2 t2 a2 e2 h => ?_)
      refine j_aload_n F 1 dX7_say_85 rfl rfl ?_
      refine j_getR F clX7 (j := 5) (lt653 rfl hN) ly0 (Nat.le_of_ble_eq_true rfl) rfl qf_X7_39 rfl dX7_say_86 ?_
      refine j_getI F clX5 (j := 1) (tt := 1089) (lt653 rfl hN) ly17 (Nat.le_of_ble_eq_true rfl) rfl qf_X7_203 rfl dX7_say_89 ?_
      exact j_ireturn F rfl dX7_say_92 h
    · refine j_aload_n F 1 dX7_say_62 rfl rfl ?_
      refine j_bipush F dX7_say_63 cB_m6 ?_
      refine j_callVi F mwX7_refuse ql_X7_66 clX7 (lt653 rfl hN) ly0 [.int (-6 : Int32)] rfl ⟨rfl, rfl, Nat.le_of_ble_eq_true rfl, Nat.le_of_ble_eq_true rfl⟩ ⟨Nat.le_refl 0, Nat.le_refl 0⟩ rfl (Nat.le_of_ble_eq_true rfl) dX7_say_65 (fun _ _ _ h9 => kX7_refuse l hN  h9) h (fun v3 t3 a3 e3 h => ?_)
      exact j_ireturn F rfl dX7_say_68 h
  · refine j_aload_n F 1 dX7_say_22 rfl rfl ?_
    refine j_getR F clX7 (j := 1) (lt653 rfl hN) ly0 (Nat.le_of_ble_eq_true rfl) rfl qf_X7_19 rfl dX7_say_23 ?_
    refine j_getI F clX6 (j := 6) (tt := 198) (lt653 rfl hN) ly3 (Nat.le_of_ble_eq_true rfl) rfl qf_X7_115 rfl dX7_say_26 ?_
    refine j_iload_n F 0 dX7_say_29 rfl rfl ?_
    refine j_aload_n F 1 dX7_say_30 rfl rfl ?_
    refine j_getR F clX7 (j := 5) (lt653 rfl hN) ly0 (Nat.le_of_ble_eq_true rfl) rfl qf_X7_39 rfl dX7_say_31 ?_
    refine j_callVi F mwX5_latest ql_X7_204 clX5 (lt653 rfl hN) ly17 [] rfl ⟨rfl, rfl, Nat.le_of_ble_eq_true rfl, Nat.le_of_ble_eq_true rfl⟩ ⟨Nat.le_refl 0, Nat.le_refl 0⟩ rfl (Nat.le_of_ble_eq_true rfl) dX7_say_34 (fun _ _ _ h9 => kX5_latest l hN tk17 h9) h (fun v4 t4 a4 e4 h => ?_)
    refine j_callSi F mwX7_mayFollow ql_X7_134 [.int (t1 198), .int v1, .int v4] rfl ⟨rfl, rfl, Nat.le_of_ble_eq_true rfl, Nat.le_of_ble_eq_true rfl⟩ ⟨Nat.le_refl 0, Nat.le_refl 0⟩ rfl (Nat.le_of_ble_eq_true rfl) dX7_say_37 (fun _ _ _ h9 => kX7_mayFollow l hN  h9) h (fun v5 t5 a5 e5 h => ?_)
    refine j_if_ne F 50 dX7_say_40 rfl h (fun h => ?_) (fun h => ?_)
    · refine j_aload_n F 1 dX7_say_43 rfl rfl ?_
      refine j_bipush F dX7_say_44 cB_m3 ?_
      refine j_callVi F mwX7_refuse ql_X7_66 clX7 (lt653 rfl hN) ly0 [.int (-3 : Int32)] rfl ⟨rfl, rfl, Nat.le_of_ble_eq_true rfl, Nat.le_of_ble_eq_true rfl⟩ ⟨Nat.le_refl 0, Nat.le_refl 0⟩ rfl (Nat.le_of_ble_eq_true rfl) dX7_say_46 (fun _ _ _ h9 => kX7_refuse l hN  h9) h (fun v8 t8 a8 e8 h => ?_)
      exact j_ireturn F rfl dX7_say_49 h
    · refine j_aload_n F 1 dX7_say_50 rfl rfl ?_
      refine j_getR F clX7 (j := 5) (lt653 rfl hN) ly0 (Nat.le_of_ble_eq_true rfl) rfl qf_X7_39 rfl dX7_say_51 ?_
      refine j_getI F clX5 (j := 1) (tt := 1089) (lt653 rfl hN) ly17 (Nat.le_of_ble_eq_true rfl) rfl qf_X7_203 rfl dX7_say_54 ?_
      refine j_bipush F dX7_say_57 cB_12 ?_
      refine j_icmp_lt F 69 dX7_say_59 rfl h (fun h => ?_) (fun h => ?_)
      · refine j_aload_n F 1 dX7_say_69 rfl rfl ?_
        refine j_getR F clX7 (j := 3) (lt653 rfl hN) ly0 (Nat.le_of_ble_eq_true rfl) rfl qf_X7_29 rfl dX7_say_70 ?_
        refine j_iconst F dX7_say_73 cI_0 ?_
        refine j_putI F clX2 (j := 1) (tt := 833) (lt653 rfl hN) ly13 (Nat.le_of_ble_eq_true rfl) rfl qf_X7_190 rfl rfl rfl dX7_say_74 ?_
        refine j_aload_n F 1 dX7_say_77 rfl rfl ?_
        refine j_getR F clX7 (j := 5) (lt653 rfl hN) ly0 (Nat.le_of_ble_eq_true rfl) rfl qf_X7_39 rfl dX7_say_78 ?_
        refine j_iload_n F 0 dX7_say_81 rfl rfl ?_
        refine j_callVv F mwX5_add ql_X7_207 clX5 (lt653 rfl hN) ly17 [.int v1] rfl ⟨rfl, rfl, Nat.le_of_ble_eq_true rfl, Nat.le_of_ble_eq_true rfl⟩ ⟨Nat.le_refl 0, Nat.le_refl 0⟩ rfl (Nat.le_of_ble_eq_true rfl) dX7_say_82 (fun _ _ _ h9 => kX5_add l hN tk17 h9) h (fun v6 t6 a6 e6 h => ?_)
        refine j_aload_n F 1 dX7_say_85 rfl rfl ?_
        refine j_getR F clX7 (j := 5) (lt653 rfl hN) ly0 (Nat.le_of_ble_eq_true rfl) rfl qf_X7_39 rfl dX7_say_86 ?_
        refine j_getI F clX5 (j := 1) (tt := 1089) (lt653 rfl hN) ly17 (Nat.le_of_ble_eq_true rfl) rfl qf_X7_203 rfl dX7_say_89 ?_
        exact j_ireturn F rfl dX7_say_92 h
      · refine j_aload_n F 1 dX7_say_62 rfl rfl ?_
        refine j_bipush F dX7_say_63 cB_m6 ?_
        refine j_callVi F mwX7_refuse ql_X7_66 clX7 (lt653 rfl hN) ly0 [.int (-6 : Int32)] rfl ⟨rfl, rfl, Nat.le_of_ble_eq_true rfl, Nat.le_of_ble_eq_true rfl⟩ ⟨Nat.le_refl 0, Nat.le_refl 0⟩ rfl (Nat.le_of_ble_eq_true rfl) dX7_say_65 (fun _ _ _ h9 => kX7_refuse l hN  h9) h (fun v7 t7 a7 e7 h => ?_)
        exact j_ireturn F rfl dX7_say_68 h
def fX7_takeRow (nF : Nat) (t : sT) (a : sA) : Rs := cal (fX2_sense nF 13 3 t a) (fun v1 t1 a1 => some (v1, va_up t1 833 (0 : Int32), a1))
set_option maxRecDepth 100000 in
set_option maxHeartbeats 4000000 in
theorem kX7_takeRow (l : Launch) {x : Cx} {N : Nat} {u0 v0 : Option Nat} {nF : Nat} {t : sT} {a : sA} {rv : Int32} {rt : sT} {ra : sA} (hN : 653 ≤ N) (h : fX7_takeRow nF t a = some (rv, rt, ra)) : Met l yX7_takeRow [.code yX7_takeRow cX7_takeRow 2 (some .int)] (k2_rm 4 92) (Pre x N (rho u0 v0) t a [.ref (cz x + 0)]) (PostI x N (rho u0 v0) rt ra rv) 0 0 (cA x) := by
  refine j_entry (by decide) rfl (Nat.le_of_ble_eq_true rfl) ?_
  intro p e s m below meth c F hsz hnm
  have F : Fx p s m meth c cX7_takeRow 2 RX7 (some .int) x := F
  unfold fX7_takeRow at h
  show J p l e _ s m _ below meth c x N (rho u0 v0) 2 0 0 _ 0 [(0, .ref (cz x + 0))] [] t a
  refine j_aload_n F 0 dX7_takeRow_0 rfl rfl ?_
  refine j_getR F clX7 (j := 3) (lt653 rfl hN) ly0 (Nat.le_of_ble_eq_true rfl) rfl qf_X7_29 rfl dX7_takeRow_1 ?_
  refine j_aload_n F 0 dX7_takeRow_4 rfl rfl ?_
  refine j_getR F clX7 (j := 1) (lt653 rfl hN) ly0 (Nat.le_of_ble_eq_true rfl) rfl qf_X7_19 rfl dX7_takeRow_5 ?_
  refine j_callVi F mwX2_sense ql_X7_152 clX2 (lt653 rfl hN) ly13 [.ref (cz x + 3)] rfl ⟨rfl, rfl, Nat.le_of_ble_eq_true rfl, Nat.le_of_ble_eq_true rfl⟩ ⟨Nat.le_refl 0, Nat.le_refl 0⟩ rfl (Nat.le_of_ble_eq_true rfl) dX7_takeRow_8 (fun _ _ _ h9 => kX2_sense l hN rw13 tg3 h9) h (fun v1 t1 a1 e1 h => ?_)
  refine j_istore_n F (lv' := [(1, .int v1), (0, .ref (cz x + 0))]) dX7_takeRow_11 rfl (Nat.le_of_ble_eq_true rfl) rfl ?_
  refine j_aload_n F 1 dX7_takeRow_12 rfl rfl ?_
  refine j_getR F clX7 (j := 3) (lt653 rfl hN) ly0 (Nat.le_of_ble_eq_true rfl) rfl qf_X7_29 rfl dX7_takeRow_13 ?_
  refine j_iconst F dX7_takeRow_16 cI_0 ?_
  refine j_putI F clX2 (j := 1) (tt := 833) (lt653 rfl hN) ly13 (Nat.le_of_ble_eq_true rfl) rfl qf_X7_190 rfl rfl rfl dX7_takeRow_17 ?_
  refine j_iload_n F 0 dX7_takeRow_20 rfl rfl ?_
  exact j_ireturn F rfl dX7_takeRow_21 h
def gX8_answerOf_6 (nF : Nat) (r6 : Int32 → Int32 → Int32 → Int32 → sT → sA → Rs) (x1 x2 x3 x4 : Int32) (t : sT) (a : sA) : Rs := if (t 3227) ≤ x4 then (some (x3, t, a)) else (bnd x4 585 (if (((a 649 x4.toNatClampNeg) >>> (x2 &&& 31)) &&& (1 : Int32)) = 0 then (r6 x1 x2 x3 (x4 + (1 : Int32)) t a) else (cal (fX8_isAnswer nF x4 t a) (fun v1 t1 a1 => if v1 = 0 then (r6 x1 x2 x3 (x4 + (1 : Int32)) t1 a1) else (if x3 = (-9 : Int32) then (r6 x1 x2 x4 (x4 + (1 : Int32)) t1 a1) else (cal (fX8_isBetter nF x1 x4 x3 t1 a1) (fun v2 t2 a2 => if v2 = 0 then (r6 x1 x2 x3 (x4 + (1 : Int32)) t2 a2) else (r6 x1 x2 x4 (x4 + (1 : Int32)) t2 a2))))))))
def gX8_answerOf (nF : Nat) : Nat → (Int32 → Int32 → Int32 → Int32 → sT → sA → Rs)
  | 0 => (fun _ _ _ _ _ _ => none)
  | n9 + 1 => (gX8_answerOf_6 nF (gX8_answerOf nF n9))
def fX8_answerOf (nF : Nat) (x1 : Int32) (x2 : Int32) (t : sT) (a : sA) : Rs := (gX8_answerOf nF nF) x1 x2 (-9 : Int32) (0 : Int32) t a
set_option maxRecDepth 100000 in
set_option maxHeartbeats 4000000 in
theorem hX8_answerOf {p : Program} {l : Launch} {e : Env} {s : State} {m : MethodId} {args : Array Value} {below : List Frame} {meth : Method} {c : Code} {x : Cx} {N : Nat} {u0 v0 : Option Nat} {nF : Nat} (F : Fx p s m meth c cX8_answerOf 5 RX8 (some .int) x) (hsz : s.heap.size = cz x + N) (hN : 653 ≤ N) {rv : Int32} {rt : sT} {ra : sA} : ∀ n9 : Nat, (∀ (x1 x2 x3 x4 : Int32) (t : sT) (a : sA), (gX8_answerOf nF n9) x1 x2 x3 x4 t a = some (rv, rt, ra) → J p l e (k2_rm 2 47) s m args below meth c x N (rho u0 v0) 5 0 0 (MQ below (PostI x N (rho u0 v0) rt ra rv) args s 0 0 (cA x)) 6 [(0, .ref (cz x + 50)), (1, .int x1), (2, .int x2), (3, .int x3), (4, .int x4)] [] t a) := by
  intro n9
  induction n9 with
  | zero => exact fun _ _ _ _ _ _ h => (by cases h)
  | succ n9 ih =>
    intro x1 x2 x3 x4 t a h
    have h : gX8_answerOf_6 nF (gX8_answerOf nF n9) x1 x2 x3 x4 t a = some (rv, rt, ra) := h
    unfold gX8_answerOf_6 at h
    refine j_iload F 4 dX8_answerOf_6 rfl ?_
    refine j_aload_n F 0 dX8_answerOf_8 rfl rfl ?_
    refine j_getI F clX8 (j := 27) (tt := 3227) (lt653 rfl hN) ly50 (Nat.le_of_ble_eq_true rfl) rfl qf_X8_159 rfl dX8_answerOf_9 ?_
    refine j_icmp_ge F 68 dX8_answerOf_12 rfl h (fun h => ?_) (fun h => ?_)
    · refine j_iload_n F 3 dX8_answerOf_68 rfl rfl ?_
      exact j_ireturn F rfl dX8_answerOf_69 h
    · refine j_aload_n F 0 dX8_answerOf_15 rfl rfl ?_
      refine j_getR F clX8 (j := 25) (lt653 rfl hN) ly50 (Nat.le_of_ble_eq_true rfl) rfl qf_X8_51 rfl dX8_answerOf_16 ?_
      refine j_iload F 4 dX8_answerOf_19 rfl ?_
      refine j_iald F (lt653 rfl hN) ly649 dX8_answerOf_21 h (fun h => ?_)
      refine j_iload_n F 2 dX8_answerOf_22 rfl rfl ?_
      refine j_ishr F dX8_answerOf_23 ?_
      refine j_iconst F dX8_answerOf_24 cI_1 ?_
      refine j_iand F dX8_answerOf_25 ?_
      refine j_if_eq F 62 dX8_answerOf_26 rfl h (fun h => ?_) (fun h => ?_)
      · refine j_iinc F (v := x4 + (1 : Int32)) (lv' := [(4, .int (x4 + (1 : Int32))), (0, .ref (cz x + 50)), (1, .int x1), (2, .int x2), (3, .int x3)]) dX8_answerOf_62 4 rfl (congrArg (fun z => x4 + z) cI_1) (Nat.le_of_ble_eq_true rfl) rfl ?_
        refine j_goto F 6 dX8_answerOf_65 rfl ?_
        exact j_lv [1, 2, 3, 4, 0] rfl (ih _ _ _ _ _ _ h)
      · refine j_aload_n F 0 dX8_answerOf_29 rfl rfl ?_
        refine j_iload F 4 dX8_answerOf_30 rfl ?_
        refine j_callVi F mwX8_isAnswer ql_X8_184 clX8 (lt653 rfl hN) ly50 [.int x4] rfl ⟨rfl, rfl, Nat.le_of_ble_eq_true rfl, Nat.le_of_ble_eq_true rfl⟩ ⟨Nat.le_refl 0, Nat.le_refl 0⟩ rfl (Nat.le_of_ble_eq_true rfl) dX8_answerOf_32 (fun _ _ _ h9 => kX8_isAnswer l hN  h9) h (fun v1 t1 a1 e1 h => ?_)
        refine j_if_eq F 62 dX8_answerOf_35 rfl h (fun h => ?_) (fun h => ?_)
        · refine j_iinc F (v := x4 + (1 : Int32)) (lv' := [(4, .int (x4 + (1 : Int32))), (0, .ref (cz x + 50)), (1, .int x1), (2, .int x2), (3, .int x3)]) dX8_answerOf_62 4 rfl (congrArg (fun z => x4 + z) cI_1) (Nat.le_of_ble_eq_true rfl) rfl ?_
          refine j_goto F 6 dX8_answerOf_65 rfl ?_
          exact j_lv [1, 2, 3, 4, 0] rfl (ih _ _ _ _ _ _ h)
        · refine j_iload_n F 3 dX8_answerOf_38 rfl rfl ?_
          refine j_bipush F dX8_answerOf_39 cB_m9 ?_
          refine j_icmp_eq F 55 dX8_answerOf_41 rfl h (fun h => ?_) (fun h => ?_)
          · refine j_iload F 4 dX8_answerOf_55 rfl ?_
            refine j_goto F 61 dX8_answerOf_57 rfl ?_
            refine j_istore_n F (lv' := [(3, .int x4), (0, .ref (cz x + 50)), (1, .int x1), (2, .int x2), (4, .int x4)]) dX8_answerOf_61 rfl (Nat.le_of_ble_eq_true rfl) rfl ?_
            refine j_iinc F (v := x4 + (1 : Int32)) (lv' := [(4, .int (x4 + (1 : Int32))), (3, .int x4), (0, .ref (cz x + 50)), (1, .int x1), (2, .int x2)]) dX8_answerOf_62 4 rfl (congrArg (fun z => x4 + z) cI_1) (Nat.le_of_ble_eq_true rfl) rfl ?_
            refine j_goto F 6 dX8_answerOf_65 rfl ?_
            exact j_lv [2, 3, 4, 1, 0] rfl (ih _ _ _ _ _ _ h)
          · refine j_aload_n F 0 dX8_answerOf_44 rfl rfl ?_
            refine j_iload_n F 1 dX8_answerOf_45 rfl rfl ?_
            refine j_iload F 4 dX8_answerOf_46 rfl ?_
            refine j_iload_n F 3 dX8_answerOf_48 rfl rfl ?_
            refine j_callVi F mwX8_isBetter ql_X8_187 clX8 (lt653 rfl hN) ly50 [.int x1, .int x4, .int x3] rfl ⟨rfl, rfl, Nat.le_of_ble_eq_true rfl, Nat.le_of_ble_eq_true rfl⟩ ⟨Nat.le_refl 0, Nat.le_refl 0⟩ rfl (Nat.le_of_ble_eq_true rfl) dX8_answerOf_49 (fun _ _ _ h9 => kX8_isBetter l hN  h9) h (fun v2 t2 a2 e2 h => ?_)
            refine j_if_eq F 60 dX8_answerOf_52 rfl h (fun h => ?_) (fun h => ?_)
            · refine j_iload_n F 3 dX8_answerOf_60 rfl rfl ?_
              refine j_istore_n F (lv' := [(3, .int x3), (0, .ref (cz x + 50)), (1, .int x1), (2, .int x2), (4, .int x4)]) dX8_answerOf_61 rfl (Nat.le_of_ble_eq_true rfl) rfl ?_
              refine j_iinc F (v := x4 + (1 : Int32)) (lv' := [(4, .int (x4 + (1 : Int32))), (3, .int x3), (0, .ref (cz x + 50)), (1, .int x1), (2, .int x2)]) dX8_answerOf_62 4 rfl (congrArg (fun z => x4 + z) cI_1) (Nat.le_of_ble_eq_true rfl) rfl ?_
              refine j_goto F 6 dX8_answerOf_65 rfl ?_
              exact j_lv [2, 3, 4, 1, 0] rfl (ih _ _ _ _ _ _ h)
            · refine j_iload F 4 dX8_answerOf_55 rfl ?_
              refine j_goto F 61 dX8_answerOf_57 rfl ?_
              refine j_istore_n F (lv' := [(3, .int x4), (0, .ref (cz x + 50)), (1, .int x1), (2, .int x2), (4, .int x4)]) dX8_answerOf_61 rfl (Nat.le_of_ble_eq_true rfl) rfl ?_
              refine j_iinc F (v := x4 + (1 : Int32)) (lv' := [(4, .int (x4 + (1 : Int32))), (3, .int x4), (0, .ref (cz x + 50)), (1, .int x1), (2, .int x2)]) dX8_answerOf_62 4 rfl (congrArg (fun z => x4 + z) cI_1) (Nat.le_of_ble_eq_true rfl) rfl ?_
              refine j_goto F 6 dX8_answerOf_65 rfl ?_
              exact j_lv [2, 3, 4, 1, 0] rfl (ih _ _ _ _ _ _ h)
set_option maxRecDepth 100000 in
set_option maxHeartbeats 4000000 in
theorem kX8_answerOf (l : Launch) {x : Cx} {N : Nat} {u0 v0 : Option Nat} {nF : Nat} {x1 : Int32} {x2 : Int32} {t : sT} {a : sA} {rv : Int32} {rt : sT} {ra : sA} (hN : 653 ≤ N) (h : fX8_answerOf nF x1 x2 t a = some (rv, rt, ra)) : Met l yX8_answerOf [.code yX8_answerOf cX8_answerOf 5 (some .int)] (k2_rm 2 47) (Pre x N (rho u0 v0) t a [.ref (cz x + 50), .int x1, .int x2]) (PostI x N (rho u0 v0) rt ra rv) 0 0 (cA x) := by
  refine j_entry (by decide) rfl (Nat.le_of_ble_eq_true rfl) ?_
  intro p e s m below meth c F hsz hnm
  have F : Fx p s m meth c cX8_answerOf 5 RX8 (some .int) x := F
  unfold fX8_answerOf at h
  show J p l e _ s m _ below meth c x N (rho u0 v0) 5 0 0 _ 0 [(0, .ref (cz x + 50)), (1, .int x1), (2, .int x2)] [] t a
  refine j_bipush F dX8_answerOf_0 cB_m9 ?_
  refine j_istore_n F (lv' := [(3, .int (-9 : Int32)), (0, .ref (cz x + 50)), (1, .int x1), (2, .int x2)]) dX8_answerOf_2 rfl (Nat.le_of_ble_eq_true rfl) rfl ?_
  refine j_iconst F dX8_answerOf_3 cI_0 ?_
  refine j_istore F (k := 0) (lv' := [(4, .int (0 : Int32)), (3, .int (-9 : Int32)), (0, .ref (cz x + 50)), (1, .int x1), (2, .int x2)]) dX8_answerOf_4 (Nat.le_of_ble_eq_true rfl) rfl ?_
  exact j_lv [2, 3, 4, 1, 0] rfl ((hX8_answerOf F hsz hN nF) _ _ _ _ _ _ h)
def gX8_answers_25 (nF : Nat) (r25 : Int32 → Int32 → Int32 → sT → sA → Rs) (x1 x2 x3 : Int32) (t : sT) (a : sA) : Rs := if (t 3227) ≤ x3 then (some (x2, t, a)) else (bnd x3 585 (if (((a 649 x3.toNatClampNeg) >>> (x1 &&& 31)) &&& (1 : Int32)) = 0 then (r25 x1 (x2 + (0 : Int32)) (x3 + (1 : Int32)) t a) else (cal (fX8_isAnswer nF x3 t a) (fun v5 t5 a5 => if v5 = 0 then (r25 x1 (x2 + (0 : Int32)) (x3 + (1 : Int32)) t5 a5) else (r25 x1 (x2 + (1 : Int32)) (x3 + (1 : Int32)) t5 a5)))))
def gX8_answers (nF : Nat) : Nat → (Int32 → Int32 → Int32 → sT → sA → Rs)
  | 0 => (fun _ _ _ _ _ => none)
  | n9 + 1 => (gX8_answers_25 nF (gX8_answers nF n9))
def fX8_answers (nF : Nat) (x1 : Int32) (t : sT) (a : sA) : Rs := cal (fX8_isCase nF x1 t a) (fun v1 t1 a1 => if v1 = 0 then (cal (fX8_refuse nF (-1 : Int32) t1 a1) (fun v4 t4 a4 => some (v4, t4, a4))) else (cal (fX8_list nF t1 a1) (fun v2 t2 a2 => cal (fX8_asksRow nF t2 a2) (fun v3 t3 a3 => (gX8_answers nF nF) x1 (0 : Int32) (0 : Int32) t3 a3))))
set_option maxRecDepth 100000 in
set_option maxHeartbeats 4000000 in
theorem hX8_answers {p : Program} {l : Launch} {e : Env} {s : State} {m : MethodId} {args : Array Value} {below : List Frame} {meth : Method} {c : Code} {x : Cx} {N : Nat} {u0 v0 : Option Nat} {nF : Nat} (F : Fx p s m meth c cX8_answers 4 RX8 (some .int) x) (hsz : s.heap.size = cz x + N) (hN : 653 ≤ N) {rv : Int32} {rt : sT} {ra : sA} : ∀ n9 : Nat, (∀ (x1 x2 x3 : Int32) (t : sT) (a : sA), (gX8_answers nF n9) x1 x2 x3 t a = some (rv, rt, ra) → J p l e (k2_rm 3 77) s m args below meth c x N (rho u0 v0) 4 0 0 (MQ below (PostI x N (rho u0 v0) rt ra rv) args s 0 0 (cA x)) 25 [(0, .ref (cz x + 50)), (1, .int x1), (2, .int x2), (3, .int x3)] [] t a) := by
  intro n9
  induction n9 with
  | zero => exact fun _ _ _ _ _ h => (by cases h)
  | succ n9 ih =>
    intro x1 x2 x3 t a h
    have h : gX8_answers_25 nF (gX8_answers nF n9) x1 x2 x3 t a = some (rv, rt, ra) := h
    unfold gX8_answers_25 at h
    refine j_iload_n F 3 dX8_answers_25 rfl rfl ?_
    refine j_aload_n F 0 dX8_answers_26 rfl rfl ?_
    refine j_getI F clX8 (j := 27) (tt := 3227) (lt653 rfl hN) ly50 (Nat.le_of_ble_eq_true rfl) rfl qf_X8_159 rfl dX8_answers_27 ?_
    refine j_icmp_ge F 68 dX8_answers_30 rfl h (fun h => ?_) (fun h => ?_)
    · refine j_iload_n F 2 dX8_answers_68 rfl rfl ?_
      exact j_ireturn F rfl dX8_answers_69 h
    · refine j_iload_n F 2 dX8_answers_33 rfl rfl ?_
      refine j_aload_n F 0 dX8_answers_34 rfl rfl ?_
      refine j_getR F clX8 (j := 25) (lt653 rfl hN) ly50 (Nat.le_of_ble_eq_true rfl) rfl qf_X8_51 rfl dX8_answers_35 ?_
      refine j_iload_n F 3 dX8_answers_38 rfl rfl ?_
      refine j_iald F (lt653 rfl hN) ly649 dX8_answers_39 h (fun h => ?_)
      refine j_iload_n F 1 dX8_answers_40 rfl rfl ?_
      refine j_ishr F dX8_answers_41 ?_
      refine j_iconst F dX8_answers_42 cI_1 ?_
      refine j_iand F dX8_answers_43 ?_
      refine j_if_eq F 59 dX8_answers_44 rfl h (fun h => ?_) (fun h => ?_)
      · refine j_iconst F dX8_answers_59 cI_0 ?_
        refine j_iadd F dX8_answers_60 ?_
        refine j_istore_n F (lv' := [(2, .int (x2 + (0 : Int32))), (0, .ref (cz x + 50)), (1, .int x1), (3, .int x3)]) dX8_answers_61 rfl (Nat.le_of_ble_eq_true rfl) rfl ?_
        refine j_iinc F (v := x3 + (1 : Int32)) (lv' := [(3, .int (x3 + (1 : Int32))), (2, .int (x2 + (0 : Int32))), (0, .ref (cz x + 50)), (1, .int x1)]) dX8_answers_62 3 rfl (congrArg (fun z => x3 + z) cI_1) (Nat.le_of_ble_eq_true rfl) rfl ?_
        refine j_goto F 25 dX8_answers_65 rfl ?_
        exact j_lv [2, 3, 1, 0] rfl (ih _ _ _ _ _ h)
      · refine j_aload_n F 0 dX8_answers_47 rfl rfl ?_
        refine j_iload_n F 3 dX8_answers_48 rfl rfl ?_
        refine j_callVi F mwX8_isAnswer ql_X8_184 clX8 (lt653 rfl hN) ly50 [.int x3] rfl ⟨rfl, rfl, Nat.le_of_ble_eq_true rfl, Nat.le_of_ble_eq_true rfl⟩ ⟨Nat.le_refl 0, Nat.le_refl 0⟩ rfl (Nat.le_of_ble_eq_true rfl) dX8_answers_49 (fun _ _ _ h9 => kX8_isAnswer l hN  h9) h (fun v5 t5 a5 e5 h => ?_)
        refine j_if_eq F 59 dX8_answers_52 rfl h (fun h => ?_) (fun h => ?_)
        · refine j_iconst F dX8_answers_59 cI_0 ?_
          refine j_iadd F dX8_answers_60 ?_
          refine j_istore_n F (lv' := [(2, .int (x2 + (0 : Int32))), (0, .ref (cz x + 50)), (1, .int x1), (3, .int x3)]) dX8_answers_61 rfl (Nat.le_of_ble_eq_true rfl) rfl ?_
          refine j_iinc F (v := x3 + (1 : Int32)) (lv' := [(3, .int (x3 + (1 : Int32))), (2, .int (x2 + (0 : Int32))), (0, .ref (cz x + 50)), (1, .int x1)]) dX8_answers_62 3 rfl (congrArg (fun z => x3 + z) cI_1) (Nat.le_of_ble_eq_true rfl) rfl ?_
          refine j_goto F 25 dX8_answers_65 rfl ?_
          exact j_lv [2, 3, 1, 0] rfl (ih _ _ _ _ _ h)
        · refine j_iconst F dX8_answers_55 cI_1 ?_
          refine j_goto F 60 dX8_answers_56 rfl ?_
          refine j_iadd F dX8_answers_60 ?_
          refine j_istore_n F (lv' := [(2, .int (x2 + (1 : Int32))), (0, .ref (cz x + 50)), (1, .int x1), (3, .int x3)]) dX8_answers_61 rfl (Nat.le_of_ble_eq_true rfl) rfl ?_
          refine j_iinc F (v := x3 + (1 : Int32)) (lv' := [(3, .int (x3 + (1 : Int32))), (2, .int (x2 + (1 : Int32))), (0, .ref (cz x + 50)), (1, .int x1)]) dX8_answers_62 3 rfl (congrArg (fun z => x3 + z) cI_1) (Nat.le_of_ble_eq_true rfl) rfl ?_
          refine j_goto F 25 dX8_answers_65 rfl ?_
          exact j_lv [2, 3, 1, 0] rfl (ih _ _ _ _ _ h)
set_option maxRecDepth 100000 in
set_option maxHeartbeats 4000000 in
theorem kX8_answers (l : Launch) {x : Cx} {N : Nat} {u0 v0 : Option Nat} {nF : Nat} {x1 : Int32} {t : sT} {a : sA} {rv : Int32} {rt : sT} {ra : sA} (hN : 653 ≤ N) (h : fX8_answers nF x1 t a = some (rv, rt, ra)) : Met l yX8_answers [.code yX8_answers cX8_answers 4 (some .int)] (k2_rm 3 77) (Pre x N (rho u0 v0) t a [.ref (cz x + 50), .int x1]) (PostI x N (rho u0 v0) rt ra rv) 0 0 (cA x) := by
  refine j_entry (by decide) rfl (Nat.le_of_ble_eq_true rfl) ?_
  intro p e s m below meth c F hsz hnm
  have F : Fx p s m meth c cX8_answers 4 RX8 (some .int) x := F
  unfold fX8_answers at h
  show J p l e _ s m _ below meth c x N (rho u0 v0) 4 0 0 _ 0 [(0, .ref (cz x + 50)), (1, .int x1)] [] t a
  refine j_iload_n F 1 dX8_answers_0 rfl rfl ?_
  refine j_callSi F mwX8_isCase ql_X8_133 [.int x1] rfl ⟨rfl, rfl, Nat.le_of_ble_eq_true rfl, Nat.le_of_ble_eq_true rfl⟩ ⟨Nat.le_refl 0, Nat.le_refl 0⟩ rfl (Nat.le_of_ble_eq_true rfl) dX8_answers_1 (fun _ _ _ h9 => kX8_isCase l hN  h9) h (fun v1 t1 a1 e1 h => ?_)
  refine j_if_ne F 13 dX8_answers_4 rfl h (fun h => ?_) (fun h => ?_)
  · refine j_aload_n F 0 dX8_answers_7 rfl rfl ?_
    refine j_iconst F dX8_answers_8 cI_m1 ?_
    refine j_callVi F mwX8_refuse ql_X8_74 clX8 (lt653 rfl hN) ly50 [.int (-1 : Int32)] rfl ⟨rfl, rfl, Nat.le_of_ble_eq_true rfl, Nat.le_of_ble_eq_true rfl⟩ ⟨Nat.le_refl 0, Nat.le_refl 0⟩ rfl (Nat.le_of_ble_eq_true rfl) dX8_answers_9 (fun _ _ _ h9 => kX8_refuse l hN  h9) h (fun v4 t4 a4 e4 h => ?_)
    exact j_ireturn F rfl dX8_answers_12 h
  · refine j_aload_n F 0 dX8_answers_13 rfl rfl ?_
    refine j_callVv F mwX8_list ql_X8_193 clX8 (lt653 rfl hN) ly50 [] rfl ⟨rfl, rfl, Nat.le_of_ble_eq_true rfl, Nat.le_of_ble_eq_true rfl⟩ ⟨Nat.le_refl 0, Nat.le_refl 0⟩ rfl (Nat.le_of_ble_eq_true rfl) dX8_answers_14 (fun _ _ _ h9 => kX8_list l hN  h9) h (fun v2 t2 a2 e2 h => ?_)
    refine j_aload_n F 0 dX8_answers_17 rfl rfl ?_
    refine j_callVv F mwX8_asksRow ql_X8_196 clX8 (lt653 rfl hN) ly50 [] rfl ⟨rfl, rfl, Nat.le_of_ble_eq_true rfl, Nat.le_of_ble_eq_true rfl⟩ ⟨Nat.le_refl 0, Nat.le_refl 0⟩ rfl (Nat.le_of_ble_eq_true rfl) dX8_answers_18 (fun _ _ _ h9 => kX8_asksRow l hN  h9) h (fun v3 t3 a3 e3 h => ?_)
    refine j_iconst F dX8_answers_21 cI_0 ?_
    refine j_istore_n F (lv' := [(2, .int (0 : Int32)), (0, .ref (cz x + 50)), (1, .int x1)]) dX8_answers_22 rfl (Nat.le_of_ble_eq_true rfl) rfl ?_
    refine j_iconst F dX8_answers_23 cI_0 ?_
    refine j_istore_n F (lv' := [(3, .int (0 : Int32)), (2, .int (0 : Int32)), (0, .ref (cz x + 50)), (1, .int x1)]) dX8_answers_24 rfl (Nat.le_of_ble_eq_true rfl) rfl ?_
    exact j_lv [2, 3, 1, 0] rfl ((hX8_answers F hsz hN nF) _ _ _ _ _ h)
def gX8_forces_4 (nF : Nat) (r4 : Int32 → Int32 → Int32 → sT → sA → Rs) (r34 : Int32 → Int32 → Int32 → Int32 → Int32 → Int32 → sT → sA → Rs) (r113 : Int32 → Int32 → sT → sA → Rs) (x1 x2 x3 : Int32) (t : sT) (a : sA) : Rs := if (t 3227) ≤ x3 then (r113 x2 (0 : Int32) t a) else (cal (fX8_isAnswer nF x3 t a) (fun v1 t1 a1 => if v1 = 0 then (r4 x1 x2 (x3 + (1 : Int32)) t1 a1) else (bnd x3 585 (r34 x1 x2 x3 (a1 649 x3.toNatClampNeg) (0 : Int32) (0 : Int32) t1 a1))))
def gX8_forces_34 (nF : Nat) (r4 : Int32 → Int32 → Int32 → sT → sA → Rs) (r34 : Int32 → Int32 → Int32 → Int32 → Int32 → Int32 → sT → sA → Rs) (r113 : Int32 → Int32 → sT → sA → Rs) (x1 x2 x3 x4 x5 x6 : Int32) (t : sT) (a : sA) : Rs := if (8 : Int32) ≤ x6 then (if x5 = 0 then (r4 x1 (x2 ||| x4) (x3 + (1 : Int32)) t a) else (if (x4 &&& (x1 ^^^ (-1 : Int32))) = 0 then (r4 x1 (x2 ||| x4) (x3 + (1 : Int32)) t a) else (if (x4 &&& x1) = 0 then (r4 x1 (x2 ||| x4) (x3 + (1 : Int32)) t a) else (zok (0 : Int32) (some ((0 : Int32), t, a)))))) else (bnd x6 8 (if (a 57 x6.toNatClampNeg) ≤ 0 then (r34 x1 x2 x3 x4 (x5 ||| (0 : Int32)) (x6 + (1 : Int32)) t a) else (if ((x4 >>> (x6 &&& 31)) &&& (1 : Int32)) = 0 then (r34 x1 x2 x3 x4 (x5 ||| (0 : Int32)) (x6 + (1 : Int32)) t a) else (r34 x1 x2 x3 x4 (x5 ||| (1 : Int32)) (x6 + (1 : Int32)) t a))))
def gX8_forces_113 (nF : Nat) (r4 : Int32 → Int32 → Int32 → sT → sA → Rs) (r34 : Int32 → Int32 → Int32 → Int32 → Int32 → Int32 → sT → sA → Rs) (r113 : Int32 → Int32 → sT → sA → Rs) (x2 x3 : Int32) (t : sT) (a : sA) : Rs := if (8 : Int32) ≤ x3 then (zok (1 : Int32) (some ((1 : Int32), t, a))) else (bnd x3 8 (if (a 57 x3.toNatClampNeg) ≤ 0 then (r113 x2 (x3 + (1 : Int32)) t a) else (if ((x2 >>> (x3 &&& 31)) &&& (1 : Int32)) = 0 then (zok (0 : Int32) (some ((0 : Int32), t, a))) else (r113 x2 (x3 + (1 : Int32)) t a))))
def gX8_forces (nF : Nat) : Nat → (Int32 → Int32 → Int32 → sT → sA → Rs) × (Int32 → Int32 → Int32 → Int32 → Int32 → Int32 → sT → sA → Rs) × (Int32 → Int32 → sT → sA → Rs)
  | 0 => (fun _ _ _ _ _ => none, fun _ _ _ _ _ _ _ _ => none, fun _ _ _ _ => none)
  | n9 + 1 => (gX8_forces_4 nF ((gX8_forces nF n9).1) ((gX8_forces nF n9).2.1) ((gX8_forces nF n9).2.2), gX8_forces_34 nF ((gX8_forces nF n9).1) ((gX8_forces nF n9).2.1) ((gX8_forces nF n9).2.2), gX8_forces_113 nF ((gX8_forces nF n9).1) ((gX8_forces nF n9).2.1) ((gX8_forces nF n9).2.2))
def fX8_forces (nF : Nat) (x1 : Int32) (t : sT) (a : sA) : Rs := ((gX8_forces nF nF).1) x1 (0 : Int32) (0 : Int32) t a
set_option maxRecDepth 100000 in
set_option maxHeartbeats 4000000 in
theorem hX8_forces {p : Program} {l : Launch} {e : Env} {s : State} {m : MethodId} {args : Array Value} {below : List Frame} {meth : Method} {c : Code} {x : Cx} {N : Nat} {u0 v0 : Option Nat} {nF : Nat} (F : Fx p s m meth c cX8_forces 7 RX8 (some .boolean) x) (hsz : s.heap.size = cz x + N) (hN : 653 ≤ N) {rv : Int32} {rt : sT} {ra : sA} : ∀ n9 : Nat, (∀ (x1 x2 x3 : Int32) (t : sT) (a : sA), (gX8_forces nF n9).1 x1 x2 x3 t a = some (rv, rt, ra) → J p l e (k2_rm 2 45) s m args below meth c x N (rho u0 v0) 7 0 0 (MQ below (PostI x N (rho u0 v0) rt ra rv) args s 0 0 (cA x)) 4 [(0, .ref (cz x + 50)), (1, .int x1), (2, .int x2), (3, .int x3)] [] t a) ∧ (∀ (x1 x2 x3 x4 x5 x6 : Int32) (t : sT) (a : sA), (gX8_forces nF n9).2.1 x1 x2 x3 x4 x5 x6 t a = some (rv, rt, ra) → J p l e (k2_rm 2 45) s m args below meth c x N (rho u0 v0) 7 0 0 (MQ below (PostI x N (rho u0 v0) rt ra rv) args s 0 0 (cA x)) 34 [(0, .ref (cz x + 50)), (1, .int x1), (2, .int x2), (3, .int x3), (4, .int x4), (5, .int x5), (6, .int x6)] [] t a) ∧ (∀ (x2 x3 : Int32) (t : sT) (a : sA), (gX8_forces nF n9).2.2 x2 x3 t a = some (rv, rt, ra) → J p l e (k2_rm 2 45) s m args below meth c x N (rho u0 v0) 7 0 0 (MQ below (PostI x N (rho u0 v0) rt ra rv) args s 0 0 (cA x)) 113 [(0, .ref (cz x + 50)), (2, .int x2), (3, .int x3)] [] t a) := by
  intro n9
  induction n9 with
  | zero => exact ⟨fun _ _ _ _ _ h => (by cases h), fun _ _ _ _ _ _ _ _ h => (by cases h), fun _ _ _ _ h => (by cases h)⟩
  | succ n9 ih =>
    refine ⟨?_, ?_, ?_⟩
    · intro x1 x2 x3 t a h
      have h : gX8_forces_4 nF ((gX8_forces nF n9).1) ((gX8_forces nF n9).2.1) ((gX8_forces nF n9).2.2) x1 x2 x3 t a = some (rv, rt, ra) := h
      unfold gX8_forces_4 at h
      refine j_iload_n F 3 dX8_forces_4 rfl rfl ?_
      refine j_aload_n F 0 dX8_forces_5 rfl rfl ?_
      refine j_getI F clX8 (j := 27) (tt := 3227) (lt653 rfl hN) ly50 (Nat.le_of_ble_eq_true rfl) rfl qf_X8_159 rfl dX8_forces_6 ?_
      refine j_icmp_ge F 111 dX8_forces_9 rfl h (fun h => ?_) (fun h => ?_)
      · refine j_iconst F dX8_forces_111 cI_0 ?_
        refine j_istore_n F (lv' := [(3, .int (0 : Int32)), (0, .ref (cz x + 50)), (1, .int x1), (2, .int x2)]) dX8_forces_112 rfl (Nat.le_of_ble_eq_true rfl) rfl ?_
        exact j_lv [1, 3, 0] rfl (ih.2.2 _ _ _ _ h)
      · refine j_aload_n F 0 dX8_forces_12 rfl rfl ?_
        refine j_iload_n F 3 dX8_forces_13 rfl rfl ?_
        refine j_callVi F mwX8_isAnswer ql_X8_184 clX8 (lt653 rfl hN) ly50 [.int x3] rfl ⟨rfl, rfl, Nat.le_of_ble_eq_true rfl, Nat.le_of_ble_eq_true rfl⟩ ⟨Nat.le_refl 0, Nat.le_refl 0⟩ rfl (Nat.le_of_ble_eq_true rfl) dX8_forces_14 (fun _ _ _ h9 => kX8_isAnswer l hN  h9) h (fun v1 t1 a1 e1 h => ?_)
        refine j_if_eq F 105 dX8_forces_17 rfl h (fun h => ?_) (fun h => ?_)
        · refine j_iinc F (v := x3 + (1 : Int32)) (lv' := [(3, .int (x3 + (1 : Int32))), (0, .ref (cz x + 50)), (1, .int x1), (2, .int x2)]) dX8_forces_105 3 rfl (congrArg (fun z => x3 + z) cI_1) (Nat.le_of_ble_eq_true rfl) rfl ?_
          refine j_goto F 4 dX8_forces_108 rfl ?_
          exact j_lv [1, 2, 3, 0] rfl (ih.1 _ _ _ _ _ h)
        · refine j_aload_n F 0 dX8_forces_20 rfl rfl ?_
          refine j_getR F clX8 (j := 25) (lt653 rfl hN) ly50 (Nat.le_of_ble_eq_true rfl) rfl qf_X8_51 rfl dX8_forces_21 ?_
          refine j_iload_n F 3 dX8_forces_24 rfl rfl ?_
          refine j_iald F (lt653 rfl hN) ly649 dX8_forces_25 h (fun h => ?_)
          refine j_istore F (k := 0) (lv' := [(4, .int (a1 649 x3.toNatClampNeg)), (0, .ref (cz x + 50)), (1, .int x1), (2, .int x2), (3, .int x3)]) dX8_forces_26 (Nat.le_of_ble_eq_true rfl) rfl ?_
          refine j_iconst F dX8_forces_28 cI_0 ?_
          refine j_istore F (k := 0) (lv' := [(5, .int (0 : Int32)), (4, .int (a1 649 x3.toNatClampNeg)), (0, .ref (cz x + 50)), (1, .int x1), (2, .int x2), (3, .int x3)]) dX8_forces_29 (Nat.le_of_ble_eq_true rfl) rfl ?_
          refine j_iconst F dX8_forces_31 cI_0 ?_
          refine j_istore F (k := 0) (lv' := [(6, .int (0 : Int32)), (5, .int (0 : Int32)), (4, .int (a1 649 x3.toNatClampNeg)), (0, .ref (cz x + 50)), (1, .int x1), (2, .int x2), (3, .int x3)]) dX8_forces_32 (Nat.le_of_ble_eq_true rfl) rfl ?_
          exact j_lv [3, 4, 5, 6, 2, 1, 0] rfl (ih.2.1 _ _ _ _ _ _ _ _ h)
    · intro x1 x2 x3 x4 x5 x6 t a h
      have h : gX8_forces_34 nF ((gX8_forces nF n9).1) ((gX8_forces nF n9).2.1) ((gX8_forces nF n9).2.2) x1 x2 x3 x4 x5 x6 t a = some (rv, rt, ra) := h
      unfold gX8_forces_34 at h
      refine j_iload F 6 dX8_forces_34 rfl ?_
      refine j_bipush F dX8_forces_36 cB_8 ?_
      refine j_icmp_ge F 77 dX8_forces_38 rfl h (fun h => ?_) (fun h => ?_)
      · refine j_iload F 5 dX8_forces_77 rfl ?_
        refine j_if_eq F 100 dX8_forces_79 rfl h (fun h => ?_) (fun h => ?_)
        · refine j_iload_n F 2 dX8_forces_100 rfl rfl ?_
          refine j_iload F 4 dX8_forces_101 rfl ?_
          refine j_ior F dX8_forces_103 ?_
          refine j_istore_n F (lv' := [(2, .int (x2 ||| x4)), (0, .ref (cz x + 50)), (1, .int x1), (3, .int x3), (4, .int x4), (5, .int x5), (6, .int x6)]) dX8_forces_104 rfl (Nat.le_of_ble_eq_true rfl) rfl ?_
          refine j_iinc F (v := x3 + (1 : Int32)) (lv' := [(3, .int (x3 + (1 : Int32))), (2, .int (x2 ||| x4)), (0, .ref (cz x + 50)), (1, .int x1), (4, .int x4), (5, .int x5), (6, .int x6)]) dX8_forces_105 3 rfl (congrArg (fun z => x3 + z) cI_1) (Nat.le_of_ble_eq_true rfl) rfl ?_
          refine j_goto F 4 dX8_forces_108 rfl ?_
          exact j_lv [2, 3, 1, 0] rfl (ih.1 _ _ _ _ _ h)
        · refine j_iload F 4 dX8_forces_82 rfl ?_
          refine j_iload_n F 1 dX8_forces_84 rfl rfl ?_
          refine j_iconst F dX8_forces_85 cI_m1 ?_
          refine j_ixor F dX8_forces_86 ?_
          refine j_iand F dX8_forces_87 ?_
          refine j_if_eq F 100 dX8_forces_88 rfl h (fun h => ?_) (fun h => ?_)
          · refine j_iload_n F 2 dX8_forces_100 rfl rfl ?_
            refine j_iload F 4 dX8_forces_101 rfl ?_
            refine j_ior F dX8_forces_103 ?_
            refine j_istore_n F (lv' := [(2, .int (x2 ||| x4)), (0, .ref (cz x + 50)), (1, .int x1), (3, .int x3), (4, .int x4), (5, .int x5), (6, .int x6)]) dX8_forces_104 rfl (Nat.le_of_ble_eq_true rfl) rfl ?_
            refine j_iinc F (v := x3 + (1 : Int32)) (lv' := [(3, .int (x3 + (1 : Int32))), (2, .int (x2 ||| x4)), (0, .ref (cz x + 50)), (1, .int x1), (4, .int x4), (5, .int x5), (6, .int x6)]) dX8_forces_105 3 rfl (congrArg (fun z => x3 + z) cI_1) (Nat.le_of_ble_eq_true rfl) rfl ?_
            refine j_goto F 4 dX8_forces_108 rfl ?_
            exact j_lv [2, 3, 1, 0] rfl (ih.1 _ _ _ _ _ h)
          · refine j_iload F 4 dX8_forces_91 rfl ?_
            refine j_iload_n F 1 dX8_forces_93 rfl rfl ?_
            refine j_iand F dX8_forces_94 ?_
            refine j_if_eq F 100 dX8_forces_95 rfl h (fun h => ?_) (fun h => ?_)
            · refine j_iload_n F 2 dX8_forces_100 rfl rfl ?_
              refine j_iload F 4 dX8_forces_101 rfl ?_
              refine j_ior F dX8_forces_103 ?_
              refine j_istore_n F (lv' := [(2, .int (x2 ||| x4)), (0, .ref (cz x + 50)), (1, .int x1), (3, .int x3), (4, .int x4), (5, .int x5), (6, .int x6)]) dX8_forces_104 rfl (Nat.le_of_ble_eq_true rfl) rfl ?_
              refine j_iinc F (v := x3 + (1 : Int32)) (lv' := [(3, .int (x3 + (1 : Int32))), (2, .int (x2 ||| x4)), (0, .ref (cz x + 50)), (1, .int x1), (4, .int x4), (5, .int x5), (6, .int x6)]) dX8_forces_105 3 rfl (congrArg (fun z => x3 + z) cI_1) (Nat.le_of_ble_eq_true rfl) rfl ?_
              refine j_goto F 4 dX8_forces_108 rfl ?_
              exact j_lv [2, 3, 1, 0] rfl (ih.1 _ _ _ _ _ h)
            · refine j_iconst F dX8_forces_98 cI_0 ?_
              exact j_zreturn F rfl dX8_forces_99 h
      · refine j_iload F 5 dX8_forces_41 rfl ?_
        refine j_aload_n F 0 dX8_forces_43 rfl rfl ?_
        refine j_getR F clX8 (j := 10) (lt653 rfl hN) ly50 (Nat.le_of_ble_eq_true rfl) rfl qf_X8_28 rfl dX8_forces_44 ?_
        refine j_iload F 6 dX8_forces_47 rfl ?_
        refine j_iald F (lt653 rfl hN) ly57 dX8_forces_49 h (fun h => ?_)
        refine j_if_le F 67 dX8_forces_50 rfl h (fun h => ?_) (fun h => ?_)
        · refine j_iconst F dX8_forces_67 cI_0 ?_
          refine j_ior F dX8_forces_68 ?_
          refine j_istore F (k := 0) (lv' := [(5, .int (x5 ||| (0 : Int32))), (0, .ref (cz x + 50)), (1, .int x1), (2, .int x2), (3, .int x3), (4, .int x4), (6, .int x6)]) dX8_forces_69 (Nat.le_of_ble_eq_true rfl) rfl ?_
          refine j_iinc F (v := x6 + (1 : Int32)) (lv' := [(6, .int (x6 + (1 : Int32))), (5, .int (x5 ||| (0 : Int32))), (0, .ref (cz x + 50)), (1, .int x1), (2, .int x2), (3, .int x3), (4, .int x4)]) dX8_forces_71 6 rfl (congrArg (fun z => x6 + z) cI_1) (Nat.le_of_ble_eq_true rfl) rfl ?_
          refine j_goto F 34 dX8_forces_74 rfl ?_
          exact j_lv [2, 3, 4, 5, 6, 1, 0] rfl (ih.2.1 _ _ _ _ _ _ _ _ h)
        · refine j_iload F 4 dX8_forces_53 rfl ?_
          refine j_iload F 6 dX8_forces_55 rfl ?_
          refine j_ishr F dX8_forces_57 ?_
          refine j_iconst F dX8_forces_58 cI_1 ?_
          refine j_iand F dX8_forces_59 ?_
          refine j_if_eq F 67 dX8_forces_60 rfl h (fun h => ?_) (fun h => ?_)
          · refine j_iconst F dX8_forces_67 cI_0 ?_
            refine j_ior F dX8_forces_68 ?_
            refine j_istore F (k := 0) (lv' := [(5, .int (x5 ||| (0 : Int32))), (0, .ref (cz x + 50)), (1, .int x1), (2, .int x2), (3, .int x3), (4, .int x4), (6, .int x6)]) dX8_forces_69 (Nat.le_of_ble_eq_true rfl) rfl ?_
            refine j_iinc F (v := x6 + (1 : Int32)) (lv' := [(6, .int (x6 + (1 : Int32))), (5, .int (x5 ||| (0 : Int32))), (0, .ref (cz x + 50)), (1, .int x1), (2, .int x2), (3, .int x3), (4, .int x4)]) dX8_forces_71 6 rfl (congrArg (fun z => x6 + z) cI_1) (Nat.le_of_ble_eq_true rfl) rfl ?_
            refine j_goto F 34 dX8_forces_74 rfl ?_
            exact j_lv [2, 3, 4, 5, 6, 1, 0] rfl (ih.2.1 _ _ _ _ _ _ _ _ h)
          · refine j_iconst F dX8_forces_63 cI_1 ?_
            refine j_goto F 68 dX8_forces_64 rfl ?_
            refine j_ior F dX8_forces_68 ?_
            refine j_istore F (k := 0) (lv' := [(5, .int (x5 ||| (1 : Int32))), (0, .ref (cz x + 50)), (1, .int x1), (2, .int x2), (3, .int x3), (4, .int x4), (6, .int x6)]) dX8_forces_69 (Nat.le_of_ble_eq_true rfl) rfl ?_
            refine j_iinc F (v := x6 + (1 : Int32)) (lv' := [(6, .int (x6 + (1 : Int32))), (5, .int (x5 ||| (1 : Int32))), (0, .ref (cz x + 50)), (1, .int x1), (2, .int x2), (3, .int x3), (4, .int x4)]) dX8_forces_71 6 rfl (congrArg (fun z => x6 + z) cI_1) (Nat.le_of_ble_eq_true rfl) rfl ?_
            refine j_goto F 34 dX8_forces_74 rfl ?_
            exact j_lv [2, 3, 4, 5, 6, 1, 0] rfl (ih.2.1 _ _ _ _ _ _ _ _ h)
    · intro x2 x3 t a h
      have h : gX8_forces_113 nF ((gX8_forces nF n9).1) ((gX8_forces nF n9).2.1) ((gX8_forces nF n9).2.2) x2 x3 t a = some (rv, rt, ra) := h
      unfold gX8_forces_113 at h
      refine j_iload_n F 2 dX8_forces_113 rfl rfl ?_
      refine j_bipush F dX8_forces_114 cB_8 ?_
      refine j_icmp_ge F 144 dX8_forces_116 rfl h (fun h => ?_) (fun h => ?_)
      · refine j_iconst F dX8_forces_144 cI_1 ?_
        exact j_zreturn F rfl dX8_forces_145 h
      · refine j_aload_n F 0 dX8_forces_119 rfl rfl ?_
        refine j_getR F clX8 (j := 10) (lt653 rfl hN) ly50 (Nat.le_of_ble_eq_true rfl) rfl qf_X8_28 rfl dX8_forces_120 ?_
        refine j_iload_n F 2 dX8_forces_123 rfl rfl ?_
        refine j_iald F (lt653 rfl hN) ly57 dX8_forces_124 h (fun h => ?_)
        refine j_if_le F 138 dX8_forces_125 rfl h (fun h => ?_) (fun h => ?_)
        · refine j_iinc F (v := x3 + (1 : Int32)) (lv' := [(3, .int (x3 + (1 : Int32))), (0, .ref (cz x + 50)), (2, .int x2)]) dX8_forces_138 2 rfl (congrArg (fun z => x3 + z) cI_1) (Nat.le_of_ble_eq_true rfl) rfl ?_
          refine j_goto F 113 dX8_forces_141 rfl ?_
          exact j_lv [1, 2, 0] rfl (ih.2.2 _ _ _ _ h)
        · refine j_iload_n F 1 dX8_forces_128 rfl rfl ?_
          refine j_iload_n F 2 dX8_forces_129 rfl rfl ?_
          refine j_ishr F dX8_forces_130 ?_
          refine j_iconst F dX8_forces_131 cI_1 ?_
          refine j_iand F dX8_forces_132 ?_
          refine j_if_ne F 138 dX8_forces_133 rfl h (fun h => ?_) (fun h => ?_)
          · refine j_iconst F dX8_forces_136 cI_0 ?_
            exact j_zreturn F rfl dX8_forces_137 h
          · refine j_iinc F (v := x3 + (1 : Int32)) (lv' := [(3, .int (x3 + (1 : Int32))), (0, .ref (cz x + 50)), (2, .int x2)]) dX8_forces_138 2 rfl (congrArg (fun z => x3 + z) cI_1) (Nat.le_of_ble_eq_true rfl) rfl ?_
            refine j_goto F 113 dX8_forces_141 rfl ?_
            exact j_lv [1, 2, 0] rfl (ih.2.2 _ _ _ _ h)
set_option maxRecDepth 100000 in
set_option maxHeartbeats 4000000 in
theorem kX8_forces (l : Launch) {x : Cx} {N : Nat} {u0 v0 : Option Nat} {nF : Nat} {x1 : Int32} {t : sT} {a : sA} {rv : Int32} {rt : sT} {ra : sA} (hN : 653 ≤ N) (h : fX8_forces nF x1 t a = some (rv, rt, ra)) : Met l yX8_forces [.code yX8_forces cX8_forces 7 (some .boolean)] (k2_rm 2 45) (Pre x N (rho u0 v0) t a [.ref (cz x + 50), .int x1]) (PostI x N (rho u0 v0) rt ra rv) 0 0 (cA x) := by
  refine j_entry (by decide) rfl (Nat.le_of_ble_eq_true rfl) ?_
  intro p e s m below meth c F hsz hnm
  have F : Fx p s m meth c cX8_forces 7 RX8 (some .boolean) x := F
  unfold fX8_forces at h
  show J p l e _ s m _ below meth c x N (rho u0 v0) 7 0 0 _ 0 [(0, .ref (cz x + 50)), (1, .int x1)] [] t a
  refine j_iconst F dX8_forces_0 cI_0 ?_
  refine j_istore_n F (lv' := [(2, .int (0 : Int32)), (0, .ref (cz x + 50)), (1, .int x1)]) dX8_forces_1 rfl (Nat.le_of_ble_eq_true rfl) rfl ?_
  refine j_iconst F dX8_forces_2 cI_0 ?_
  refine j_istore_n F (lv' := [(3, .int (0 : Int32)), (2, .int (0 : Int32)), (0, .ref (cz x + 50)), (1, .int x1)]) dX8_forces_3 rfl (Nat.le_of_ble_eq_true rfl) rfl ?_
  exact j_lv [2, 3, 1, 0] rfl ((hX8_forces F hsz hN nF).1 _ _ _ _ _ h)
def gX8_goesBy_11 (nF : Nat) (r11 : Int32 → sT → sA → Rs) (x1 : Int32) (t : sT) (a : sA) : Rs := if (8 : Int32) ≤ x1 then (if x1 = 0 then (zok (0 : Int32) (some ((0 : Int32), t, a))) else (cal (fX8_must nF (59 : Int32) t a) (fun v19 t19 a19 => zok v19 (some (v19, t19, a19))))) else (cal (fX8_digit nF t a) (fun v20 t20 a20 => if v20 = 0 then (if x1 = 0 then (zok (0 : Int32) (some ((0 : Int32), t20, a20))) else (cal (fX8_must nF (59 : Int32) t20 a20) (fun v21 t21 a21 => zok v21 (some (v21, t21, a21))))) else (r11 (x1 + (1 : Int32)) t20 a20)))
def gX8_goesBy (nF : Nat) : Nat → (Int32 → sT → sA → Rs)
  | 0 => (fun _ _ _ => none)
  | n9 + 1 => (gX8_goesBy_11 nF (gX8_goesBy nF n9))
def fX8_goesBy (nF : Nat) (t : sT) (a : sA) : Rs := cal (fX8_must nF (116 : Int32) t a) (fun v1 t1 a1 => if v1 = 0 then (cal (fX8_must nF (119 : Int32) t1 a1) (fun v2 t2 a2 => if v2 = 0 then (cal (fX8_must nF (108 : Int32) t2 a2) (fun v3 t3 a3 => if v3 = 0 then (cal (fX8_must nF (112 : Int32) t3 a3) (fun v4 t4 a4 => if v4 = 0 then (cal (fX8_must nF (110 : Int32) t4 a4) (fun v5 t5 a5 => if v5 = 0 then (cal (fX8_must nF (111 : Int32) t5 a5) (fun v7 t7 a7 => if v7 = 0 then (cal (fX8_must nF (105 : Int32) t7 a7) (fun v9 t9 a9 => if v9 = 0 then (zok (0 : Int32) (some ((0 : Int32), t9, a9))) else (cal (fX8_must nF (59 : Int32) t9 a9) (fun v10 t10 a10 => zok v10 (some (v10, t10, a10)))))) else (cal (fX8_must nF (59 : Int32) t7 a7) (fun v8 t8 a8 => zok v8 (some (v8, t8, a8)))))) else (cal (fX8_must nF (59 : Int32) t5 a5) (fun v6 t6 a6 => zok v6 (some (v6, t6, a6)))))) else (cal (fX8_seesTalker nF t4 a4) (fun v11 t11 a11 => if v11 = 0 then (zok (0 : Int32) (some ((0 : Int32), t11, a11))) else (cal (fX8_must nF (59 : Int32) (va_up t11 3221 ((t11 3221) + (1 : Int32))) a11) (fun v12 t12 a12 => zok v12 (some (v12, t12, a12)))))))) else (cal (fX8_digit nF t3 a3) (fun v13 t13 a13 => if v13 = 0 then (zok (0 : Int32) (some ((0 : Int32), t13, a13))) else (cal (fX8_must nF (59 : Int32) t13 a13) (fun v14 t14 a14 => zok v14 (some (v14, t14, a14)))))))) else (cal (fX8_digit nF t2 a2) (fun v15 t15 a15 => if v15 = 0 then (zok (0 : Int32) (some ((0 : Int32), t15, a15))) else (cal (fX8_must nF (44 : Int32) t15 a15) (fun v16 t16 a16 => if v16 = 0 then (zok (0 : Int32) (some ((0 : Int32), t16, a16))) else (cal (fX8_digit nF t16 a16) (fun v17 t17 a17 => if v17 = 0 then (zok (0 : Int32) (some ((0 : Int32), t17, a17))) else (cal (fX8_must nF (59 : Int32) t17 a17) (fun v18 t18 a18 => zok v18 (some (v18, t18, a18)))))))))))) else ((gX8_goesBy nF nF) (0 : Int32) t1 a1))
set_option maxRecDepth 100000 in
set_option maxHeartbeats 4000000 in
theorem hX8_goesBy {p : Program} {l : Launch} {e : Env} {s : State} {m : MethodId} {args : Array Value} {below : List Frame} {meth : Method} {c : Code} {x : Cx} {N : Nat} {u0 v0 : Option Nat} {nF : Nat} (F : Fx p s m meth c cX8_goesBy 2 RX8 (some .boolean) x) (hsz : s.heap.size = cz x + N) (hN : 653 ≤ N) {rv : Int32} {rt : sT} {ra : sA} : ∀ n9 : Nat, (∀ (x1 : Int32) (t : sT) (a : sA), (gX8_goesBy nF n9) x1 t a = some (rv, rt, ra) → J p l e (k2_rm 2 43) s m args below meth c x N (rho u0 v0) 2 0 0 (MQ below (PostI x N (rho u0 v0) rt ra rv) args s 0 0 (cA x)) 11 [(0, .ref (cz x + 50)), (1, .int x1)] [] t a) := by
  intro n9
  induction n9 with
  | zero => exact fun _ _ _ h => (by cases h)
  | succ n9 ih =>
    intro x1 t a h
    have h : gX8_goesBy_11 nF (gX8_goesBy nF n9) x1 t a = some (rv, rt, ra) := h
    unfold gX8_goesBy_11 at h
    refine j_iload_n F 1 dX8_goesBy_11 rfl rfl ?_
    refine j_bipush F dX8_goesBy_12 cB_8 ?_
    refine j_icmp_ge F 30 dX8_goesBy_14 rfl h (fun h => ?_) (fun h => ?_)
    · refine j_iload_n F 1 dX8_goesBy_30 rfl rfl ?_
      refine j_if_ne F 36 dX8_goesBy_31 rfl h (fun h => ?_) (fun h => ?_)
      · refine j_iconst F dX8_goesBy_34 cI_0 ?_
        exact j_zreturn F rfl dX8_goesBy_35 h
      · refine j_goto F 151 dX8_goesBy_36 rfl ?_
        refine j_aload_n F 0 dX8_goesBy_151 rfl rfl ?_
        refine j_bipush F dX8_goesBy_152 cB_59 ?_
        refine j_callVi F mwX8_must ql_X8_92 clX8 (lt653 rfl hN) ly50 [.int (59 : Int32)] rfl ⟨rfl, rfl, Nat.le_of_ble_eq_true rfl, Nat.le_of_ble_eq_true rfl⟩ ⟨Nat.le_refl 0, Nat.le_refl 0⟩ rfl (Nat.le_of_ble_eq_true rfl) dX8_goesBy_154 (fun _ _ _ h9 => kX8_must l hN  h9) h (fun v19 t19 a19 e19 h => ?_)
        exact j_zreturn F rfl dX8_goesBy_157 h
    · refine j_aload_n F 0 dX8_goesBy_17 rfl rfl ?_
      refine j_callVi F mwX8_digit ql_X8_95 clX8 (lt653 rfl hN) ly50 [] rfl ⟨rfl, rfl, Nat.le_of_ble_eq_true rfl, Nat.le_of_ble_eq_true rfl⟩ ⟨Nat.le_refl 0, Nat.le_refl 0⟩ rfl (Nat.le_of_ble_eq_true rfl) dX8_goesBy_18 (fun _ _ _ h9 => kX8_digit l hN  h9) h (fun v20 t20 a20 e20 h => ?_)
      refine j_if_eq F 30 dX8_goesBy_21 rfl h (fun h => ?_) (fun h => ?_)
      · refine j_iload_n F 1 dX8_goesBy_30 rfl rfl ?_
        refine j_if_ne F 36 dX8_goesBy_31 rfl h (fun h => ?_) (fun h => ?_)
        · refine j_iconst F dX8_goesBy_34 cI_0 ?_
          exact j_zreturn F rfl dX8_goesBy_35 h
        · refine j_goto F 151 dX8_goesBy_36 rfl ?_
          refine j_aload_n F 0 dX8_goesBy_151 rfl rfl ?_
          refine j_bipush F dX8_goesBy_152 cB_59 ?_
          refine j_callVi F mwX8_must ql_X8_92 clX8 (lt653 rfl hN) ly50 [.int (59 : Int32)] rfl ⟨rfl, rfl, Nat.le_of_ble_eq_true rfl, Nat.le_of_ble_eq_true rfl⟩ ⟨Nat.le_refl 0, Nat.le_refl 0⟩ rfl (Nat.le_of_ble_eq_true rfl) dX8_goesBy_154 (fun _ _ _ h9 => kX8_must l hN  h9) h (fun v21 t21 a21 e21 h => ?_)
          exact j_zreturn F rfl dX8_goesBy_157 h
      · refine j_iinc F (v := x1 + (1 : Int32)) (lv' := [(1, .int (x1 + (1 : Int32))), (0, .ref (cz x + 50))]) dX8_goesBy_24 1 rfl (congrArg (fun z => x1 + z) cI_1) (Nat.le_of_ble_eq_true rfl) rfl ?_
        refine j_goto F 11 dX8_goesBy_27 rfl ?_
        exact j_lv [1, 0] rfl (ih _ _ _ h)
set_option maxRecDepth 100000 in
set_option maxHeartbeats 4000000 in
theorem kX8_goesBy (l : Launch) {x : Cx} {N : Nat} {u0 v0 : Option Nat} {nF : Nat} {t : sT} {a : sA} {rv : Int32} {rt : sT} {ra : sA} (hN : 653 ≤ N) (h : fX8_goesBy nF t a = some (rv, rt, ra)) : Met l yX8_goesBy [.code yX8_goesBy cX8_goesBy 2 (some .boolean)] (k2_rm 2 43) (Pre x N (rho u0 v0) t a [.ref (cz x + 50)]) (PostI x N (rho u0 v0) rt ra rv) 0 0 (cA x) := by
  refine j_entry (by decide) rfl (Nat.le_of_ble_eq_true rfl) ?_
  intro p e s m below meth c F hsz hnm
  have F : Fx p s m meth c cX8_goesBy 2 RX8 (some .boolean) x := F
  unfold fX8_goesBy at h
  show J p l e _ s m _ below meth c x N (rho u0 v0) 2 0 0 _ 0 [(0, .ref (cz x + 50))] [] t a
  refine j_aload_n F 0 dX8_goesBy_0 rfl rfl ?_
  refine j_bipush F dX8_goesBy_1 cB_116 ?_
  refine j_callVi F mwX8_must ql_X8_92 clX8 (lt653 rfl hN) ly50 [.int (116 : Int32)] rfl ⟨rfl, rfl, Nat.le_of_ble_eq_true rfl, Nat.le_of_ble_eq_true rfl⟩ ⟨Nat.le_refl 0, Nat.le_refl 0⟩ rfl (Nat.le_of_ble_eq_true rfl) dX8_goesBy_3 (fun _ _ _ h9 => kX8_must l hN  h9) h (fun v1 t1 a1 e1 h => ?_)
  refine j_if_eq F 39 dX8_goesBy_6 rfl h (fun h => ?_) (fun h => ?_)
  · refine j_aload_n F 0 dX8_goesBy_39 rfl rfl ?_
    refine j_bipush F dX8_goesBy_40 cB_119 ?_
    refine j_callVi F mwX8_must ql_X8_92 clX8 (lt653 rfl hN) ly50 [.int (119 : Int32)] rfl ⟨rfl, rfl, Nat.le_of_ble_eq_true rfl, Nat.le_of_ble_eq_true rfl⟩ ⟨Nat.le_refl 0, Nat.le_refl 0⟩ rfl (Nat.le_of_ble_eq_true rfl) dX8_goesBy_42 (fun _ _ _ h9 => kX8_must l hN  h9) h (fun v2 t2 a2 e2 h => ?_)
    refine j_if_eq F 73 dX8_goesBy_45 rfl h (fun h => ?_) (fun h => ?_)
    · refine j_aload_n F 0 dX8_goesBy_73 rfl rfl ?_
      refine j_bipush F dX8_goesBy_74 cB_108 ?_
      refine j_callVi F mwX8_must ql_X8_92 clX8 (lt653 rfl hN) ly50 [.int (108 : Int32)] rfl ⟨rfl, rfl, Nat.le_of_ble_eq_true rfl, Nat.le_of_ble_eq_true rfl⟩ ⟨Nat.le_refl 0, Nat.le_refl 0⟩ rfl (Nat.le_of_ble_eq_true rfl) dX8_goesBy_76 (fun _ _ _ h9 => kX8_must l hN  h9) h (fun v3 t3 a3 e3 h => ?_)
      refine j_if_eq F 91 dX8_goesBy_79 rfl h (fun h => ?_) (fun h => ?_)
      · refine j_aload_n F 0 dX8_goesBy_91 rfl rfl ?_
        refine j_bipush F dX8_goesBy_92 cB_112 ?_
        refine j_callVi F mwX8_must ql_X8_92 clX8 (lt653 rfl hN) ly50 [.int (112 : Int32)] rfl ⟨rfl, rfl, Nat.le_of_ble_eq_true rfl, Nat.le_of_ble_eq_true rfl⟩ ⟨Nat.le_refl 0, Nat.le_refl 0⟩ rfl (Nat.le_of_ble_eq_true rfl) dX8_goesBy_94 (fun _ _ _ h9 => kX8_must l hN  h9) h (fun v4 t4 a4 e4 h => ?_)
        refine j_if_eq F 122 dX8_goesBy_97 rfl h (fun h => ?_) (fun h => ?_)
        · refine j_aload_n F 0 dX8_goesBy_122 rfl rfl ?_
          refine j_bipush F dX8_goesBy_123 cB_110 ?_
          refine j_callVi F mwX8_must ql_X8_92 clX8 (lt653 rfl hN) ly50 [.int (110 : Int32)] rfl ⟨rfl, rfl, Nat.le_of_ble_eq_true rfl, Nat.le_of_ble_eq_true rfl⟩ ⟨Nat.le_refl 0, Nat.le_refl 0⟩ rfl (Nat.le_of_ble_eq_true rfl) dX8_goesBy_125 (fun _ _ _ h9 => kX8_must l hN  h9) h (fun v5 t5 a5 e5 h => ?_)
          refine j_if_ne F 151 dX8_goesBy_128 rfl h (fun h => ?_) (fun h => ?_)
          · refine j_aload_n F 0 dX8_goesBy_131 rfl rfl ?_
            refine j_bipush F dX8_goesBy_132 cB_111 ?_
            refine j_callVi F mwX8_must ql_X8_92 clX8 (lt653 rfl hN) ly50 [.int (111 : Int32)] rfl ⟨rfl, rfl, Nat.le_of_ble_eq_true rfl, Nat.le_of_ble_eq_true rfl⟩ ⟨Nat.le_refl 0, Nat.le_refl 0⟩ rfl (Nat.le_of_ble_eq_true rfl) dX8_goesBy_134 (fun _ _ _ h9 => kX8_must l hN  h9) h (fun v7 t7 a7 e7 h => ?_)
            refine j_if_ne F 151 dX8_goesBy_137 rfl h (fun h => ?_) (fun h => ?_)
            · refine j_aload_n F 0 dX8_goesBy_140 rfl rfl ?_
              refine j_bipush F dX8_goesBy_141 cB_105 ?_
              refine j_callVi F mwX8_must ql_X8_92 clX8 (lt653 rfl hN) ly50 [.int (105 : Int32)] rfl ⟨rfl, rfl, Nat.le_of_ble_eq_true rfl, Nat.le_of_ble_eq_true rfl⟩ ⟨Nat.le_refl 0, Nat.le_refl 0⟩ rfl (Nat.le_of_ble_eq_true rfl) dX8_goesBy_143 (fun _ _ _ h9 => kX8_must l hN  h9) h (fun v9 t9 a9 e9 h => ?_)
              refine j_if_ne F 151 dX8_goesBy_146 rfl h (fun h => ?_) (fun h => ?_)
              · refine j_iconst F dX8_goesBy_149 cI_0 ?_
                exact j_zreturn F rfl dX8_goesBy_150 h
              · refine j_aload_n F 0 dX8_goesBy_151 rfl rfl ?_
                refine j_bipush F dX8_goesBy_152 cB_59 ?_
                refine j_callVi F mwX8_must ql_X8_92 clX8 (lt653 rfl hN) ly50 [.int (59 : Int32)] rfl ⟨rfl, rfl, Nat.le_of_ble_eq_true rfl, Nat.le_of_ble_eq_true rfl⟩ ⟨Nat.le_refl 0, Nat.le_refl 0⟩ rfl (Nat.le_of_ble_eq_true rfl) dX8_goesBy_154 (fun _ _ _ h9 => kX8_must l hN  h9) h (fun v10 t10 a10 e10 h => ?_)
                exact j_zreturn F rfl dX8_goesBy_157 h
            · refine j_aload_n F 0 dX8_goesBy_151 rfl rfl ?_
              refine j_bipush F dX8_goesBy_152 cB_59 ?_
              refine j_callVi F mwX8_must ql_X8_92 clX8 (lt653 rfl hN) ly50 [.int (59 : Int32)] rfl ⟨rfl, rfl, Nat.le_of_ble_eq_true rfl, Nat.le_of_ble_eq_true rfl⟩ ⟨Nat.le_refl 0, Nat.le_refl 0⟩ rfl (Nat.le_of_ble_eq_true rfl) dX8_goesBy_154 (fun _ _ _ h9 => kX8_must l hN  h9) h (fun v8 t8 a8 e8 h => ?_)
              exact j_zreturn F rfl dX8_goesBy_157 h
          · refine j_aload_n F 0 dX8_goesBy_151 rfl rfl ?_
            refine j_bipush F dX8_goesBy_152 cB_59 ?_
            refine j_callVi F mwX8_must ql_X8_92 clX8 (lt653 rfl hN) ly50 [.int (59 : Int32)] rfl ⟨rfl, rfl, Nat.le_of_ble_eq_true rfl, Nat.le_of_ble_eq_true rfl⟩ ⟨Nat.le_refl 0, Nat.le_refl 0⟩ rfl (Nat.le_of_ble_eq_true rfl) dX8_goesBy_154 (fun _ _ _ h9 => kX8_must l hN  h9) h (fun v6 t6 a6 e6 h => ?_)
            exact j_zreturn F rfl dX8_goesBy_157 h
        · refine j_aload_n F 0 dX8_goesBy_100 rfl rfl ?_
          refine j_callVi F mwX8_seesTalker ql_X8_98 clX8 (lt653 rfl hN) ly50 [] rfl ⟨rfl, rfl, Nat.le_of_ble_eq_true rfl, Nat.le_of_ble_eq_true rfl⟩ ⟨Nat.le_refl 0, Nat.le_refl 0⟩ rfl (Nat.le_of_ble_eq_true rfl) dX8_goesBy_101 (fun _ _ _ h9 => kX8_seesTalker l hN  h9) h (fun v11 t11 a11 e11 h => ?_)
          refine j_if_ne F 109 dX8_goesBy_104 rfl h (fun h => ?_) (fun h => ?_)
          · refine j_iconst F dX8_goesBy_107 cI_0 ?_
            exact j_zreturn F rfl dX8_goesBy_108 h
          · refine j_aload_n F 0 dX8_goesBy_109 rfl rfl ?_
            refine j_dup F dX8_goesBy_110 rfl ?_
            refine j_getI F clX8 (j := 21) (tt := 3221) (lt653 rfl hN) ly50 (Nat.le_of_ble_eq_true rfl) rfl qf_X8_81 rfl dX8_goesBy_111 ?_
            refine j_iconst F dX8_goesBy_114 cI_1 ?_
            refine j_iadd F dX8_goesBy_115 ?_
            refine j_putI F clX8 (j := 21) (tt := 3221) (lt653 rfl hN) ly50 (Nat.le_of_ble_eq_true rfl) rfl qf_X8_81 rfl rfl rfl dX8_goesBy_116 ?_
            refine j_goto F 151 dX8_goesBy_119 rfl ?_
            refine j_aload_n F 0 dX8_goesBy_151 rfl rfl ?_
            refine j_bipush F dX8_goesBy_152 cB_59 ?_
            refine j_callVi F mwX8_must ql_X8_92 clX8 (lt653 rfl hN) ly50 [.int (59 : Int32)] rfl ⟨rfl, rfl, Nat.le_of_ble_eq_true rfl, Nat.le_of_ble_eq_true rfl⟩ ⟨Nat.le_refl 0, Nat.le_refl 0⟩ rfl (Nat.le_of_ble_eq_true rfl) dX8_goesBy_154 (fun _ _ _ h9 => kX8_must l hN  h9) h (fun v12 t12 a12 e12 h => ?_)
            exact j_zreturn F rfl dX8_goesBy_157 h
      · refine j_aload_n F 0 dX8_goesBy_82 rfl rfl ?_
        refine j_callVi F mwX8_digit ql_X8_95 clX8 (lt653 rfl hN) ly50 [] rfl ⟨rfl, rfl, Nat.le_of_ble_eq_true rfl, Nat.le_of_ble_eq_true rfl⟩ ⟨Nat.le_refl 0, Nat.le_refl 0⟩ rfl (Nat.le_of_ble_eq_true rfl) dX8_goesBy_83 (fun _ _ _ h9 => kX8_digit l hN  h9) h (fun v13 t13 a13 e13 h => ?_)
        refine j_if_ne F 151 dX8_goesBy_86 rfl h (fun h => ?_) (fun h => ?_)
        · refine j_iconst F dX8_goesBy_89 cI_0 ?_
          exact j_zreturn F rfl dX8_goesBy_90 h
        · refine j_aload_n F 0 dX8_goesBy_151 rfl rfl ?_
          refine j_bipush F dX8_goesBy_152 cB_59 ?_
          refine j_callVi F mwX8_must ql_X8_92 clX8 (lt653 rfl hN) ly50 [.int (59 : Int32)] rfl ⟨rfl, rfl, Nat.le_of_ble_eq_true rfl, Nat.le_of_ble_eq_true rfl⟩ ⟨Nat.le_refl 0, Nat.le_refl 0⟩ rfl (Nat.le_of_ble_eq_true rfl) dX8_goesBy_154 (fun _ _ _ h9 => kX8_must l hN  h9) h (fun v14 t14 a14 e14 h => ?_)
          exact j_zreturn F rfl dX8_goesBy_157 h
    · refine j_aload_n F 0 dX8_goesBy_48 rfl rfl ?_
      refine j_callVi F mwX8_digit ql_X8_95 clX8 (lt653 rfl hN) ly50 [] rfl ⟨rfl, rfl, Nat.le_of_ble_eq_true rfl, Nat.le_of_ble_eq_true rfl⟩ ⟨Nat.le_refl 0, Nat.le_refl 0⟩ rfl (Nat.le_of_ble_eq_true rfl) dX8_goesBy_49 (fun _ _ _ h9 => kX8_digit l hN  h9) h (fun v15 t15 a15 e15 h => ?_)
      refine j_if_eq F 71 dX8_goesBy_52 rfl h (fun h => ?_) (fun h => ?_)
      · refine j_iconst F dX8_goesBy_71 cI_0 ?_
        exact j_zreturn F rfl dX8_goesBy_72 h
      · refine j_aload_n F 0 dX8_goesBy_55 rfl rfl ?_
        refine j_bipush F dX8_goesBy_56 cB_44 ?_
        refine j_callVi F mwX8_must ql_X8_92 clX8 (lt653 rfl hN) ly50 [.int (44 : Int32)] rfl ⟨rfl, rfl, Nat.le_of_ble_eq_true rfl, Nat.le_of_ble_eq_true rfl⟩ ⟨Nat.le_refl 0, Nat.le_refl 0⟩ rfl (Nat.le_of_ble_eq_true rfl) dX8_goesBy_58 (fun _ _ _ h9 => kX8_must l hN  h9) h (fun v16 t16 a16 e16 h => ?_)
        refine j_if_eq F 71 dX8_goesBy_61 rfl h (fun h => ?_) (fun h => ?_)
        · refine j_iconst F dX8_goesBy_71 cI_0 ?_
          exact j_zreturn F rfl dX8_goesBy_72 h
        · refine j_aload_n F 0 dX8_goesBy_64 rfl rfl ?_
          refine j_callVi F mwX8_digit ql_X8_95 clX8 (lt653 rfl hN) ly50 [] rfl ⟨rfl, rfl, Nat.le_of_ble_eq_true rfl, Nat.le_of_ble_eq_true rfl⟩ ⟨Nat.le_refl 0, Nat.le_refl 0⟩ rfl (Nat.le_of_ble_eq_true rfl) dX8_goesBy_65 (fun _ _ _ h9 => kX8_digit l hN  h9) h (fun v17 t17 a17 e17 h => ?_)
          refine j_if_ne F 151 dX8_goesBy_68 rfl h (fun h => ?_) (fun h => ?_)
          · refine j_iconst F dX8_goesBy_71 cI_0 ?_
            exact j_zreturn F rfl dX8_goesBy_72 h
          · refine j_aload_n F 0 dX8_goesBy_151 rfl rfl ?_
            refine j_bipush F dX8_goesBy_152 cB_59 ?_
            refine j_callVi F mwX8_must ql_X8_92 clX8 (lt653 rfl hN) ly50 [.int (59 : Int32)] rfl ⟨rfl, rfl, Nat.le_of_ble_eq_true rfl, Nat.le_of_ble_eq_true rfl⟩ ⟨Nat.le_refl 0, Nat.le_refl 0⟩ rfl (Nat.le_of_ble_eq_true rfl) dX8_goesBy_154 (fun _ _ _ h9 => kX8_must l hN  h9) h (fun v18 t18 a18 e18 h => ?_)
            exact j_zreturn F rfl dX8_goesBy_157 h
  · refine j_iconst F dX8_goesBy_9 cI_0 ?_
    refine j_istore_n F (lv' := [(1, .int (0 : Int32)), (0, .ref (cz x + 50))]) dX8_goesBy_10 rfl (Nat.le_of_ble_eq_true rfl) rfl ?_
    exact j_lv [1, 0] rfl ((hX8_goesBy F hsz hN nF) _ _ _ h)
def gX8_least_31 (nF : Nat) (r31 : Int32 → Int32 → Int32 → sT → sA → Rs) (r95 : Int32 → Int32 → Int32 → sT → sA → Rs) (r126 : Int32 → Int32 → Int32 → sT → sA → Rs) (x1 x2 x3 : Int32) (t : sT) (a : sA) : Rs := if (t 3227) ≤ x3 then (r95 x1 x2 (0 : Int32) t a) else (bnd x3 585 (if (a 649 x3.toNatClampNeg) = x1 then (if x2 = (-1 : Int32) then (bnd x3 585 (some (a 62 x3.toNatClampNeg, t, a))) else (bnd x3 585 (if (a 62 x3.toNatClampNeg) ≤ x2 then (some ((-9 : Int32), t, a)) else (bnd x3 585 (bnd x2 3 (some (a (64 + x3.toNatClampNeg) x2.toNatClampNeg, t, a))))))) else (r31 x1 x2 (x3 + (1 : Int32)) t a)))
def gX8_least_95 (nF : Nat) (r31 : Int32 → Int32 → Int32 → sT → sA → Rs) (r95 : Int32 → Int32 → Int32 → sT → sA → Rs) (r126 : Int32 → Int32 → Int32 → sT → sA → Rs) (x1 x2 x3 : Int32) (t : sT) (a : sA) : Rs := if (4 : Int32) ≤ x3 then (if (t 3207) ≤ 0 then (r126 x1 x2 (0 : Int32) t a) else (r126 x1 x2 (1 : Int32) t a)) else (bnd x3 4 (r95 x1 x2 (x3 + (1 : Int32)) t (va_up a 651 (upd (a 651) x3.toNatClampNeg (0 : Int32)))))
def gX8_least_126 (nF : Nat) (r31 : Int32 → Int32 → Int32 → sT → sA → Rs) (r95 : Int32 → Int32 → Int32 → sT → sA → Rs) (r126 : Int32 → Int32 → Int32 → sT → sA → Rs) (x1 x2 x3 : Int32) (t : sT) (a : sA) : Rs := if x3 = 0 then (some ((-9 : Int32), t, a)) else (cal (fX8_meaning nF 651 4 (4 : Int32) t a) (fun v6 t6 a6 => if v6 = x1 then (if x2 = (-1 : Int32) then (some ((4 : Int32), t6, a6)) else (if (4 : Int32) ≤ x2 then (some ((-9 : Int32), t6, a6)) else (bnd x2 4 (some (a6 651 x2.toNatClampNeg, t6, a6))))) else (cal (fX8_goesOn nF t6 a6) (fun v7 t7 a7 => r126 x1 x2 v7 t7 a7))))
def gX8_least (nF : Nat) : Nat → (Int32 → Int32 → Int32 → sT → sA → Rs) × (Int32 → Int32 → Int32 → sT → sA → Rs) × (Int32 → Int32 → Int32 → sT → sA → Rs)
  | 0 => (fun _ _ _ _ _ => none, fun _ _ _ _ _ => none, fun _ _ _ _ _ => none)
  | n9 + 1 => (gX8_least_31 nF ((gX8_least nF n9).1) ((gX8_least nF n9).2.1) ((gX8_least nF n9).2.2), gX8_least_95 nF ((gX8_least nF n9).1) ((gX8_least nF n9).2.1) ((gX8_least nF n9).2.2), gX8_least_126 nF ((gX8_least nF n9).1) ((gX8_least nF n9).2.1) ((gX8_least nF n9).2.2))
def fX8_least (nF : Nat) (x1 : Int32) (x2 : Int32) (t : sT) (a : sA) : Rs := cal (fX8_isSet nF x1 t a) (fun v1 t1 a1 => if v1 = 0 then (cal (fX8_refuse nF (-1 : Int32) t1 a1) (fun v4 t4 a4 => some (v4, t4, a4))) else (if (-1 : Int32) ≤ x2 then (cal (fX8_list nF t1 a1) (fun v2 t2 a2 => ((gX8_least nF nF).1) x1 x2 (0 : Int32) t2 a2)) else (cal (fX8_refuse nF (-4 : Int32) t1 a1) (fun v3 t3 a3 => some (v3, t3, a3)))))
set_option maxRecDepth 100000 in
set_option maxHeartbeats 4000000 in
theorem hX8_least {p : Program} {l : Launch} {e : Env} {s : State} {m : MethodId} {args : Array Value} {below : List Frame} {meth : Method} {c : Code} {x : Cx} {N : Nat} {u0 v0 : Option Nat} {nF : Nat} (F : Fx p s m meth c cX8_least 4 RX8 (some .int) x) (hsz : s.heap.size = cz x + N) (hN : 653 ≤ N) {rv : Int32} {rt : sT} {ra : sA} : ∀ n9 : Nat, (∀ (x1 x2 x3 : Int32) (t : sT) (a : sA), (gX8_least nF n9).1 x1 x2 x3 t a = some (rv, rt, ra) → J p l e (k2_rm 3 77) s m args below meth c x N (rho u0 v0) 4 0 0 (MQ below (PostI x N (rho u0 v0) rt ra rv) args s 0 0 (cA x)) 31 [(0, .ref (cz x + 50)), (1, .int x1), (2, .int x2), (3, .int x3)] [] t a) ∧ (∀ (x1 x2 x3 : Int32) (t : sT) (a : sA), (gX8_least nF n9).2.1 x1 x2 x3 t a = some (rv, rt, ra) → J p l e (k2_rm 3 77) s m args below meth c x N (rho u0 v0) 4 0 0 (MQ below (PostI x N (rho u0 v0) rt ra rv) args s 0 0 (cA x)) 95 [(0, .ref (cz x + 50)), (1, .int x1), (2, .int x2), (3, .int x3)] [] t a) ∧ (∀ (x1 x2 x3 : Int32) (t : sT) (a : sA), (gX8_least nF n9).2.2 x1 x2 x3 t a = some (rv, rt, ra) → J p l e (k2_rm 3 77) s m args below meth c x N (rho u0 v0) 4 0 0 (MQ below (PostI x N (rho u0 v0) rt ra rv) args s 0 0 (cA x)) 126 [(0, .ref (cz x + 50)), (1, .int x1), (2, .int x2), (3, .int x3)] [] t a) := by
  intro n9
  induction n9 with
  | zero => exact ⟨fun _ _ _ _ _ h => (by cases h), fun _ _ _ _ _ h => (by cases h), fun _ _ _ _ _ h => (by cases h)⟩
  | succ n9 ih =>
    refine ⟨?_, ?_, ?_⟩
    · intro x1 x2 x3 t a h
      have h : gX8_least_31 nF ((gX8_least nF n9).1) ((gX8_least nF n9).2.1) ((gX8_least nF n9).2.2) x1 x2 x3 t a = some (rv, rt, ra) := h
      unfold gX8_least_31 at h
      refine j_iload_n F 3 dX8_least_31 rfl rfl ?_
      refine j_aload_n F 0 dX8_least_32 rfl rfl ?_
      refine j_getI F clX8 (j := 27) (tt := 3227) (lt653 rfl hN) ly50 (Nat.le_of_ble_eq_true rfl) rfl qf_X8_159 rfl dX8_least_33 ?_
      refine j_icmp_ge F 93 dX8_least_36 rfl h (fun h => ?_) (fun h => ?_)
      · refine j_iconst F dX8_least_93 cI_0 ?_
        refine j_istore_n F (lv' := [(3, .int (0 : Int32)), (0, .ref (cz x + 50)), (1, .int x1), (2, .int x2)]) dX8_least_94 rfl (Nat.le_of_ble_eq_true rfl) rfl ?_
        exact j_lv [1, 2, 3, 0] rfl (ih.2.1 _ _ _ _ _ h)
      · refine j_aload_n F 0 dX8_least_39 rfl rfl ?_
        refine j_getR F clX8 (j := 25) (lt653 rfl hN) ly50 (Nat.le_of_ble_eq_true rfl) rfl qf_X8_51 rfl dX8_least_40 ?_
        refine j_iload_n F 3 dX8_least_43 rfl rfl ?_
        refine j_iald F (lt653 rfl hN) ly649 dX8_least_44 h (fun h => ?_)
        refine j_iload_n F 1 dX8_least_45 rfl rfl ?_
        refine j_icmp_ne F 87 dX8_least_46 rfl h (fun h => ?_) (fun h => ?_)
        · refine j_iload_n F 2 dX8_least_49 rfl rfl ?_
          refine j_iconst F dX8_least_50 cI_m1 ?_
          refine j_icmp_ne F 63 dX8_least_51 rfl h (fun h => ?_) (fun h => ?_)
          · refine j_aload_n F 0 dX8_least_54 rfl rfl ?_
            refine j_getR F clX8 (j := 23) (lt653 rfl hN) ly50 (Nat.le_of_ble_eq_true rfl) rfl qf_X8_43 rfl dX8_least_55 ?_
            refine j_iload_n F 3 dX8_least_58 rfl rfl ?_
            refine j_iald F (lt653 rfl hN) ly62 dX8_least_59 h (fun h => ?_)
            refine j_goto F 86 dX8_least_60 rfl ?_
            exact j_ireturn F rfl dX8_least_86 h
          · refine j_iload_n F 2 dX8_least_63 rfl rfl ?_
            refine j_aload_n F 0 dX8_least_64 rfl rfl ?_
            refine j_getR F clX8 (j := 23) (lt653 rfl hN) ly50 (Nat.le_of_ble_eq_true rfl) rfl qf_X8_43 rfl dX8_least_65 ?_
            refine j_iload_n F 3 dX8_least_68 rfl rfl ?_
            refine j_iald F (lt653 rfl hN) ly62 dX8_least_69 h (fun h => ?_)
            refine j_icmp_ge F 84 dX8_least_70 rfl h (fun h => ?_) (fun h => ?_)
            · refine j_bipush F dX8_least_84 cB_m9 ?_
              exact j_ireturn F rfl dX8_least_86 h
            · refine j_aload_n F 0 dX8_least_73 rfl rfl ?_
              refine j_getR F clX8 (j := 24) (lt653 rfl hN) ly50 (Nat.le_of_ble_eq_true rfl) rfl qf_X8_48 rfl dX8_least_74 ?_
              refine j_iload_n F 3 dX8_least_77 rfl rfl ?_
              refine j_aald F (lt653 rfl hN) ly63 rh63 dX8_least_78 h (fun hr5 h => ?_)
              refine j_iload_n F 2 dX8_least_79 rfl rfl ?_
              refine j_iald F (rowlt hr5 hN) (lyRow hr5) dX8_least_80 h (fun h => ?_)
              refine j_goto F 86 dX8_least_81 rfl ?_
              exact j_ireturn F rfl dX8_least_86 h
        · refine j_iinc F (v := x3 + (1 : Int32)) (lv' := [(3, .int (x3 + (1 : Int32))), (0, .ref (cz x + 50)), (1, .int x1), (2, .int x2)]) dX8_least_87 3 rfl (congrArg (fun z => x3 + z) cI_1) (Nat.le_of_ble_eq_true rfl) rfl ?_
          refine j_goto F 31 dX8_least_90 rfl ?_
          exact j_lv [1, 2, 3, 0] rfl (ih.1 _ _ _ _ _ h)
    · intro x1 x2 x3 t a h
      have h : gX8_least_95 nF ((gX8_least nF n9).1) ((gX8_least nF n9).2.1) ((gX8_least nF n9).2.2) x1 x2 x3 t a = some (rv, rt, ra) := h
      unfold gX8_least_95 at h
      refine j_iload_n F 3 dX8_least_95 rfl rfl ?_
      refine j_iconst F dX8_least_96 cI_4 ?_
      refine j_icmp_ge F 113 dX8_least_97 rfl h (fun h => ?_) (fun h => ?_)
      · refine j_aload_n F 0 dX8_least_113 rfl rfl ?_
        refine j_getI F clX8 (j := 7) (tt := 3207) (lt653 rfl hN) ly50 (Nat.le_of_ble_eq_true rfl) rfl qf_X8_67 rfl dX8_least_114 ?_
        refine j_if_le F 124 dX8_least_117 rfl h (fun h => ?_) (fun h => ?_)
        · refine j_iconst F dX8_least_124 cI_0 ?_
          refine j_istore_n F (lv' := [(3, .int (0 : Int32)), (0, .ref (cz x + 50)), (1, .int x1), (2, .int x2)]) dX8_least_125 rfl (Nat.le_of_ble_eq_true rfl) rfl ?_
          exact j_lv [1, 2, 3, 0] rfl (ih.2.2 _ _ _ _ _ h)
        · refine j_iconst F dX8_least_120 cI_1 ?_
          refine j_goto F 125 dX8_least_121 rfl ?_
          refine j_istore_n F (lv' := [(3, .int (1 : Int32)), (0, .ref (cz x + 50)), (1, .int x1), (2, .int x2)]) dX8_least_125 rfl (Nat.le_of_ble_eq_true rfl) rfl ?_
          exact j_lv [1, 2, 3, 0] rfl (ih.2.2 _ _ _ _ _ h)
      · refine j_aload_n F 0 dX8_least_100 rfl rfl ?_
        refine j_getR F clX8 (j := 32) (lt653 rfl hN) ly50 (Nat.le_of_ble_eq_true rfl) rfl qf_X8_57 rfl dX8_least_101 ?_
        refine j_iload_n F 3 dX8_least_104 rfl rfl ?_
        refine j_iconst F dX8_least_105 cI_0 ?_
        refine j_iast F (lt653 rfl hN) ly651 dX8_least_106 h (fun h => ?_)
        refine j_iinc F (v := x3 + (1 : Int32)) (lv' := [(3, .int (x3 + (1 : Int32))), (0, .ref (cz x + 50)), (1, .int x1), (2, .int x2)]) dX8_least_107 3 rfl (congrArg (fun z => x3 + z) cI_1) (Nat.le_of_ble_eq_true rfl) rfl ?_
        refine j_goto F 95 dX8_least_110 rfl ?_
        exact j_lv [1, 2, 3, 0] rfl (ih.2.1 _ _ _ _ _ h)
    · intro x1 x2 x3 t a h
      have h : gX8_least_126 nF ((gX8_least nF n9).1) ((gX8_least nF n9).2.1) ((gX8_least nF n9).2.2) x1 x2 x3 t a = some (rv, rt, ra) := h
      unfold gX8_least_126 at h
      refine j_iload_n F 3 dX8_least_126 rfl rfl ?_
      refine j_if_eq F 177 dX8_least_127 rfl h (fun h => ?_) (fun h => ?_)
      · refine j_bipush F dX8_least_177 cB_m9 ?_
        exact j_ireturn F rfl dX8_least_179 h
      · refine j_aload_n F 0 dX8_least_130 rfl rfl ?_
        refine j_aload_n F 0 dX8_least_131 rfl rfl ?_
        refine j_getR F clX8 (j := 32) (lt653 rfl hN) ly50 (Nat.le_of_ble_eq_true rfl) rfl qf_X8_57 rfl dX8_least_132 ?_
        refine j_iconst F dX8_least_135 cI_4 ?_
        refine j_callVi F mwX8_meaning ql_X8_142 clX8 (lt653 rfl hN) ly50 [.ref (cz x + 651), .int (4 : Int32)] rfl ⟨rfl, rfl, Nat.le_of_ble_eq_true rfl, Nat.le_of_ble_eq_true rfl⟩ ⟨Nat.le_refl 0, Nat.le_refl 0⟩ rfl (Nat.le_of_ble_eq_true rfl) dX8_least_136 (fun _ _ _ h9 => kX8_meaning l hN (lt653 rfl hN) ly651 h9) h (fun v6 t6 a6 e6 h => ?_)
        refine j_iload_n F 1 dX8_least_139 rfl rfl ?_
        refine j_icmp_ne F 169 dX8_least_140 rfl h (fun h => ?_) (fun h => ?_)
        · refine j_iload_n F 2 dX8_least_143 rfl rfl ?_
          refine j_iconst F dX8_least_144 cI_m1 ?_
          refine j_icmp_ne F 152 dX8_least_145 rfl h (fun h => ?_) (fun h => ?_)
          · refine j_iconst F dX8_least_148 cI_4 ?_
            refine j_goto F 168 dX8_least_149 rfl ?_
            exact j_ireturn F rfl dX8_least_168 h
          · refine j_iload_n F 2 dX8_least_152 rfl rfl ?_
            refine j_iconst F dX8_least_153 cI_4 ?_
            refine j_icmp_ge F 166 dX8_least_154 rfl h (fun h => ?_) (fun h => ?_)
            · refine j_bipush F dX8_least_166 cB_m9 ?_
              exact j_ireturn F rfl dX8_least_168 h
            · refine j_aload_n F 0 dX8_least_157 rfl rfl ?_
              refine j_getR F clX8 (j := 32) (lt653 rfl hN) ly50 (Nat.le_of_ble_eq_true rfl) rfl qf_X8_57 rfl dX8_least_158 ?_
              refine j_iload_n F 2 dX8_least_161 rfl rfl ?_
              refine j_iald F (lt653 rfl hN) ly651 dX8_least_162 h (fun h => ?_)
              refine j_goto F 168 dX8_least_163 rfl ?_
              exact j_ireturn F rfl dX8_least_168 h
        · refine j_aload_n F 0 dX8_least_169 rfl rfl ?_
          refine j_callVi F mwX8_goesOn ql_X8_203 clX8 (lt653 rfl hN) ly50 [] rfl ⟨rfl, rfl, Nat.le_of_ble_eq_true rfl, Nat.le_of_ble_eq_true rfl⟩ ⟨Nat.le_refl 0, Nat.le_refl 0⟩ rfl (Nat.le_of_ble_eq_true rfl) dX8_least_170 (fun _ _ _ h9 => kX8_goesOn l hN  h9) h (fun v7 t7 a7 e7 h => ?_)
          refine j_istore_n F (lv' := [(3, .int v7), (0, .ref (cz x + 50)), (1, .int x1), (2, .int x2)]) dX8_least_173 rfl (Nat.le_of_ble_eq_true rfl) rfl ?_
          refine j_goto F 126 dX8_least_174 rfl ?_
          exact j_lv [1, 2, 3, 0] rfl (ih.2.2 _ _ _ _ _ h)
set_option maxRecDepth 100000 in
set_option maxHeartbeats 4000000 in
theorem kX8_least (l : Launch) {x : Cx} {N : Nat} {u0 v0 : Option Nat} {nF : Nat} {x1 : Int32} {x2 : Int32} {t : sT} {a : sA} {rv : Int32} {rt : sT} {ra : sA} (hN : 653 ≤ N) (h : fX8_least nF x1 x2 t a = some (rv, rt, ra)) : Met l yX8_least [.code yX8_least cX8_least 4 (some .int)] (k2_rm 3 77) (Pre x N (rho u0 v0) t a [.ref (cz x + 50), .int x1, .int x2]) (PostI x N (rho u0 v0) rt ra rv) 0 0 (cA x) := by
  refine j_entry (by decide) rfl (Nat.le_of_ble_eq_true rfl) ?_
  intro p e s m below meth c F hsz hnm
  have F : Fx p s m meth c cX8_least 4 RX8 (some .int) x := F
  unfold fX8_least at h
  show J p l e _ s m _ below meth c x N (rho u0 v0) 4 0 0 _ 0 [(0, .ref (cz x + 50)), (1, .int x1), (2, .int x2)] [] t a
  refine j_iload_n F 1 dX8_least_0 rfl rfl ?_
  refine j_callSi F mwX8_isSet ql_X8_153 [.int x1] rfl ⟨rfl, rfl, Nat.le_of_ble_eq_true rfl, Nat.le_of_ble_eq_true rfl⟩ ⟨Nat.le_refl 0, Nat.le_refl 0⟩ rfl (Nat.le_of_ble_eq_true rfl) dX8_least_1 (fun _ _ _ h9 => kX8_isSet l hN  h9) h (fun v1 t1 a1 e1 h => ?_)
  refine j_if_ne F 13 dX8_least_4 rfl h (fun h => ?_) (fun h => ?_)
  · refine j_aload_n F 0 dX8_least_7 rfl rfl ?_
    refine j_iconst F dX8_least_8 cI_m1 ?_
    refine j_callVi F mwX8_refuse ql_X8_74 clX8 (lt653 rfl hN) ly50 [.int (-1 : Int32)] rfl ⟨rfl, rfl, Nat.le_of_ble_eq_true rfl, Nat.le_of_ble_eq_true rfl⟩ ⟨Nat.le_refl 0, Nat.le_refl 0⟩ rfl (Nat.le_of_ble_eq_true rfl) dX8_least_9 (fun _ _ _ h9 => kX8_refuse l hN  h9) h (fun v4 t4 a4 e4 h => ?_)
    exact j_ireturn F rfl dX8_least_12 h
  · refine j_iload_n F 2 dX8_least_13 rfl rfl ?_
    refine j_iconst F dX8_least_14 cI_m1 ?_
    refine j_icmp_ge F 25 dX8_least_15 rfl h (fun h => ?_) (fun h => ?_)
    · refine j_aload_n F 0 dX8_least_25 rfl rfl ?_
      refine j_callVv F mwX8_list ql_X8_193 clX8 (lt653 rfl hN) ly50 [] rfl ⟨rfl, rfl, Nat.le_of_ble_eq_true rfl, Nat.le_of_ble_eq_true rfl⟩ ⟨Nat.le_refl 0, Nat.le_refl 0⟩ rfl (Nat.le_of_ble_eq_true rfl) dX8_least_26 (fun _ _ _ h9 => kX8_list l hN  h9) h (fun v2 t2 a2 e2 h => ?_)
      refine j_iconst F dX8_least_29 cI_0 ?_
      refine j_istore_n F (lv' := [(3, .int (0 : Int32)), (0, .ref (cz x + 50)), (1, .int x1), (2, .int x2)]) dX8_least_30 rfl (Nat.le_of_ble_eq_true rfl) rfl ?_
      exact j_lv [1, 2, 3, 0] rfl ((hX8_least F hsz hN nF).1 _ _ _ _ _ h)
    · refine j_aload_n F 0 dX8_least_18 rfl rfl ?_
      refine j_bipush F dX8_least_19 cB_m4 ?_
      refine j_callVi F mwX8_refuse ql_X8_74 clX8 (lt653 rfl hN) ly50 [.int (-4 : Int32)] rfl ⟨rfl, rfl, Nat.le_of_ble_eq_true rfl, Nat.le_of_ble_eq_true rfl⟩ ⟨Nat.le_refl 0, Nat.le_refl 0⟩ rfl (Nat.le_of_ble_eq_true rfl) dX8_least_21 (fun _ _ _ h9 => kX8_refuse l hN  h9) h (fun v3 t3 a3 e3 h => ?_)
      exact j_ireturn F rfl dX8_least_24 h
