/-! THE CLAIM OUT OF ONE WALK OF THE LAW'S BODY. Your part is whole_start (and what it stands on); all else here is the same for every law, but numbers. -/
def R_law : String := "AnswerShorterLaw"
def lw_P (b : Addr) (xs : List Int32) (args : Array Value) (s : State) : Prop := args = #[.ref b] ∧ s.IntsAt b xs ∧ xs.length ≤ 256 ∧ (Jvm.Cond.and given_1 narrow_1).before args s = true
def lw_Q (_ : Array Value) (s : State) (o : Outcome) (t : State) : Prop := o = .returned (some (.int 1)) ∧ Framed s o t [] 600000 7302250
def lw_Z (below : List Frame) (a : Array Value) (s : State) : State → Prop := fun t => ∃ o, t.status = .running ∧ Ended t below o ∧ lw_Q a s o t
/-- the law's own end, with 1 on the stack, nothing written that was there before, its room as the claim has it -/
theorem lw_ret {p : Program} {l : Launch} {e : Env} {s : State} {m : MethodId} {below : List Frame} {meth : Method} {c : Code} {b : Nat} (hx : p.tables.exec = Jvm.exec) (hb : c.code = code) (hr : meth.sig.returnType = ret) (hlocks : meth.locks = false) {pc : Nat} {H : Heap} {ls : Array Slot} (hdg : decode code pc = .ok (.ireturn, 1)) : W p l e room_1 s m #[Value.ref b] below meth c H [] 600000 7302250 (lw_Z below #[Value.ref b] s) (F0 m pc ls [.int 1]) := by
  intro T hT X
  obtain ⟨fs, hret, hrun, hended, hW, hframe⟩ := X.leave (v := some (.int 1)) (hlocks := hlocks) (fun h => by rw [hr] at h; cases h)
  have hmeth' : T.vm.method? m = some meth := X.method'
  refine ⟨T.setFrames fs, ?_, .returned (some (.int 1)), hrun, hended, rfl, ⟨_, rfl⟩, hW, hframe⟩
  jvm_step X.here [X.here.top, hx, hb, hdg, hmeth', hr, ret, narrow_b1]
  (try refine ⟨rfl, ?_⟩); (try refine ⟨rfl, ?_⟩)
  first | (intro acts; rw [hret _ acts rfl rfl rfl]) | rw [hret _ _ rfl rfl rfl]
  exact Steps.refl _
/-- what holds at the law's entry: the machine, the code, the tables' words (any of lw_tbl by 'hts w (by decide +kernel)'), the script of L ints xs at the cell b, what the Statement gives of the start (any of its parts by flat_of_before) -/
def lw_At (p : Program) (s : State) (m : MethodId) (meth : Method) (c : Code) (b L : Nat) (xs : Nat → Int32) : Prop :=
  p.tables.exec = Jvm.exec ∧ c.code = code ∧ meth.sig.returnType = ret ∧ c.maxLocals = 4 ∧ s.vm.findClass R_law = some m.cls ∧ (∀ w ∈ lw_tbl, w.before #[Value.ref b] s = true) ∧ va_X b L xs s s.heap ∧ b < s.heap.size ∧ meth.locks = false ∧ (Jvm.Cond.and given_1 narrow_1).before #[Value.ref b] s = true
section JL
variable {p : Program} {l : Launch} {e : Env} {R : Room} {s : State} {m : MethodId} {args : Array Value} {below : List Frame} {meth : Method} {c : Code} {x : Cx} {N : Nat} {r : sR} {nL cells slots : Nat} {Q : State → Prop} {own : String} {cc : ByteArray} {ret : Option FieldType} {pc : Nat} {lv : List (Nat × Value)} {st : List Value} {t : sT} {a : sA} {ρ : Type} {A B : Option ρ} {v9 : ρ}
theorem j_sld (F : Fx p s m meth c cc nL own ret x) {b L : Nat} {xs : Nat → Int32} (hX : va_X b L xs s s.heap) (hbl : b < s.heap.size) (hbA : ¬ cA x b) {j : Int32} (hin : vp_in j L) (hd : decode cc pc = .ok (.iaload, 1)) (kk : J p l e R s m args below meth c x N r nL cells slots Q (pc + 1) lv (.int (xs j.toNatClampNeg) :: st) t a) : J p l e R s m args below meth c x N r nL cells slots Q pc lv (.int j :: .ref b :: st) t a := fun H locs ls hW hl => va_sld F.1 F.2.1 hX hbl hbA hW.2 hin hd (kk H locs ls hW hl)
theorem j_slen (F : Fx p s m meth c cc nL own ret x) {b L : Nat} {xs : Nat → Int32} (hX : va_X b L xs s s.heap) (hbl : b < s.heap.size) (hbA : ¬ cA x b) (hd : decode cc pc = .ok (.arraylength, 1)) (kk : J p l e R s m args below meth c x N r nL cells slots Q (pc + 1) lv (.int (Int32.ofNat L) :: st) t a) : J p l e R s m args below meth c x N r nL cells slots Q pc lv (.ref b :: st) t a := fun H locs ls hW hl => va_slen F.1 F.2.1 hX hbl hbA hW.2 hd (kk H locs ls hW hl)
theorem j_callVm (F : Fx p s m meth c cc nL own ret x) {y : MethodName} {bytes : ByteArray} {maxL idx k ci n N2 mc ms : Nat} {re : Option FieldType} {rm : Room} {T : u_T} {ty : Nat → FieldType} {r2 : sR} {t2 : sT} {a2 : sA} {v : Int32} (M : mwV y bytes maxL re) (q : .methodLink own idx y ∈ lw_t) (C0 : clO ci y.cls T n ty) (hk : k < N) (hl0 : lay k = (0, ci)) (As : List Value) (hn : (parseMethodDescriptor y.desc).map (fun d => d.parameters.length) = some As.length) (hrm : rm.cells = mc ∧ rm.slots = ms ∧ rm.frames + 1 ≤ R.frames ∧ 8 + (maxL + 11) + rm.locals ≤ R.locals) (hf : cells + mc ≤ R.cells ∧ slots + ms ≤ R.slots) {st0 : List Value} (hst : st0 = As.reverse ++ .ref (cz x + k) :: st) (hro : (st.map fun v => v.category).sum ≤ 8) (hd : decode cc pc = .ok (.invokevirtual idx, 3))
    (hM : Met l y [.code y bytes maxL re] rm (Pre x N r t a (.ref (cz x + k) :: As)) (PostI x N2 r2 t2 a2 v) mc ms (cA x)) (kk : J p l e R s m args below meth c x (N2) (r2) nL (cells + mc) (slots + ms) Q (pc + 3) lv (.int v :: st) t2 a2) : J p l e R s m args below meth c x N r nL cells slots Q pc lv st0 t a := by
  intro H locs ls hW hl
  obtain ⟨hx, hb, hml, hown, hre, hlk, hK, hKs⟩ := F
  have hts := hK.w args
  obtain ⟨m1, m2, m3, m4, m5, m6⟩ := M
  refine va_calli (va_runV (C := y.cls) (As := As) (rest := st) (Ts := lw_t) ⟨hx, hb, hml, hown, hts⟩ hM ⟨⟨hrm.1, hrm.2.1, hrm.2.2.1, hrm.2.2.2, fun w hw a1 U hU => by rw [List.mem_singleton] at hw; subst hw; exact gw_move (List.mem_filter.mp m1).2 hU (hts _ m1), List.mem_singleton.mpr rfl, hts _ m1, hts _ m4, ⟨m5, m6⟩, ar_of hn, hts _ q⟩, hts _ m2, hts _ m3⟩ ⟨Pre.blind, va_recv hK.2 hW.1.2 C0.1 (q0 := k) (fs := (List.range (nf ci)).map (fval (cz x) r t k ci)) (by rw [wl_get hk, ce_0 hl0]; rfl), Pre.at hK hKs hW⟩ rfl rfl hl.1 hst (lv_room hro) hd hf) hW.2 (fun _ _ h => h) (fun _ h => h) (fun r1 u1 T1 H1 locs1 hT hvm hp hB hz hk1 hS1 => by subst hp; exact kk H1 locs1 ls ⟨by rw [hT] at hB; exact hB, hS1⟩ hl)
end JL
abbrev Iv : Type := Nat → Option Nat → Option Nat → sT → sA → Prop
/-- a call of both sides: the same answer, and the invariant again -/
def St2 (I : Iv) (fc fm : sT → sA → Rs) : Prop := ∀ N u v t a, I N u v t a → ∃ r t1 a1 t2 a2, fc t a = some (r, t1, a1) ∧ fm t1 a1 = some (r, t2, a2) ∧ I N u v t2 a2
def StpTongue (nF : Nat) (I : Iv) : Prop := ∀ N u v t a, I N u v t a → ∃ r t1 a1 t2 a2 N2 v2, fX7_tongue nF t a = some (r, t1, a1) ∧ fX8_tongue nF N v t1 a1 = some (r, t2, a2, N2, v2) ∧ I N2 u v2 t2 a2 ∧ (v = none → isMd N ∧ ∀ w1 t3 a3, fX8_faultOfForm nF t1 a1 = some (w1, t3, a3) → zT t3 N ∧ zA a3 N) ∧ ∀ kb, v = some kb → isMd kb ∧ kb + 603 ≤ N
def StpImage (nF : Nat) (I : Iv) : Prop := ∀ N u v t a, I N u v t a → ∃ r t1 a1 t2 a2, fX7_image nF t a = some (r, t1, a1) ∧ (u = none → isMd N ∧ zT t1 N ∧ zA a1 N ∧ fX8_imageT nF N t1 (va_up a1 (N + 7) ones8) = some (r, t2, a2) ∧ I (N + 603) (some N) v t2 a2) ∧ ∀ ku, u = some ku → isMd ku ∧ ku + 603 ≤ N ∧ fX8_imageT nF ku t1 a1 = some (r, t2, a2) ∧ I N u v t2 a2
def StpOn (nF : Nat) (I : Iv) : Prop := ∀ N u v t a, I N u v t a → ∃ r t1 a1 t2 a2, fX7_on nF t a = some (r, t1, a1) ∧ (u = none → fX8_onN nF t1 a1 = some (r, t2, a2) ∧ I N u v t2 a2) ∧ ∀ ku, u = some ku → isMd ku ∧ ku + 603 ≤ N ∧ fX8_onS nF ku t1 a1 = some (r, t2, a2) ∧ I N u v t2 a2
set_option maxRecDepth 100000 in
theorem lc_0 {p : Program} {l : Launch} {e : Env} {s : State} {m : MethodId} {args : Array Value} {below : List Frame} {meth : Method} {c : Code} {x : Cx} {N : Nat} {u v : Option Nat} {nF cells slots b L : Nat} {xs : Nat → Int32} {i : Int32} {t t1 t2 : sT} {a a1 a2 : sA} {r1 : Int32} {Q : State → Prop} (F : Fx p s m meth c cL_law 4 RL (some .boolean) x) (hN : 653 ≤ N) (hX : va_X b L xs s s.heap) (hbl : b < s.heap.size) (hbA : ¬ cA x b) (h1 : vp_in (i + 1) L) (hc : fX7_letter nF (xs (i + 1).toNatClampNeg) t a = some (r1, t1, a1)) (hm : fX8_letter nF (xs (i + 1).toNatClampNeg) t1 a1 = some (r1, t2, a2)) (hcl : cells + 0 ≤ 600000 ∧ slots + 0 ≤ 7302250) (kk : J p l e room_1 s m args below meth c x N (rho u v) 4 (cells + 0 + 0) (slots + 0 + 0) Q 925 [(3, .int i), (2, .ref (cz x + 50)), (1, .ref (cz x + 0)), (0, .ref b)] [] t2 a2) : J p l e room_1 s m args below meth c x N (rho u v) 4 cells slots Q 172 [(3, .int i), (2, .ref (cz x + 50)), (1, .ref (cz x + 0)), (0, .ref b)] [] t a := by
  refine j_aload_n F 2 dL_law_172 rfl rfl ?_
  refine j_aload_n F 3 dL_law_173 rfl rfl ?_
  refine j_iload_n F 0 dL_law_174 rfl rfl ?_
  refine j_iconst F dL_law_175 eI_1 ?_
  refine j_iadd F dL_law_176 ?_
  refine j_sld F hX hbl hbA h1 dL_law_177 ?_
  refine j_callVm F (k := 0) mwX7_letter ql_L_13 clX7 (lt653 rfl hN) ly0 [.int (xs (i + 1).toNatClampNeg)] rfl ⟨rfl, rfl, (Nat.le_of_ble_eq_true rfl), (Nat.le_of_ble_eq_true rfl)⟩ ⟨Nat.le_trans (Nat.add_le_add_left (Nat.zero_le _) _) hcl.1, Nat.le_trans (Nat.add_le_add_left (Nat.zero_le _) _) hcl.2⟩ rfl (Nat.le_of_ble_eq_true rfl) dL_law_178 (kX7_letter l hN hc) ?_
  refine j_aload_n F 1 dL_law_181 rfl rfl ?_
  refine j_aload_n F 3 dL_law_182 rfl rfl ?_
  refine j_iload_n F 0 dL_law_183 rfl rfl ?_
  refine j_iconst F dL_law_184 eI_1 ?_
  refine j_iadd F dL_law_185 ?_
  refine j_sld F hX hbl hbA h1 dL_law_186 ?_
  refine j_callVm F (k := 50) mwX8_letter ql_L_17 clX8 (lt653 rfl hN) ly50 [.int (xs (i + 1).toNatClampNeg)] rfl ⟨rfl, rfl, (Nat.le_of_ble_eq_true rfl), (Nat.le_of_ble_eq_true rfl)⟩ ⟨Nat.le_trans (Nat.add_le_add_left (Nat.zero_le _) _) hcl.1, Nat.le_trans (Nat.add_le_add_left (Nat.zero_le _) _) hcl.2⟩ rfl (Nat.le_of_ble_eq_true rfl) dL_law_187 (kX8_letter l hN hm) ?_
  exact j_icmp_eq F 925 (A := some ()) (B := none) (v9 := ()) dL_law_190 rfl (if_pos rfl) (fun _ => kk) (fun h => by cases h)
set_option maxRecDepth 100000 in
theorem lc_1S {p : Program} {l : Launch} {e : Env} {s : State} {m : MethodId} {args : Array Value} {below : List Frame} {meth : Method} {c : Code} {x : Cx} {N : Nat} {u v : Option Nat} {nF cells slots b L : Nat} {xs : Nat → Int32} {i : Int32} {t t1 t2 : sT} {a a1 a2 : sA} {r1 : Int32} {Q : State → Prop} {kb N2 : Nat} {v2 : Option Nat} (F : Fx p s m meth c cL_law 4 RL (some .boolean) x) (hN : 653 ≤ N) (hX : va_X b L xs s s.heap) (hbl : b < s.heap.size) (hbA : ¬ cA x b) (hc : fX7_tongue nF t a = some (r1, t1, a1)) (hkb : isMd kb) (hnb : kb + 603 ≤ N) (hm : fX8_tongue nF N (some kb) t1 a1 = some (r1, t2, a2, N2, v2)) (hcl : cells + 603 ≤ 600000 ∧ slots + 4286 ≤ 7302250) (kk : J p l e room_1 s m args below meth c x N2 (rho u v2) 4 (cells + 0 + 603) (slots + 0 + 4286) Q 925 [(3, .int i), (2, .ref (cz x + 50)), (1, .ref (cz x + 0)), (0, .ref b)] [] t2 a2) : J p l e room_1 s m args below meth c x N (rho u (some kb)) 4 cells slots Q 195 [(3, .int i), (2, .ref (cz x + 50)), (1, .ref (cz x + 0)), (0, .ref b)] [] t a := by
  refine j_aload_n F 2 dL_law_195 rfl rfl ?_
  refine j_callVm F (k := 0) mwX7_tongue ql_L_18 clX7 (lt653 rfl hN) ly0 [] rfl ⟨rfl, rfl, (Nat.le_of_ble_eq_true rfl), (Nat.le_of_ble_eq_true rfl)⟩ ⟨Nat.le_trans (Nat.add_le_add_left (Nat.zero_le _) _) hcl.1, Nat.le_trans (Nat.add_le_add_left (Nat.zero_le _) _) hcl.2⟩ rfl (Nat.le_of_ble_eq_true rfl) dL_law_196 (kX7_tongue l hN hc) ?_
  refine j_aload_n F 1 dL_law_199 rfl rfl ?_
  refine j_callVm F (k := 50) mwX8_tongue ql_L_22 clX8 (lt653 rfl hN) ly50 [] rfl ⟨rfl, rfl, (Nat.le_of_ble_eq_true rfl), (Nat.le_of_ble_eq_true rfl)⟩ ⟨hcl.1, hcl.2⟩ rfl (Nat.le_of_ble_eq_true rfl) dL_law_200 (kX8_tongueS l hN hkb hnb hm) ?_
  exact j_icmp_eq F 925 (A := some ()) (B := none) (v9 := ()) dL_law_203 rfl (if_pos rfl) (fun _ => kk) (fun h => by cases h)
set_option maxRecDepth 100000 in
theorem lc_1N {p : Program} {l : Launch} {e : Env} {s : State} {m : MethodId} {args : Array Value} {below : List Frame} {meth : Method} {c : Code} {x : Cx} {N : Nat} {u v : Option Nat} {nF cells slots b L : Nat} {xs : Nat → Int32} {i : Int32} {t t1 t2 : sT} {a a1 a2 : sA} {r1 : Int32} {Q : State → Prop} {N2 : Nat} {v2 : Option Nat} (F : Fx p s m meth c cL_law 4 RL (some .boolean) x) (hN : 653 ≤ N) (hX : va_X b L xs s s.heap) (hbl : b < s.heap.size) (hbA : ¬ cA x b) (hc : fX7_tongue nF t a = some (r1, t1, a1)) (hmd : isMd N) (hz : ∀ w1 t3 a3, fX8_faultOfForm nF t1 a1 = some (w1, t3, a3) → zT t3 N ∧ zA a3 N) (hm : fX8_tongue nF N none t1 a1 = some (r1, t2, a2, N2, v2)) (hcl : cells + 603 ≤ 600000 ∧ slots + 4286 ≤ 7302250) (kk : J p l e room_1 s m args below meth c x N2 (rho u v2) 4 (cells + 0 + 603) (slots + 0 + 4286) Q 925 [(3, .int i), (2, .ref (cz x + 50)), (1, .ref (cz x + 0)), (0, .ref b)] [] t2 a2) : J p l e room_1 s m args below meth c x N (rho u none) 4 cells slots Q 195 [(3, .int i), (2, .ref (cz x + 50)), (1, .ref (cz x + 0)), (0, .ref b)] [] t a := by
  refine j_aload_n F 2 dL_law_195 rfl rfl ?_
  refine j_callVm F (k := 0) mwX7_tongue ql_L_18 clX7 (lt653 rfl hN) ly0 [] rfl ⟨rfl, rfl, (Nat.le_of_ble_eq_true rfl), (Nat.le_of_ble_eq_true rfl)⟩ ⟨Nat.le_trans (Nat.add_le_add_left (Nat.zero_le _) _) hcl.1, Nat.le_trans (Nat.add_le_add_left (Nat.zero_le _) _) hcl.2⟩ rfl (Nat.le_of_ble_eq_true rfl) dL_law_196 (kX7_tongue l hN hc) ?_
  refine j_aload_n F 1 dL_law_199 rfl rfl ?_
  refine j_callVm F (k := 50) mwX8_tongue ql_L_22 clX8 (lt653 rfl hN) ly50 [] rfl ⟨rfl, rfl, (Nat.le_of_ble_eq_true rfl), (Nat.le_of_ble_eq_true rfl)⟩ ⟨hcl.1, hcl.2⟩ rfl (Nat.le_of_ble_eq_true rfl) dL_law_200 (kX8_tongueN l hN hmd hz hm) ?_
  exact j_icmp_eq F 925 (A := some ()) (B := none) (v9 := ()) dL_law_203 rfl (if_pos rfl) (fun _ => kk) (fun h => by cases h)
set_option maxRecDepth 100000 in
theorem lc_2 {p : Program} {l : Launch} {e : Env} {s : State} {m : MethodId} {args : Array Value} {below : List Frame} {meth : Method} {c : Code} {x : Cx} {N : Nat} {u v : Option Nat} {nF cells slots b L : Nat} {xs : Nat → Int32} {i : Int32} {t t1 t2 : sT} {a a1 a2 : sA} {r1 : Int32} {Q : State → Prop} (F : Fx p s m meth c cL_law 4 RL (some .boolean) x) (hN : 653 ≤ N) (hX : va_X b L xs s s.heap) (hbl : b < s.heap.size) (hbA : ¬ cA x b) (h1 : vp_in (i + 1) L) (h2 : vp_in (i + 2) L) (hc : fX7_word nF (xs (i + 1).toNatClampNeg) (xs (i + 2).toNatClampNeg) t a = some (r1, t1, a1)) (hm : fX8_word nF (xs (i + 1).toNatClampNeg) (xs (i + 2).toNatClampNeg) t1 a1 = some (r1, t2, a2)) (hcl : cells + 0 ≤ 600000 ∧ slots + 0 ≤ 7302250) (kk : J p l e room_1 s m args below meth c x N (rho u v) 4 (cells + 0 + 0) (slots + 0 + 0) Q 925 [(3, .int i), (2, .ref (cz x + 50)), (1, .ref (cz x + 0)), (0, .ref b)] [] t2 a2) : J p l e room_1 s m args below meth c x N (rho u v) 4 cells slots Q 208 [(3, .int i), (2, .ref (cz x + 50)), (1, .ref (cz x + 0)), (0, .ref b)] [] t a := by
  refine j_aload_n F 2 dL_law_208 rfl rfl ?_
  refine j_aload_n F 3 dL_law_209 rfl rfl ?_
  refine j_iload_n F 0 dL_law_210 rfl rfl ?_
  refine j_iconst F dL_law_211 eI_1 ?_
  refine j_iadd F dL_law_212 ?_
  refine j_sld F hX hbl hbA h1 dL_law_213 ?_
  refine j_aload_n F 3 dL_law_214 rfl rfl ?_
  refine j_iload_n F 0 dL_law_215 rfl rfl ?_
  refine j_iconst F dL_law_216 eI_2 ?_
  refine j_iadd F dL_law_217 ?_
  refine j_sld F hX hbl hbA h2 dL_law_218 ?_
  refine j_callVm F (k := 0) mwX7_word ql_L_23 clX7 (lt653 rfl hN) ly0 [.int (xs (i + 1).toNatClampNeg), .int (xs (i + 2).toNatClampNeg)] rfl ⟨rfl, rfl, (Nat.le_of_ble_eq_true rfl), (Nat.le_of_ble_eq_true rfl)⟩ ⟨Nat.le_trans (Nat.add_le_add_left (Nat.zero_le _) _) hcl.1, Nat.le_trans (Nat.add_le_add_left (Nat.zero_le _) _) hcl.2⟩ rfl (Nat.le_of_ble_eq_true rfl) dL_law_219 (kX7_word l hN hc) ?_
  refine j_aload_n F 1 dL_law_222 rfl rfl ?_
  refine j_aload_n F 3 dL_law_223 rfl rfl ?_
  refine j_iload_n F 0 dL_law_224 rfl rfl ?_
  refine j_iconst F dL_law_225 eI_1 ?_
  refine j_iadd F dL_law_226 ?_
  refine j_sld F hX hbl hbA h1 dL_law_227 ?_
  refine j_aload_n F 3 dL_law_228 rfl rfl ?_
  refine j_iload_n F 0 dL_law_229 rfl rfl ?_
  refine j_iconst F dL_law_230 eI_2 ?_
  refine j_iadd F dL_law_231 ?_
  refine j_sld F hX hbl hbA h2 dL_law_232 ?_
  refine j_callVm F (k := 50) mwX8_word ql_L_27 clX8 (lt653 rfl hN) ly50 [.int (xs (i + 1).toNatClampNeg), .int (xs (i + 2).toNatClampNeg)] rfl ⟨rfl, rfl, (Nat.le_of_ble_eq_true rfl), (Nat.le_of_ble_eq_true rfl)⟩ ⟨Nat.le_trans (Nat.add_le_add_left (Nat.zero_le _) _) hcl.1, Nat.le_trans (Nat.add_le_add_left (Nat.zero_le _) _) hcl.2⟩ rfl (Nat.le_of_ble_eq_true rfl) dL_law_233 (kX8_word l hN hm) ?_
  exact j_icmp_eq F 925 (A := some ()) (B := none) (v9 := ()) dL_law_236 rfl (if_pos rfl) (fun _ => kk) (fun h => by cases h)
set_option maxRecDepth 100000 in
theorem lc_3 {p : Program} {l : Launch} {e : Env} {s : State} {m : MethodId} {args : Array Value} {below : List Frame} {meth : Method} {c : Code} {x : Cx} {N : Nat} {u v : Option Nat} {nF cells slots b L : Nat} {xs : Nat → Int32} {i : Int32} {t t1 t2 : sT} {a a1 a2 : sA} {r1 : Int32} {Q : State → Prop} (F : Fx p s m meth c cL_law 4 RL (some .boolean) x) (hN : 653 ≤ N) (hX : va_X b L xs s s.heap) (hbl : b < s.heap.size) (hbA : ¬ cA x b) (h1 : vp_in (i + 1) L) (hc : fX7_weight nF (xs (i + 1).toNatClampNeg) t a = some (r1, t1, a1)) (hm : fX8_weight nF (xs (i + 1).toNatClampNeg) t1 a1 = some (r1, t2, a2)) (hcl : cells + 0 ≤ 600000 ∧ slots + 0 ≤ 7302250) (kk : J p l e room_1 s m args below meth c x N (rho u v) 4 (cells + 0 + 0) (slots + 0 + 0) Q 925 [(3, .int i), (2, .ref (cz x + 50)), (1, .ref (cz x + 0)), (0, .ref b)] [] t2 a2) : J p l e room_1 s m args below meth c x N (rho u v) 4 cells slots Q 241 [(3, .int i), (2, .ref (cz x + 50)), (1, .ref (cz x + 0)), (0, .ref b)] [] t a := by
  refine j_aload_n F 2 dL_law_241 rfl rfl ?_
  refine j_aload_n F 3 dL_law_242 rfl rfl ?_
  refine j_iload_n F 0 dL_law_243 rfl rfl ?_
  refine j_iconst F dL_law_244 eI_1 ?_
  refine j_iadd F dL_law_245 ?_
  refine j_sld F hX hbl hbA h1 dL_law_246 ?_
  refine j_callVm F (k := 0) mwX7_weight ql_L_28 clX7 (lt653 rfl hN) ly0 [.int (xs (i + 1).toNatClampNeg)] rfl ⟨rfl, rfl, (Nat.le_of_ble_eq_true rfl), (Nat.le_of_ble_eq_true rfl)⟩ ⟨Nat.le_trans (Nat.add_le_add_left (Nat.zero_le _) _) hcl.1, Nat.le_trans (Nat.add_le_add_left (Nat.zero_le _) _) hcl.2⟩ rfl (Nat.le_of_ble_eq_true rfl) dL_law_247 (kX7_weight l hN hc) ?_
  refine j_aload_n F 1 dL_law_250 rfl rfl ?_
  refine j_aload_n F 3 dL_law_251 rfl rfl ?_
  refine j_iload_n F 0 dL_law_252 rfl rfl ?_
  refine j_iconst F dL_law_253 eI_1 ?_
  refine j_iadd F dL_law_254 ?_
  refine j_sld F hX hbl hbA h1 dL_law_255 ?_
  refine j_callVm F (k := 50) mwX8_weight ql_L_31 clX8 (lt653 rfl hN) ly50 [.int (xs (i + 1).toNatClampNeg)] rfl ⟨rfl, rfl, (Nat.le_of_ble_eq_true rfl), (Nat.le_of_ble_eq_true rfl)⟩ ⟨Nat.le_trans (Nat.add_le_add_left (Nat.zero_le _) _) hcl.1, Nat.le_trans (Nat.add_le_add_left (Nat.zero_le _) _) hcl.2⟩ rfl (Nat.le_of_ble_eq_true rfl) dL_law_256 (kX8_weight l hN hm) ?_
  exact j_icmp_eq F 925 (A := some ()) (B := none) (v9 := ()) dL_law_259 rfl (if_pos rfl) (fun _ => kk) (fun h => by cases h)
set_option maxRecDepth 100000 in
theorem lc_4 {p : Program} {l : Launch} {e : Env} {s : State} {m : MethodId} {args : Array Value} {below : List Frame} {meth : Method} {c : Code} {x : Cx} {N : Nat} {u v : Option Nat} {nF cells slots b L : Nat} {xs : Nat → Int32} {i : Int32} {t t1 t2 : sT} {a a1 a2 : sA} {r1 : Int32} {Q : State → Prop} (F : Fx p s m meth c cL_law 4 RL (some .boolean) x) (hN : 653 ≤ N) (hX : va_X b L xs s s.heap) (hbl : b < s.heap.size) (hbA : ¬ cA x b) (h1 : vp_in (i + 1) L) (hc : fX7_truth nF (xs (i + 1).toNatClampNeg) t a = some (r1, t1, a1)) (hm : fX8_truth nF (xs (i + 1).toNatClampNeg) t1 a1 = some (r1, t2, a2)) (hcl : cells + 0 ≤ 600000 ∧ slots + 0 ≤ 7302250) (kk : J p l e room_1 s m args below meth c x N (rho u v) 4 (cells + 0 + 0) (slots + 0 + 0) Q 925 [(3, .int i), (2, .ref (cz x + 50)), (1, .ref (cz x + 0)), (0, .ref b)] [] t2 a2) : J p l e room_1 s m args below meth c x N (rho u v) 4 cells slots Q 264 [(3, .int i), (2, .ref (cz x + 50)), (1, .ref (cz x + 0)), (0, .ref b)] [] t a := by
  refine j_aload_n F 2 dL_law_264 rfl rfl ?_
  refine j_aload_n F 3 dL_law_265 rfl rfl ?_
  refine j_iload_n F 0 dL_law_266 rfl rfl ?_
  refine j_iconst F dL_law_267 eI_1 ?_
  refine j_iadd F dL_law_268 ?_
  refine j_sld F hX hbl hbA h1 dL_law_269 ?_
  refine j_callVm F (k := 0) mwX7_truth ql_L_32 clX7 (lt653 rfl hN) ly0 [.int (xs (i + 1).toNatClampNeg)] rfl ⟨rfl, rfl, (Nat.le_of_ble_eq_true rfl), (Nat.le_of_ble_eq_true rfl)⟩ ⟨Nat.le_trans (Nat.add_le_add_left (Nat.zero_le _) _) hcl.1, Nat.le_trans (Nat.add_le_add_left (Nat.zero_le _) _) hcl.2⟩ rfl (Nat.le_of_ble_eq_true rfl) dL_law_270 (kX7_truth l hN hc) ?_
  refine j_aload_n F 1 dL_law_273 rfl rfl ?_
  refine j_aload_n F 3 dL_law_274 rfl rfl ?_
  refine j_iload_n F 0 dL_law_275 rfl rfl ?_
  refine j_iconst F dL_law_276 eI_1 ?_
  refine j_iadd F dL_law_277 ?_
  refine j_sld F hX hbl hbA h1 dL_law_278 ?_
  refine j_callVm F (k := 50) mwX8_truth ql_L_35 clX8 (lt653 rfl hN) ly50 [.int (xs (i + 1).toNatClampNeg)] rfl ⟨rfl, rfl, (Nat.le_of_ble_eq_true rfl), (Nat.le_of_ble_eq_true rfl)⟩ ⟨Nat.le_trans (Nat.add_le_add_left (Nat.zero_le _) _) hcl.1, Nat.le_trans (Nat.add_le_add_left (Nat.zero_le _) _) hcl.2⟩ rfl (Nat.le_of_ble_eq_true rfl) dL_law_279 (kX8_truth l hN hm) ?_
  exact j_icmp_eq F 925 (A := some ()) (B := none) (v9 := ()) dL_law_282 rfl (if_pos rfl) (fun _ => kk) (fun h => by cases h)
set_option maxRecDepth 100000 in
theorem lc_5 {p : Program} {l : Launch} {e : Env} {s : State} {m : MethodId} {args : Array Value} {below : List Frame} {meth : Method} {c : Code} {x : Cx} {N : Nat} {u v : Option Nat} {nF cells slots b L : Nat} {xs : Nat → Int32} {i : Int32} {t t1 t2 : sT} {a a1 a2 : sA} {r1 : Int32} {Q : State → Prop} (F : Fx p s m meth c cL_law 4 RL (some .boolean) x) (hN : 653 ≤ N) (hX : va_X b L xs s s.heap) (hbl : b < s.heap.size) (hbA : ¬ cA x b) (h1 : vp_in (i + 1) L) (hc : fX7_law nF (xs (i + 1).toNatClampNeg) t a = some (r1, t1, a1)) (hm : fX8_law nF (xs (i + 1).toNatClampNeg) t1 a1 = some (r1, t2, a2)) (hcl : cells + 0 ≤ 600000 ∧ slots + 0 ≤ 7302250) (kk : J p l e room_1 s m args below meth c x N (rho u v) 4 (cells + 0 + 0) (slots + 0 + 0) Q 925 [(3, .int i), (2, .ref (cz x + 50)), (1, .ref (cz x + 0)), (0, .ref b)] [] t2 a2) : J p l e room_1 s m args below meth c x N (rho u v) 4 cells slots Q 287 [(3, .int i), (2, .ref (cz x + 50)), (1, .ref (cz x + 0)), (0, .ref b)] [] t a := by
  refine j_aload_n F 2 dL_law_287 rfl rfl ?_
  refine j_aload_n F 3 dL_law_288 rfl rfl ?_
  refine j_iload_n F 0 dL_law_289 rfl rfl ?_
  refine j_iconst F dL_law_290 eI_1 ?_
  refine j_iadd F dL_law_291 ?_
  refine j_sld F hX hbl hbA h1 dL_law_292 ?_
  refine j_callVm F (k := 0) mwX7_law ql_L_36 clX7 (lt653 rfl hN) ly0 [.int (xs (i + 1).toNatClampNeg)] rfl ⟨rfl, rfl, (Nat.le_of_ble_eq_true rfl), (Nat.le_of_ble_eq_true rfl)⟩ ⟨Nat.le_trans (Nat.add_le_add_left (Nat.zero_le _) _) hcl.1, Nat.le_trans (Nat.add_le_add_left (Nat.zero_le _) _) hcl.2⟩ rfl (Nat.le_of_ble_eq_true rfl) dL_law_293 (kX7_law l hN hc) ?_
  refine j_aload_n F 1 dL_law_296 rfl rfl ?_
  refine j_aload_n F 3 dL_law_297 rfl rfl ?_
  refine j_iload_n F 0 dL_law_298 rfl rfl ?_
  refine j_iconst F dL_law_299 eI_1 ?_
  refine j_iadd F dL_law_300 ?_
  refine j_sld F hX hbl hbA h1 dL_law_301 ?_
  refine j_callVm F (k := 50) mwX8_law ql_L_39 clX8 (lt653 rfl hN) ly50 [.int (xs (i + 1).toNatClampNeg)] rfl ⟨rfl, rfl, (Nat.le_of_ble_eq_true rfl), (Nat.le_of_ble_eq_true rfl)⟩ ⟨Nat.le_trans (Nat.add_le_add_left (Nat.zero_le _) _) hcl.1, Nat.le_trans (Nat.add_le_add_left (Nat.zero_le _) _) hcl.2⟩ rfl (Nat.le_of_ble_eq_true rfl) dL_law_302 (kX8_law l hN hm) ?_
  exact j_icmp_eq F 925 (A := some ()) (B := none) (v9 := ()) dL_law_305 rfl (if_pos rfl) (fun _ => kk) (fun h => by cases h)
set_option maxRecDepth 100000 in
theorem lc_6 {p : Program} {l : Launch} {e : Env} {s : State} {m : MethodId} {args : Array Value} {below : List Frame} {meth : Method} {c : Code} {x : Cx} {N : Nat} {u v : Option Nat} {nF cells slots b L : Nat} {xs : Nat → Int32} {i : Int32} {t t1 t2 : sT} {a a1 a2 : sA} {r1 : Int32} {Q : State → Prop} (F : Fx p s m meth c cL_law 4 RL (some .boolean) x) (hN : 653 ≤ N) (hX : va_X b L xs s s.heap) (hbl : b < s.heap.size) (hbA : ¬ cA x b) (h1 : vp_in (i + 1) L) (hc : fX7_row nF (xs (i + 1).toNatClampNeg) t a = some (r1, t1, a1)) (hm : fX8_row nF (xs (i + 1).toNatClampNeg) t1 a1 = some (r1, t2, a2)) (hcl : cells + 0 ≤ 600000 ∧ slots + 0 ≤ 7302250) (kk : J p l e room_1 s m args below meth c x N (rho u v) 4 (cells + 0 + 0) (slots + 0 + 0) Q 925 [(3, .int i), (2, .ref (cz x + 50)), (1, .ref (cz x + 0)), (0, .ref b)] [] t2 a2) : J p l e room_1 s m args below meth c x N (rho u v) 4 cells slots Q 310 [(3, .int i), (2, .ref (cz x + 50)), (1, .ref (cz x + 0)), (0, .ref b)] [] t a := by
  refine j_aload_n F 2 dL_law_310 rfl rfl ?_
  refine j_aload_n F 3 dL_law_311 rfl rfl ?_
  refine j_iload_n F 0 dL_law_312 rfl rfl ?_
  refine j_iconst F dL_law_313 eI_1 ?_
  refine j_iadd F dL_law_314 ?_
  refine j_sld F hX hbl hbA h1 dL_law_315 ?_
  refine j_callVm F (k := 0) mwX7_row ql_L_40 clX7 (lt653 rfl hN) ly0 [.int (xs (i + 1).toNatClampNeg)] rfl ⟨rfl, rfl, (Nat.le_of_ble_eq_true rfl), (Nat.le_of_ble_eq_true rfl)⟩ ⟨Nat.le_trans (Nat.add_le_add_left (Nat.zero_le _) _) hcl.1, Nat.le_trans (Nat.add_le_add_left (Nat.zero_le _) _) hcl.2⟩ rfl (Nat.le_of_ble_eq_true rfl) dL_law_316 (kX7_row l hN hc) ?_
  refine j_aload_n F 1 dL_law_319 rfl rfl ?_
  refine j_aload_n F 3 dL_law_320 rfl rfl ?_
  refine j_iload_n F 0 dL_law_321 rfl rfl ?_
  refine j_iconst F dL_law_322 eI_1 ?_
  refine j_iadd F dL_law_323 ?_
  refine j_sld F hX hbl hbA h1 dL_law_324 ?_
  refine j_callVm F (k := 50) mwX8_row ql_L_43 clX8 (lt653 rfl hN) ly50 [.int (xs (i + 1).toNatClampNeg)] rfl ⟨rfl, rfl, (Nat.le_of_ble_eq_true rfl), (Nat.le_of_ble_eq_true rfl)⟩ ⟨Nat.le_trans (Nat.add_le_add_left (Nat.zero_le _) _) hcl.1, Nat.le_trans (Nat.add_le_add_left (Nat.zero_le _) _) hcl.2⟩ rfl (Nat.le_of_ble_eq_true rfl) dL_law_325 (kX8_row l hN hm) ?_
  exact j_icmp_eq F 925 (A := some ()) (B := none) (v9 := ()) dL_law_328 rfl (if_pos rfl) (fun _ => kk) (fun h => by cases h)
set_option maxRecDepth 100000 in
theorem lc_7 {p : Program} {l : Launch} {e : Env} {s : State} {m : MethodId} {args : Array Value} {below : List Frame} {meth : Method} {c : Code} {x : Cx} {N : Nat} {u v : Option Nat} {nF cells slots b L : Nat} {xs : Nat → Int32} {i : Int32} {t t1 t2 : sT} {a a1 a2 : sA} {r1 : Int32} {Q : State → Prop} (F : Fx p s m meth c cL_law 4 RL (some .boolean) x) (hN : 653 ≤ N) (hX : va_X b L xs s s.heap) (hbl : b < s.heap.size) (hbA : ¬ cA x b) (hc : fX7_means nF t a = some (r1, t1, a1)) (hm : fX8_means nF t1 a1 = some (r1, t2, a2)) (hcl : cells + 0 ≤ 600000 ∧ slots + 0 ≤ 7302250) (kk : J p l e room_1 s m args below meth c x N (rho u v) 4 (cells + 0 + 0) (slots + 0 + 0) Q 925 [(3, .int i), (2, .ref (cz x + 50)), (1, .ref (cz x + 0)), (0, .ref b)] [] t2 a2) : J p l e room_1 s m args below meth c x N (rho u v) 4 cells slots Q 333 [(3, .int i), (2, .ref (cz x + 50)), (1, .ref (cz x + 0)), (0, .ref b)] [] t a := by
  refine j_aload_n F 2 dL_law_333 rfl rfl ?_
  refine j_callVm F (k := 0) mwX7_means ql_L_44 clX7 (lt653 rfl hN) ly0 [] rfl ⟨rfl, rfl, (Nat.le_of_ble_eq_true rfl), (Nat.le_of_ble_eq_true rfl)⟩ ⟨Nat.le_trans (Nat.add_le_add_left (Nat.zero_le _) _) hcl.1, Nat.le_trans (Nat.add_le_add_left (Nat.zero_le _) _) hcl.2⟩ rfl (Nat.le_of_ble_eq_true rfl) dL_law_334 (kX7_means l hN hc) ?_
  refine j_aload_n F 1 dL_law_337 rfl rfl ?_
  refine j_callVm F (k := 50) mwX8_means ql_L_47 clX8 (lt653 rfl hN) ly50 [] rfl ⟨rfl, rfl, (Nat.le_of_ble_eq_true rfl), (Nat.le_of_ble_eq_true rfl)⟩ ⟨Nat.le_trans (Nat.add_le_add_left (Nat.zero_le _) _) hcl.1, Nat.le_trans (Nat.add_le_add_left (Nat.zero_le _) _) hcl.2⟩ rfl (Nat.le_of_ble_eq_true rfl) dL_law_338 (kX8_means l hN hm) ?_
  exact j_icmp_eq F 925 (A := some ()) (B := none) (v9 := ()) dL_law_341 rfl (if_pos rfl) (fun _ => kk) (fun h => by cases h)
set_option maxRecDepth 100000 in
theorem lc_8 {p : Program} {l : Launch} {e : Env} {s : State} {m : MethodId} {args : Array Value} {below : List Frame} {meth : Method} {c : Code} {x : Cx} {N : Nat} {u v : Option Nat} {nF cells slots b L : Nat} {xs : Nat → Int32} {i : Int32} {t t1 t2 : sT} {a a1 a2 : sA} {r1 : Int32} {Q : State → Prop} (F : Fx p s m meth c cL_law 4 RL (some .boolean) x) (hN : 653 ≤ N) (hX : va_X b L xs s s.heap) (hbl : b < s.heap.size) (hbA : ¬ cA x b) (h1 : vp_in (i + 1) L) (h2 : vp_in (i + 2) L) (hc : fX7_follows nF (xs (i + 1).toNatClampNeg) (xs (i + 2).toNatClampNeg) t a = some (r1, t1, a1)) (hm : fX8_follows nF (xs (i + 1).toNatClampNeg) (xs (i + 2).toNatClampNeg) t1 a1 = some (r1, t2, a2)) (hcl : cells + 0 ≤ 600000 ∧ slots + 0 ≤ 7302250) (kk : J p l e room_1 s m args below meth c x N (rho u v) 4 (cells + 0 + 0) (slots + 0 + 0) Q 925 [(3, .int i), (2, .ref (cz x + 50)), (1, .ref (cz x + 0)), (0, .ref b)] [] t2 a2) : J p l e room_1 s m args below meth c x N (rho u v) 4 cells slots Q 346 [(3, .int i), (2, .ref (cz x + 50)), (1, .ref (cz x + 0)), (0, .ref b)] [] t a := by
  refine j_aload_n F 2 dL_law_346 rfl rfl ?_
  refine j_aload_n F 3 dL_law_347 rfl rfl ?_
  refine j_iload_n F 0 dL_law_348 rfl rfl ?_
  refine j_iconst F dL_law_349 eI_1 ?_
  refine j_iadd F dL_law_350 ?_
  refine j_sld F hX hbl hbA h1 dL_law_351 ?_
  refine j_aload_n F 3 dL_law_352 rfl rfl ?_
  refine j_iload_n F 0 dL_law_353 rfl rfl ?_
  refine j_iconst F dL_law_354 eI_2 ?_
  refine j_iadd F dL_law_355 ?_
  refine j_sld F hX hbl hbA h2 dL_law_356 ?_
  refine j_callVm F (k := 0) mwX7_follows ql_L_48 clX7 (lt653 rfl hN) ly0 [.int (xs (i + 1).toNatClampNeg), .int (xs (i + 2).toNatClampNeg)] rfl ⟨rfl, rfl, (Nat.le_of_ble_eq_true rfl), (Nat.le_of_ble_eq_true rfl)⟩ ⟨Nat.le_trans (Nat.add_le_add_left (Nat.zero_le _) _) hcl.1, Nat.le_trans (Nat.add_le_add_left (Nat.zero_le _) _) hcl.2⟩ rfl (Nat.le_of_ble_eq_true rfl) dL_law_357 (kX7_follows l hN hc) ?_
  refine j_aload_n F 1 dL_law_360 rfl rfl ?_
  refine j_aload_n F 3 dL_law_361 rfl rfl ?_
  refine j_iload_n F 0 dL_law_362 rfl rfl ?_
  refine j_iconst F dL_law_363 eI_1 ?_
  refine j_iadd F dL_law_364 ?_
  refine j_sld F hX hbl hbA h1 dL_law_365 ?_
  refine j_aload_n F 3 dL_law_366 rfl rfl ?_
  refine j_iload_n F 0 dL_law_367 rfl rfl ?_
  refine j_iconst F dL_law_368 eI_2 ?_
  refine j_iadd F dL_law_369 ?_
  refine j_sld F hX hbl hbA h2 dL_law_370 ?_
  refine j_callVm F (k := 50) mwX8_follows ql_L_51 clX8 (lt653 rfl hN) ly50 [.int (xs (i + 1).toNatClampNeg), .int (xs (i + 2).toNatClampNeg)] rfl ⟨rfl, rfl, (Nat.le_of_ble_eq_true rfl), (Nat.le_of_ble_eq_true rfl)⟩ ⟨Nat.le_trans (Nat.add_le_add_left (Nat.zero_le _) _) hcl.1, Nat.le_trans (Nat.add_le_add_left (Nat.zero_le _) _) hcl.2⟩ rfl (Nat.le_of_ble_eq_true rfl) dL_law_371 (kX8_follows l hN hm) ?_
  exact j_icmp_eq F 925 (A := some ()) (B := none) (v9 := ()) dL_law_374 rfl (if_pos rfl) (fun _ => kk) (fun h => by cases h)
set_option maxRecDepth 100000 in
theorem lc_9 {p : Program} {l : Launch} {e : Env} {s : State} {m : MethodId} {args : Array Value} {below : List Frame} {meth : Method} {c : Code} {x : Cx} {N : Nat} {u v : Option Nat} {nF cells slots b L : Nat} {xs : Nat → Int32} {i : Int32} {t t1 t2 : sT} {a a1 a2 : sA} {r1 : Int32} {Q : State → Prop} (F : Fx p s m meth c cL_law 4 RL (some .boolean) x) (hN : 653 ≤ N) (hX : va_X b L xs s s.heap) (hbl : b < s.heap.size) (hbA : ¬ cA x b) (h1 : vp_in (i + 1) L) (hc : fX7_settles nF (xs (i + 1).toNatClampNeg) t a = some (r1, t1, a1)) (hm : fX8_settles nF (xs (i + 1).toNatClampNeg) t1 a1 = some (r1, t2, a2)) (hcl : cells + 0 ≤ 600000 ∧ slots + 0 ≤ 7302250) (kk : J p l e room_1 s m args below meth c x N (rho u v) 4 (cells + 0 + 0) (slots + 0 + 0) Q 925 [(3, .int i), (2, .ref (cz x + 50)), (1, .ref (cz x + 0)), (0, .ref b)] [] t2 a2) : J p l e room_1 s m args below meth c x N (rho u v) 4 cells slots Q 379 [(3, .int i), (2, .ref (cz x + 50)), (1, .ref (cz x + 0)), (0, .ref b)] [] t a := by
  refine j_aload_n F 2 dL_law_379 rfl rfl ?_
  refine j_aload_n F 3 dL_law_380 rfl rfl ?_
  refine j_iload_n F 0 dL_law_381 rfl rfl ?_
  refine j_iconst F dL_law_382 eI_1 ?_
  refine j_iadd F dL_law_383 ?_
  refine j_sld F hX hbl hbA h1 dL_law_384 ?_
  refine j_callVm F (k := 0) mwX7_settles ql_L_52 clX7 (lt653 rfl hN) ly0 [.int (xs (i + 1).toNatClampNeg)] rfl ⟨rfl, rfl, (Nat.le_of_ble_eq_true rfl), (Nat.le_of_ble_eq_true rfl)⟩ ⟨Nat.le_trans (Nat.add_le_add_left (Nat.zero_le _) _) hcl.1, Nat.le_trans (Nat.add_le_add_left (Nat.zero_le _) _) hcl.2⟩ rfl (Nat.le_of_ble_eq_true rfl) dL_law_385 (kX7_settles l hN hc) ?_
  refine j_aload_n F 1 dL_law_388 rfl rfl ?_
  refine j_aload_n F 3 dL_law_389 rfl rfl ?_
  refine j_iload_n F 0 dL_law_390 rfl rfl ?_
  refine j_iconst F dL_law_391 eI_1 ?_
  refine j_iadd F dL_law_392 ?_
  refine j_sld F hX hbl hbA h1 dL_law_393 ?_
  refine j_callVm F (k := 50) mwX8_settles ql_L_55 clX8 (lt653 rfl hN) ly50 [.int (xs (i + 1).toNatClampNeg)] rfl ⟨rfl, rfl, (Nat.le_of_ble_eq_true rfl), (Nat.le_of_ble_eq_true rfl)⟩ ⟨Nat.le_trans (Nat.add_le_add_left (Nat.zero_le _) _) hcl.1, Nat.le_trans (Nat.add_le_add_left (Nat.zero_le _) _) hcl.2⟩ rfl (Nat.le_of_ble_eq_true rfl) dL_law_394 (kX8_settles l hN hm) ?_
  exact j_icmp_eq F 925 (A := some ()) (B := none) (v9 := ()) dL_law_397 rfl (if_pos rfl) (fun _ => kk) (fun h => by cases h)
set_option maxRecDepth 100000 in
theorem lc_10 {p : Program} {l : Launch} {e : Env} {s : State} {m : MethodId} {args : Array Value} {below : List Frame} {meth : Method} {c : Code} {x : Cx} {N : Nat} {u v : Option Nat} {nF cells slots b L : Nat} {xs : Nat → Int32} {i : Int32} {t t1 t2 : sT} {a a1 a2 : sA} {r1 : Int32} {Q : State → Prop} (F : Fx p s m meth c cL_law 4 RL (some .boolean) x) (hN : 653 ≤ N) (hX : va_X b L xs s s.heap) (hbl : b < s.heap.size) (hbA : ¬ cA x b) (h1 : vp_in (i + 1) L) (h2 : vp_in (i + 2) L) (hc : fX7_answer nF (xs (i + 1).toNatClampNeg) (xs (i + 2).toNatClampNeg) t a = some (r1, t1, a1)) (hm : fX8_answer nF (xs (i + 1).toNatClampNeg) (xs (i + 2).toNatClampNeg) t1 a1 = some (r1, t2, a2)) (hcl : cells + 0 ≤ 600000 ∧ slots + 0 ≤ 7302250) (kk : J p l e room_1 s m args below meth c x N (rho u v) 4 (cells + 0 + 0) (slots + 0 + 0) Q 925 [(3, .int i), (2, .ref (cz x + 50)), (1, .ref (cz x + 0)), (0, .ref b)] [] t2 a2) : J p l e room_1 s m args below meth c x N (rho u v) 4 cells slots Q 402 [(3, .int i), (2, .ref (cz x + 50)), (1, .ref (cz x + 0)), (0, .ref b)] [] t a := by
  refine j_aload_n F 2 dL_law_402 rfl rfl ?_
  refine j_aload_n F 3 dL_law_403 rfl rfl ?_
  refine j_iload_n F 0 dL_law_404 rfl rfl ?_
  refine j_iconst F dL_law_405 eI_1 ?_
  refine j_iadd F dL_law_406 ?_
  refine j_sld F hX hbl hbA h1 dL_law_407 ?_
  refine j_aload_n F 3 dL_law_408 rfl rfl ?_
  refine j_iload_n F 0 dL_law_409 rfl rfl ?_
  refine j_iconst F dL_law_410 eI_2 ?_
  refine j_iadd F dL_law_411 ?_
  refine j_sld F hX hbl hbA h2 dL_law_412 ?_
  refine j_callVm F (k := 0) mwX7_answer ql_L_56 clX7 (lt653 rfl hN) ly0 [.int (xs (i + 1).toNatClampNeg), .int (xs (i + 2).toNatClampNeg)] rfl ⟨rfl, rfl, (Nat.le_of_ble_eq_true rfl), (Nat.le_of_ble_eq_true rfl)⟩ ⟨Nat.le_trans (Nat.add_le_add_left (Nat.zero_le _) _) hcl.1, Nat.le_trans (Nat.add_le_add_left (Nat.zero_le _) _) hcl.2⟩ rfl (Nat.le_of_ble_eq_true rfl) dL_law_413 (kX7_answer l hN hc) ?_
  refine j_aload_n F 1 dL_law_416 rfl rfl ?_
  refine j_aload_n F 3 dL_law_417 rfl rfl ?_
  refine j_iload_n F 0 dL_law_418 rfl rfl ?_
  refine j_iconst F dL_law_419 eI_1 ?_
  refine j_iadd F dL_law_420 ?_
  refine j_sld F hX hbl hbA h1 dL_law_421 ?_
  refine j_aload_n F 3 dL_law_422 rfl rfl ?_
  refine j_iload_n F 0 dL_law_423 rfl rfl ?_
  refine j_iconst F dL_law_424 eI_2 ?_
  refine j_iadd F dL_law_425 ?_
  refine j_sld F hX hbl hbA h2 dL_law_426 ?_
  refine j_callVm F (k := 50) mwX8_answer ql_L_59 clX8 (lt653 rfl hN) ly50 [.int (xs (i + 1).toNatClampNeg), .int (xs (i + 2).toNatClampNeg)] rfl ⟨rfl, rfl, (Nat.le_of_ble_eq_true rfl), (Nat.le_of_ble_eq_true rfl)⟩ ⟨Nat.le_trans (Nat.add_le_add_left (Nat.zero_le _) _) hcl.1, Nat.le_trans (Nat.add_le_add_left (Nat.zero_le _) _) hcl.2⟩ rfl (Nat.le_of_ble_eq_true rfl) dL_law_427 (kX8_answer l hN hm) ?_
  exact j_icmp_eq F 925 (A := some ()) (B := none) (v9 := ()) dL_law_430 rfl (if_pos rfl) (fun _ => kk) (fun h => by cases h)
set_option maxRecDepth 100000 in
theorem lc_11 {p : Program} {l : Launch} {e : Env} {s : State} {m : MethodId} {args : Array Value} {below : List Frame} {meth : Method} {c : Code} {x : Cx} {N : Nat} {u v : Option Nat} {nF cells slots b L : Nat} {xs : Nat → Int32} {i : Int32} {t t1 t2 : sT} {a a1 a2 : sA} {r1 : Int32} {Q : State → Prop} (F : Fx p s m meth c cL_law 4 RL (some .boolean) x) (hN : 653 ≤ N) (hX : va_X b L xs s s.heap) (hbl : b < s.heap.size) (hbA : ¬ cA x b) (h1 : vp_in (i + 1) L) (hc : fX7_answers nF (xs (i + 1).toNatClampNeg) t a = some (r1, t1, a1)) (hm : fX8_answers nF (xs (i + 1).toNatClampNeg) t1 a1 = some (r1, t2, a2)) (hcl : cells + 0 ≤ 600000 ∧ slots + 0 ≤ 7302250) (kk : J p l e room_1 s m args below meth c x N (rho u v) 4 (cells + 0 + 0) (slots + 0 + 0) Q 925 [(3, .int i), (2, .ref (cz x + 50)), (1, .ref (cz x + 0)), (0, .ref b)] [] t2 a2) : J p l e room_1 s m args below meth c x N (rho u v) 4 cells slots Q 435 [(3, .int i), (2, .ref (cz x + 50)), (1, .ref (cz x + 0)), (0, .ref b)] [] t a := by
  refine j_aload_n F 2 dL_law_435 rfl rfl ?_
  refine j_aload_n F 3 dL_law_436 rfl rfl ?_
  refine j_iload_n F 0 dL_law_437 rfl rfl ?_
  refine j_iconst F dL_law_438 eI_1 ?_
  refine j_iadd F dL_law_439 ?_
  refine j_sld F hX hbl hbA h1 dL_law_440 ?_
  refine j_callVm F (k := 0) mwX7_answers ql_L_60 clX7 (lt653 rfl hN) ly0 [.int (xs (i + 1).toNatClampNeg)] rfl ⟨rfl, rfl, (Nat.le_of_ble_eq_true rfl), (Nat.le_of_ble_eq_true rfl)⟩ ⟨Nat.le_trans (Nat.add_le_add_left (Nat.zero_le _) _) hcl.1, Nat.le_trans (Nat.add_le_add_left (Nat.zero_le _) _) hcl.2⟩ rfl (Nat.le_of_ble_eq_true rfl) dL_law_441 (kX7_answers l hN hc) ?_
  refine j_aload_n F 1 dL_law_444 rfl rfl ?_
  refine j_aload_n F 3 dL_law_445 rfl rfl ?_
  refine j_iload_n F 0 dL_law_446 rfl rfl ?_
  refine j_iconst F dL_law_447 eI_1 ?_
  refine j_iadd F dL_law_448 ?_
  refine j_sld F hX hbl hbA h1 dL_law_449 ?_
  refine j_callVm F (k := 50) mwX8_answers ql_L_63 clX8 (lt653 rfl hN) ly50 [.int (xs (i + 1).toNatClampNeg)] rfl ⟨rfl, rfl, (Nat.le_of_ble_eq_true rfl), (Nat.le_of_ble_eq_true rfl)⟩ ⟨Nat.le_trans (Nat.add_le_add_left (Nat.zero_le _) _) hcl.1, Nat.le_trans (Nat.add_le_add_left (Nat.zero_le _) _) hcl.2⟩ rfl (Nat.le_of_ble_eq_true rfl) dL_law_450 (kX8_answers l hN hm) ?_
  exact j_icmp_eq F 925 (A := some ()) (B := none) (v9 := ()) dL_law_453 rfl (if_pos rfl) (fun _ => kk) (fun h => by cases h)
set_option maxRecDepth 100000 in
theorem lc_12 {p : Program} {l : Launch} {e : Env} {s : State} {m : MethodId} {args : Array Value} {below : List Frame} {meth : Method} {c : Code} {x : Cx} {N : Nat} {u v : Option Nat} {nF cells slots b L : Nat} {xs : Nat → Int32} {i : Int32} {t t1 t2 : sT} {a a1 a2 : sA} {r1 : Int32} {Q : State → Prop} (F : Fx p s m meth c cL_law 4 RL (some .boolean) x) (hN : 653 ≤ N) (hX : va_X b L xs s s.heap) (hbl : b < s.heap.size) (hbA : ¬ cA x b) (h1 : vp_in (i + 1) L) (h2 : vp_in (i + 2) L) (hc : fX7_least nF (xs (i + 1).toNatClampNeg) (xs (i + 2).toNatClampNeg) t a = some (r1, t1, a1)) (hm : fX8_least nF (xs (i + 1).toNatClampNeg) (xs (i + 2).toNatClampNeg) t1 a1 = some (r1, t2, a2)) (hcl : cells + 0 ≤ 600000 ∧ slots + 0 ≤ 7302250) (kk : J p l e room_1 s m args below meth c x N (rho u v) 4 (cells + 0 + 0) (slots + 0 + 0) Q 925 [(3, .int i), (2, .ref (cz x + 50)), (1, .ref (cz x + 0)), (0, .ref b)] [] t2 a2) : J p l e room_1 s m args below meth c x N (rho u v) 4 cells slots Q 458 [(3, .int i), (2, .ref (cz x + 50)), (1, .ref (cz x + 0)), (0, .ref b)] [] t a := by
  refine j_aload_n F 2 dL_law_458 rfl rfl ?_
  refine j_aload_n F 3 dL_law_459 rfl rfl ?_
  refine j_iload_n F 0 dL_law_460 rfl rfl ?_
  refine j_iconst F dL_law_461 eI_1 ?_
  refine j_iadd F dL_law_462 ?_
  refine j_sld F hX hbl hbA h1 dL_law_463 ?_
  refine j_aload_n F 3 dL_law_464 rfl rfl ?_
  refine j_iload_n F 0 dL_law_465 rfl rfl ?_
  refine j_iconst F dL_law_466 eI_2 ?_
  refine j_iadd F dL_law_467 ?_
  refine j_sld F hX hbl hbA h2 dL_law_468 ?_
  refine j_callVm F (k := 0) mwX7_least ql_L_64 clX7 (lt653 rfl hN) ly0 [.int (xs (i + 1).toNatClampNeg), .int (xs (i + 2).toNatClampNeg)] rfl ⟨rfl, rfl, (Nat.le_of_ble_eq_true rfl), (Nat.le_of_ble_eq_true rfl)⟩ ⟨Nat.le_trans (Nat.add_le_add_left (Nat.zero_le _) _) hcl.1, Nat.le_trans (Nat.add_le_add_left (Nat.zero_le _) _) hcl.2⟩ rfl (Nat.le_of_ble_eq_true rfl) dL_law_469 (kX7_least l hN hc) ?_
  refine j_aload_n F 1 dL_law_472 rfl rfl ?_
  refine j_aload_n F 3 dL_law_473 rfl rfl ?_
  refine j_iload_n F 0 dL_law_474 rfl rfl ?_
  refine j_iconst F dL_law_475 eI_1 ?_
  refine j_iadd F dL_law_476 ?_
  refine j_sld F hX hbl hbA h1 dL_law_477 ?_
  refine j_aload_n F 3 dL_law_478 rfl rfl ?_
  refine j_iload_n F 0 dL_law_479 rfl rfl ?_
  refine j_iconst F dL_law_480 eI_2 ?_
  refine j_iadd F dL_law_481 ?_
  refine j_sld F hX hbl hbA h2 dL_law_482 ?_
  refine j_callVm F (k := 50) mwX8_least ql_L_67 clX8 (lt653 rfl hN) ly50 [.int (xs (i + 1).toNatClampNeg), .int (xs (i + 2).toNatClampNeg)] rfl ⟨rfl, rfl, (Nat.le_of_ble_eq_true rfl), (Nat.le_of_ble_eq_true rfl)⟩ ⟨Nat.le_trans (Nat.add_le_add_left (Nat.zero_le _) _) hcl.1, Nat.le_trans (Nat.add_le_add_left (Nat.zero_le _) _) hcl.2⟩ rfl (Nat.le_of_ble_eq_true rfl) dL_law_483 (kX8_least l hN hm) ?_
  exact j_icmp_eq F 925 (A := some ()) (B := none) (v9 := ()) dL_law_486 rfl (if_pos rfl) (fun _ => kk) (fun h => by cases h)
set_option maxRecDepth 100000 in
theorem lc_13 {p : Program} {l : Launch} {e : Env} {s : State} {m : MethodId} {args : Array Value} {below : List Frame} {meth : Method} {c : Code} {x : Cx} {N : Nat} {u v : Option Nat} {nF cells slots b L : Nat} {xs : Nat → Int32} {i : Int32} {t t1 t2 : sT} {a a1 a2 : sA} {r1 : Int32} {Q : State → Prop} (F : Fx p s m meth c cL_law 4 RL (some .boolean) x) (hN : 653 ≤ N) (hX : va_X b L xs s s.heap) (hbl : b < s.heap.size) (hbA : ¬ cA x b) (h1 : vp_in (i + 1) L) (hc : fX7_left nF (xs (i + 1).toNatClampNeg) t a = some (r1, t1, a1)) (hm : fX8_left nF (xs (i + 1).toNatClampNeg) t1 a1 = some (r1, t2, a2)) (hcl : cells + 0 ≤ 600000 ∧ slots + 0 ≤ 7302250) (kk : J p l e room_1 s m args below meth c x N (rho u v) 4 (cells + 0 + 0) (slots + 0 + 0) Q 925 [(3, .int i), (2, .ref (cz x + 50)), (1, .ref (cz x + 0)), (0, .ref b)] [] t2 a2) : J p l e room_1 s m args below meth c x N (rho u v) 4 cells slots Q 491 [(3, .int i), (2, .ref (cz x + 50)), (1, .ref (cz x + 0)), (0, .ref b)] [] t a := by
  refine j_aload_n F 2 dL_law_491 rfl rfl ?_
  refine j_aload_n F 3 dL_law_492 rfl rfl ?_
  refine j_iload_n F 0 dL_law_493 rfl rfl ?_
  refine j_iconst F dL_law_494 eI_1 ?_
  refine j_iadd F dL_law_495 ?_
  refine j_sld F hX hbl hbA h1 dL_law_496 ?_
  refine j_callVm F (k := 0) mwX7_left ql_L_68 clX7 (lt653 rfl hN) ly0 [.int (xs (i + 1).toNatClampNeg)] rfl ⟨rfl, rfl, (Nat.le_of_ble_eq_true rfl), (Nat.le_of_ble_eq_true rfl)⟩ ⟨Nat.le_trans (Nat.add_le_add_left (Nat.zero_le _) _) hcl.1, Nat.le_trans (Nat.add_le_add_left (Nat.zero_le _) _) hcl.2⟩ rfl (Nat.le_of_ble_eq_true rfl) dL_law_497 (kX7_left l hN hc) ?_
  refine j_aload_n F 1 dL_law_500 rfl rfl ?_
  refine j_aload_n F 3 dL_law_501 rfl rfl ?_
  refine j_iload_n F 0 dL_law_502 rfl rfl ?_
  refine j_iconst F dL_law_503 eI_1 ?_
  refine j_iadd F dL_law_504 ?_
  refine j_sld F hX hbl hbA h1 dL_law_505 ?_
  refine j_callVm F (k := 50) mwX8_left ql_L_71 clX8 (lt653 rfl hN) ly50 [.int (xs (i + 1).toNatClampNeg)] rfl ⟨rfl, rfl, (Nat.le_of_ble_eq_true rfl), (Nat.le_of_ble_eq_true rfl)⟩ ⟨Nat.le_trans (Nat.add_le_add_left (Nat.zero_le _) _) hcl.1, Nat.le_trans (Nat.add_le_add_left (Nat.zero_le _) _) hcl.2⟩ rfl (Nat.le_of_ble_eq_true rfl) dL_law_506 (kX8_left l hN hm) ?_
  exact j_icmp_eq F 925 (A := some ()) (B := none) (v9 := ()) dL_law_509 rfl (if_pos rfl) (fun _ => kk) (fun h => by cases h)
set_option maxRecDepth 100000 in
theorem lc_14 {p : Program} {l : Launch} {e : Env} {s : State} {m : MethodId} {args : Array Value} {below : List Frame} {meth : Method} {c : Code} {x : Cx} {N : Nat} {u v : Option Nat} {nF cells slots b L : Nat} {xs : Nat → Int32} {i : Int32} {t t1 t2 : sT} {a a1 a2 : sA} {r1 : Int32} {Q : State → Prop} (F : Fx p s m meth c cL_law 4 RL (some .boolean) x) (hN : 653 ≤ N) (hX : va_X b L xs s s.heap) (hbl : b < s.heap.size) (hbA : ¬ cA x b) (h1 : vp_in (i + 1) L) (h2 : vp_in (i + 2) L) (hc : fX7_best nF (xs (i + 1).toNatClampNeg) (xs (i + 2).toNatClampNeg) t a = some (r1, t1, a1)) (hm : fX8_best nF (xs (i + 1).toNatClampNeg) (xs (i + 2).toNatClampNeg) t1 a1 = some (r1, t2, a2)) (hcl : cells + 0 ≤ 600000 ∧ slots + 0 ≤ 7302250) (kk : J p l e room_1 s m args below meth c x N (rho u v) 4 (cells + 0 + 0) (slots + 0 + 0) Q 925 [(3, .int i), (2, .ref (cz x + 50)), (1, .ref (cz x + 0)), (0, .ref b)] [] t2 a2) : J p l e room_1 s m args below meth c x N (rho u v) 4 cells slots Q 514 [(3, .int i), (2, .ref (cz x + 50)), (1, .ref (cz x + 0)), (0, .ref b)] [] t a := by
  refine j_aload_n F 2 dL_law_514 rfl rfl ?_
  refine j_aload_n F 3 dL_law_515 rfl rfl ?_
  refine j_iload_n F 0 dL_law_516 rfl rfl ?_
  refine j_iconst F dL_law_517 eI_1 ?_
  refine j_iadd F dL_law_518 ?_
  refine j_sld F hX hbl hbA h1 dL_law_519 ?_
  refine j_aload_n F 3 dL_law_520 rfl rfl ?_
  refine j_iload_n F 0 dL_law_521 rfl rfl ?_
  refine j_iconst F dL_law_522 eI_2 ?_
  refine j_iadd F dL_law_523 ?_
  refine j_sld F hX hbl hbA h2 dL_law_524 ?_
  refine j_callVm F (k := 0) mwX7_best ql_L_72 clX7 (lt653 rfl hN) ly0 [.int (xs (i + 1).toNatClampNeg), .int (xs (i + 2).toNatClampNeg)] rfl ⟨rfl, rfl, (Nat.le_of_ble_eq_true rfl), (Nat.le_of_ble_eq_true rfl)⟩ ⟨Nat.le_trans (Nat.add_le_add_left (Nat.zero_le _) _) hcl.1, Nat.le_trans (Nat.add_le_add_left (Nat.zero_le _) _) hcl.2⟩ rfl (Nat.le_of_ble_eq_true rfl) dL_law_525 (kX7_best l hN hc) ?_
  refine j_aload_n F 1 dL_law_528 rfl rfl ?_
  refine j_aload_n F 3 dL_law_529 rfl rfl ?_
  refine j_iload_n F 0 dL_law_530 rfl rfl ?_
  refine j_iconst F dL_law_531 eI_1 ?_
  refine j_iadd F dL_law_532 ?_
  refine j_sld F hX hbl hbA h1 dL_law_533 ?_
  refine j_aload_n F 3 dL_law_534 rfl rfl ?_
  refine j_iload_n F 0 dL_law_535 rfl rfl ?_
  refine j_iconst F dL_law_536 eI_2 ?_
  refine j_iadd F dL_law_537 ?_
  refine j_sld F hX hbl hbA h2 dL_law_538 ?_
  refine j_callVm F (k := 50) mwX8_best ql_L_75 clX8 (lt653 rfl hN) ly50 [.int (xs (i + 1).toNatClampNeg), .int (xs (i + 2).toNatClampNeg)] rfl ⟨rfl, rfl, (Nat.le_of_ble_eq_true rfl), (Nat.le_of_ble_eq_true rfl)⟩ ⟨Nat.le_trans (Nat.add_le_add_left (Nat.zero_le _) _) hcl.1, Nat.le_trans (Nat.add_le_add_left (Nat.zero_le _) _) hcl.2⟩ rfl (Nat.le_of_ble_eq_true rfl) dL_law_539 (kX8_best l hN hm) ?_
  exact j_icmp_eq F 925 (A := some ()) (B := none) (v9 := ()) dL_law_542 rfl (if_pos rfl) (fun _ => kk) (fun h => by cases h)
set_option maxRecDepth 100000 in
theorem lc_15 {p : Program} {l : Launch} {e : Env} {s : State} {m : MethodId} {args : Array Value} {below : List Frame} {meth : Method} {c : Code} {x : Cx} {N : Nat} {u v : Option Nat} {nF cells slots b L : Nat} {xs : Nat → Int32} {i : Int32} {t t1 t2 : sT} {a a1 a2 : sA} {r1 : Int32} {Q : State → Prop} (F : Fx p s m meth c cL_law 4 RL (some .boolean) x) (hN : 653 ≤ N) (hX : va_X b L xs s s.heap) (hbl : b < s.heap.size) (hbA : ¬ cA x b) (h1 : vp_in (i + 1) L) (h2 : vp_in (i + 2) L) (hc : fX7_force nF (xs (i + 1).toNatClampNeg) (xs (i + 2).toNatClampNeg) t a = some (r1, t1, a1)) (hm : fX8_force nF (xs (i + 1).toNatClampNeg) (xs (i + 2).toNatClampNeg) t1 a1 = some (r1, t2, a2)) (hcl : cells + 0 ≤ 600000 ∧ slots + 0 ≤ 7302250) (kk : J p l e room_1 s m args below meth c x N (rho u v) 4 (cells + 0 + 0) (slots + 0 + 0) Q 925 [(3, .int i), (2, .ref (cz x + 50)), (1, .ref (cz x + 0)), (0, .ref b)] [] t2 a2) : J p l e room_1 s m args below meth c x N (rho u v) 4 cells slots Q 547 [(3, .int i), (2, .ref (cz x + 50)), (1, .ref (cz x + 0)), (0, .ref b)] [] t a := by
  refine j_aload_n F 2 dL_law_547 rfl rfl ?_
  refine j_aload_n F 3 dL_law_548 rfl rfl ?_
  refine j_iload_n F 0 dL_law_549 rfl rfl ?_
  refine j_iconst F dL_law_550 eI_1 ?_
  refine j_iadd F dL_law_551 ?_
  refine j_sld F hX hbl hbA h1 dL_law_552 ?_
  refine j_aload_n F 3 dL_law_553 rfl rfl ?_
  refine j_iload_n F 0 dL_law_554 rfl rfl ?_
  refine j_iconst F dL_law_555 eI_2 ?_
  refine j_iadd F dL_law_556 ?_
  refine j_sld F hX hbl hbA h2 dL_law_557 ?_
  refine j_callVm F (k := 0) mwX7_force ql_L_76 clX7 (lt653 rfl hN) ly0 [.int (xs (i + 1).toNatClampNeg), .int (xs (i + 2).toNatClampNeg)] rfl ⟨rfl, rfl, (Nat.le_of_ble_eq_true rfl), (Nat.le_of_ble_eq_true rfl)⟩ ⟨Nat.le_trans (Nat.add_le_add_left (Nat.zero_le _) _) hcl.1, Nat.le_trans (Nat.add_le_add_left (Nat.zero_le _) _) hcl.2⟩ rfl (Nat.le_of_ble_eq_true rfl) dL_law_558 (kX7_force l hN hc) ?_
  refine j_aload_n F 1 dL_law_561 rfl rfl ?_
  refine j_aload_n F 3 dL_law_562 rfl rfl ?_
  refine j_iload_n F 0 dL_law_563 rfl rfl ?_
  refine j_iconst F dL_law_564 eI_1 ?_
  refine j_iadd F dL_law_565 ?_
  refine j_sld F hX hbl hbA h1 dL_law_566 ?_
  refine j_aload_n F 3 dL_law_567 rfl rfl ?_
  refine j_iload_n F 0 dL_law_568 rfl rfl ?_
  refine j_iconst F dL_law_569 eI_2 ?_
  refine j_iadd F dL_law_570 ?_
  refine j_sld F hX hbl hbA h2 dL_law_571 ?_
  refine j_callVm F (k := 50) mwX8_force ql_L_79 clX8 (lt653 rfl hN) ly50 [.int (xs (i + 1).toNatClampNeg), .int (xs (i + 2).toNatClampNeg)] rfl ⟨rfl, rfl, (Nat.le_of_ble_eq_true rfl), (Nat.le_of_ble_eq_true rfl)⟩ ⟨Nat.le_trans (Nat.add_le_add_left (Nat.zero_le _) _) hcl.1, Nat.le_trans (Nat.add_le_add_left (Nat.zero_le _) _) hcl.2⟩ rfl (Nat.le_of_ble_eq_true rfl) dL_law_572 (kX8_force l hN hm) ?_
  exact j_icmp_eq F 925 (A := some ()) (B := none) (v9 := ()) dL_law_575 rfl (if_pos rfl) (fun _ => kk) (fun h => by cases h)
set_option maxRecDepth 100000 in
theorem lc_16 {p : Program} {l : Launch} {e : Env} {s : State} {m : MethodId} {args : Array Value} {below : List Frame} {meth : Method} {c : Code} {x : Cx} {N : Nat} {u v : Option Nat} {nF cells slots b L : Nat} {xs : Nat → Int32} {i : Int32} {t t1 t2 : sT} {a a1 a2 : sA} {r1 : Int32} {Q : State → Prop} (F : Fx p s m meth c cL_law 4 RL (some .boolean) x) (hN : 653 ≤ N) (hX : va_X b L xs s s.heap) (hbl : b < s.heap.size) (hbA : ¬ cA x b) (h1 : vp_in (i + 1) L) (hc : fX7_told nF (xs (i + 1).toNatClampNeg) t a = some (r1, t1, a1)) (hm : fX8_told nF (xs (i + 1).toNatClampNeg) t1 a1 = some (r1, t2, a2)) (hcl : cells + 0 ≤ 600000 ∧ slots + 0 ≤ 7302250) (kk : J p l e room_1 s m args below meth c x N (rho u v) 4 (cells + 0 + 0) (slots + 0 + 0) Q 925 [(3, .int i), (2, .ref (cz x + 50)), (1, .ref (cz x + 0)), (0, .ref b)] [] t2 a2) : J p l e room_1 s m args below meth c x N (rho u v) 4 cells slots Q 580 [(3, .int i), (2, .ref (cz x + 50)), (1, .ref (cz x + 0)), (0, .ref b)] [] t a := by
  refine j_aload_n F 2 dL_law_580 rfl rfl ?_
  refine j_aload_n F 3 dL_law_581 rfl rfl ?_
  refine j_iload_n F 0 dL_law_582 rfl rfl ?_
  refine j_iconst F dL_law_583 eI_1 ?_
  refine j_iadd F dL_law_584 ?_
  refine j_sld F hX hbl hbA h1 dL_law_585 ?_
  refine j_callVm F (k := 0) mwX7_told ql_L_80 clX7 (lt653 rfl hN) ly0 [.int (xs (i + 1).toNatClampNeg)] rfl ⟨rfl, rfl, (Nat.le_of_ble_eq_true rfl), (Nat.le_of_ble_eq_true rfl)⟩ ⟨Nat.le_trans (Nat.add_le_add_left (Nat.zero_le _) _) hcl.1, Nat.le_trans (Nat.add_le_add_left (Nat.zero_le _) _) hcl.2⟩ rfl (Nat.le_of_ble_eq_true rfl) dL_law_586 (kX7_told l hN hc) ?_
  refine j_aload_n F 1 dL_law_589 rfl rfl ?_
  refine j_aload_n F 3 dL_law_590 rfl rfl ?_
  refine j_iload_n F 0 dL_law_591 rfl rfl ?_
  refine j_iconst F dL_law_592 eI_1 ?_
  refine j_iadd F dL_law_593 ?_
  refine j_sld F hX hbl hbA h1 dL_law_594 ?_
  refine j_callVm F (k := 50) mwX8_told ql_L_83 clX8 (lt653 rfl hN) ly50 [.int (xs (i + 1).toNatClampNeg)] rfl ⟨rfl, rfl, (Nat.le_of_ble_eq_true rfl), (Nat.le_of_ble_eq_true rfl)⟩ ⟨Nat.le_trans (Nat.add_le_add_left (Nat.zero_le _) _) hcl.1, Nat.le_trans (Nat.add_le_add_left (Nat.zero_le _) _) hcl.2⟩ rfl (Nat.le_of_ble_eq_true rfl) dL_law_595 (kX8_told l hN hm) ?_
  exact j_icmp_eq F 925 (A := some ()) (B := none) (v9 := ()) dL_law_598 rfl (if_pos rfl) (fun _ => kk) (fun h => by cases h)
set_option maxRecDepth 100000 in
theorem lc_17 {p : Program} {l : Launch} {e : Env} {s : State} {m : MethodId} {args : Array Value} {below : List Frame} {meth : Method} {c : Code} {x : Cx} {N : Nat} {u v : Option Nat} {nF cells slots b L : Nat} {xs : Nat → Int32} {i : Int32} {t t1 t2 : sT} {a a1 a2 : sA} {r1 : Int32} {Q : State → Prop} (F : Fx p s m meth c cL_law 4 RL (some .boolean) x) (hN : 653 ≤ N) (hX : va_X b L xs s s.heap) (hbl : b < s.heap.size) (hbA : ¬ cA x b) (h1 : vp_in (i + 1) L) (hc : fX7_meant nF (xs (i + 1).toNatClampNeg) t a = some (r1, t1, a1)) (hm : fX8_meant nF (xs (i + 1).toNatClampNeg) t1 a1 = some (r1, t2, a2)) (hcl : cells + 0 ≤ 600000 ∧ slots + 0 ≤ 7302250) (kk : J p l e room_1 s m args below meth c x N (rho u v) 4 (cells + 0 + 0) (slots + 0 + 0) Q 925 [(3, .int i), (2, .ref (cz x + 50)), (1, .ref (cz x + 0)), (0, .ref b)] [] t2 a2) : J p l e room_1 s m args below meth c x N (rho u v) 4 cells slots Q 603 [(3, .int i), (2, .ref (cz x + 50)), (1, .ref (cz x + 0)), (0, .ref b)] [] t a := by
  refine j_aload_n F 2 dL_law_603 rfl rfl ?_
  refine j_aload_n F 3 dL_law_604 rfl rfl ?_
  refine j_iload_n F 0 dL_law_605 rfl rfl ?_
  refine j_iconst F dL_law_606 eI_1 ?_
  refine j_iadd F dL_law_607 ?_
  refine j_sld F hX hbl hbA h1 dL_law_608 ?_
  refine j_callVm F (k := 0) mwX7_meant ql_L_84 clX7 (lt653 rfl hN) ly0 [.int (xs (i + 1).toNatClampNeg)] rfl ⟨rfl, rfl, (Nat.le_of_ble_eq_true rfl), (Nat.le_of_ble_eq_true rfl)⟩ ⟨Nat.le_trans (Nat.add_le_add_left (Nat.zero_le _) _) hcl.1, Nat.le_trans (Nat.add_le_add_left (Nat.zero_le _) _) hcl.2⟩ rfl (Nat.le_of_ble_eq_true rfl) dL_law_609 (kX7_meant l hN hc) ?_
  refine j_aload_n F 1 dL_law_612 rfl rfl ?_
  refine j_aload_n F 3 dL_law_613 rfl rfl ?_
  refine j_iload_n F 0 dL_law_614 rfl rfl ?_
  refine j_iconst F dL_law_615 eI_1 ?_
  refine j_iadd F dL_law_616 ?_
  refine j_sld F hX hbl hbA h1 dL_law_617 ?_
  refine j_callVm F (k := 50) mwX8_meant ql_L_87 clX8 (lt653 rfl hN) ly50 [.int (xs (i + 1).toNatClampNeg)] rfl ⟨rfl, rfl, (Nat.le_of_ble_eq_true rfl), (Nat.le_of_ble_eq_true rfl)⟩ ⟨Nat.le_trans (Nat.add_le_add_left (Nat.zero_le _) _) hcl.1, Nat.le_trans (Nat.add_le_add_left (Nat.zero_le _) _) hcl.2⟩ rfl (Nat.le_of_ble_eq_true rfl) dL_law_618 (kX8_meant l hN hm) ?_
  exact j_icmp_eq F 925 (A := some ()) (B := none) (v9 := ()) dL_law_621 rfl (if_pos rfl) (fun _ => kk) (fun h => by cases h)
set_option maxRecDepth 100000 in
theorem lc_18 {p : Program} {l : Launch} {e : Env} {s : State} {m : MethodId} {args : Array Value} {below : List Frame} {meth : Method} {c : Code} {x : Cx} {N : Nat} {u v : Option Nat} {nF cells slots b L : Nat} {xs : Nat → Int32} {i : Int32} {t t1 t2 : sT} {a a1 a2 : sA} {r1 : Int32} {Q : State → Prop} (F : Fx p s m meth c cL_law 4 RL (some .boolean) x) (hN : 653 ≤ N) (hX : va_X b L xs s s.heap) (hbl : b < s.heap.size) (hbA : ¬ cA x b) (h1 : vp_in (i + 1) L) (h2 : vp_in (i + 2) L) (hc : fX7_chance nF (xs (i + 1).toNatClampNeg) (xs (i + 2).toNatClampNeg) t a = some (r1, t1, a1)) (hm : fX8_chance nF (xs (i + 1).toNatClampNeg) (xs (i + 2).toNatClampNeg) t1 a1 = some (r1, t2, a2)) (hcl : cells + 0 ≤ 600000 ∧ slots + 0 ≤ 7302250) (kk : J p l e room_1 s m args below meth c x N (rho u v) 4 (cells + 0 + 0) (slots + 0 + 0) Q 925 [(3, .int i), (2, .ref (cz x + 50)), (1, .ref (cz x + 0)), (0, .ref b)] [] t2 a2) : J p l e room_1 s m args below meth c x N (rho u v) 4 cells slots Q 626 [(3, .int i), (2, .ref (cz x + 50)), (1, .ref (cz x + 0)), (0, .ref b)] [] t a := by
  refine j_aload_n F 2 dL_law_626 rfl rfl ?_
  refine j_aload_n F 3 dL_law_627 rfl rfl ?_
  refine j_iload_n F 0 dL_law_628 rfl rfl ?_
  refine j_iconst F dL_law_629 eI_1 ?_
  refine j_iadd F dL_law_630 ?_
  refine j_sld F hX hbl hbA h1 dL_law_631 ?_
  refine j_aload_n F 3 dL_law_632 rfl rfl ?_
  refine j_iload_n F 0 dL_law_633 rfl rfl ?_
  refine j_iconst F dL_law_634 eI_2 ?_
  refine j_iadd F dL_law_635 ?_
  refine j_sld F hX hbl hbA h2 dL_law_636 ?_
  refine j_callVm F (k := 0) mwX7_chance ql_L_88 clX7 (lt653 rfl hN) ly0 [.int (xs (i + 1).toNatClampNeg), .int (xs (i + 2).toNatClampNeg)] rfl ⟨rfl, rfl, (Nat.le_of_ble_eq_true rfl), (Nat.le_of_ble_eq_true rfl)⟩ ⟨Nat.le_trans (Nat.add_le_add_left (Nat.zero_le _) _) hcl.1, Nat.le_trans (Nat.add_le_add_left (Nat.zero_le _) _) hcl.2⟩ rfl (Nat.le_of_ble_eq_true rfl) dL_law_637 (kX7_chance l hN hc) ?_
  refine j_aload_n F 1 dL_law_640 rfl rfl ?_
  refine j_aload_n F 3 dL_law_641 rfl rfl ?_
  refine j_iload_n F 0 dL_law_642 rfl rfl ?_
  refine j_iconst F dL_law_643 eI_1 ?_
  refine j_iadd F dL_law_644 ?_
  refine j_sld F hX hbl hbA h1 dL_law_645 ?_
  refine j_aload_n F 3 dL_law_646 rfl rfl ?_
  refine j_iload_n F 0 dL_law_647 rfl rfl ?_
  refine j_iconst F dL_law_648 eI_2 ?_
  refine j_iadd F dL_law_649 ?_
  refine j_sld F hX hbl hbA h2 dL_law_650 ?_
  refine j_callVm F (k := 50) mwX8_chance ql_L_91 clX8 (lt653 rfl hN) ly50 [.int (xs (i + 1).toNatClampNeg), .int (xs (i + 2).toNatClampNeg)] rfl ⟨rfl, rfl, (Nat.le_of_ble_eq_true rfl), (Nat.le_of_ble_eq_true rfl)⟩ ⟨Nat.le_trans (Nat.add_le_add_left (Nat.zero_le _) _) hcl.1, Nat.le_trans (Nat.add_le_add_left (Nat.zero_le _) _) hcl.2⟩ rfl (Nat.le_of_ble_eq_true rfl) dL_law_651 (kX8_chance l hN hm) ?_
  exact j_icmp_eq F 925 (A := some ()) (B := none) (v9 := ()) dL_law_654 rfl (if_pos rfl) (fun _ => kk) (fun h => by cases h)
set_option maxRecDepth 100000 in
theorem lc_19 {p : Program} {l : Launch} {e : Env} {s : State} {m : MethodId} {args : Array Value} {below : List Frame} {meth : Method} {c : Code} {x : Cx} {N : Nat} {u v : Option Nat} {nF cells slots b L : Nat} {xs : Nat → Int32} {i : Int32} {t t1 t2 : sT} {a a1 a2 : sA} {r1 : Int32} {Q : State → Prop} (F : Fx p s m meth c cL_law 4 RL (some .boolean) x) (hN : 653 ≤ N) (hX : va_X b L xs s s.heap) (hbl : b < s.heap.size) (hbA : ¬ cA x b) (hc : fX7_say nF t a = some (r1, t1, a1)) (hm : fX8_say nF t1 a1 = some (r1, t2, a2)) (hcl : cells + 0 ≤ 600000 ∧ slots + 0 ≤ 7302250) (kk : J p l e room_1 s m args below meth c x N (rho u v) 4 (cells + 0 + 0) (slots + 0 + 0) Q 925 [(3, .int i), (2, .ref (cz x + 50)), (1, .ref (cz x + 0)), (0, .ref b)] [] t2 a2) : J p l e room_1 s m args below meth c x N (rho u v) 4 cells slots Q 659 [(3, .int i), (2, .ref (cz x + 50)), (1, .ref (cz x + 0)), (0, .ref b)] [] t a := by
  refine j_aload_n F 2 dL_law_659 rfl rfl ?_
  refine j_callVm F (k := 0) mwX7_say ql_L_92 clX7 (lt653 rfl hN) ly0 [] rfl ⟨rfl, rfl, (Nat.le_of_ble_eq_true rfl), (Nat.le_of_ble_eq_true rfl)⟩ ⟨Nat.le_trans (Nat.add_le_add_left (Nat.zero_le _) _) hcl.1, Nat.le_trans (Nat.add_le_add_left (Nat.zero_le _) _) hcl.2⟩ rfl (Nat.le_of_ble_eq_true rfl) dL_law_660 (kX7_say l hN hc) ?_
  refine j_aload_n F 1 dL_law_663 rfl rfl ?_
  refine j_callVm F (k := 50) mwX8_say ql_L_95 clX8 (lt653 rfl hN) ly50 [] rfl ⟨rfl, rfl, (Nat.le_of_ble_eq_true rfl), (Nat.le_of_ble_eq_true rfl)⟩ ⟨Nat.le_trans (Nat.add_le_add_left (Nat.zero_le _) _) hcl.1, Nat.le_trans (Nat.add_le_add_left (Nat.zero_le _) _) hcl.2⟩ rfl (Nat.le_of_ble_eq_true rfl) dL_law_664 (kX8_say l hN hm) ?_
  exact j_icmp_eq F 925 (A := some ()) (B := none) (v9 := ()) dL_law_667 rfl (if_pos rfl) (fun _ => kk) (fun h => by cases h)
set_option maxRecDepth 100000 in
theorem lc_20 {p : Program} {l : Launch} {e : Env} {s : State} {m : MethodId} {args : Array Value} {below : List Frame} {meth : Method} {c : Code} {x : Cx} {N : Nat} {u v : Option Nat} {nF cells slots b L : Nat} {xs : Nat → Int32} {i : Int32} {t t1 t2 : sT} {a a1 a2 : sA} {r1 : Int32} {Q : State → Prop} (F : Fx p s m meth c cL_law 4 RL (some .boolean) x) (hN : 653 ≤ N) (hX : va_X b L xs s s.heap) (hbl : b < s.heap.size) (hbA : ¬ cA x b) (h1 : vp_in (i + 1) L) (h2 : vp_in (i + 2) L) (hc : fX7_saying nF (xs (i + 1).toNatClampNeg) (xs (i + 2).toNatClampNeg) t a = some (r1, t1, a1)) (hm : fX8_saying nF (xs (i + 1).toNatClampNeg) (xs (i + 2).toNatClampNeg) t1 a1 = some (r1, t2, a2)) (hcl : cells + 0 ≤ 600000 ∧ slots + 0 ≤ 7302250) (kk : J p l e room_1 s m args below meth c x N (rho u v) 4 (cells + 0 + 0) (slots + 0 + 0) Q 925 [(3, .int i), (2, .ref (cz x + 50)), (1, .ref (cz x + 0)), (0, .ref b)] [] t2 a2) : J p l e room_1 s m args below meth c x N (rho u v) 4 cells slots Q 672 [(3, .int i), (2, .ref (cz x + 50)), (1, .ref (cz x + 0)), (0, .ref b)] [] t a := by
  refine j_aload_n F 2 dL_law_672 rfl rfl ?_
  refine j_aload_n F 3 dL_law_673 rfl rfl ?_
  refine j_iload_n F 0 dL_law_674 rfl rfl ?_
  refine j_iconst F dL_law_675 eI_1 ?_
  refine j_iadd F dL_law_676 ?_
  refine j_sld F hX hbl hbA h1 dL_law_677 ?_
  refine j_aload_n F 3 dL_law_678 rfl rfl ?_
  refine j_iload_n F 0 dL_law_679 rfl rfl ?_
  refine j_iconst F dL_law_680 eI_2 ?_
  refine j_iadd F dL_law_681 ?_
  refine j_sld F hX hbl hbA h2 dL_law_682 ?_
  refine j_callVm F (k := 0) mwX7_saying ql_L_96 clX7 (lt653 rfl hN) ly0 [.int (xs (i + 1).toNatClampNeg), .int (xs (i + 2).toNatClampNeg)] rfl ⟨rfl, rfl, (Nat.le_of_ble_eq_true rfl), (Nat.le_of_ble_eq_true rfl)⟩ ⟨Nat.le_trans (Nat.add_le_add_left (Nat.zero_le _) _) hcl.1, Nat.le_trans (Nat.add_le_add_left (Nat.zero_le _) _) hcl.2⟩ rfl (Nat.le_of_ble_eq_true rfl) dL_law_683 (kX7_saying l hN hc) ?_
  refine j_aload_n F 1 dL_law_686 rfl rfl ?_
  refine j_aload_n F 3 dL_law_687 rfl rfl ?_
  refine j_iload_n F 0 dL_law_688 rfl rfl ?_
  refine j_iconst F dL_law_689 eI_1 ?_
  refine j_iadd F dL_law_690 ?_
  refine j_sld F hX hbl hbA h1 dL_law_691 ?_
  refine j_aload_n F 3 dL_law_692 rfl rfl ?_
  refine j_iload_n F 0 dL_law_693 rfl rfl ?_
  refine j_iconst F dL_law_694 eI_2 ?_
  refine j_iadd F dL_law_695 ?_
  refine j_sld F hX hbl hbA h2 dL_law_696 ?_
  refine j_callVm F (k := 50) mwX8_saying ql_L_99 clX8 (lt653 rfl hN) ly50 [.int (xs (i + 1).toNatClampNeg), .int (xs (i + 2).toNatClampNeg)] rfl ⟨rfl, rfl, (Nat.le_of_ble_eq_true rfl), (Nat.le_of_ble_eq_true rfl)⟩ ⟨Nat.le_trans (Nat.add_le_add_left (Nat.zero_le _) _) hcl.1, Nat.le_trans (Nat.add_le_add_left (Nat.zero_le _) _) hcl.2⟩ rfl (Nat.le_of_ble_eq_true rfl) dL_law_697 (kX8_saying l hN hm) ?_
  exact j_icmp_eq F 925 (A := some ()) (B := none) (v9 := ()) dL_law_700 rfl (if_pos rfl) (fun _ => kk) (fun h => by cases h)
set_option maxRecDepth 100000 in
theorem lc_21 {p : Program} {l : Launch} {e : Env} {s : State} {m : MethodId} {args : Array Value} {below : List Frame} {meth : Method} {c : Code} {x : Cx} {N : Nat} {u v : Option Nat} {nF cells slots b L : Nat} {xs : Nat → Int32} {i : Int32} {t t1 t2 : sT} {a a1 a2 : sA} {r1 : Int32} {Q : State → Prop} (F : Fx p s m meth c cL_law 4 RL (some .boolean) x) (hN : 653 ≤ N) (hX : va_X b L xs s s.heap) (hbl : b < s.heap.size) (hbA : ¬ cA x b) (hc : fX7_known nF t a = some (r1, t1, a1)) (hm : fX8_known nF t1 a1 = some (r1, t2, a2)) (hcl : cells + 0 ≤ 600000 ∧ slots + 0 ≤ 7302250) (kk : J p l e room_1 s m args below meth c x N (rho u v) 4 (cells + 0 + 0) (slots + 0 + 0) Q 925 [(3, .int i), (2, .ref (cz x + 50)), (1, .ref (cz x + 0)), (0, .ref b)] [] t2 a2) : J p l e room_1 s m args below meth c x N (rho u v) 4 cells slots Q 705 [(3, .int i), (2, .ref (cz x + 50)), (1, .ref (cz x + 0)), (0, .ref b)] [] t a := by
  refine j_aload_n F 2 dL_law_705 rfl rfl ?_
  refine j_callVm F (k := 0) mwX7_known ql_L_100 clX7 (lt653 rfl hN) ly0 [] rfl ⟨rfl, rfl, (Nat.le_of_ble_eq_true rfl), (Nat.le_of_ble_eq_true rfl)⟩ ⟨Nat.le_trans (Nat.add_le_add_left (Nat.zero_le _) _) hcl.1, Nat.le_trans (Nat.add_le_add_left (Nat.zero_le _) _) hcl.2⟩ rfl (Nat.le_of_ble_eq_true rfl) dL_law_706 (kX7_known l hN hc) ?_
  refine j_aload_n F 1 dL_law_709 rfl rfl ?_
  refine j_callVm F (k := 50) mwX8_known ql_L_103 clX8 (lt653 rfl hN) ly50 [] rfl ⟨rfl, rfl, (Nat.le_of_ble_eq_true rfl), (Nat.le_of_ble_eq_true rfl)⟩ ⟨Nat.le_trans (Nat.add_le_add_left (Nat.zero_le _) _) hcl.1, Nat.le_trans (Nat.add_le_add_left (Nat.zero_le _) _) hcl.2⟩ rfl (Nat.le_of_ble_eq_true rfl) dL_law_710 (kX8_known l hN hm) ?_
  exact j_icmp_eq F 925 (A := some ()) (B := none) (v9 := ()) dL_law_713 rfl (if_pos rfl) (fun _ => kk) (fun h => by cases h)
set_option maxRecDepth 100000 in
theorem lc_22 {p : Program} {l : Launch} {e : Env} {s : State} {m : MethodId} {args : Array Value} {below : List Frame} {meth : Method} {c : Code} {x : Cx} {N : Nat} {u v : Option Nat} {nF cells slots b L : Nat} {xs : Nat → Int32} {i : Int32} {t t1 t2 : sT} {a a1 a2 : sA} {r1 : Int32} {Q : State → Prop} (F : Fx p s m meth c cL_law 4 RL (some .boolean) x) (hN : 653 ≤ N) (hX : va_X b L xs s s.heap) (hbl : b < s.heap.size) (hbA : ¬ cA x b) (hc : fX7_silence nF t a = some (r1, t1, a1)) (hm : fX8_silence nF t1 a1 = some (r1, t2, a2)) (hcl : cells + 0 ≤ 600000 ∧ slots + 0 ≤ 7302250) (kk : J p l e room_1 s m args below meth c x N (rho u v) 4 (cells + 0 + 0) (slots + 0 + 0) Q 925 [(3, .int i), (2, .ref (cz x + 50)), (1, .ref (cz x + 0)), (0, .ref b)] [] t2 a2) : J p l e room_1 s m args below meth c x N (rho u v) 4 cells slots Q 718 [(3, .int i), (2, .ref (cz x + 50)), (1, .ref (cz x + 0)), (0, .ref b)] [] t a := by
  refine j_aload_n F 2 dL_law_718 rfl rfl ?_
  refine j_callVm F (k := 0) mwX7_silence ql_L_104 clX7 (lt653 rfl hN) ly0 [] rfl ⟨rfl, rfl, (Nat.le_of_ble_eq_true rfl), (Nat.le_of_ble_eq_true rfl)⟩ ⟨Nat.le_trans (Nat.add_le_add_left (Nat.zero_le _) _) hcl.1, Nat.le_trans (Nat.add_le_add_left (Nat.zero_le _) _) hcl.2⟩ rfl (Nat.le_of_ble_eq_true rfl) dL_law_719 (kX7_silence l hN hc) ?_
  refine j_aload_n F 1 dL_law_722 rfl rfl ?_
  refine j_callVm F (k := 50) mwX8_silence ql_L_107 clX8 (lt653 rfl hN) ly50 [] rfl ⟨rfl, rfl, (Nat.le_of_ble_eq_true rfl), (Nat.le_of_ble_eq_true rfl)⟩ ⟨Nat.le_trans (Nat.add_le_add_left (Nat.zero_le _) _) hcl.1, Nat.le_trans (Nat.add_le_add_left (Nat.zero_le _) _) hcl.2⟩ rfl (Nat.le_of_ble_eq_true rfl) dL_law_723 (kX8_silence l hN hm) ?_
  exact j_icmp_eq F 925 (A := some ()) (B := none) (v9 := ()) dL_law_726 rfl (if_pos rfl) (fun _ => kk) (fun h => by cases h)
set_option maxRecDepth 100000 in
theorem lc_23 {p : Program} {l : Launch} {e : Env} {s : State} {m : MethodId} {args : Array Value} {below : List Frame} {meth : Method} {c : Code} {x : Cx} {N : Nat} {u v : Option Nat} {nF cells slots b L : Nat} {xs : Nat → Int32} {i : Int32} {t t1 t2 : sT} {a a1 a2 : sA} {r1 : Int32} {Q : State → Prop} (F : Fx p s m meth c cL_law 4 RL (some .boolean) x) (hN : 653 ≤ N) (hX : va_X b L xs s s.heap) (hbl : b < s.heap.size) (hbA : ¬ cA x b) (h1 : vp_in (i + 1) L) (hc : fX7_longest nF (xs (i + 1).toNatClampNeg) t a = some (r1, t1, a1)) (hm : fX8_longest nF (xs (i + 1).toNatClampNeg) t1 a1 = some (r1, t2, a2)) (hcl : cells + 0 ≤ 600000 ∧ slots + 0 ≤ 7302250) (kk : J p l e room_1 s m args below meth c x N (rho u v) 4 (cells + 0 + 0) (slots + 0 + 0) Q 925 [(3, .int i), (2, .ref (cz x + 50)), (1, .ref (cz x + 0)), (0, .ref b)] [] t2 a2) : J p l e room_1 s m args below meth c x N (rho u v) 4 cells slots Q 731 [(3, .int i), (2, .ref (cz x + 50)), (1, .ref (cz x + 0)), (0, .ref b)] [] t a := by
  refine j_aload_n F 2 dL_law_731 rfl rfl ?_
  refine j_aload_n F 3 dL_law_732 rfl rfl ?_
  refine j_iload_n F 0 dL_law_733 rfl rfl ?_
  refine j_iconst F dL_law_734 eI_1 ?_
  refine j_iadd F dL_law_735 ?_
  refine j_sld F hX hbl hbA h1 dL_law_736 ?_
  refine j_callVm F (k := 0) mwX7_longest ql_L_108 clX7 (lt653 rfl hN) ly0 [.int (xs (i + 1).toNatClampNeg)] rfl ⟨rfl, rfl, (Nat.le_of_ble_eq_true rfl), (Nat.le_of_ble_eq_true rfl)⟩ ⟨Nat.le_trans (Nat.add_le_add_left (Nat.zero_le _) _) hcl.1, Nat.le_trans (Nat.add_le_add_left (Nat.zero_le _) _) hcl.2⟩ rfl (Nat.le_of_ble_eq_true rfl) dL_law_737 (kX7_longest l hN hc) ?_
  refine j_aload_n F 1 dL_law_740 rfl rfl ?_
  refine j_aload_n F 3 dL_law_741 rfl rfl ?_
  refine j_iload_n F 0 dL_law_742 rfl rfl ?_
  refine j_iconst F dL_law_743 eI_1 ?_
  refine j_iadd F dL_law_744 ?_
  refine j_sld F hX hbl hbA h1 dL_law_745 ?_
  refine j_callVm F (k := 50) mwX8_longest ql_L_111 clX8 (lt653 rfl hN) ly50 [.int (xs (i + 1).toNatClampNeg)] rfl ⟨rfl, rfl, (Nat.le_of_ble_eq_true rfl), (Nat.le_of_ble_eq_true rfl)⟩ ⟨Nat.le_trans (Nat.add_le_add_left (Nat.zero_le _) _) hcl.1, Nat.le_trans (Nat.add_le_add_left (Nat.zero_le _) _) hcl.2⟩ rfl (Nat.le_of_ble_eq_true rfl) dL_law_746 (kX8_longest l hN hm) ?_
  exact j_icmp_eq F 925 (A := some ()) (B := none) (v9 := ()) dL_law_749 rfl (if_pos rfl) (fun _ => kk) (fun h => by cases h)
set_option maxRecDepth 100000 in
theorem lc_24 {p : Program} {l : Launch} {e : Env} {s : State} {m : MethodId} {args : Array Value} {below : List Frame} {meth : Method} {c : Code} {x : Cx} {N : Nat} {u v : Option Nat} {nF cells slots b L : Nat} {xs : Nat → Int32} {i : Int32} {t t1 t2 : sT} {a a1 a2 : sA} {r1 : Int32} {Q : State → Prop} (F : Fx p s m meth c cL_law 4 RL (some .boolean) x) (hN : 653 ≤ N) (hX : va_X b L xs s s.heap) (hbl : b < s.heap.size) (hbA : ¬ cA x b) (h1 : vp_in (i + 1) L) (hc : fX7_last nF (xs (i + 1).toNatClampNeg) t a = some (r1, t1, a1)) (hm : fX8_last nF (xs (i + 1).toNatClampNeg) t1 a1 = some (r1, t2, a2)) (hcl : cells + 0 ≤ 600000 ∧ slots + 0 ≤ 7302250) (kk : J p l e room_1 s m args below meth c x N (rho u v) 4 (cells + 0 + 0) (slots + 0 + 0) Q 925 [(3, .int i), (2, .ref (cz x + 50)), (1, .ref (cz x + 0)), (0, .ref b)] [] t2 a2) : J p l e room_1 s m args below meth c x N (rho u v) 4 cells slots Q 754 [(3, .int i), (2, .ref (cz x + 50)), (1, .ref (cz x + 0)), (0, .ref b)] [] t a := by
  refine j_aload_n F 2 dL_law_754 rfl rfl ?_
  refine j_aload_n F 3 dL_law_755 rfl rfl ?_
  refine j_iload_n F 0 dL_law_756 rfl rfl ?_
  refine j_iconst F dL_law_757 eI_1 ?_
  refine j_iadd F dL_law_758 ?_
  refine j_sld F hX hbl hbA h1 dL_law_759 ?_
  refine j_callVm F (k := 0) mwX7_last ql_L_112 clX7 (lt653 rfl hN) ly0 [.int (xs (i + 1).toNatClampNeg)] rfl ⟨rfl, rfl, (Nat.le_of_ble_eq_true rfl), (Nat.le_of_ble_eq_true rfl)⟩ ⟨Nat.le_trans (Nat.add_le_add_left (Nat.zero_le _) _) hcl.1, Nat.le_trans (Nat.add_le_add_left (Nat.zero_le _) _) hcl.2⟩ rfl (Nat.le_of_ble_eq_true rfl) dL_law_760 (kX7_last l hN hc) ?_
  refine j_aload_n F 1 dL_law_763 rfl rfl ?_
  refine j_aload_n F 3 dL_law_764 rfl rfl ?_
  refine j_iload_n F 0 dL_law_765 rfl rfl ?_
  refine j_iconst F dL_law_766 eI_1 ?_
  refine j_iadd F dL_law_767 ?_
  refine j_sld F hX hbl hbA h1 dL_law_768 ?_
  refine j_callVm F (k := 50) mwX8_last ql_L_115 clX8 (lt653 rfl hN) ly50 [.int (xs (i + 1).toNatClampNeg)] rfl ⟨rfl, rfl, (Nat.le_of_ble_eq_true rfl), (Nat.le_of_ble_eq_true rfl)⟩ ⟨Nat.le_trans (Nat.add_le_add_left (Nat.zero_le _) _) hcl.1, Nat.le_trans (Nat.add_le_add_left (Nat.zero_le _) _) hcl.2⟩ rfl (Nat.le_of_ble_eq_true rfl) dL_law_769 (kX8_last l hN hm) ?_
  exact j_icmp_eq F 925 (A := some ()) (B := none) (v9 := ()) dL_law_772 rfl (if_pos rfl) (fun _ => kk) (fun h => by cases h)
set_option maxRecDepth 100000 in
theorem lc_25 {p : Program} {l : Launch} {e : Env} {s : State} {m : MethodId} {args : Array Value} {below : List Frame} {meth : Method} {c : Code} {x : Cx} {N : Nat} {u v : Option Nat} {nF cells slots b L : Nat} {xs : Nat → Int32} {i : Int32} {t t1 t2 : sT} {a a1 a2 : sA} {r1 : Int32} {Q : State → Prop} (F : Fx p s m meth c cL_law 4 RL (some .boolean) x) (hN : 653 ≤ N) (hX : va_X b L xs s s.heap) (hbl : b < s.heap.size) (hbA : ¬ cA x b) (h1 : vp_in (i + 1) L) (hc : fX7_idle nF (xs (i + 1).toNatClampNeg) t a = some (r1, t1, a1)) (hm : fX8_idle nF (xs (i + 1).toNatClampNeg) t1 a1 = some (r1, t2, a2)) (hcl : cells + 0 ≤ 600000 ∧ slots + 0 ≤ 7302250) (kk : J p l e room_1 s m args below meth c x N (rho u v) 4 (cells + 0 + 0) (slots + 0 + 0) Q 925 [(3, .int i), (2, .ref (cz x + 50)), (1, .ref (cz x + 0)), (0, .ref b)] [] t2 a2) : J p l e room_1 s m args below meth c x N (rho u v) 4 cells slots Q 777 [(3, .int i), (2, .ref (cz x + 50)), (1, .ref (cz x + 0)), (0, .ref b)] [] t a := by
  refine j_aload_n F 2 dL_law_777 rfl rfl ?_
  refine j_aload_n F 3 dL_law_778 rfl rfl ?_
  refine j_iload_n F 0 dL_law_779 rfl rfl ?_
  refine j_iconst F dL_law_780 eI_1 ?_
  refine j_iadd F dL_law_781 ?_
  refine j_sld F hX hbl hbA h1 dL_law_782 ?_
  refine j_callVm F (k := 0) mwX7_idle ql_L_116 clX7 (lt653 rfl hN) ly0 [.int (xs (i + 1).toNatClampNeg)] rfl ⟨rfl, rfl, (Nat.le_of_ble_eq_true rfl), (Nat.le_of_ble_eq_true rfl)⟩ ⟨Nat.le_trans (Nat.add_le_add_left (Nat.zero_le _) _) hcl.1, Nat.le_trans (Nat.add_le_add_left (Nat.zero_le _) _) hcl.2⟩ rfl (Nat.le_of_ble_eq_true rfl) dL_law_783 (kX7_idle l hN hc) ?_
  refine j_aload_n F 1 dL_law_786 rfl rfl ?_
  refine j_aload_n F 3 dL_law_787 rfl rfl ?_
  refine j_iload_n F 0 dL_law_788 rfl rfl ?_
  refine j_iconst F dL_law_789 eI_1 ?_
  refine j_iadd F dL_law_790 ?_
  refine j_sld F hX hbl hbA h1 dL_law_791 ?_
  refine j_callVm F (k := 50) mwX8_idle ql_L_119 clX8 (lt653 rfl hN) ly50 [.int (xs (i + 1).toNatClampNeg)] rfl ⟨rfl, rfl, (Nat.le_of_ble_eq_true rfl), (Nat.le_of_ble_eq_true rfl)⟩ ⟨Nat.le_trans (Nat.add_le_add_left (Nat.zero_le _) _) hcl.1, Nat.le_trans (Nat.add_le_add_left (Nat.zero_le _) _) hcl.2⟩ rfl (Nat.le_of_ble_eq_true rfl) dL_law_792 (kX8_idle l hN hm) ?_
  exact j_icmp_eq F 925 (A := some ()) (B := none) (v9 := ()) dL_law_795 rfl (if_pos rfl) (fun _ => kk) (fun h => by cases h)
set_option maxRecDepth 100000 in
theorem lc_26 {p : Program} {l : Launch} {e : Env} {s : State} {m : MethodId} {args : Array Value} {below : List Frame} {meth : Method} {c : Code} {x : Cx} {N : Nat} {u v : Option Nat} {nF cells slots b L : Nat} {xs : Nat → Int32} {i : Int32} {t t1 t2 : sT} {a a1 a2 : sA} {r1 : Int32} {Q : State → Prop} (F : Fx p s m meth c cL_law 4 RL (some .boolean) x) (hN : 653 ≤ N) (hX : va_X b L xs s s.heap) (hbl : b < s.heap.size) (hbA : ¬ cA x b) (h1 : vp_in (i + 1) L) (h2 : vp_in (i + 2) L) (hc : fX7_under nF (xs (i + 1).toNatClampNeg) (xs (i + 2).toNatClampNeg) t a = some (r1, t1, a1)) (hm : fX8_under nF (xs (i + 1).toNatClampNeg) (xs (i + 2).toNatClampNeg) t1 a1 = some (r1, t2, a2)) (hcl : cells + 0 ≤ 600000 ∧ slots + 0 ≤ 7302250) (kk : J p l e room_1 s m args below meth c x N (rho u v) 4 (cells + 0 + 0) (slots + 0 + 0) Q 925 [(3, .int i), (2, .ref (cz x + 50)), (1, .ref (cz x + 0)), (0, .ref b)] [] t2 a2) : J p l e room_1 s m args below meth c x N (rho u v) 4 cells slots Q 800 [(3, .int i), (2, .ref (cz x + 50)), (1, .ref (cz x + 0)), (0, .ref b)] [] t a := by
  refine j_aload_n F 2 dL_law_800 rfl rfl ?_
  refine j_aload_n F 3 dL_law_801 rfl rfl ?_
  refine j_iload_n F 0 dL_law_802 rfl rfl ?_
  refine j_iconst F dL_law_803 eI_1 ?_
  refine j_iadd F dL_law_804 ?_
  refine j_sld F hX hbl hbA h1 dL_law_805 ?_
  refine j_aload_n F 3 dL_law_806 rfl rfl ?_
  refine j_iload_n F 0 dL_law_807 rfl rfl ?_
  refine j_iconst F dL_law_808 eI_2 ?_
  refine j_iadd F dL_law_809 ?_
  refine j_sld F hX hbl hbA h2 dL_law_810 ?_
  refine j_callVm F (k := 0) mwX7_under ql_L_120 clX7 (lt653 rfl hN) ly0 [.int (xs (i + 1).toNatClampNeg), .int (xs (i + 2).toNatClampNeg)] rfl ⟨rfl, rfl, (Nat.le_of_ble_eq_true rfl), (Nat.le_of_ble_eq_true rfl)⟩ ⟨Nat.le_trans (Nat.add_le_add_left (Nat.zero_le _) _) hcl.1, Nat.le_trans (Nat.add_le_add_left (Nat.zero_le _) _) hcl.2⟩ rfl (Nat.le_of_ble_eq_true rfl) dL_law_811 (kX7_under l hN hc) ?_
  refine j_aload_n F 1 dL_law_814 rfl rfl ?_
  refine j_aload_n F 3 dL_law_815 rfl rfl ?_
  refine j_iload_n F 0 dL_law_816 rfl rfl ?_
  refine j_iconst F dL_law_817 eI_1 ?_
  refine j_iadd F dL_law_818 ?_
  refine j_sld F hX hbl hbA h1 dL_law_819 ?_
  refine j_aload_n F 3 dL_law_820 rfl rfl ?_
  refine j_iload_n F 0 dL_law_821 rfl rfl ?_
  refine j_iconst F dL_law_822 eI_2 ?_
  refine j_iadd F dL_law_823 ?_
  refine j_sld F hX hbl hbA h2 dL_law_824 ?_
  refine j_callVm F (k := 50) mwX8_under ql_L_123 clX8 (lt653 rfl hN) ly50 [.int (xs (i + 1).toNatClampNeg), .int (xs (i + 2).toNatClampNeg)] rfl ⟨rfl, rfl, (Nat.le_of_ble_eq_true rfl), (Nat.le_of_ble_eq_true rfl)⟩ ⟨Nat.le_trans (Nat.add_le_add_left (Nat.zero_le _) _) hcl.1, Nat.le_trans (Nat.add_le_add_left (Nat.zero_le _) _) hcl.2⟩ rfl (Nat.le_of_ble_eq_true rfl) dL_law_825 (kX8_under l hN hm) ?_
  exact j_icmp_eq F 925 (A := some ()) (B := none) (v9 := ()) dL_law_828 rfl (if_pos rfl) (fun _ => kk) (fun h => by cases h)
set_option maxRecDepth 100000 in
theorem lc_27 {p : Program} {l : Launch} {e : Env} {s : State} {m : MethodId} {args : Array Value} {below : List Frame} {meth : Method} {c : Code} {x : Cx} {N : Nat} {u v : Option Nat} {nF cells slots b L : Nat} {xs : Nat → Int32} {i : Int32} {t t1 t2 : sT} {a a1 a2 : sA} {r1 : Int32} {Q : State → Prop} (F : Fx p s m meth c cL_law 4 RL (some .boolean) x) (hN : 653 ≤ N) (hX : va_X b L xs s s.heap) (hbl : b < s.heap.size) (hbA : ¬ cA x b) (h1 : vp_in (i + 1) L) (h2 : vp_in (i + 2) L) (h3 : vp_in (i + 3) L) (hc : fX7_lots nF (xs (i + 1).toNatClampNeg) (xs (i + 2).toNatClampNeg) (xs (i + 3).toNatClampNeg) t a = some (r1, t1, a1)) (hm : fX8_lots nF (xs (i + 1).toNatClampNeg) (xs (i + 2).toNatClampNeg) (xs (i + 3).toNatClampNeg) t1 a1 = some (r1, t2, a2)) (hcl : cells + 0 ≤ 600000 ∧ slots + 0 ≤ 7302250) (kk : J p l e room_1 s m args below meth c x N (rho u v) 4 (cells + 0 + 0) (slots + 0 + 0) Q 925 [(3, .int i), (2, .ref (cz x + 50)), (1, .ref (cz x + 0)), (0, .ref b)] [] t2 a2) : J p l e room_1 s m args below meth c x N (rho u v) 4 cells slots Q 833 [(3, .int i), (2, .ref (cz x + 50)), (1, .ref (cz x + 0)), (0, .ref b)] [] t a := by
  refine j_aload_n F 2 dL_law_833 rfl rfl ?_
  refine j_aload_n F 3 dL_law_834 rfl rfl ?_
  refine j_iload_n F 0 dL_law_835 rfl rfl ?_
  refine j_iconst F dL_law_836 eI_1 ?_
  refine j_iadd F dL_law_837 ?_
  refine j_sld F hX hbl hbA h1 dL_law_838 ?_
  refine j_aload_n F 3 dL_law_839 rfl rfl ?_
  refine j_iload_n F 0 dL_law_840 rfl rfl ?_
  refine j_iconst F dL_law_841 eI_2 ?_
  refine j_iadd F dL_law_842 ?_
  refine j_sld F hX hbl hbA h2 dL_law_843 ?_
  refine j_aload_n F 3 dL_law_844 rfl rfl ?_
  refine j_iload_n F 0 dL_law_845 rfl rfl ?_
  refine j_iconst F dL_law_846 eI_3 ?_
  refine j_iadd F dL_law_847 ?_
  refine j_sld F hX hbl hbA h3 dL_law_848 ?_
  refine j_callVm F (k := 0) mwX7_lots ql_L_124 clX7 (lt653 rfl hN) ly0 [.int (xs (i + 1).toNatClampNeg), .int (xs (i + 2).toNatClampNeg), .int (xs (i + 3).toNatClampNeg)] rfl ⟨rfl, rfl, (Nat.le_of_ble_eq_true rfl), (Nat.le_of_ble_eq_true rfl)⟩ ⟨Nat.le_trans (Nat.add_le_add_left (Nat.zero_le _) _) hcl.1, Nat.le_trans (Nat.add_le_add_left (Nat.zero_le _) _) hcl.2⟩ rfl (Nat.le_of_ble_eq_true rfl) dL_law_849 (kX7_lots l hN hc) ?_
  refine j_aload_n F 1 dL_law_852 rfl rfl ?_
  refine j_aload_n F 3 dL_law_853 rfl rfl ?_
  refine j_iload_n F 0 dL_law_854 rfl rfl ?_
  refine j_iconst F dL_law_855 eI_1 ?_
  refine j_iadd F dL_law_856 ?_
  refine j_sld F hX hbl hbA h1 dL_law_857 ?_
  refine j_aload_n F 3 dL_law_858 rfl rfl ?_
  refine j_iload_n F 0 dL_law_859 rfl rfl ?_
  refine j_iconst F dL_law_860 eI_2 ?_
  refine j_iadd F dL_law_861 ?_
  refine j_sld F hX hbl hbA h2 dL_law_862 ?_
  refine j_aload_n F 3 dL_law_863 rfl rfl ?_
  refine j_iload_n F 0 dL_law_864 rfl rfl ?_
  refine j_iconst F dL_law_865 eI_3 ?_
  refine j_iadd F dL_law_866 ?_
  refine j_sld F hX hbl hbA h3 dL_law_867 ?_
  refine j_callVm F (k := 50) mwX8_lots ql_L_128 clX8 (lt653 rfl hN) ly50 [.int (xs (i + 1).toNatClampNeg), .int (xs (i + 2).toNatClampNeg), .int (xs (i + 3).toNatClampNeg)] rfl ⟨rfl, rfl, (Nat.le_of_ble_eq_true rfl), (Nat.le_of_ble_eq_true rfl)⟩ ⟨Nat.le_trans (Nat.add_le_add_left (Nat.zero_le _) _) hcl.1, Nat.le_trans (Nat.add_le_add_left (Nat.zero_le _) _) hcl.2⟩ rfl (Nat.le_of_ble_eq_true rfl) dL_law_868 (kX8_lots l hN hm) ?_
  exact j_icmp_eq F 925 (A := some ()) (B := none) (v9 := ()) dL_law_871 rfl (if_pos rfl) (fun _ => kk) (fun h => by cases h)
set_option maxRecDepth 100000 in
theorem lc_28S {p : Program} {l : Launch} {e : Env} {s : State} {m : MethodId} {args : Array Value} {below : List Frame} {meth : Method} {c : Code} {x : Cx} {N : Nat} {u v : Option Nat} {nF cells slots b L : Nat} {xs : Nat → Int32} {i : Int32} {t t1 t2 : sT} {a a1 a2 : sA} {r1 : Int32} {Q : State → Prop} {ku : Nat} (F : Fx p s m meth c cL_law 4 RL (some .boolean) x) (hN : 653 ≤ N) (hX : va_X b L xs s s.heap) (hbl : b < s.heap.size) (hbA : ¬ cA x b) (hc : fX7_image nF t a = some (r1, t1, a1)) (hku : isMd ku) (hnu : ku + 603 ≤ N) (hm : fX8_imageT nF ku t1 a1 = some (r1, t2, a2)) (hcl : cells + 603 ≤ 600000 ∧ slots + 4286 ≤ 7302250) (kk : J p l e room_1 s m args below meth c x N (rho (some ku) v) 4 (cells + 0 + 603) (slots + 0 + 4286) Q 925 [(3, .int i), (2, .ref (cz x + 50)), (1, .ref (cz x + 0)), (0, .ref b)] [] t2 a2) : J p l e room_1 s m args below meth c x N (rho (some ku) v) 4 cells slots Q 876 [(3, .int i), (2, .ref (cz x + 50)), (1, .ref (cz x + 0)), (0, .ref b)] [] t a := by
  refine j_aload_n F 2 dL_law_876 rfl rfl ?_
  refine j_callVm F (k := 0) mwX7_image ql_L_129 clX7 (lt653 rfl hN) ly0 [] rfl ⟨rfl, rfl, (Nat.le_of_ble_eq_true rfl), (Nat.le_of_ble_eq_true rfl)⟩ ⟨Nat.le_trans (Nat.add_le_add_left (Nat.zero_le _) _) hcl.1, Nat.le_trans (Nat.add_le_add_left (Nat.zero_le _) _) hcl.2⟩ rfl (Nat.le_of_ble_eq_true rfl) dL_law_877 (kX7_image l hN hc) ?_
  refine j_aload_n F 1 dL_law_880 rfl rfl ?_
  refine j_callVm F (k := 50) mwX8_image ql_L_132 clX8 (lt653 rfl hN) ly50 [] rfl ⟨rfl, rfl, (Nat.le_of_ble_eq_true rfl), (Nat.le_of_ble_eq_true rfl)⟩ ⟨hcl.1, hcl.2⟩ rfl (Nat.le_of_ble_eq_true rfl) dL_law_881 (kX8_imageS l hN hku hnu hm) ?_
  exact j_icmp_eq F 925 (A := some ()) (B := none) (v9 := ()) dL_law_884 rfl (if_pos rfl) (fun _ => kk) (fun h => by cases h)
set_option maxRecDepth 100000 in
theorem lc_28N {p : Program} {l : Launch} {e : Env} {s : State} {m : MethodId} {args : Array Value} {below : List Frame} {meth : Method} {c : Code} {x : Cx} {N : Nat} {u v : Option Nat} {nF cells slots b L : Nat} {xs : Nat → Int32} {i : Int32} {t t1 t2 : sT} {a a1 a2 : sA} {r1 : Int32} {Q : State → Prop} (F : Fx p s m meth c cL_law 4 RL (some .boolean) x) (hN : 653 ≤ N) (hX : va_X b L xs s s.heap) (hbl : b < s.heap.size) (hbA : ¬ cA x b) (hc : fX7_image nF t a = some (r1, t1, a1)) (hmd : isMd N) (hzt : zT t1 N) (hza : zA a1 N) (hm : fX8_imageT nF N t1 (va_up a1 (N + 7) ones8) = some (r1, t2, a2)) (hcl : cells + 603 ≤ 600000 ∧ slots + 4286 ≤ 7302250) (kk : J p l e room_1 s m args below meth c x (N + 603) (rho (some N) v) 4 (cells + 0 + 603) (slots + 0 + 4286) Q 925 [(3, .int i), (2, .ref (cz x + 50)), (1, .ref (cz x + 0)), (0, .ref b)] [] t2 a2) : J p l e room_1 s m args below meth c x N (rho none v) 4 cells slots Q 876 [(3, .int i), (2, .ref (cz x + 50)), (1, .ref (cz x + 0)), (0, .ref b)] [] t a := by
  refine j_aload_n F 2 dL_law_876 rfl rfl ?_
  refine j_callVm F (k := 0) mwX7_image ql_L_129 clX7 (lt653 rfl hN) ly0 [] rfl ⟨rfl, rfl, (Nat.le_of_ble_eq_true rfl), (Nat.le_of_ble_eq_true rfl)⟩ ⟨Nat.le_trans (Nat.add_le_add_left (Nat.zero_le _) _) hcl.1, Nat.le_trans (Nat.add_le_add_left (Nat.zero_le _) _) hcl.2⟩ rfl (Nat.le_of_ble_eq_true rfl) dL_law_877 (kX7_image l hN hc) ?_
  refine j_aload_n F 1 dL_law_880 rfl rfl ?_
  refine j_callVm F (k := 50) mwX8_image ql_L_132 clX8 (lt653 rfl hN) ly50 [] rfl ⟨rfl, rfl, (Nat.le_of_ble_eq_true rfl), (Nat.le_of_ble_eq_true rfl)⟩ ⟨hcl.1, hcl.2⟩ rfl (Nat.le_of_ble_eq_true rfl) dL_law_881 (kX8_imageN l hN hmd hzt hza hm) ?_
  exact j_icmp_eq F 925 (A := some ()) (B := none) (v9 := ()) dL_law_884 rfl (if_pos rfl) (fun _ => kk) (fun h => by cases h)
set_option maxRecDepth 100000 in
theorem lc_29S {p : Program} {l : Launch} {e : Env} {s : State} {m : MethodId} {args : Array Value} {below : List Frame} {meth : Method} {c : Code} {x : Cx} {N : Nat} {u v : Option Nat} {nF cells slots b L : Nat} {xs : Nat → Int32} {i : Int32} {t t1 t2 : sT} {a a1 a2 : sA} {r1 : Int32} {Q : State → Prop} {ku : Nat} (F : Fx p s m meth c cL_law 4 RL (some .boolean) x) (hN : 653 ≤ N) (hX : va_X b L xs s s.heap) (hbl : b < s.heap.size) (hbA : ¬ cA x b) (hc : fX7_on nF t a = some (r1, t1, a1)) (hku : isMd ku) (hnu : ku + 603 ≤ N) (hm : fX8_onS nF ku t1 a1 = some (r1, t2, a2)) (hcl : cells + 0 ≤ 600000 ∧ slots + 0 ≤ 7302250) (kk : J p l e room_1 s m args below meth c x N (rho (some ku) v) 4 (cells + 0 + 0) (slots + 0 + 0) Q 925 [(3, .int i), (2, .ref (cz x + 50)), (1, .ref (cz x + 0)), (0, .ref b)] [] t2 a2) : J p l e room_1 s m args below meth c x N (rho (some ku) v) 4 cells slots Q 889 [(3, .int i), (2, .ref (cz x + 50)), (1, .ref (cz x + 0)), (0, .ref b)] [] t a := by
  refine j_aload_n F 2 dL_law_889 rfl rfl ?_
  refine j_callVm F (k := 0) mwX7_on ql_L_133 clX7 (lt653 rfl hN) ly0 [] rfl ⟨rfl, rfl, (Nat.le_of_ble_eq_true rfl), (Nat.le_of_ble_eq_true rfl)⟩ ⟨Nat.le_trans (Nat.add_le_add_left (Nat.zero_le _) _) hcl.1, Nat.le_trans (Nat.add_le_add_left (Nat.zero_le _) _) hcl.2⟩ rfl (Nat.le_of_ble_eq_true rfl) dL_law_890 (kX7_on l hN hc) ?_
  refine j_aload_n F 1 dL_law_893 rfl rfl ?_
  refine j_callVm F (k := 50) mwX8_on ql_L_136 clX8 (lt653 rfl hN) ly50 [] rfl ⟨rfl, rfl, (Nat.le_of_ble_eq_true rfl), (Nat.le_of_ble_eq_true rfl)⟩ ⟨hcl.1, hcl.2⟩ rfl (Nat.le_of_ble_eq_true rfl) dL_law_894 (kX8_onS (u0 := none) l hN hku hnu hm) ?_
  exact j_icmp_eq F 925 (A := some ()) (B := none) (v9 := ()) dL_law_897 rfl (if_pos rfl) (fun _ => kk) (fun h => by cases h)
set_option maxRecDepth 100000 in
theorem lc_29N {p : Program} {l : Launch} {e : Env} {s : State} {m : MethodId} {args : Array Value} {below : List Frame} {meth : Method} {c : Code} {x : Cx} {N : Nat} {u v : Option Nat} {nF cells slots b L : Nat} {xs : Nat → Int32} {i : Int32} {t t1 t2 : sT} {a a1 a2 : sA} {r1 : Int32} {Q : State → Prop} (F : Fx p s m meth c cL_law 4 RL (some .boolean) x) (hN : 653 ≤ N) (hX : va_X b L xs s s.heap) (hbl : b < s.heap.size) (hbA : ¬ cA x b) (hc : fX7_on nF t a = some (r1, t1, a1)) (hm : fX8_onN nF t1 a1 = some (r1, t2, a2)) (hcl : cells + 0 ≤ 600000 ∧ slots + 0 ≤ 7302250) (kk : J p l e room_1 s m args below meth c x N (rho none v) 4 (cells + 0 + 0) (slots + 0 + 0) Q 925 [(3, .int i), (2, .ref (cz x + 50)), (1, .ref (cz x + 0)), (0, .ref b)] [] t2 a2) : J p l e room_1 s m args below meth c x N (rho none v) 4 cells slots Q 889 [(3, .int i), (2, .ref (cz x + 50)), (1, .ref (cz x + 0)), (0, .ref b)] [] t a := by
  refine j_aload_n F 2 dL_law_889 rfl rfl ?_
  refine j_callVm F (k := 0) mwX7_on ql_L_133 clX7 (lt653 rfl hN) ly0 [] rfl ⟨rfl, rfl, (Nat.le_of_ble_eq_true rfl), (Nat.le_of_ble_eq_true rfl)⟩ ⟨Nat.le_trans (Nat.add_le_add_left (Nat.zero_le _) _) hcl.1, Nat.le_trans (Nat.add_le_add_left (Nat.zero_le _) _) hcl.2⟩ rfl (Nat.le_of_ble_eq_true rfl) dL_law_890 (kX7_on l hN hc) ?_
  refine j_aload_n F 1 dL_law_893 rfl rfl ?_
  refine j_callVm F (k := 50) mwX8_on ql_L_136 clX8 (lt653 rfl hN) ly50 [] rfl ⟨rfl, rfl, (Nat.le_of_ble_eq_true rfl), (Nat.le_of_ble_eq_true rfl)⟩ ⟨hcl.1, hcl.2⟩ rfl (Nat.le_of_ble_eq_true rfl) dL_law_894 (kX8_onN (u0 := none) l hN hm) ?_
  exact j_icmp_eq F 925 (A := some ()) (B := none) (v9 := ()) dL_law_897 rfl (if_pos rfl) (fun _ => kk) (fun h => by cases h)
set_option maxRecDepth 100000 in
theorem lc_30 {p : Program} {l : Launch} {e : Env} {s : State} {m : MethodId} {args : Array Value} {below : List Frame} {meth : Method} {c : Code} {x : Cx} {N : Nat} {u v : Option Nat} {nF cells slots b L : Nat} {xs : Nat → Int32} {i : Int32} {t t1 t2 : sT} {a a1 a2 : sA} {r1 : Int32} {Q : State → Prop} (F : Fx p s m meth c cL_law 4 RL (some .boolean) x) (hN : 653 ≤ N) (hX : va_X b L xs s s.heap) (hbl : b < s.heap.size) (hbA : ¬ cA x b) (h1 : vp_in (i + 1) L) (hc : fX7_count nF (xs (i + 1).toNatClampNeg) t a = some (r1, t1, a1)) (hm : fX8_count nF (xs (i + 1).toNatClampNeg) t1 a1 = some (r1, t2, a2)) (hcl : cells + 0 ≤ 600000 ∧ slots + 0 ≤ 7302250) (kk : J p l e room_1 s m args below meth c x N (rho u v) 4 (cells + 0 + 0) (slots + 0 + 0) Q 925 [(3, .int i), (2, .ref (cz x + 50)), (1, .ref (cz x + 0)), (0, .ref b)] [] t2 a2) : J p l e room_1 s m args below meth c x N (rho u v) 4 cells slots Q 902 [(3, .int i), (2, .ref (cz x + 50)), (1, .ref (cz x + 0)), (0, .ref b)] [] t a := by
  refine j_aload_n F 2 dL_law_902 rfl rfl ?_
  refine j_aload_n F 3 dL_law_903 rfl rfl ?_
  refine j_iload_n F 0 dL_law_904 rfl rfl ?_
  refine j_iconst F dL_law_905 eI_1 ?_
  refine j_iadd F dL_law_906 ?_
  refine j_sld F hX hbl hbA h1 dL_law_907 ?_
  refine j_callVm F (k := 0) mwX7_count ql_L_137 clX7 (lt653 rfl hN) ly0 [.int (xs (i + 1).toNatClampNeg)] rfl ⟨rfl, rfl, (Nat.le_of_ble_eq_true rfl), (Nat.le_of_ble_eq_true rfl)⟩ ⟨Nat.le_trans (Nat.add_le_add_left (Nat.zero_le _) _) hcl.1, Nat.le_trans (Nat.add_le_add_left (Nat.zero_le _) _) hcl.2⟩ rfl (Nat.le_of_ble_eq_true rfl) dL_law_908 (kX7_count l hN hc) ?_
  refine j_aload_n F 1 dL_law_911 rfl rfl ?_
  refine j_aload_n F 3 dL_law_912 rfl rfl ?_
  refine j_iload_n F 0 dL_law_913 rfl rfl ?_
  refine j_iconst F dL_law_914 eI_1 ?_
  refine j_iadd F dL_law_915 ?_
  refine j_sld F hX hbl hbA h1 dL_law_916 ?_
  refine j_callVm F (k := 50) mwX8_count ql_L_140 clX8 (lt653 rfl hN) ly50 [.int (xs (i + 1).toNatClampNeg)] rfl ⟨rfl, rfl, (Nat.le_of_ble_eq_true rfl), (Nat.le_of_ble_eq_true rfl)⟩ ⟨Nat.le_trans (Nat.add_le_add_left (Nat.zero_le _) _) hcl.1, Nat.le_trans (Nat.add_le_add_left (Nat.zero_le _) _) hcl.2⟩ rfl (Nat.le_of_ble_eq_true rfl) dL_law_917 (kX8_count l hN hm) ?_
  exact j_icmp_eq F 925 (A := some ()) (B := none) (v9 := ()) dL_law_920 rfl (if_pos rfl) (fun _ => kk) (fun h => by cases h)
