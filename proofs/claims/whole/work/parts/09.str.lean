/-! texts: words, rows -/
theorem mwJ0_charAt_5068e : mwV yJ0_charAt_5068e cJ0_charAt_5068e 2 (Option.some FieldType.char) := ⟨tb2 (List.mem_of_getElem? (i := 59) rfl) rfl, tb2 (List.mem_of_getElem? (i := 57) rfl) rfl, tb2 (List.mem_of_getElem? (i := 58) rfl) rfl, qi_J0, by decide +kernel, by decide +kernel⟩
theorem mwJ0_checkBoundsBeginEnd_23922 : mwS yJ0_checkBoundsBeginEnd_23922 cJ0_checkBoundsBeginEnd_23922 3 none := ⟨tb2 (List.mem_of_getElem? (i := 139) rfl) rfl, tb2 (List.mem_of_getElem? (i := 138) rfl) rfl, qi_J0, by decide +kernel, by decide +kernel⟩
theorem mwJ0_checkIndex_df160 : mwS yJ0_checkIndex_df160 cJ0_checkIndex_df160 2 none := ⟨tb2 (List.mem_of_getElem? (i := 69) rfl) rfl, tb2 (List.mem_of_getElem? (i := 68) rfl) rfl, qi_J0, by decide +kernel, by decide +kernel⟩
theorem mwJ0_coder_7d493 : mwV yJ0_coder_7d493 cJ0_coder_7d493 1 (Option.some FieldType.byte) := ⟨tb2 (List.mem_of_getElem? (i := 53) rfl) rfl, tb2 (List.mem_of_getElem? (i := 51) rfl) rfl, tb2 (List.mem_of_getElem? (i := 52) rfl) rfl, qi_J0, by decide +kernel, by decide +kernel⟩
theorem mwJ0_indexOf_0f7a4 : mwV yJ0_indexOf_0f7a4 cJ0_indexOf_0f7a4 2 (Option.some FieldType.int) := ⟨tb2 (List.mem_of_getElem? (i := 104) rfl) rfl, tb2 (List.mem_of_getElem? (i := 102) rfl) rfl, tb2 (List.mem_of_getElem? (i := 103) rfl) rfl, qi_J0, by decide +kernel, by decide +kernel⟩
theorem mwJ0_indexOf_7cf53 : mwV yJ0_indexOf_7cf53 cJ0_indexOf_7cf53 3 (Option.some FieldType.int) := ⟨tb2 (List.mem_of_getElem? (i := 108) rfl) rfl, tb2 (List.mem_of_getElem? (i := 106) rfl) rfl, tb2 (List.mem_of_getElem? (i := 107) rfl) rfl, qi_J0, by decide +kernel, by decide +kernel⟩
theorem mwJ0_isEmpty_aae02 : mwV yJ0_isEmpty_aae02 cJ0_isEmpty_aae02 1 (Option.some FieldType.boolean) := ⟨tb2 (List.mem_of_getElem? (i := 45) rfl) rfl, tb2 (List.mem_of_getElem? (i := 43) rfl) rfl, tb2 (List.mem_of_getElem? (i := 44) rfl) rfl, qi_J0, by decide +kernel, by decide +kernel⟩
theorem mwJ0_isLatin1_aae02 : mwV yJ0_isLatin1_aae02 cJ0_isLatin1_aae02 1 (Option.some FieldType.boolean) := ⟨tb2 (List.mem_of_getElem? (i := 63) rfl) rfl, tb2 (List.mem_of_getElem? (i := 61) rfl) rfl, tb2 (List.mem_of_getElem? (i := 62) rfl) rfl, qi_J0, by decide +kernel, by decide +kernel⟩
theorem mwJ0_length_8abf5 : mwV yJ0_length_8abf5 cJ0_length_8abf5 1 (Option.some FieldType.int) := ⟨tb2 (List.mem_of_getElem? (i := 49) rfl) rfl, tb2 (List.mem_of_getElem? (i := 47) rfl) rfl, tb2 (List.mem_of_getElem? (i := 48) rfl) rfl, qi_J0, by decide +kernel, by decide +kernel⟩
theorem mwJ1_canEncode_9a6ad : mwS yJ1_canEncode_9a6ad cJ1_canEncode_9a6ad 1 (Option.some FieldType.boolean) := ⟨tb2 (List.mem_of_getElem? (i := 115) rfl) rfl, tb2 (List.mem_of_getElem? (i := 114) rfl) rfl, qi_J1, by decide +kernel, by decide +kernel⟩
theorem mwJ1_charAt_3b067 : mwS yJ1_charAt_3b067 cJ1_charAt_3b067 2 (Option.some FieldType.char) := ⟨tb2 (List.mem_of_getElem? (i := 66) rfl) rfl, tb2 (List.mem_of_getElem? (i := 65) rfl) rfl, qi_J1, by decide +kernel, by decide +kernel⟩
theorem mwJ1_indexOfChar_4cfef : mwS yJ1_indexOfChar_4cfef cJ1_indexOfChar_4cfef 6 (Option.some FieldType.int) := ⟨tb2 (List.mem_of_getElem? (i := 124) rfl) rfl, tb2 (List.mem_of_getElem? (i := 123) rfl) rfl, qi_J1, by decide +kernel, by decide +kernel⟩
theorem mwJ1_indexOf_4cfef : mwS yJ1_indexOf_4cfef cJ1_indexOf_4cfef 4 (Option.some FieldType.int) := ⟨tb2 (List.mem_of_getElem? (i := 112) rfl) rfl, tb2 (List.mem_of_getElem? (i := 111) rfl) rfl, qi_J1, by decide +kernel, by decide +kernel⟩
theorem mwJ3_checkFromToIndex_8c36e : mwS yJ3_checkFromToIndex_8c36e cJ3_checkFromToIndex_8c36e 4 (Option.some FieldType.int) := ⟨tb2 (List.mem_of_getElem? (i := 142) rfl) rfl, tb2 (List.mem_of_getElem? (i := 141) rfl) rfl, qi_J3, by decide +kernel, by decide +kernel⟩
theorem mwJ3_checkIndex_8e157 : mwS yJ3_checkIndex_8e157 cJ3_checkIndex_8e157 3 (Option.some FieldType.int) := ⟨tb2 (List.mem_of_getElem? (i := 74) rfl) rfl, tb2 (List.mem_of_getElem? (i := 73) rfl) rfl, qi_J3, by decide +kernel, by decide +kernel⟩
theorem ql_J0_335 : .methodLink RJ0 335 yJ0_coder_7d493 ∈ lw_t := tb2 (List.mem_of_getElem? (i := 50) rfl) rfl
theorem ql_J0_492 : .methodLink RJ0 492 yJ0_isLatin1_aae02 ∈ lw_t := tb2 (List.mem_of_getElem? (i := 60) rfl) rfl
theorem ql_J0_495 : .methodLink RJ0 495 yJ1_charAt_3b067 ∈ lw_t := tb2 (List.mem_of_getElem? (i := 64) rfl) rfl
theorem ql_J0_498 : .methodLink RJ0 498 yJ2_charAt_3b067 ∈ lw_t := tb2 (List.mem_of_getElem? (i := 75) rfl) rfl
theorem ql_J0_505 : .methodLink RJ0 505 yJ0_length_8abf5 ∈ lw_t := tb2 (List.mem_of_getElem? (i := 109) rfl) rfl
theorem ql_J0_633 : .methodLink RJ0 633 yJ0_indexOf_7cf53 ∈ lw_t := tb2 (List.mem_of_getElem? (i := 105) rfl) rfl
theorem ql_J0_637 : .methodLink RJ0 637 yJ1_indexOf_4cfef ∈ lw_t := tb2 (List.mem_of_getElem? (i := 110) rfl) rfl
theorem ql_J0_640 : .methodLink RJ0 640 yJ2_indexOf_4cfef ∈ lw_t := tb2 (List.mem_of_getElem? (i := 125) rfl) rfl
theorem ql_J0_1059 : .methodLink RJ0 1059 yJ3_checkIndex_8e157 ∈ lw_t := tb2 (List.mem_of_getElem? (i := 72) rfl) rfl
theorem ql_J0_1062 : .methodLink RJ0 1062 yJ3_checkFromToIndex_8c36e ∈ lw_t := tb2 (List.mem_of_getElem? (i := 140) rfl) rfl
theorem ql_J1_9 : .methodLink RJ1 9 yJ0_checkIndex_df160 ∈ lw_t := tb2 (List.mem_of_getElem? (i := 67) rfl) rfl
theorem ql_J1_38 : .methodLink RJ1 38 yJ9_min_7cf53 ∈ lw_t := tb2 (List.mem_of_getElem? (i := 119) rfl) rfl
theorem ql_J1_88 : .methodLink RJ1 88 yJ1_canEncode_9a6ad ∈ lw_t := tb2 (List.mem_of_getElem? (i := 113) rfl) rfl
theorem ql_J1_92 : .methodLink RJ1 92 yJ9_max_7cf53 ∈ lw_t := tb2 (List.mem_of_getElem? (i := 116) rfl) rfl
theorem ql_J1_95 : .methodLink RJ1 95 yJ1_indexOfChar_4cfef ∈ lw_t := tb2 (List.mem_of_getElem? (i := 122) rfl) rfl
theorem qf_J0_9 : .fieldLink RJ0 9 "java/lang/String" "value" "[B" ∈ lw_t := tb5 (List.mem_of_getElem? (i := 230) rfl) rfl
theorem qf_J0_15 : .fieldLink RJ0 15 "java/lang/String" "coder" "B" ∈ lw_t := tb5 (List.mem_of_getElem? (i := 231) rfl) rfl
theorem qf_J0_38 : .fieldLink RJ0 38 "java/lang/String" "COMPACT_STRINGS" "Z" ∈ lw_t := tb2 (List.mem_of_getElem? (i := 54) rfl) rfl
theorem qf_J0_1053 : .fieldLink RJ0 1053 "jdk/internal/util/Preconditions" "SIOOBE_FORMATTER" "Ljava/util/function/BiFunction;" ∈ lw_t := tb2 (List.mem_of_getElem? (i := 70) rfl) rfl
def cok {ρ : Type} (v : Int32) (A : Option ρ) : Option ρ := if (v.toUInt32 % 65536).toInt32 = v then A else none
theorem cok_some {ρ : Type} {v : Int32} {A : Option ρ} {v9 : ρ} (h : cok v A = some v9) : narrow .char (.int v) = .int v ∧ A = some v9 := by
  unfold cok at h
  split at h
  · rename_i e
    refine ⟨?_, h⟩
    have h1 := pk_nc v
    rw [e] at h1
    exact h1
  · cases h
def PostS (x : Cx) (N : Nat) (r : sR) (t : sT) (a : sA) (v : Int32) : Array Value → State → Outcome → State → Prop := va_Qr (fun (_ : Unit) => True) (fun _ q T => q = cAd x v.toNatClampNeg ∧ Wo x N r t a T.heap) (cA x)
theorem bnd6 {ρ : Type} {v : Int32} {A : Option ρ} {v9 : ρ} (h : bnd v 6 A = some v9) : v.toNatClampNeg < 6 ∧ A = some v9 := ⟨Nat.not_le.mp fun q => (bnd_some h).1 (Or.inr q), (bnd_some h).2⟩
section JS
variable {p : Program} {l : Launch} {e : Env} {R : Room} {s : State} {m : MethodId} {args : Array Value} {below : List Frame} {meth : Method} {c : Code} {x : Cx} {N : Nat} {r : sR} {nL cells slots : Nat} {Q : State → Prop} {own : String} {cc : ByteArray} {ret : Option FieldType} {pc : Nat} {lv : List (Nat × Value)} {st : List Value} {t : sT} {a : sA} {ρ : Type} {A B : Option ρ} {v9 : ρ}
theorem j_getS0 (F : Fx p s m meth c cc nL own ret x) {i idx : Nat} (hi : i < 6) (q : .fieldLink own idx "java/lang/String" "value" "[B" ∈ lw_t) (hd : decode cc pc = .ok (.getfield idx, 3)) (kk : J p l e R s m args below meth c x N r nL cells slots Q (pc + 3) lv (.ref (cAv x i) :: st) t a) : J p l e R s m args below meth c x N r nL cells slots Q pc lv (.ref (cAd x i) :: st) t a := fun H locs ls hW hl =>
  vk_getf F.1 F.2.1 (F.2.2.2.2.2.2.2.1.1 i hi).2.2.1 hW.2 F.2.2.2.1 (F.2.2.2.2.2.2.1.w args _ q) (fun _ h => h) hd (kk H locs ls hW hl)
theorem j_getS1 (F : Fx p s m meth c cc nL own ret x) {i idx : Nat} (hi : i < 6) (q : .fieldLink own idx "java/lang/String" "coder" "B" ∈ lw_t) (hd : decode cc pc = .ok (.getfield idx, 3)) (kk : J p l e R s m args below meth c x N r nL cells slots Q (pc + 3) lv (.int 0 :: st) t a) : J p l e R s m args below meth c x N r nL cells slots Q pc lv (.ref (cAd x i) :: st) t a := fun H locs ls hW hl =>
  vk_getf F.1 F.2.1 (F.2.2.2.2.2.2.2.1.1 i hi).2.1 hW.2 F.2.2.2.1 (F.2.2.2.2.2.2.1.w args _ q) (fun _ h => h) hd (kk H locs ls hW hl)
theorem j_getsC (F : Fx p s m meth c cc nL own ret x) {idx : Nat} (q : .fieldLink own idx "java/lang/String" "COMPACT_STRINGS" "Z" ∈ lw_t) (hd : decode cc pc = .ok (.getstatic idx, 3)) (kk : J p l e R s m args below meth c x N r nL cells slots Q (pc + 3) lv (.int 1 :: st) t a) : J p l e R s m args below meth c x N r nL cells slots Q pc lv st t a := fun H locs ls hW hl =>
  va_gets F.1 F.2.1 F.2.2.2.2.2.2.2.2.1 hW.2 F.2.2.2.1 (F.2.2.2.2.2.2.1.w args _ q) (fun _ h => h) hd (kk H locs ls hW hl)
theorem j_getsF (F : Fx p s m meth c cc nL own ret x) {idx : Nat} (q : .fieldLink own idx "jdk/internal/util/Preconditions" "SIOOBE_FORMATTER" "Ljava/util/function/BiFunction;" ∈ lw_t) (hd : decode cc pc = .ok (.getstatic idx, 3)) (kn : J p l e R s m args below meth c x N r nL cells slots Q (pc + 3) lv (.null :: st) t a) (kr : ∀ z : Nat, J p l e R s m args below meth c x N r nL cells slots Q (pc + 3) lv (.ref z :: st) t a) : J p l e R s m args below meth c x N r nL cells slots Q pc lv st t a := by
  intro H locs ls hW hl
  rcases F.2.2.2.2.2.2.2.2.2.1 with h | ⟨z, h⟩
  · exact va_gets F.1 F.2.1 h hW.2 F.2.2.2.1 (F.2.2.2.2.2.2.1.w args _ q) (fun _ h => h) hd (kn H locs ls hW hl)
  · exact va_gets F.1 F.2.1 h hW.2 F.2.2.2.1 (F.2.2.2.2.2.2.1.w args _ q) (fun _ h => h) hd (kr z H locs ls hW hl)
theorem j_tlen (F : Fx p s m meth c cc nL own ret x) {i : Nat} (hi : i < 6) (hd : decode cc pc = .ok (.arraylength, 1)) (kk : J p l e R s m args below meth c x N r nL cells slots Q (pc + 1) lv (.int (Int32.ofNat (strN.getD i 0)) :: st) t a) : J p l e R s m args below meth c x N r nL cells slots Q pc lv (.ref (cAv x i) :: st) t a := fun H locs ls hW hl =>
  va_tlen F.1 F.2.1 (F.2.2.2.2.2.2.2.1.1 i hi).2.2.2 hW.2 rfl hd (kk H locs ls hW hl)
theorem j_tb (F : Fx p s m meth c cc nL own ret x) {i : Nat} {j : Int32} (hi : i < 6) (hd : decode cc pc = .ok (.baload, 1)) (h : bnd j (strN.getD i 0) A = some v9) (kk : A = some v9 → J p l e R s m args below meth c x N r nL cells slots Q (pc + 1) lv (.int ((strB.getD i []).getD j.toNatClampNeg 0) :: st) t a) : J p l e R s m args below meth c x N r nL cells slots Q pc lv (.int j :: .ref (cAv x i) :: st) t a := fun H locs ls hW hl =>
  va_tb F.1 F.2.1 (F.2.2.2.2.2.2.2.1.1 i hi).2.2.2 hW.2 (bnd_some h).1 rfl hd (kk (bnd_some h).2 H locs ls hW hl)
theorem j_ldcS (F : Fx p s m meth c cc nL own ret x) {idx : Nat} {tx : String} {z : Nat} (q : vk_R own idx tx z s) (hd : decode cc pc = .ok (.ldc idx, 2)) (kk : J p l e R s m args below meth c x N r nL cells slots Q (pc + 2) lv (.ref z :: st) t a) : J p l e R s m args below meth c x N r nL cells slots Q pc lv st t a := fun H locs ls hW hl => va_ldcS F.1 F.2.1 F.2.2.2.1 q hd (kk H locs ls hW hl)
theorem j_i2b (F : Fx p s m meth c cc nL own ret x) {u v : Int32} (hd : decode cc pc = .ok (.i2b, 1)) (hv : u.toInt8.toInt32 = v) (kk : J p l e R s m args below meth c x N r nL cells slots Q (pc + 1) lv (.int v :: st) t a) : J p l e R s m args below meth c x N r nL cells slots Q pc lv (.int u :: st) t a := fun H locs ls hW hl => lv_i2b F.1 F.2.1 hd hv (kk H locs ls hW hl)
theorem j_creturn (F : Fx p s m meth c cc nL own ret x) {v rv : Int32} {rt : sT} {ra : sA} (hret : ret = some .char) (hd : decode cc pc = .ok (.ireturn, 1)) (h : cok v (some (v, t, a)) = some (rv, rt, ra)) : J p l e R s m args below meth c x N r nL cells slots (MQ below (PostI x N r rt ra rv) args s cells slots (cA x)) pc lv [.int v] t a := by
  intro H locs ls hW hl
  obtain ⟨hz, h⟩ := cok_some h
  cases h
  obtain ⟨hx, hb, hml, hown, hre, hlk, hK, hKs⟩ := F
  exact W.zret hx hb (hre.trans hret) hz (fun T hT hWm => ⟨⟨v, (), rfl, rfl, by show Wo _ _ _ _ _ T.heap; rw [hT]; exact hW.1⟩, hW.2.F hT⟩) hW.2.2.2 hd hlk
theorem j_breturn (F : Fx p s m meth c cc nL own ret x) {v rv : Int32} {rt : sT} {ra : sA} (hret : ret = some .byte) (hd : decode cc pc = .ok (.ireturn, 1)) (h : zok v (some (v, t, a)) = some (rv, rt, ra)) : J p l e R s m args below meth c x N r nL cells slots (MQ below (PostI x N r rt ra rv) args s cells slots (cA x)) pc lv [.int v] t a := by
  intro H locs ls hW hl
  obtain ⟨hz, h⟩ := zok_some h
  cases h
  obtain ⟨hx, hb, hml, hown, hre, hlk, hK, hKs⟩ := F
  exact W.zret hx hb (hre.trans hret) (by rcases hz with rfl | rfl <;> rfl) (fun T hT hWm => ⟨⟨v, (), rfl, rfl, by show Wo _ _ _ _ _ T.heap; rw [hT]; exact hW.1⟩, hW.2.F hT⟩) hW.2.2.2 hd hlk
theorem j_sreturn (F : Fx p s m meth c cc nL own ret x) {rv : Int32} {i : Nat} {rt : sT} {ra : sA} (hret : ret = some (.object "java/lang/String")) (hd : decode cc pc = .ok (.areturn, 1)) {v : Int32} (hi : v.toNatClampNeg = i) (h : some (v, t, a) = some (rv, rt, ra)) : J p l e R s m args below meth c x N r nL cells slots (MQ below (PostS x N r rt ra rv) args s cells slots (cA x)) pc lv [.ref (cAd x i)] t a := by
  intro H locs ls hW hl
  cases h
  subst hi
  obtain ⟨hx, hb, hml, hown, hre, hlk, hK, hKs⟩ := F
  exact W.aret hx hb (hre.trans hret) (Or.inl ⟨_, rfl⟩) (Or.inr ⟨_, rfl⟩) (fun T hT hWm => ⟨⟨(), _, rfl, trivial, rfl, by show Wo _ _ _ _ _ T.heap; rw [hT]; exact hW.1⟩, hW.2.F hT⟩) hW.2.2.2 hd hlk
theorem j_callTi (F : Fx p s m meth c cc nL own ret x) {y : MethodName} {bytes : ByteArray} {maxL idx i : Nat} {re : Option FieldType} {rm : Room} {f9 : Rs} {K9 : Int32 → sT → sA → Option ρ} (M : mwV y bytes maxL re) (q : .methodLink own idx y ∈ lw_t) (hyc : y.cls = "java/lang/String") (hi : i < 6) (As : List Value) (hn : (parseMethodDescriptor y.desc).map (fun d => d.parameters.length) = some As.length) (hrm : rm.cells = 0 ∧ rm.slots = 0 ∧ rm.frames + 1 ≤ R.frames ∧ 8 + (maxL + 11) + rm.locals ≤ R.locals) (hf : cells ≤ R.cells ∧ slots ≤ R.slots) {st0 : List Value} (hst : st0 = As.reverse ++ .ref (cAd x i) :: st) (hro : (st.map fun v => v.category).sum ≤ 8) (hd : decode cc pc = .ok (.invokevirtual idx, 3))
    (hM : ∀ v t' a', f9 = some (v, t', a') → Met l y [.code y bytes maxL re] rm (Pre x N r t a (.ref (cAd x i) :: As)) (PostI x N r t' a' v) 0 0 (cA x)) (h : cal f9 K9 = some v9) (kk : ∀ v t' a', f9 = some (v, t', a') → K9 v t' a' = some v9 → J p l e R s m args below meth c x N r nL cells slots Q (pc + 3) lv (.int v :: st) t' a') : J p l e R s m args below meth c x N r nL cells slots Q pc lv st0 t a := by
  intro H locs ls hW hl
  obtain ⟨v, t', a', hf9, hK9⟩ := cal_some h
  obtain ⟨hx, hb, hml, hown, hre, hlk, hK, hKs⟩ := F
  have hts := hK.w args
  obtain ⟨m1, m2, m3, m4, m5, m6⟩ := M
  refine va_calli (va_runV (C := y.cls) (As := As) (rest := st) (Ts := lw_t) ⟨hx, hb, hml, hown, hts⟩ (hM _ _ _ hf9) ⟨⟨hrm.1, hrm.2.1, hrm.2.2.1, hrm.2.2.2, fun w hw a1 U hU => by rw [List.mem_singleton] at hw; subst hw; exact gw_move (List.mem_filter.mp m1).2 hU (hts _ m1), List.mem_singleton.mpr rfl, hts _ m1, hts _ m4, ⟨m5, m6⟩, ar_of hn, hts _ q⟩, hts _ m2, hts _ m3⟩ ⟨Pre.blind, by rw [hyc]; exact vk_recv hKs.1 hi hW.2, Pre.at hK hKs hW⟩ rfl rfl hl.1 hst (lv_room hro) hd ⟨hf.1, hf.2⟩) hW.2 (fun _ _ h => h) (fun _ h => h) (fun r1 u1 T1 H1 locs1 hT hvm hp hB hz hk1 hS1 => by subst hp; exact kk _ _ _ hf9 hK9 H1 locs1 ls ⟨by rw [hT] at hB; exact hB, hS1⟩ hl)
theorem j_callSr (F : Fx p s m meth c cc nL own ret x) {y : MethodName} {bytes : ByteArray} {maxL idx : Nat} {re : Option FieldType} {rm : Room} {f9 : Rs} {K9 : Int32 → sT → sA → Option ρ} (M : mwS y bytes maxL re) (q : .methodLink own idx y ∈ lw_t) (As : List Value) (hn : (parseMethodDescriptor y.desc).map (fun d => d.parameters.length) = some As.length) (hrm : rm.cells = 0 ∧ rm.slots = 0 ∧ rm.frames + 1 ≤ R.frames ∧ 8 + (maxL + 11) + rm.locals ≤ R.locals) (hf : cells ≤ R.cells ∧ slots ≤ R.slots) {st0 : List Value} (hst : st0 = As.reverse ++ st) (hro : (st.map fun v => v.category).sum ≤ 8) (hd : decode cc pc = .ok (.invokestatic idx, 3))
    (hM : ∀ v t' a', f9 = some (v, t', a') → Met l y [.code y bytes maxL re] rm (Pre x N r t a As) (PostS x N r t' a' v) 0 0 (cA x)) (h : cal f9 K9 = some v9) (kk : ∀ v t' a', f9 = some (v, t', a') → K9 v t' a' = some v9 → J p l e R s m args below meth c x N r nL cells slots Q (pc + 3) lv (.ref (cAd x v.toNatClampNeg) :: st) t' a') : J p l e R s m args below meth c x N r nL cells slots Q pc lv st0 t a := by
  intro H locs ls hW hl
  obtain ⟨v, t', a', hf9, hK9⟩ := cal_some h
  obtain ⟨hx, hb, hml, hown, hre, hlk, hK, hKs⟩ := F
  have hts := hK.w args
  obtain ⟨m1, m2, m4, m5, m6⟩ := M
  refine va_callr (va_runS (As := As) (rest := st) (Ts := lw_t) ⟨hx, hb, hml, hown, hts⟩ (hM _ _ _ hf9) ⟨⟨hrm.1, hrm.2.1, hrm.2.2.1, hrm.2.2.2, fun w hw a1 U hU => by rw [List.mem_singleton] at hw; subst hw; exact gw_move (List.mem_filter.mp m1).2 hU (hts _ m1), List.mem_singleton.mpr rfl, hts _ m1, hts _ m4, ⟨m5, m6⟩, ar_of hn, hts _ q⟩, hts _ m2⟩ ⟨Pre.blind, Pre.at hK hKs hW⟩ rfl rfl hl.1 hst (lv_room hro) hd ⟨hf.1, hf.2⟩) hW.2 (fun _ _ h => h) (fun _ h => h) (fun u1 q1 T1 H1 locs1 hT hvm hp hB hz hk1 hS1 => by obtain ⟨rfl, hB⟩ := hB; exact kk _ _ _ hf9 hK9 H1 locs1 ls ⟨by rw [hT] at hB; exact hB, hS1⟩ hl)
end JS
def fJ3_checkIndex_8e157 (nF : Nat) (x0 x1 : Int32) (t : sT) (a : sA) : Rs := if x0 < 0 then none else if x0 < x1 then some (x0, t, a) else none
theorem kJ3_checkIndex_8e157 (l : Launch) {x : Cx} {N : Nat} {u0 v0 : Option Nat} {nF : Nat} {x0 x1 : Int32} {t : sT} {a : sA} {rv : Int32} {rt : sT} {ra : sA} (z9 : Value) (hz9 : z9 = .null ∨ ∃ z, z9 = .ref z) (h : fJ3_checkIndex_8e157 nF x0 x1 t a = some (rv, rt, ra)) : Met l yJ3_checkIndex_8e157 [.code yJ3_checkIndex_8e157 cJ3_checkIndex_8e157 3 (some .int)] (k2_rm 0 0) (Pre x N (rho u0 v0) t a [.int x0, .int x1, z9]) (PostI x N (rho u0 v0) rt ra rv) 0 0 (cA x) := by
  rcases hz9 with rfl | ⟨z, rfl⟩
  · refine j_entry (by decide) rfl (Nat.le_of_ble_eq_true rfl) ?_
    intro p e s m below meth c F hsz hnm
    unfold fJ3_checkIndex_8e157 at h
    show J p l e _ s m _ below meth c x N (rho u0 v0) 3 0 0 _ 0 [(0, .int x0), (1, .int x1), (2, .null)] [] t a
    refine j_iload_n F 0 dJ3_checkIndex_8e157_0 rfl rfl ?_
    refine j_if_lt F 9 dJ3_checkIndex_8e157_1 rfl h (fun h => by cases h) (fun h => ?_)
    refine j_iload_n F 0 dJ3_checkIndex_8e157_4 rfl rfl ?_
    refine j_iload_n F 1 dJ3_checkIndex_8e157_5 rfl rfl ?_
    refine j_icmp_lt F 16 dJ3_checkIndex_8e157_6 rfl h (fun h => ?_) (fun h => by cases h)
    refine j_iload_n F 0 dJ3_checkIndex_8e157_16 rfl rfl ?_
    exact j_ireturn F rfl dJ3_checkIndex_8e157_17 h
  · refine j_entry (by decide) rfl (Nat.le_of_ble_eq_true rfl) ?_
    intro p e s m below meth c F hsz hnm
    unfold fJ3_checkIndex_8e157 at h
    show J p l e _ s m _ below meth c x N (rho u0 v0) 3 0 0 _ 0 [(0, .int x0), (1, .int x1), (2, .ref z)] [] t a
    refine j_iload_n F 0 dJ3_checkIndex_8e157_0 rfl rfl ?_
    refine j_if_lt F 9 dJ3_checkIndex_8e157_1 rfl h (fun h => by cases h) (fun h => ?_)
    refine j_iload_n F 0 dJ3_checkIndex_8e157_4 rfl rfl ?_
    refine j_iload_n F 1 dJ3_checkIndex_8e157_5 rfl rfl ?_
    refine j_icmp_lt F 16 dJ3_checkIndex_8e157_6 rfl h (fun h => ?_) (fun h => by cases h)
    refine j_iload_n F 0 dJ3_checkIndex_8e157_16 rfl rfl ?_
    exact j_ireturn F rfl dJ3_checkIndex_8e157_17 h
def fJ0_checkIndex_df160 (nF : Nat) (x0 x1 : Int32) (t : sT) (a : sA) : Rs := cal (fJ3_checkIndex_8e157 nF x0 x1 t a) (fun _ t a => some (0, t, a))
theorem kJ0_checkIndex_df160 (l : Launch) {x : Cx} {N : Nat} {u0 v0 : Option Nat} {nF : Nat} {x0 x1 : Int32} {t : sT} {a : sA} {rv : Int32} {rt : sT} {ra : sA} (hN : 653 ≤ N) (h : fJ0_checkIndex_df160 nF x0 x1 t a = some (rv, rt, ra)) : Met l yJ0_checkIndex_df160 [.code yJ0_checkIndex_df160 cJ0_checkIndex_df160 2 none] (k2_rm 1 30) (Pre x N (rho u0 v0) t a [.int x0, .int x1]) (PostV x N (rho u0 v0) rt ra) 0 0 (cA x) := by
  refine j_entry (by decide) rfl (Nat.le_of_ble_eq_true rfl) ?_
  intro p e s m below meth c F hsz hnm
  have F : Fx p s m meth c cJ0_checkIndex_df160 2 RJ0 none x := F
  unfold fJ0_checkIndex_df160 at h
  show J p l e _ s m _ below meth c x N (rho u0 v0) 2 0 0 _ 0 [(0, .int x0), (1, .int x1)] [] t a
  refine j_iload_n F 0 dJ0_checkIndex_df160_0 rfl rfl ?_
  refine j_iload_n F 1 dJ0_checkIndex_df160_1 rfl rfl ?_
  refine j_getsF F qf_J0_1053 dJ0_checkIndex_df160_2 ?_ (fun z => ?_)
  · refine j_callSi F mwJ3_checkIndex_8e157 ql_J0_1059 [.int x0, .int x1, .null] rfl ⟨rfl, rfl, Nat.le_of_ble_eq_true rfl, Nat.le_of_ble_eq_true rfl⟩ ⟨Nat.le_refl 0, Nat.le_refl 0⟩ rfl (Nat.le_of_ble_eq_true rfl) dJ0_checkIndex_df160_5 (fun _ _ _ h9 => kJ3_checkIndex_8e157 l .null (Or.inl rfl) h9) h (fun v1 t1 a1 e1 h => ?_)
    refine j_pop F dJ0_checkIndex_df160_8 rfl ?_
    exact j_vreturn F rfl dJ0_checkIndex_df160_9 h
  · refine j_callSi F mwJ3_checkIndex_8e157 ql_J0_1059 [.int x0, .int x1, .ref z] rfl ⟨rfl, rfl, Nat.le_of_ble_eq_true rfl, Nat.le_of_ble_eq_true rfl⟩ ⟨Nat.le_refl 0, Nat.le_refl 0⟩ rfl (Nat.le_of_ble_eq_true rfl) dJ0_checkIndex_df160_5 (fun _ _ _ h9 => kJ3_checkIndex_8e157 l (.ref z) (Or.inr ⟨z, rfl⟩) h9) h (fun v1 t1 a1 e1 h => ?_)
    refine j_pop F dJ0_checkIndex_df160_8 rfl ?_
    exact j_vreturn F rfl dJ0_checkIndex_df160_9 h
