/-! ROWS: the judgement J, and a row an instruction -/
def strB : List (List Int32) := [[59], [48, 44, 48, 59], [48, 59], [107, 59], [], [104, 111, 98, 103, 102]]
def strN : List Nat := [1, 4, 2, 2, 0, 5]
/-- the texts: ";" "0,0;" "0;" "k;" "" "hobgf" -/
def Ks (x : Cx) (U : State) (H : Heap) : Prop := vk_S 6 strN strB (cAd x) (cAv x) (cA x) U H ∧ va_Z "java/lang/String" "COMPACT_STRINGS" "Z" (.int 1) (cA x) U H ∧ va_Zq "jdk/internal/util/Preconditions" "SIOOBE_FORMATTER" "Ljava/util/function/BiFunction;" (cA x) U H ∧ vk_R "AnswerShorter$Letters" 63 ";" (cAd x 0) U ∧ vk_R "AnswerShorter$Letters" 65 "0,0;" (cAd x 1) U ∧ vk_R "AnswerShorter$Letters" 67 "0;" (cAd x 2) U ∧ vk_R "AnswerShorter$Letters" 69 "k;" (cAd x 3) U ∧ vk_R "AnswerShorter$Letters" 71 "" (cAd x 4) U ∧ vk_R "AnswerShorter$Letters" 100 "hobgf" (cAd x 5) U ∧ (Cond.arrayOver (.array .int)).before #[] U = true
theorem Ks.move {x : Cx} {s U : State} {H H1 : Heap} (hW : s.WarmedH U.vm) (hq : ∀ q : Nat, q < H.size → ¬ cA x q → H1[q]? = H[q]?) (h : Ks x s H) : Ks x U H1 := by
  obtain ⟨h1, h2, h9, h3, h4, h5, h6, h7, h8, h10⟩ := h
  exact ⟨(h1.moved hW.alike).kept hq, (h2.moved hW.alike).kept hq, (h9.moved hW.alike).kept hq, h3.warm hW, h4.warm hW, h5.warm hW, h6.warm hW, h7.warm hW, h8.warm hW, over_moved hW.alike h10⟩
/-- what a method's proof has at hand -/
def Fx (p : Program) (s : State) (m : MethodId) (meth : Method) (c : Code) (cc : ByteArray) (nL : Nat) (own : String) (ret : Option FieldType) (x : Cx) : Prop := p.tables.exec = Jvm.exec ∧ c.code = cc ∧ c.maxLocals = nL ∧ s.vm.findClass own = some m.cls ∧ meth.sig.returnType = ret ∧ meth.locks = false ∧ Kb x s ∧ Ks x s s.heap
def J (p : Program) (l : Launch) (e : Env) (R : Room) (s : State) (m : MethodId) (args : Array Value) (below : List Frame) (meth : Method) (c : Code) (x : Cx) (N : Nat) (r : sR) (nL cells slots : Nat) (Q : State → Prop) (pc : Nat) (lv : List (Nat × Value)) (st : List Value) (t : sT) (a : sA) : Prop :=
  ∀ (H : Heap) (locs : List Loc) (ls : Array Slot), Wd x N r t a s.heap H locs → lv_has ls nL lv → W p l e R s m args below meth c H locs cells slots Q (F0 m pc ls st)
def Pre (x : Cx) (N : Nat) (r : sR) (t : sT) (a : sA) (av : List Value) : Array Value → State → Prop := va_Pc av (fun U => Kb x U ∧ Ks x U U.heap ∧ Wo x N r t a U.heap)
def PostI (x : Cx) (N : Nat) (r : sR) (t : sT) (a : sA) (v : Int32) : Array Value → State → Outcome → State → Prop := va_Qi (fun q (_ : Unit) => q = v) (fun _ T => Wo x N r t a T.heap) (cA x)
def PostV (x : Cx) (N : Nat) (r : sR) (t : sT) (a : sA) : Array Value → State → Outcome → State → Prop := va_Qv (fun (_ : Unit) => True) (fun _ T => Wo x N r t a T.heap) (cA x)
theorem Pre.blind {x : Cx} {N : Nat} {r : sR} {t : sT} {a : sA} {av : List Value} : FrameBlind (Pre x N r t a av) := fun _ U g mk h => ⟨h.1, Kb.calling h.2.1, Ks.move (U := U.calling g mk _) (State.WarmedH.refl U) (fun _ _ _ => rfl) h.2.2.1, h.2.2.2⟩
theorem Pre.at {x : Cx} {N : Nat} {r : sR} {t : sT} {a : sA} {av : List Value} {s : State} {H : Heap} {locs : List Loc} (hK : Kb x s) (hS : Ks x s s.heap) (hW : Wd x N r t a s.heap H locs) (U : State) (hU : U.heap = H) (hw : s.WarmedH U.vm) : Pre x N r t a av av.toArray U :=
  ⟨rfl, hK.move hw, by rw [hU]; exact hS.move hw hW.2.2.1, by rw [hU]; exact hW.1⟩
/-- an index in its row; a divisor; a truth value; a call -/
def bnd {ρ : Type} (i : Int32) (n : Nat) (A : Option ρ) : Option ρ := if i < 0 ∨ n ≤ i.toNatClampNeg then none else A
def dvz {ρ : Type} (y : Int32) (A : Option ρ) : Option ρ := if y = 0 then none else A
def zok {ρ : Type} (v : Int32) (A : Option ρ) : Option ρ := if v = 0 ∨ v = 1 then A else none
abbrev Rs : Type := Option (Int32 × sT × sA)
def cal {ρ : Type} (o : Rs) (K : Int32 → sT → sA → Option ρ) : Option ρ := match o with
  | none => none
  | some q => K q.1 q.2.1 q.2.2
theorem bnd_some {ρ : Type} {i : Int32} {n : Nat} {A : Option ρ} {v9 : ρ} (h : bnd i n A = some v9) : vp_in i n ∧ A = some v9 := by
  unfold bnd at h
  split at h
  · cases h
  · exact ⟨by assumption, h⟩
theorem dvz_some {ρ : Type} {y : Int32} {A : Option ρ} {v9 : ρ} (h : dvz y A = some v9) : ¬ y = 0 ∧ A = some v9 := by
  unfold dvz at h
  split at h
  · cases h
  · exact ⟨by assumption, h⟩
theorem zok_some {ρ : Type} {v : Int32} {A : Option ρ} {v9 : ρ} (h : zok v A = some v9) : (v = 0 ∨ v = 1) ∧ A = some v9 := by
  unfold zok at h
  split at h
  · exact ⟨by assumption, h⟩
  · cases h
theorem cal_some {ρ : Type} {o : Rs} {K : Int32 → sT → sA → Option ρ} {v9 : ρ} (h : cal o K = some v9) : ∃ v t a, o = some (v, t, a) ∧ K v t a = some v9 := by
  unfold cal at h
  split at h
  · cases h
  · rename_i q
    exact ⟨q.1, q.2.1, q.2.2, rfl, h⟩
theorem lt653 {k N : Nat} (h : Nat.blt k 653 = true) (hN : 653 ≤ N) : k < N := by
  have : k < 653 := by simpa [Nat.blt_eq] using h
  omega
def mwV (y : MethodName) (bytes : ByteArray) (maxL : Nat) (ret : Option FieldType) : Prop := .code y bytes maxL ret ∈ lw_t ∧ .instanceMethod y ∈ lw_t ∧ .selects y.cls y y ∈ lw_t ∧ .initialized y.cls ∈ lw_t ∧ y.cls ≠ "java/lang/invoke/MethodHandle" ∧ y.cls ≠ "java/lang/invoke/VarHandle"
def mwS (y : MethodName) (bytes : ByteArray) (maxL : Nat) (ret : Option FieldType) : Prop := .code y bytes maxL ret ∈ lw_t ∧ .static y ∈ lw_t ∧ .initialized y.cls ∈ lw_t ∧ y.cls ≠ "java/lang/invoke/MethodHandle" ∧ y.cls ≠ "java/lang/invoke/VarHandle"
def mwI (y : MethodName) (bytes : ByteArray) (maxL : Nat) : Prop := .code y bytes maxL none ∈ lw_t ∧ .instanceMethod y ∈ lw_t ∧ .initialized y.cls ∈ lw_t ∧ y.cls ≠ "java/lang/invoke/MethodHandle" ∧ y.cls ≠ "java/lang/invoke/VarHandle" ∧ y.name = "<init>"
theorem ar_of {d : String} {n : Nat} (h : (parseMethodDescriptor d).map (fun d => d.parameters.length) = some n) : ∀ sig, parseMethodDescriptor d = some sig → n = sig.parameters.length := by
  intro sig hs
  rw [hs] at h
  exact (Option.some.inj h).symm
theorem va_A_self {x : Cx} {H0 H : Heap} {locs : List Loc} (hS : va_S (cA x) H0 H locs) : ∀ q, q < H.size → cA x q → cA x q := fun _ _ h => h
section JR
variable {p : Program} {l : Launch} {e : Env} {R : Room} {s : State} {m : MethodId} {args : Array Value} {below : List Frame} {meth : Method} {c : Code} {x : Cx} {N : Nat} {r : sR} {nL cells slots : Nat} {Q : State → Prop} {own : String} {cc : ByteArray} {ret : Option FieldType} {pc : Nat} {lv : List (Nat × Value)} {st : List Value} {t : sT} {a : sA} {ρ : Type} {A B : Option ρ} {v9 : ρ}
theorem J.eq {pc' : Nat} {lv' : List (Nat × Value)} {st' : List Value} {t' : sT} {a' : sA} (h1 : pc' = pc) (h2 : lv' = lv) (h3 : st' = st) (h4 : t' = t) (h5 : a' = a) (k : J p l e R s m args below meth c x N r nL cells slots Q pc' lv' st' t' a') : J p l e R s m args below meth c x N r nL cells slots Q pc lv st t a := by
  subst h1; subst h2; subst h3; subst h4; subst h5; exact k

theorem j_iconst (F : Fx p s m meth c cc nL own ret x) {n : Int} {v : Int32} (hd : decode cc pc = .ok (.iconst n, 1)) (hv : Int32.ofInt n = v) (kk : J p l e R s m args below meth c x N r nL cells slots Q (pc + 1) lv (.int v :: st) t a) : J p l e R s m args below meth c x N r nL cells slots Q pc lv (st) t a := fun H locs ls hW hl => lv_iconst F.1 F.2.1 hd hv (kk H locs ls hW hl)
theorem j_bipush (F : Fx p s m meth c cc nL own ret x) {n : Int} {v : Int32} (hd : decode cc pc = .ok (.bipush n, 2)) (hv : (Int8.ofInt n).toInt32 = v) (kk : J p l e R s m args below meth c x N r nL cells slots Q (pc + 2) lv (.int v :: st) t a) : J p l e R s m args below meth c x N r nL cells slots Q pc lv (st) t a := fun H locs ls hW hl => lv_bipush F.1 F.2.1 hd hv (kk H locs ls hW hl)
theorem j_sipush (F : Fx p s m meth c cc nL own ret x) {n : Int} {v : Int32} (hd : decode cc pc = .ok (.sipush n, 3)) (hv : (Int16.ofInt n).toInt32 = v) (kk : J p l e R s m args below meth c x N r nL cells slots Q (pc + 3) lv (.int v :: st) t a) : J p l e R s m args below meth c x N r nL cells slots Q pc lv (st) t a := fun H locs ls hW hl => lv_sipush F.1 F.2.1 hd hv (kk H locs ls hW hl)
theorem j_ldc (F : Fx p s m meth c cc nL own ret x) {i : Nat} {v : Int32} (hd : decode cc pc = .ok (.ldc i, 2)) (q : .constant own i v ∈ lw_t) (kk : J p l e R s m args below meth c x N r nL cells slots Q (pc + 2) lv (.int v :: st) t a) : J p l e R s m args below meth c x N r nL cells slots Q pc lv (st) t a := fun H locs ls hW hl => lv_ldc F.1 F.2.1 F.2.2.2.1 (F.2.2.2.2.2.2.1.w args _ q) hd (kk H locs ls hW hl)
theorem j_ldcw (F : Fx p s m meth c cc nL own ret x) {i : Nat} {v : Int32} (hd : decode cc pc = .ok (.ldc_w i, 3)) (q : .constant own i v ∈ lw_t) (kk : J p l e R s m args below meth c x N r nL cells slots Q (pc + 3) lv (.int v :: st) t a) : J p l e R s m args below meth c x N r nL cells slots Q pc lv (st) t a := fun H locs ls hW hl => lv_ldcw F.1 F.2.1 F.2.2.2.1 (F.2.2.2.2.2.2.1.w args _ q) hd (kk H locs ls hW hl)
theorem j_iload_n (F : Fx p s m meth c cc nL own ret x) {k : Fin 4} {i : Nat} {v : Int32} (q : Nat) (hd : decode cc pc = .ok (.iload_n k, 1)) (hi : (k : Nat) = i) (hq : lv[q]? = some (i, .int v)) (kk : J p l e R s m args below meth c x N r nL cells slots Q (pc + 1) lv (.int v :: st) t a) : J p l e R s m args below meth c x N r nL cells slots Q pc lv (st) t a := fun H locs ls hW hl => lv_iload_n F.1 F.2.1 hd hi (lv_at hl q hq) (kk H locs ls hW hl)
theorem j_iload (F : Fx p s m meth c cc nL own ret x) {i : Nat} {v : Int32} (q : Nat) (hd : decode cc pc = .ok (.iload i, 2)) (hq : lv[q]? = some (i, .int v)) (kk : J p l e R s m args below meth c x N r nL cells slots Q (pc + 2) lv (.int v :: st) t a) : J p l e R s m args below meth c x N r nL cells slots Q pc lv (st) t a := fun H locs ls hW hl => lv_iload F.1 F.2.1 hd (lv_at hl q hq) (kk H locs ls hW hl)
theorem j_aload_n (F : Fx p s m meth c cc nL own ret x) {k : Fin 4} {i : Nat} {v : Nat} (q : Nat) (hd : decode cc pc = .ok (.aload_n k, 1)) (hi : (k : Nat) = i) (hq : lv[q]? = some (i, .ref v)) (kk : J p l e R s m args below meth c x N r nL cells slots Q (pc + 1) lv (.ref v :: st) t a) : J p l e R s m args below meth c x N r nL cells slots Q pc lv (st) t a := fun H locs ls hW hl => lv_aload_n F.1 F.2.1 hd hi (lv_at hl q hq) (kk H locs ls hW hl)
theorem j_aload (F : Fx p s m meth c cc nL own ret x) {i : Nat} {v : Nat} (q : Nat) (hd : decode cc pc = .ok (.aload i, 2)) (hq : lv[q]? = some (i, .ref v)) (kk : J p l e R s m args below meth c x N r nL cells slots Q (pc + 2) lv (.ref v :: st) t a) : J p l e R s m args below meth c x N r nL cells slots Q pc lv (st) t a := fun H locs ls hW hl => lv_aload F.1 F.2.1 hd (lv_at hl q hq) (kk H locs ls hW hl)
theorem j_istore_n (F : Fx p s m meth c cc nL own ret x) {k : Fin 4} {i : Nat} {v : Int32} {lv' : List (Nat × Value)} (hd : decode cc pc = .ok (.istore_n k, 1)) (hi : (k : Nat) = i) (hn : i < nL) (hl' : (i, Value.int v) :: lv.filter (fun q => !(q.1 == i) && !(q.1 + 1 == i && q.2.category == 2)) = lv') (kk : J p l e R s m args below meth c x N r nL cells slots Q (pc + 1) lv' st t a) : J p l e R s m args below meth c x N r nL cells slots Q pc lv (.int v :: st) t a := fun H locs ls hW hl => lv_istore_n F.1 F.2.1 hd hi hl hn hl' (fun ls' hl2 => kk H locs ls' hW hl2)
theorem j_istore (F : Fx p s m meth c cc nL own ret x) {k : Fin 4} {i : Nat} {v : Int32} {lv' : List (Nat × Value)} (hd : decode cc pc = .ok (.istore i, 2)) (hn : i < nL) (hl' : (i, Value.int v) :: lv.filter (fun q => !(q.1 == i) && !(q.1 + 1 == i && q.2.category == 2)) = lv') (kk : J p l e R s m args below meth c x N r nL cells slots Q (pc + 2) lv' st t a) : J p l e R s m args below meth c x N r nL cells slots Q pc lv (.int v :: st) t a := fun H locs ls hW hl => lv_istore F.1 F.2.1 hd hl hn hl' (fun ls' hl2 => kk H locs ls' hW hl2)
theorem j_astore_n (F : Fx p s m meth c cc nL own ret x) {k : Fin 4} {i : Nat} {v : Nat} {lv' : List (Nat × Value)} (hd : decode cc pc = .ok (.astore_n k, 1)) (hi : (k : Nat) = i) (hn : i < nL) (hl' : (i, Value.ref v) :: lv.filter (fun q => !(q.1 == i) && !(q.1 + 1 == i && q.2.category == 2)) = lv') (kk : J p l e R s m args below meth c x N r nL cells slots Q (pc + 1) lv' st t a) : J p l e R s m args below meth c x N r nL cells slots Q pc lv (.ref v :: st) t a := fun H locs ls hW hl => lv_astore_n F.1 F.2.1 hd hi hl hn hl' (fun ls' hl2 => kk H locs ls' hW hl2)
theorem j_astore (F : Fx p s m meth c cc nL own ret x) {k : Fin 4} {i : Nat} {v : Nat} {lv' : List (Nat × Value)} (hd : decode cc pc = .ok (.astore i, 2)) (hn : i < nL) (hl' : (i, Value.ref v) :: lv.filter (fun q => !(q.1 == i) && !(q.1 + 1 == i && q.2.category == 2)) = lv') (kk : J p l e R s m args below meth c x N r nL cells slots Q (pc + 2) lv' st t a) : J p l e R s m args below meth c x N r nL cells slots Q pc lv (.ref v :: st) t a := fun H locs ls hW hl => lv_astore F.1 F.2.1 hd hl hn hl' (fun ls' hl2 => kk H locs ls' hW hl2)
theorem j_iinc (F : Fx p s m meth c cc nL own ret x) {i : Nat} {n : Int} {v y : Int32} {lv' : List (Nat × Value)} (hd : decode cc pc = .ok (.iinc i n, 3)) (q : Nat) (hq : lv[q]? = some (i, .int y)) (hv : y + Int32.ofInt n = v) (hn : i < nL) (hl' : (i, Value.int v) :: lv.filter (fun q => !(q.1 == i) && !(q.1 + 1 == i && q.2.category == 2)) = lv') (kk : J p l e R s m args below meth c x N r nL cells slots Q (pc + 3) lv' st t a) : J p l e R s m args below meth c x N r nL cells slots Q pc lv st t a := fun H locs ls hW hl => lv_iinc F.1 F.2.1 hd hl hq hv hn hl' (fun ls' hl2 => kk H locs ls' hW hl2)
theorem j_iadd (F : Fx p s m meth c cc nL own ret x) {u v : Int32} (hd : decode cc pc = .ok (.iadd, 1)) (kk : J p l e R s m args below meth c x N r nL cells slots Q (pc + 1) lv (.int (u + v) :: st) t a) : J p l e R s m args below meth c x N r nL cells slots Q pc lv (.int v :: .int u :: st) t a := fun H locs ls hW hl => lv_iadd F.1 F.2.1 hd (kk H locs ls hW hl)
theorem j_isub (F : Fx p s m meth c cc nL own ret x) {u v : Int32} (hd : decode cc pc = .ok (.isub, 1)) (kk : J p l e R s m args below meth c x N r nL cells slots Q (pc + 1) lv (.int (u - v) :: st) t a) : J p l e R s m args below meth c x N r nL cells slots Q pc lv (.int v :: .int u :: st) t a := fun H locs ls hW hl => lv_isub F.1 F.2.1 hd (kk H locs ls hW hl)
theorem j_imul (F : Fx p s m meth c cc nL own ret x) {u v : Int32} (hd : decode cc pc = .ok (.imul, 1)) (kk : J p l e R s m args below meth c x N r nL cells slots Q (pc + 1) lv (.int (u * v) :: st) t a) : J p l e R s m args below meth c x N r nL cells slots Q pc lv (.int v :: .int u :: st) t a := fun H locs ls hW hl => lv_imul F.1 F.2.1 hd (kk H locs ls hW hl)
theorem j_iand (F : Fx p s m meth c cc nL own ret x) {u v : Int32} (hd : decode cc pc = .ok (.iand, 1)) (kk : J p l e R s m args below meth c x N r nL cells slots Q (pc + 1) lv (.int (u &&& v) :: st) t a) : J p l e R s m args below meth c x N r nL cells slots Q pc lv (.int v :: .int u :: st) t a := fun H locs ls hW hl => lv_iand F.1 F.2.1 hd (kk H locs ls hW hl)
theorem j_ior (F : Fx p s m meth c cc nL own ret x) {u v : Int32} (hd : decode cc pc = .ok (.ior, 1)) (kk : J p l e R s m args below meth c x N r nL cells slots Q (pc + 1) lv (.int (u ||| v) :: st) t a) : J p l e R s m args below meth c x N r nL cells slots Q pc lv (.int v :: .int u :: st) t a := fun H locs ls hW hl => lv_ior F.1 F.2.1 hd (kk H locs ls hW hl)
theorem j_ixor (F : Fx p s m meth c cc nL own ret x) {u v : Int32} (hd : decode cc pc = .ok (.ixor, 1)) (kk : J p l e R s m args below meth c x N r nL cells slots Q (pc + 1) lv (.int (u ^^^ v) :: st) t a) : J p l e R s m args below meth c x N r nL cells slots Q pc lv (.int v :: .int u :: st) t a := fun H locs ls hW hl => lv_ixor F.1 F.2.1 hd (kk H locs ls hW hl)
theorem j_ishl (F : Fx p s m meth c cc nL own ret x) {u v : Int32} (hd : decode cc pc = .ok (.ishl, 1)) (kk : J p l e R s m args below meth c x N r nL cells slots Q (pc + 1) lv (.int (u <<< (v &&& 31)) :: st) t a) : J p l e R s m args below meth c x N r nL cells slots Q pc lv (.int v :: .int u :: st) t a := fun H locs ls hW hl => lv_ishl F.1 F.2.1 hd (kk H locs ls hW hl)
theorem j_ishr (F : Fx p s m meth c cc nL own ret x) {u v : Int32} (hd : decode cc pc = .ok (.ishr, 1)) (kk : J p l e R s m args below meth c x N r nL cells slots Q (pc + 1) lv (.int (u >>> (v &&& 31)) :: st) t a) : J p l e R s m args below meth c x N r nL cells slots Q pc lv (.int v :: .int u :: st) t a := fun H locs ls hW hl => lv_ishr F.1 F.2.1 hd (kk H locs ls hW hl)
theorem j_ineg (F : Fx p s m meth c cc nL own ret x) {v : Int32} (hd : decode cc pc = .ok (.ineg, 1)) (kk : J p l e R s m args below meth c x N r nL cells slots Q (pc + 1) lv (.int (-v) :: st) t a) : J p l e R s m args below meth c x N r nL cells slots Q pc lv (.int v :: st) t a := fun H locs ls hW hl => lv_ineg F.1 F.2.1 hd (kk H locs ls hW hl)
theorem j_i2c (F : Fx p s m meth c cc nL own ret x) {u v : Int32} (hd : decode cc pc = .ok (.i2c, 1)) (hv : (u.toUInt32 % 65536).toInt32 = v) (kk : J p l e R s m args below meth c x N r nL cells slots Q (pc + 1) lv (.int v :: st) t a) : J p l e R s m args below meth c x N r nL cells slots Q pc lv (.int u :: st) t a := fun H locs ls hW hl => lv_i2c F.1 F.2.1 hd hv (kk H locs ls hW hl)
theorem j_idiv (F : Fx p s m meth c cc nL own ret x) {u v : Int32} (hd : decode cc pc = .ok (.idiv, 1)) (h : dvz v A = some v9) (kk : A = some v9 → J p l e R s m args below meth c x N r nL cells slots Q (pc + 1) lv (.int (u / v) :: st) t a) : J p l e R s m args below meth c x N r nL cells slots Q pc lv (.int v :: .int u :: st) t a := fun H locs ls hW hl => lv_idiv F.1 F.2.1 hd (dvz_some h).1 (kk (dvz_some h).2 H locs ls hW hl)
theorem j_irem (F : Fx p s m meth c cc nL own ret x) {u v : Int32} (hd : decode cc pc = .ok (.irem, 1)) (h : dvz v A = some v9) (kk : A = some v9 → J p l e R s m args below meth c x N r nL cells slots Q (pc + 1) lv (.int (u - u / v * v) :: st) t a) : J p l e R s m args below meth c x N r nL cells slots Q pc lv (.int v :: .int u :: st) t a := fun H locs ls hW hl => lv_irem F.1 F.2.1 hd (dvz_some h).1 (kk (dvz_some h).2 H locs ls hW hl)
theorem j_dup (F : Fx p s m meth c cc nL own ret x) {va : Value} (hd : decode cc pc = .ok (.dup, 1)) (h1 : va.category = 1) (kk : J p l e R s m args below meth c x N r nL cells slots Q (pc + 1) lv (va :: va :: st) t a) : J p l e R s m args below meth c x N r nL cells slots Q pc lv (va :: st) t a := fun H locs ls hW hl => lv_dup F.1 F.2.1 hd h1 (kk H locs ls hW hl)
theorem j_pop (F : Fx p s m meth c cc nL own ret x) {va : Value} (hd : decode cc pc = .ok (.pop, 1)) (h1 : va.category = 1) (kk : J p l e R s m args below meth c x N r nL cells slots Q (pc + 1) lv (st) t a) : J p l e R s m args below meth c x N r nL cells slots Q pc lv (va :: st) t a := fun H locs ls hW hl => lv_pop F.1 F.2.1 hd h1 (kk H locs ls hW hl)
theorem j_dup_x1 (F : Fx p s m meth c cc nL own ret x) {va vb : Value} (hd : decode cc pc = .ok (.dup_x1, 1)) (h1 : va.category = 1) (h2 : vb.category = 1) (kk : J p l e R s m args below meth c x N r nL cells slots Q (pc + 1) lv (va :: vb :: va :: st) t a) : J p l e R s m args below meth c x N r nL cells slots Q pc lv (va :: vb :: st) t a := fun H locs ls hW hl => lv_dup_x1 F.1 F.2.1 hd h1 h2 (kk H locs ls hW hl)
theorem j_dup2 (F : Fx p s m meth c cc nL own ret x) {va vb : Value} (hd : decode cc pc = .ok (.dup2, 1)) (h1 : va.category = 1) (h2 : vb.category = 1) (kk : J p l e R s m args below meth c x N r nL cells slots Q (pc + 1) lv (va :: vb :: va :: vb :: st) t a) : J p l e R s m args below meth c x N r nL cells slots Q pc lv (va :: vb :: st) t a := fun H locs ls hW hl => lv_dup2_11 F.1 F.2.1 hd h1 h2 (kk H locs ls hW hl)
theorem j_goto (F : Fx p s m meth c cc nL own ret x) {off : Int} (tgt : Nat) (hd : decode cc pc = .ok (.goto off, 3)) (ht : (pc : Int) + off = (tgt : Int)) (kk : J p l e R s m args below meth c x N r nL cells slots Q tgt lv st t a) : J p l e R s m args below meth c x N r nL cells slots Q pc lv st t a := fun H locs ls hW hl => lv_goto F.1 F.2.1 hd ht (kk H locs ls hW hl)
theorem j_if_eq (F : Fx p s m meth c cc nL own ret x) {u : Int32} {off : Int} (tgt : Nat) (hd : decode cc pc = .ok (.ifCond .eq off, 3)) (ht : (pc : Int) + off = (tgt : Int)) (h : (if u = 0 then A else B) = some v9) (kt : A = some v9 → J p l e R s m args below meth c x N r nL cells slots Q tgt lv st t a) (kf : B = some v9 → J p l e R s m args below meth c x N r nL cells slots Q (pc + 3) lv st t a) : J p l e R s m args below meth c x N r nL cells slots Q pc lv (.int u :: st) t a := fun H locs ls hW hl => lv_if_eq F.1 F.2.1 hd ht (fun q => kt ((if_pos q).symm.trans h) H locs ls hW hl) (fun q => kf ((if_neg q).symm.trans h) H locs ls hW hl)
theorem j_if_ne (F : Fx p s m meth c cc nL own ret x) {u : Int32} {off : Int} (tgt : Nat) (hd : decode cc pc = .ok (.ifCond .ne off, 3)) (ht : (pc : Int) + off = (tgt : Int)) (h : (if u = 0 then A else B) = some v9) (kf : A = some v9 → J p l e R s m args below meth c x N r nL cells slots Q (pc + 3) lv st t a) (kt : B = some v9 → J p l e R s m args below meth c x N r nL cells slots Q tgt lv st t a) : J p l e R s m args below meth c x N r nL cells slots Q pc lv (.int u :: st) t a := fun H locs ls hW hl => lv_if_ne F.1 F.2.1 hd ht (fun q => kt ((if_neg q).symm.trans h) H locs ls hW hl) (fun q => kf ((if_pos q).symm.trans h) H locs ls hW hl)
theorem j_if_lt (F : Fx p s m meth c cc nL own ret x) {u : Int32} {off : Int} (tgt : Nat) (hd : decode cc pc = .ok (.ifCond .lt off, 3)) (ht : (pc : Int) + off = (tgt : Int)) (h : (if u < 0 then A else B) = some v9) (kt : A = some v9 → J p l e R s m args below meth c x N r nL cells slots Q tgt lv st t a) (kf : B = some v9 → J p l e R s m args below meth c x N r nL cells slots Q (pc + 3) lv st t a) : J p l e R s m args below meth c x N r nL cells slots Q pc lv (.int u :: st) t a := fun H locs ls hW hl => lv_if_lt F.1 F.2.1 hd ht (fun q => kt ((if_pos q).symm.trans h) H locs ls hW hl) (fun q => kf ((if_neg q).symm.trans h) H locs ls hW hl)
theorem j_if_ge (F : Fx p s m meth c cc nL own ret x) {u : Int32} {off : Int} (tgt : Nat) (hd : decode cc pc = .ok (.ifCond .ge off, 3)) (ht : (pc : Int) + off = (tgt : Int)) (h : (if 0 ≤ u then A else B) = some v9) (kt : A = some v9 → J p l e R s m args below meth c x N r nL cells slots Q tgt lv st t a) (kf : B = some v9 → J p l e R s m args below meth c x N r nL cells slots Q (pc + 3) lv st t a) : J p l e R s m args below meth c x N r nL cells slots Q pc lv (.int u :: st) t a := fun H locs ls hW hl => lv_if_ge F.1 F.2.1 hd ht (fun q => kt ((if_pos q).symm.trans h) H locs ls hW hl) (fun q => kf ((if_neg q).symm.trans h) H locs ls hW hl)
theorem j_if_gt (F : Fx p s m meth c cc nL own ret x) {u : Int32} {off : Int} (tgt : Nat) (hd : decode cc pc = .ok (.ifCond .gt off, 3)) (ht : (pc : Int) + off = (tgt : Int)) (h : (if 0 < u then A else B) = some v9) (kt : A = some v9 → J p l e R s m args below meth c x N r nL cells slots Q tgt lv st t a) (kf : B = some v9 → J p l e R s m args below meth c x N r nL cells slots Q (pc + 3) lv st t a) : J p l e R s m args below meth c x N r nL cells slots Q pc lv (.int u :: st) t a := fun H locs ls hW hl => lv_if_gt F.1 F.2.1 hd ht (fun q => kt ((if_pos q).symm.trans h) H locs ls hW hl) (fun q => kf ((if_neg q).symm.trans h) H locs ls hW hl)
theorem j_if_le (F : Fx p s m meth c cc nL own ret x) {u : Int32} {off : Int} (tgt : Nat) (hd : decode cc pc = .ok (.ifCond .le off, 3)) (ht : (pc : Int) + off = (tgt : Int)) (h : (if u ≤ 0 then A else B) = some v9) (kt : A = some v9 → J p l e R s m args below meth c x N r nL cells slots Q tgt lv st t a) (kf : B = some v9 → J p l e R s m args below meth c x N r nL cells slots Q (pc + 3) lv st t a) : J p l e R s m args below meth c x N r nL cells slots Q pc lv (.int u :: st) t a := fun H locs ls hW hl => lv_if_le F.1 F.2.1 hd ht (fun q => kt ((if_pos q).symm.trans h) H locs ls hW hl) (fun q => kf ((if_neg q).symm.trans h) H locs ls hW hl)
theorem j_icmp_eq (F : Fx p s m meth c cc nL own ret x) {u v : Int32} {off : Int} (tgt : Nat) (hd : decode cc pc = .ok (.if_icmp .eq off, 3)) (ht : (pc : Int) + off = (tgt : Int)) (h : (if u = v then A else B) = some v9) (kt : A = some v9 → J p l e R s m args below meth c x N r nL cells slots Q tgt lv st t a) (kf : B = some v9 → J p l e R s m args below meth c x N r nL cells slots Q (pc + 3) lv st t a) : J p l e R s m args below meth c x N r nL cells slots Q pc lv (.int v :: .int u :: st) t a := fun H locs ls hW hl => lv_icmp_eq F.1 F.2.1 hd ht (fun q => kt ((if_pos q).symm.trans h) H locs ls hW hl) (fun q => kf ((if_neg q).symm.trans h) H locs ls hW hl)
theorem j_icmp_ne (F : Fx p s m meth c cc nL own ret x) {u v : Int32} {off : Int} (tgt : Nat) (hd : decode cc pc = .ok (.if_icmp .ne off, 3)) (ht : (pc : Int) + off = (tgt : Int)) (h : (if u = v then A else B) = some v9) (kf : A = some v9 → J p l e R s m args below meth c x N r nL cells slots Q (pc + 3) lv st t a) (kt : B = some v9 → J p l e R s m args below meth c x N r nL cells slots Q tgt lv st t a) : J p l e R s m args below meth c x N r nL cells slots Q pc lv (.int v :: .int u :: st) t a := fun H locs ls hW hl => lv_icmp_ne F.1 F.2.1 hd ht (fun q => kt ((if_neg q).symm.trans h) H locs ls hW hl) (fun q => kf ((if_pos q).symm.trans h) H locs ls hW hl)
theorem j_icmp_lt (F : Fx p s m meth c cc nL own ret x) {u v : Int32} {off : Int} (tgt : Nat) (hd : decode cc pc = .ok (.if_icmp .lt off, 3)) (ht : (pc : Int) + off = (tgt : Int)) (h : (if u < v then A else B) = some v9) (kt : A = some v9 → J p l e R s m args below meth c x N r nL cells slots Q tgt lv st t a) (kf : B = some v9 → J p l e R s m args below meth c x N r nL cells slots Q (pc + 3) lv st t a) : J p l e R s m args below meth c x N r nL cells slots Q pc lv (.int v :: .int u :: st) t a := fun H locs ls hW hl => lv_icmp_lt F.1 F.2.1 hd ht (fun q => kt ((if_pos q).symm.trans h) H locs ls hW hl) (fun q => kf ((if_neg q).symm.trans h) H locs ls hW hl)
theorem j_icmp_ge (F : Fx p s m meth c cc nL own ret x) {u v : Int32} {off : Int} (tgt : Nat) (hd : decode cc pc = .ok (.if_icmp .ge off, 3)) (ht : (pc : Int) + off = (tgt : Int)) (h : (if v ≤ u then A else B) = some v9) (kt : A = some v9 → J p l e R s m args below meth c x N r nL cells slots Q tgt lv st t a) (kf : B = some v9 → J p l e R s m args below meth c x N r nL cells slots Q (pc + 3) lv st t a) : J p l e R s m args below meth c x N r nL cells slots Q pc lv (.int v :: .int u :: st) t a := fun H locs ls hW hl => lv_icmp_ge F.1 F.2.1 hd ht (fun q => kt ((if_pos q).symm.trans h) H locs ls hW hl) (fun q => kf ((if_neg q).symm.trans h) H locs ls hW hl)
theorem j_icmp_gt (F : Fx p s m meth c cc nL own ret x) {u v : Int32} {off : Int} (tgt : Nat) (hd : decode cc pc = .ok (.if_icmp .gt off, 3)) (ht : (pc : Int) + off = (tgt : Int)) (h : (if v < u then A else B) = some v9) (kt : A = some v9 → J p l e R s m args below meth c x N r nL cells slots Q tgt lv st t a) (kf : B = some v9 → J p l e R s m args below meth c x N r nL cells slots Q (pc + 3) lv st t a) : J p l e R s m args below meth c x N r nL cells slots Q pc lv (.int v :: .int u :: st) t a := fun H locs ls hW hl => lv_icmp_gt F.1 F.2.1 hd ht (fun q => kt ((if_pos q).symm.trans h) H locs ls hW hl) (fun q => kf ((if_neg q).symm.trans h) H locs ls hW hl)
theorem j_icmp_le (F : Fx p s m meth c cc nL own ret x) {u v : Int32} {off : Int} (tgt : Nat) (hd : decode cc pc = .ok (.if_icmp .le off, 3)) (ht : (pc : Int) + off = (tgt : Int)) (h : (if u ≤ v then A else B) = some v9) (kt : A = some v9 → J p l e R s m args below meth c x N r nL cells slots Q tgt lv st t a) (kf : B = some v9 → J p l e R s m args below meth c x N r nL cells slots Q (pc + 3) lv st t a) : J p l e R s m args below meth c x N r nL cells slots Q pc lv (.int v :: .int u :: st) t a := fun H locs ls hW hl => lv_icmp_le F.1 F.2.1 hd ht (fun q => kt ((if_pos q).symm.trans h) H locs ls hW hl) (fun q => kf ((if_neg q).symm.trans h) H locs ls hW hl)
theorem j_getI (F : Fx p s m meth c cc nL own ret x) {k j ci n idx tt : Nat} {C : String} {T : u_T} {ty : Nat → FieldType} (C0 : clO ci C T n ty) (hk : k < N) (hl0 : lay k = (0, ci)) (hj : j < n) (hr : isR ci j = false) (q : .fieldLink own idx C (T j).2.1 (T j).2.2.1 ∈ lw_t) (ht : 64 * k + j = tt) (hd : decode cc pc = .ok (.getfield idx, 3)) (kk : J p l e R s m args below meth c x N r nL cells slots Q (pc + 3) lv (.int (t tt) :: st) t a) : J p l e R s m args below meth c x N r nL cells slots Q pc lv (.ref (cz x + k) :: st) t a := by
  intro H locs ls hW hl
  obtain ⟨c1, c2, c3, c4, c5, c6⟩ := C0
  have hts := F.2.2.2.2.2.2.1.w args
  refine va_get (D := cD x) (ci := ci) (v := .int (t tt)) (C := C) (T := T) (N := n) (a := cz x + k) F.1 F.2.1 hts c3 F.2.2.2.1 F.2.2.2.2.2.2.1.2 hW.1.2 k (fs := (List.range (nf ci)).map (fval (cz x) r t k ci)) (by rw [wl_get hk, ce_0 hl0]; rfl) c1 j hj (hts _ q) (fun y hy => by rw [c6 j hj] at hy; exact hy) (by rw [rg_get (by rw [c2]; exact hj)]; simp [fval, hr, ht]) hd (kk H locs ls hW hl)
theorem j_getR (F : Fx p s m meth c cc nL own ret x) {k j ci n idx g : Nat} {C : String} {T : u_T} {ty : Nat → FieldType} (C0 : clO ci C T n ty) (hk : k < N) (hl0 : lay k = (0, ci)) (hj : j < n) (hr : isR ci j = true) (q : .fieldLink own idx C (T j).2.1 (T j).2.2.1 ∈ lw_t) (hg : r k j = some g) (hd : decode cc pc = .ok (.getfield idx, 3)) (kk : J p l e R s m args below meth c x N r nL cells slots Q (pc + 3) lv (.ref (cz x + g) :: st) t a) : J p l e R s m args below meth c x N r nL cells slots Q pc lv (.ref (cz x + k) :: st) t a := by
  intro H locs ls hW hl
  obtain ⟨c1, c2, c3, c4, c5, c6⟩ := C0
  have hts := F.2.2.2.2.2.2.1.w args
  refine va_get (D := cD x) (ci := ci) (v := .ref (cz x + g)) (C := C) (T := T) (N := n) (a := cz x + k) F.1 F.2.1 hts c3 F.2.2.2.1 F.2.2.2.2.2.2.1.2 hW.1.2 k (fs := (List.range (nf ci)).map (fval (cz x) r t k ci)) (by rw [wl_get hk, ce_0 hl0]; rfl) c1 j hj (hts _ q) (fun y hy => by rw [c6 j hj] at hy; exact hy) (by rw [rg_get (by rw [c2]; exact hj)]; simp [fval, hr, hg, rfv, va_rf]) hd (kk H locs ls hW hl)
theorem j_getN (F : Fx p s m meth c cc nL own ret x) {k j ci n idx : Nat} {C : String} {T : u_T} {ty : Nat → FieldType} (C0 : clO ci C T n ty) (hk : k < N) (hl0 : lay k = (0, ci)) (hj : j < n) (hr : isR ci j = true) (q : .fieldLink own idx C (T j).2.1 (T j).2.2.1 ∈ lw_t) (hg : r k j = none) (hd : decode cc pc = .ok (.getfield idx, 3)) (kk : J p l e R s m args below meth c x N r nL cells slots Q (pc + 3) lv (.null :: st) t a) : J p l e R s m args below meth c x N r nL cells slots Q pc lv (.ref (cz x + k) :: st) t a := by
  intro H locs ls hW hl
  obtain ⟨c1, c2, c3, c4, c5, c6⟩ := C0
  have hts := F.2.2.2.2.2.2.1.w args
  refine va_get (D := cD x) (ci := ci) (v := .null) (C := C) (T := T) (N := n) (a := cz x + k) F.1 F.2.1 hts c3 F.2.2.2.1 F.2.2.2.2.2.2.1.2 hW.1.2 k (fs := (List.range (nf ci)).map (fval (cz x) r t k ci)) (by rw [wl_get hk, ce_0 hl0]; rfl) c1 j hj (hts _ q) (fun y hy => by rw [c6 j hj] at hy; exact hy) (by rw [rg_get (by rw [c2]; exact hj)]; simp [fval, hr, hg, rfv, va_rf]) hd (kk H locs ls hW hl)
theorem w_set {k j ci n : Nat} {v : Value} {C : String} {T : u_T} {ty : Nat → FieldType} {H H1 : Heap} {locs : List Loc} {cell : Cell} {H0 : Heap} (C0 : clO ci C T n ty) (hK : Kb x s) (hW : Wd x N r t a H0 H locs) (hk : k < N) (hl0 : lay k = (0, ci)) (hj : j < n) {sl : Nat} (hsl : sl = (cD x).2 ci j) (q2 : cell.cls = (cD x).1 ci) (q3 : cell.vm = .none) (q4 : ∀ i, i < n → cell.slots[(cD x).2 ci i]? = some (vp_V ((List.range (nf ci)).map (fval (cz x) r t k ci)) i)) (e1 : H1[cz x + k]? = some (cell.setSlot sl v)) (e2 : H1.size = H.size) (e3 : ∀ q, q ≠ cz x + k → H1[q]? = H[q]?) :
    H1.size = cz x + N ∧ va_P (cD x) vwCl ((wl x N r t a).set k (cz x + k, .inr (ci, ((List.range (nf ci)).map (fval (cz x) r t k ci)).set j v))) H1 ∧ va_S (cA x) H0 H1 (locs ++ [⟨cz x + k, sl⟩]) := by
  obtain ⟨c1, c2, c3, c4, c5, c6⟩ := C0
  have hap := va_apart (own := C) (hK.w #[]) c3 ty c4 c5 hK.2 c1
  subst hsl
  have hat : (wl x N r t a)[k]? = some (cz x + k, .inr (ci, (List.range (nf ci)).map (fval (cz x) r t k ci))) := by rw [wl_get hk, ce_0 hl0]; rfl
  refine ⟨e2.trans hW.1.1, hW.1.2.set wl_D hat ⟨_, c1, t_OB.to (V := updV (vp_V ((List.range (nf ci)).map (fval (cz x) r t k ci))) j v) ⟨_, e1, q2, q3, t_set q4 hap hj v⟩ (fun i _ => vp_updV_set (by simp [c2, hj]) v i)⟩ e3, hW.2.put e2 e3 (Nat.le_add_right _ _)⟩
theorem w_put (F : Fx p s m meth c cc nL own ret x) {k j ci n idx : Nat} {v : Value} {C : String} {T : u_T} {ty : Nat → FieldType} {H : Heap} {locs : List Loc} {ls : Array Slot} (C0 : clO ci C T n ty) (hk : k < N) (hl0 : lay k = (0, ci)) (hj : j < n) (q : .fieldLink own idx C (T j).2.1 (T j).2.2.1 ∈ lw_t) (hfin : (T j).2.2.2 = false ∨ ((T j).2.2.2 = true ∧ meth.name = "<init>" ∧ own = C)) (hty : narrow (ty j) v = v ∧ fits (ty j) v = true) (hd : decode cc pc = .ok (.putfield idx, 3)) (hW : Wd x N r t a s.heap H locs)
    (kk : ∀ (H1 : Heap) (locs1 : List Loc), H1.size = cz x + N → va_P (cD x) vwCl ((wl x N r t a).set k (cz x + k, .inr (ci, ((List.range (nf ci)).map (fval (cz x) r t k ci)).set j v))) H1 → va_S (cA x) s.heap H1 locs1 → W p l e R s m args below meth c H1 locs1 cells slots Q (F0 m (pc + 3) ls st)) : W p l e R s m args below meth c H locs cells slots Q (F0 m pc ls (v :: .ref (cz x + k) :: st)) := by
  have C1 := C0
  obtain ⟨c1, c2, c3, c4, c5, c6⟩ := C0
  obtain ⟨hx, hb, hml, hown, hret, hlk, hK, hKs⟩ := F
  have hts := hK.w args
  have hat : (wl x N r t a)[k]? = some (cz x + k, .inr (ci, (List.range (nf ci)).map (fval (cz x) r t k ci))) := by rw [wl_get hk, ce_0 hl0]; rfl
  obtain ⟨rr, h1, cell, q1, q2, q3, q4⟩ := hW.1.2 k _ hat
  have hrr : rr = (C, T, n) := Option.some.inj (h1.symm.trans c1)
  subst hrr
  obtain ⟨hS, hfc, kC, hkC, hkind⟩ := hK.2.1 ci _ c1
  obtain ⟨cf, kf, fi, f, hi, hsl⟩ := hS j hj
  have hlay := hts _ (c3 _ (u_in_lay hj))
  unfold u_lay at hlay
  have hst := (u_facts hfc hkC (u_lays hts c3 hj) hi).1
  have hi2 : s.fieldFound? C (T j).2.1 (T j).2.2.1 = some (cf, kf, fi, f) := by have h9 := hi; rw [c6 j hj] at h9; exact h9
  rcases hfin with hfin | ⟨hfin, hinit, how⟩
  · rw [if_neg (by rw [hfin]; decide)] at hlay
    have h6 := u_store hfc hkC hkind hlay hi (c4 j hj) hty.1 hty.2
    refine W.putK hx hb (f := f) ⟨hown, hts _ q, ⟨_, _, _, hi2⟩, hst⟩ (by rw [q2]; exact h6) q1 q3 (by rw [hsl]; exact k2_hasslot (q4 j hj)) rfl rfl hd fun H1 e1 e2 e3 => ?_
    obtain ⟨g1, g2, g3⟩ := w_set C1 hK hW hk hl0 hj hsl q2 q3 q4 e1 e2 e3
    exact kk H1 _ g1 g2 g3
  · rw [if_pos hfin] at hlay
    have hcf : m.cls = cf := by
      obtain ⟨_, _, c', _, _, _, -, -, hf', -, -, -, hown2, -⟩ := Cond.laysFinal_spec hlay
      have e1 : c' = cf := by have := hi.symm.trans hf'; simp at this; exact this.1.symm
      rw [c6 j hj, ← how] at hown2
      rw [← e1]; exact Option.some.inj (hown.symm.trans hown2)
    have h6 := u_fits hfc hkC hkind (Or.inr hlay) hi (c4 j hj) hty.1 hty.2
    refine W.putFinK hx hb hown (hts _ q) hi2 hst hcf hinit (by rw [q2]; exact h6) q1 q3 (by rw [hsl]; exact k2_hasslot (q4 j hj)) rfl rfl hd fun H1 e1 e2 e3 => ?_
    obtain ⟨g1, g2, g3⟩ := w_set C1 hK hW hk hl0 hj hsl q2 q3 q4 e1 e2 e3
    exact kk H1 _ g1 g2 g3
theorem j_putI (F : Fx p s m meth c cc nL own ret x) {k j ci n idx tt : Nat} {v : Int32} {C : String} {T : u_T} {ty : Nat → FieldType} (C0 : clO ci C T n ty) (hk : k < N) (hl0 : lay k = (0, ci)) (hj : j < n) (hr : isR ci j = false) (q : .fieldLink own idx C (T j).2.1 (T j).2.2.1 ∈ lw_t) (hfin : (T j).2.2.2 = false) (hty : ty j = .int) (ht : 64 * k + j = tt) (hd : decode cc pc = .ok (.putfield idx, 3)) (kk : J p l e R s m args below meth c x N r nL cells slots Q (pc + 3) lv st (va_up t tt v) a) : J p l e R s m args below meth c x N r nL cells slots Q pc lv (.int v :: .ref (cz x + k) :: st) t a := by
  intro H locs ls hW hl
  refine w_put F C0 hk hl0 hj q (Or.inl hfin) (by rw [hty]; exact ⟨rfl, rfl⟩) hd hW (fun H1 locs1 g1 g2 g3 => ?_)
  rw [wl_putI hk hl0 (by rw [C0.2.1]; exact hj) hr, ht] at g2
  exact kk H1 locs1 ls ⟨⟨g1, g2⟩, g3⟩ hl
theorem j_putIF (F : Fx p s m meth c cc nL own ret x) {k j ci n idx tt : Nat} {v : Int32} {C : String} {T : u_T} {ty : Nat → FieldType} (C0 : clO ci C T n ty) (hk : k < N) (hl0 : lay k = (0, ci)) (hj : j < n) (hr : isR ci j = false) (q : .fieldLink own idx C (T j).2.1 (T j).2.2.1 ∈ lw_t) (hfin : (T j).2.2.2 = true) (hin : meth.name = "<init>") (how : own = C) (hty : ty j = .int) (ht : 64 * k + j = tt) (hd : decode cc pc = .ok (.putfield idx, 3)) (kk : J p l e R s m args below meth c x N r nL cells slots Q (pc + 3) lv st (va_up t tt v) a) : J p l e R s m args below meth c x N r nL cells slots Q pc lv (.int v :: .ref (cz x + k) :: st) t a := by
  intro H locs ls hW hl
  refine w_put F C0 hk hl0 hj q (Or.inr ⟨hfin, hin, how⟩) (by rw [hty]; exact ⟨rfl, rfl⟩) hd hW (fun H1 locs1 g1 g2 g3 => ?_)
  rw [wl_putI hk hl0 (by rw [C0.2.1]; exact hj) hr, ht] at g2
  exact kk H1 locs1 ls ⟨⟨g1, g2⟩, g3⟩ hl
theorem zok_nar {v : Int32} (h : v = 0 ∨ v = 1) : narrow .boolean (.int v) = .int v ∧ fits .boolean (.int v) = true := by
  rcases h with rfl | rfl <;> exact ⟨rfl, rfl⟩
theorem j_putZ (F : Fx p s m meth c cc nL own ret x) {k j ci n idx tt : Nat} {v : Int32} {C : String} {T : u_T} {ty : Nat → FieldType} (C0 : clO ci C T n ty) (hk : k < N) (hl0 : lay k = (0, ci)) (hj : j < n) (hr : isR ci j = false) (q : .fieldLink own idx C (T j).2.1 (T j).2.2.1 ∈ lw_t) (hfin : (T j).2.2.2 = false) (hty : ty j = .boolean) (ht : 64 * k + j = tt) (hd : decode cc pc = .ok (.putfield idx, 3)) (h : zok v A = some v9) (kk : A = some v9 → J p l e R s m args below meth c x N r nL cells slots Q (pc + 3) lv st (va_up t tt v) a) : J p l e R s m args below meth c x N r nL cells slots Q pc lv (.int v :: .ref (cz x + k) :: st) t a := by
  intro H locs ls hW hl
  refine w_put F C0 hk hl0 hj q (Or.inl hfin) (by rw [hty]; exact zok_nar (zok_some h).1) hd hW (fun H1 locs1 g1 g2 g3 => ?_)
  rw [wl_putI hk hl0 (by rw [C0.2.1]; exact hj) hr, ht] at g2
  exact kk (zok_some h).2 H1 locs1 ls ⟨⟨g1, g2⟩, g3⟩ hl
theorem j_iald (F : Fx p s m meth c cc nL own ret x) {k n : Nat} {i : Int32} (hk : k < N) (hl0 : lay k = (1, n)) (hd : decode cc pc = .ok (.iaload, 1)) (h : bnd i n A = some v9) (kk : A = some v9 → J p l e R s m args below meth c x N r nL cells slots Q (pc + 1) lv (.int (a k i.toNatClampNeg) :: st) t a) : J p l e R s m args below meth c x N r nL cells slots Q pc lv (.int i :: .ref (cz x + k) :: st) t a := fun H locs ls hW hl =>
  va_iald F.1 F.2.1 F.2.2.2.2.2.2.1.2 hW.1.2 k 0 (by rw [wl_get hk, ce_1 hl0]; rfl) rfl (bnd_some h).1 hd (kk (bnd_some h).2 H locs ls hW hl)
theorem j_iast (F : Fx p s m meth c cc nL own ret x) {k n : Nat} {i v : Int32} (hk : k < N) (hl0 : lay k = (1, n)) (hd : decode cc pc = .ok (.iastore, 1)) (h : bnd i n A = some v9) (kk : A = some v9 → J p l e R s m args below meth c x N r nL cells slots Q (pc + 1) lv st t (va_up a k (upd (a k) i.toNatClampNeg v))) : J p l e R s m args below meth c x N r nL cells slots Q pc lv (.int v :: .int i :: .ref (cz x + k) :: st) t a := by
  intro H locs ls hW hl
  have hat : (wl x N r t a)[k]? = some (cz x + k, .inl (cI x, n, .inl (a k))) := by rw [wl_get hk, ce_1 hl0]; rfl
  have hin := (bnd_some h).1
  refine W.iast F.1 F.2.1 (hW.1.2 k _ hat) ((F.2.2.2.2.2.2.1.2.2 0 _ rfl).1 n (fun j => .int (a k j))) (fun q => by cases q) (by show ¬ (i < 0 ∨ (arrV _ _ _).slots.size ≤ _); rw [arrV_size]; exact hin) rfl rfl hd fun H1 e1 e2 e3 => ?_
  refine kk (bnd_some h).2 H1 _ ls ⟨⟨e2.trans hW.1.1, ?_⟩, hW.2.put e2 e3 (Nat.le_add_right _ _)⟩ hl
  rw [← wl_putA hk hl0]
  refine hW.1.2.set wl_D hat ?_ e3
  show H1[cz x + k]? = some (vp_cell _ _)
  rw [e1, vp_cell_i, vp_cell_i, arrV_store]
  congr 2
  funext q
  by_cases hq : q = i.toNatClampNeg
  · subst hq
    simp [updV, upd]
  · simp [updV, upd, hq]
theorem j_alen (F : Fx p s m meth c cc nL own ret x) {k n : Nat} {v : Int32} (hk : k < N) (hl0 : lay k = (1, n)) (hv : Int32.ofNat n = v) (hd : decode cc pc = .ok (.arraylength, 1)) (kk : J p l e R s m args below meth c x N r nL cells slots Q (pc + 1) lv (.int v :: st) t a) : J p l e R s m args below meth c x N r nL cells slots Q pc lv (.ref (cz x + k) :: st) t a := fun H locs ls hW hl =>
  va_alen F.1 F.2.1 F.2.2.2.2.2.2.1.2 hW.1.2 k 0 (by rw [wl_get hk, ce_1 hl0]; rfl) rfl hv hd (kk H locs ls hW hl)
theorem j_aald (F : Fx p s m meth c cc nL own ret x) {k n : Nat} {g : Nat → Nat} {i : Int32} (hk : k < N) (hl0 : lay k = (2, n)) (hg : ∀ j, j < n → r k j = some (g j)) (hd : decode cc pc = .ok (.aaload, 1)) (h : bnd i n A = some v9) (kk : i.toNatClampNeg < n → A = some v9 → J p l e R s m args below meth c x N r nL cells slots Q (pc + 1) lv (.ref (cz x + g i.toNatClampNeg) :: st) t a) : J p l e R s m args below meth c x N r nL cells slots Q pc lv (.int i :: .ref (cz x + k) :: st) t a := by
  intro H locs ls hW hl
  have hin := (bnd_some h).1
  have hlt : i.toNatClampNeg < n := Nat.not_le.mp fun q => hin (Or.inr q)
  have hat : (wl x N r t a)[k]? = some (cz x + k, .inl (cO x, n, .inr (.inr (.inr (.inr (fun j => (r k j).map (fun q => cz x + q))))))) := by rw [wl_get hk, ce_2 hl0]; rfl
  exact W.aald (ty := .array .int) (v := .ref (cz x + g i.toNatClampNeg)) F.1 F.2.1 (hW.1.2 k _ hat) ((F.2.2.2.2.2.2.1.2.2 1 _ rfl).1 n (fun j => va_rf ((r k j).map (fun q => cz x + q)))) rfl (fun q => by cases q) (by show ¬ (i < 0 ∨ (arrV _ _ _).slots.size ≤ _); rw [arrV_size]; exact hin) (by show (arrV _ _ _).slots[_]? = _; rw [arrV_read _ _ hlt]; simp [hg _ hlt, va_rf]) rfl rfl hd (kk hlt (bnd_some h).2 H locs ls hW hl)
theorem j_ireturn (F : Fx p s m meth c cc nL own ret x) {v rv : Int32} {rt : sT} {ra : sA} (hret : ret = some .int) (hd : decode cc pc = .ok (.ireturn, 1)) (h : some (v, t, a) = some (rv, rt, ra)) : J p l e R s m args below meth c x N r nL cells slots (MQ below (PostI x N r rt ra rv) args s cells slots (cA x)) pc lv [.int v] t a := by
  intro H locs ls hW hl
  cases h
  obtain ⟨hx, hb, hml, hown, hre, hlk, hK, hKs⟩ := F
  exact W.iret hx hb (hre.trans hret) (fun T hT hWm => ⟨⟨v, (), rfl, rfl, by show Wo _ _ _ _ _ T.heap; rw [hT]; exact hW.1⟩, hW.2.F hT⟩) hW.2.2.2 hd hlk
theorem j_zreturn (F : Fx p s m meth c cc nL own ret x) {v rv : Int32} {rt : sT} {ra : sA} (hret : ret = some .boolean) (hd : decode cc pc = .ok (.ireturn, 1)) (h : zok v (some (v, t, a)) = some (rv, rt, ra)) : J p l e R s m args below meth c x N r nL cells slots (MQ below (PostI x N r rt ra rv) args s cells slots (cA x)) pc lv [.int v] t a := by
  intro H locs ls hW hl
  obtain ⟨hz, h⟩ := zok_some h
  cases h
  obtain ⟨hx, hb, hml, hown, hre, hlk, hK, hKs⟩ := F
  exact W.zret hx hb (hre.trans hret) (zok_nar hz).1 (fun T hT hWm => ⟨⟨v, (), rfl, rfl, by show Wo _ _ _ _ _ T.heap; rw [hT]; exact hW.1⟩, hW.2.F hT⟩) hW.2.2.2 hd hlk
theorem j_vreturn (F : Fx p s m meth c cc nL own ret x) {rv : Int32} {rt : sT} {ra : sA} (hret : ret = none) (hd : decode cc pc = .ok (.return_, 1)) (h : some ((0 : Int32), t, a) = some (rv, rt, ra)) : J p l e R s m args below meth c x N r nL cells slots (MQ below (PostV x N r rt ra) args s cells slots (cA x)) pc lv [] t a := by
  intro H locs ls hW hl
  cases h
  obtain ⟨hx, hb, hml, hown, hre, hlk, hK, hKs⟩ := F
  exact W.vret hx hb (hre.trans hret) (fun T hT hWm => ⟨⟨(), rfl, trivial, by show Wo _ _ _ _ _ T.heap; rw [hT]; exact hW.1⟩, hW.2.F hT⟩) hW.2.2.2 hd hlk

theorem j_callVi (F : Fx p s m meth c cc nL own ret x) {y : MethodName} {bytes : ByteArray} {maxL idx k ci n : Nat} {re : Option FieldType} {rm : Room} {T : u_T} {ty : Nat → FieldType} {f9 : Rs} {K9 : Int32 → sT → sA → Option ρ} (M : mwV y bytes maxL re) (q : .methodLink own idx y ∈ lw_t) (C0 : clO ci y.cls T n ty) (hk : k < N) (hl0 : lay k = (0, ci)) (As : List Value) (hn : (parseMethodDescriptor y.desc).map (fun d => d.parameters.length) = some As.length) (hrm : rm.cells = 0 ∧ rm.slots = 0 ∧ rm.frames + 1 ≤ R.frames ∧ 8 + (maxL + 11) + rm.locals ≤ R.locals) (hf : cells ≤ R.cells ∧ slots ≤ R.slots) {st0 : List Value} (hst : st0 = As.reverse ++ .ref (cz x + k) :: st) (hro : (st.map fun v => v.category).sum ≤ 8) (hd : decode cc pc = .ok (.invokevirtual idx, 3))
    (hM : ∀ v t' a', f9 = some (v, t', a') → Met l y [.code y bytes maxL re] rm (Pre x N r t a (.ref (cz x + k) :: As)) (PostI x N r t' a' v) 0 0 (cA x)) (h : cal f9 K9 = some v9) (kk : ∀ v t' a', f9 = some (v, t', a') → K9 v t' a' = some v9 → J p l e R s m args below meth c x N r nL cells slots Q (pc + 3) lv (.int v :: st) t' a') : J p l e R s m args below meth c x N r nL cells slots Q pc lv st0 t a := by
  intro H locs ls hW hl
  obtain ⟨v, t', a', hf9, hK9⟩ := cal_some h
  obtain ⟨hx, hb, hml, hown, hre, hlk, hK, hKs⟩ := F
  have hts := hK.w args
  obtain ⟨m1, m2, m3, m4, m5, m6⟩ := M
  refine va_calli (va_runV (C := y.cls) (As := As) (rest := st) (Ts := lw_t) ⟨hx, hb, hml, hown, hts⟩ (hM _ _ _ hf9) ⟨⟨hrm.1, hrm.2.1, hrm.2.2.1, hrm.2.2.2, fun w hw a1 U hU => by rw [List.mem_singleton] at hw; subst hw; exact gw_move (List.mem_filter.mp m1).2 hU (hts _ m1), List.mem_singleton.mpr rfl, hts _ m1, hts _ m4, ⟨m5, m6⟩, ar_of hn, hts _ q⟩, hts _ m2, hts _ m3⟩ ⟨Pre.blind, va_recv hK.2 hW.1.2 C0.1 (q0 := k) (fs := (List.range (nf ci)).map (fval (cz x) r t k ci)) (by rw [wl_get hk, ce_0 hl0]; rfl), Pre.at hK hKs hW⟩ rfl rfl hl.1 hst (lv_room hro) hd ⟨hf.1, hf.2⟩) hW.2 (fun _ _ h => h) (fun _ h => h) (fun r1 u1 T1 H1 locs1 hT hvm hp hB hz hk1 hS1 => by subst hp; exact kk _ _ _ hf9 hK9 H1 locs1 ls ⟨by rw [hT] at hB; exact hB, hS1⟩ hl)
theorem j_callSi (F : Fx p s m meth c cc nL own ret x) {y : MethodName} {bytes : ByteArray} {maxL idx : Nat} {re : Option FieldType} {rm : Room} {f9 : Rs} {K9 : Int32 → sT → sA → Option ρ} (M : mwS y bytes maxL re) (q : .methodLink own idx y ∈ lw_t) (As : List Value) (hn : (parseMethodDescriptor y.desc).map (fun d => d.parameters.length) = some As.length) (hrm : rm.cells = 0 ∧ rm.slots = 0 ∧ rm.frames + 1 ≤ R.frames ∧ 8 + (maxL + 11) + rm.locals ≤ R.locals) (hf : cells ≤ R.cells ∧ slots ≤ R.slots) {st0 : List Value} (hst : st0 = As.reverse ++ st) (hro : (st.map fun v => v.category).sum ≤ 8) (hd : decode cc pc = .ok (.invokestatic idx, 3))
    (hM : ∀ v t' a', f9 = some (v, t', a') → Met l y [.code y bytes maxL re] rm (Pre x N r t a As) (PostI x N r t' a' v) 0 0 (cA x)) (h : cal f9 K9 = some v9) (kk : ∀ v t' a', f9 = some (v, t', a') → K9 v t' a' = some v9 → J p l e R s m args below meth c x N r nL cells slots Q (pc + 3) lv (.int v :: st) t' a') : J p l e R s m args below meth c x N r nL cells slots Q pc lv st0 t a := by
  intro H locs ls hW hl
  obtain ⟨v, t', a', hf9, hK9⟩ := cal_some h
  obtain ⟨hx, hb, hml, hown, hre, hlk, hK, hKs⟩ := F
  have hts := hK.w args
  obtain ⟨m1, m2, m4, m5, m6⟩ := M
  refine va_calli (va_runS (As := As) (rest := st) (Ts := lw_t) ⟨hx, hb, hml, hown, hts⟩ (hM _ _ _ hf9) ⟨⟨hrm.1, hrm.2.1, hrm.2.2.1, hrm.2.2.2, fun w hw a1 U hU => by rw [List.mem_singleton] at hw; subst hw; exact gw_move (List.mem_filter.mp m1).2 hU (hts _ m1), List.mem_singleton.mpr rfl, hts _ m1, hts _ m4, ⟨m5, m6⟩, ar_of hn, hts _ q⟩, hts _ m2⟩ ⟨Pre.blind, Pre.at hK hKs hW⟩ rfl rfl hl.1 hst (lv_room hro) hd ⟨hf.1, hf.2⟩) hW.2 (fun _ _ h => h) (fun _ h => h) (fun r1 u1 T1 H1 locs1 hT hvm hp hB hz hk1 hS1 => by subst hp; exact kk _ _ _ hf9 hK9 H1 locs1 ls ⟨by rw [hT] at hB; exact hB, hS1⟩ hl)
theorem j_callNi (F : Fx p s m meth c cc nL own ret x) {y : MethodName} {bytes : ByteArray} {maxL idx : Nat} {host : String} {re : Option FieldType} {rm : Room} {f9 : Rs} {K9 : Int32 → sT → sA → Option ρ} (M : mwS y bytes maxL re) (q : .methodLinkNest own idx y host ∈ lw_t) (As : List Value) (hn : (parseMethodDescriptor y.desc).map (fun d => d.parameters.length) = some As.length) (hrm : rm.cells = 0 ∧ rm.slots = 0 ∧ rm.frames + 1 ≤ R.frames ∧ 8 + (maxL + 11) + rm.locals ≤ R.locals) (hf : cells ≤ R.cells ∧ slots ≤ R.slots) {st0 : List Value} (hst : st0 = As.reverse ++ st) (hro : (st.map fun v => v.category).sum ≤ 8) (hd : decode cc pc = .ok (.invokestatic idx, 3))
    (hM : ∀ v t' a', f9 = some (v, t', a') → Met l y [.code y bytes maxL re] rm (Pre x N r t a As) (PostI x N r t' a' v) 0 0 (cA x)) (h : cal f9 K9 = some v9) (kk : ∀ v t' a', f9 = some (v, t', a') → K9 v t' a' = some v9 → J p l e R s m args below meth c x N r nL cells slots Q (pc + 3) lv (.int v :: st) t' a') : J p l e R s m args below meth c x N r nL cells slots Q pc lv st0 t a := by
  intro H locs ls hW hl
  obtain ⟨v, t', a', hf9, hK9⟩ := cal_some h
  obtain ⟨hx, hb, hml, hown, hre, hlk, hK, hKs⟩ := F
  have hts := hK.w args
  obtain ⟨m1, m2, m4, m5, m6⟩ := M
  refine va_calli (va_runSN (As := As) (rest := st) (Ts := lw_t) (host := host) ⟨hx, hb, hml, hown, hts⟩ (hM _ _ _ hf9) ⟨⟨⟨hrm.1, hrm.2.1, hrm.2.2.1, hrm.2.2.2, fun w hw a1 U hU => by rw [List.mem_singleton] at hw; subst hw; exact gw_move (List.mem_filter.mp m1).2 hU (hts _ m1), List.mem_singleton.mpr rfl⟩, hts _ m1, hts _ m4, ⟨m5, m6⟩, ar_of hn, hts _ q⟩, hts _ m2, trivial⟩ ⟨Pre.blind, Pre.at hK hKs hW⟩ rfl rfl hl.1 hst (lv_room hro) hd ⟨hf.1, hf.2⟩) hW.2 (fun _ _ h => h) (fun _ h => h) (fun r1 u1 T1 H1 locs1 hT hvm hp hB hz hk1 hS1 => by subst hp; exact kk _ _ _ hf9 hK9 H1 locs1 ls ⟨by rw [hT] at hB; exact hB, hS1⟩ hl)
theorem j_callVv (F : Fx p s m meth c cc nL own ret x) {y : MethodName} {bytes : ByteArray} {maxL idx k ci n : Nat} {re : Option FieldType} {rm : Room} {T : u_T} {ty : Nat → FieldType} {f9 : Rs} {K9 : Int32 → sT → sA → Option ρ} (M : mwV y bytes maxL re) (q : .methodLink own idx y ∈ lw_t) (C0 : clO ci y.cls T n ty) (hk : k < N) (hl0 : lay k = (0, ci)) (As : List Value) (hn : (parseMethodDescriptor y.desc).map (fun d => d.parameters.length) = some As.length) (hrm : rm.cells = 0 ∧ rm.slots = 0 ∧ rm.frames + 1 ≤ R.frames ∧ 8 + (maxL + 11) + rm.locals ≤ R.locals) (hf : cells ≤ R.cells ∧ slots ≤ R.slots) {st0 : List Value} (hst : st0 = As.reverse ++ .ref (cz x + k) :: st) (hro : (st.map fun v => v.category).sum ≤ 8) (hd : decode cc pc = .ok (.invokevirtual idx, 3))
    (hM : ∀ v t' a', f9 = some (v, t', a') → Met l y [.code y bytes maxL re] rm (Pre x N r t a (.ref (cz x + k) :: As)) (PostV x N r t' a') 0 0 (cA x)) (h : cal f9 K9 = some v9) (kk : ∀ v t' a', f9 = some (v, t', a') → K9 v t' a' = some v9 → J p l e R s m args below meth c x N r nL cells slots Q (pc + 3) lv (st) t' a') : J p l e R s m args below meth c x N r nL cells slots Q pc lv st0 t a := by
  intro H locs ls hW hl
  obtain ⟨v, t', a', hf9, hK9⟩ := cal_some h
  obtain ⟨hx, hb, hml, hown, hre, hlk, hK, hKs⟩ := F
  have hts := hK.w args
  obtain ⟨m1, m2, m3, m4, m5, m6⟩ := M
  refine va_callv (va_runV (C := y.cls) (As := As) (rest := st) (Ts := lw_t) ⟨hx, hb, hml, hown, hts⟩ (hM _ _ _ hf9) ⟨⟨hrm.1, hrm.2.1, hrm.2.2.1, hrm.2.2.2, fun w hw a1 U hU => by rw [List.mem_singleton] at hw; subst hw; exact gw_move (List.mem_filter.mp m1).2 hU (hts _ m1), List.mem_singleton.mpr rfl, hts _ m1, hts _ m4, ⟨m5, m6⟩, ar_of hn, hts _ q⟩, hts _ m2, hts _ m3⟩ ⟨Pre.blind, va_recv hK.2 hW.1.2 C0.1 (q0 := k) (fs := (List.range (nf ci)).map (fval (cz x) r t k ci)) (by rw [wl_get hk, ce_0 hl0]; rfl), Pre.at hK hKs hW⟩ rfl rfl hl.1 hst (lv_room hro) hd ⟨hf.1, hf.2⟩) hW.2 (fun _ _ h => h) (fun _ h => h) (fun u1 T1 H1 locs1 hT hvm hp hB hz hk1 hS1 => kk _ _ _ hf9 hK9 H1 locs1 ls ⟨by rw [hT] at hB; exact hB, hS1⟩ hl)
theorem j_callSv (F : Fx p s m meth c cc nL own ret x) {y : MethodName} {bytes : ByteArray} {maxL idx : Nat} {re : Option FieldType} {rm : Room} {f9 : Rs} {K9 : Int32 → sT → sA → Option ρ} (M : mwS y bytes maxL re) (q : .methodLink own idx y ∈ lw_t) (As : List Value) (hn : (parseMethodDescriptor y.desc).map (fun d => d.parameters.length) = some As.length) (hrm : rm.cells = 0 ∧ rm.slots = 0 ∧ rm.frames + 1 ≤ R.frames ∧ 8 + (maxL + 11) + rm.locals ≤ R.locals) (hf : cells ≤ R.cells ∧ slots ≤ R.slots) {st0 : List Value} (hst : st0 = As.reverse ++ st) (hro : (st.map fun v => v.category).sum ≤ 8) (hd : decode cc pc = .ok (.invokestatic idx, 3))
    (hM : ∀ v t' a', f9 = some (v, t', a') → Met l y [.code y bytes maxL re] rm (Pre x N r t a As) (PostV x N r t' a') 0 0 (cA x)) (h : cal f9 K9 = some v9) (kk : ∀ v t' a', f9 = some (v, t', a') → K9 v t' a' = some v9 → J p l e R s m args below meth c x N r nL cells slots Q (pc + 3) lv (st) t' a') : J p l e R s m args below meth c x N r nL cells slots Q pc lv st0 t a := by
  intro H locs ls hW hl
  obtain ⟨v, t', a', hf9, hK9⟩ := cal_some h
  obtain ⟨hx, hb, hml, hown, hre, hlk, hK, hKs⟩ := F
  have hts := hK.w args
  obtain ⟨m1, m2, m4, m5, m6⟩ := M
  refine va_callv (va_runS (As := As) (rest := st) (Ts := lw_t) ⟨hx, hb, hml, hown, hts⟩ (hM _ _ _ hf9) ⟨⟨hrm.1, hrm.2.1, hrm.2.2.1, hrm.2.2.2, fun w hw a1 U hU => by rw [List.mem_singleton] at hw; subst hw; exact gw_move (List.mem_filter.mp m1).2 hU (hts _ m1), List.mem_singleton.mpr rfl, hts _ m1, hts _ m4, ⟨m5, m6⟩, ar_of hn, hts _ q⟩, hts _ m2⟩ ⟨Pre.blind, Pre.at hK hKs hW⟩ rfl rfl hl.1 hst (lv_room hro) hd ⟨hf.1, hf.2⟩) hW.2 (fun _ _ h => h) (fun _ h => h) (fun u1 T1 H1 locs1 hT hvm hp hB hz hk1 hS1 => kk _ _ _ hf9 hK9 H1 locs1 ls ⟨by rw [hT] at hB; exact hB, hS1⟩ hl)
theorem j_callNv (F : Fx p s m meth c cc nL own ret x) {y : MethodName} {bytes : ByteArray} {maxL idx : Nat} {host : String} {re : Option FieldType} {rm : Room} {f9 : Rs} {K9 : Int32 → sT → sA → Option ρ} (M : mwS y bytes maxL re) (q : .methodLinkNest own idx y host ∈ lw_t) (As : List Value) (hn : (parseMethodDescriptor y.desc).map (fun d => d.parameters.length) = some As.length) (hrm : rm.cells = 0 ∧ rm.slots = 0 ∧ rm.frames + 1 ≤ R.frames ∧ 8 + (maxL + 11) + rm.locals ≤ R.locals) (hf : cells ≤ R.cells ∧ slots ≤ R.slots) {st0 : List Value} (hst : st0 = As.reverse ++ st) (hro : (st.map fun v => v.category).sum ≤ 8) (hd : decode cc pc = .ok (.invokestatic idx, 3))
    (hM : ∀ v t' a', f9 = some (v, t', a') → Met l y [.code y bytes maxL re] rm (Pre x N r t a As) (PostV x N r t' a') 0 0 (cA x)) (h : cal f9 K9 = some v9) (kk : ∀ v t' a', f9 = some (v, t', a') → K9 v t' a' = some v9 → J p l e R s m args below meth c x N r nL cells slots Q (pc + 3) lv (st) t' a') : J p l e R s m args below meth c x N r nL cells slots Q pc lv st0 t a := by
  intro H locs ls hW hl
  obtain ⟨v, t', a', hf9, hK9⟩ := cal_some h
  obtain ⟨hx, hb, hml, hown, hre, hlk, hK, hKs⟩ := F
  have hts := hK.w args
  obtain ⟨m1, m2, m4, m5, m6⟩ := M
  refine va_callv (va_runSN (As := As) (rest := st) (Ts := lw_t) (host := host) ⟨hx, hb, hml, hown, hts⟩ (hM _ _ _ hf9) ⟨⟨⟨hrm.1, hrm.2.1, hrm.2.2.1, hrm.2.2.2, fun w hw a1 U hU => by rw [List.mem_singleton] at hw; subst hw; exact gw_move (List.mem_filter.mp m1).2 hU (hts _ m1), List.mem_singleton.mpr rfl⟩, hts _ m1, hts _ m4, ⟨m5, m6⟩, ar_of hn, hts _ q⟩, hts _ m2, trivial⟩ ⟨Pre.blind, Pre.at hK hKs hW⟩ rfl rfl hl.1 hst (lv_room hro) hd ⟨hf.1, hf.2⟩) hW.2 (fun _ _ h => h) (fun _ h => h) (fun u1 T1 H1 locs1 hT hvm hp hB hz hk1 hS1 => kk _ _ _ hf9 hK9 H1 locs1 ls ⟨by rw [hT] at hB; exact hB, hS1⟩ hl)
theorem j_entry {y : MethodName} {maxL : Nat} {rm : Room} {av : List Value} {Qc : Array Value → State → Outcome → State → Prop} {mc ms : Nat} (hy : plainName y.cls = true) (hlv : lv_args 0 av = lv) (hlen : (lg_sl av).length ≤ maxL)
    (body : ∀ p e s m below meth c, Fx p s m meth c cc maxL y.cls ret x → (s.heap.size = cz x + N) → (meth.name = y.name) → J p l e rm s m av.toArray below meth c x N r maxL 0 0 (MQ below Qc av.toArray s mc ms (cA x)) 0 lv [] t a) : Met l y [.code y cc maxL ret] rm (Pre x N r t a av) Qc mc ms (cA x) := by
  refine Met.ofW (cc := cc) (maxL := maxL) (ret := ret) hy rfl ?_
  intro p e s m args below meth c s₁ B hml hv
  obtain ⟨rfl, hK, hKs, hW⟩ := hv
  have hl := lv_entry av (n := maxL) hlen
  rw [lg_entry_eq]
  generalize (lg_sl av ++ List.replicate (maxL - (lg_sl av).length) Slot.unset).toArray = ls at hl ⊢
  rw [hlv] at hl
  exact body p e s m below meth c ⟨B.exec, B.bytes, hml, findClass_of_methodNamed B.named, B.returns, B.notSynchronized, hK, hKs⟩ hW.1 (name_of_methodNamed B.named B.method).1 s.heap [] ls ⟨hW, va_S.rf⟩ hl
end JR
