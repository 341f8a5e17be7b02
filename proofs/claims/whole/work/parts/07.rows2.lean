/-! further rows: locals picked, switches, Math, arraycopy -/
theorem qmax_c : Cond.code Lib.Math.max.name Lib.Math.max.code 2 (some .int) ∈ lw_t := tb2 (List.mem_of_getElem? (i := 118) rfl) rfl
theorem qmax_s : Cond.static Lib.Math.max.name ∈ lw_t := tb2 (List.mem_of_getElem? (i := 117) rfl) rfl
theorem qmin_c : Cond.code Lib.Math.min.name Lib.Math.min.code 2 (some .int) ∈ lw_t := tb2 (List.mem_of_getElem? (i := 121) rfl) rfl
theorem qmin_s : Cond.static Lib.Math.min.name ∈ lw_t := tb2 (List.mem_of_getElem? (i := 120) rfl) rfl
theorem qmath_i : Cond.initialized "java/lang/Math" ∈ lw_t := tb1 (List.mem_of_getElem? (i := 13) rfl) rfl
theorem qac_n : Cond.native arraycopyName ∈ lw_t := tb2 (List.mem_of_getElem? (i := 166) rfl) rfl
theorem qac_s : Cond.static arraycopyName ∈ lw_t := tb2 (List.mem_of_getElem? (i := 165) rfl) rfl
theorem qac_i : Cond.initialized "java/lang/System" ∈ lw_t := tb1 (List.mem_of_getElem? (i := 15) rfl) rfl
theorem ifE {c : Prop} [Decidable c] {ρ : Type} {A B : Option ρ} {v9 : ρ} {G : Prop} (h : (if c then A else B) = some v9) (kt : c → A = some v9 → G) (kf : ¬ c → B = some v9 → G) : G := by
  by_cases hc : c
  · exact kt hc ((if_pos hc).symm.trans h)
  · exact kf hc ((if_neg hc).symm.trans h)
section JR2
variable {p : Program} {l : Launch} {e : Env} {R : Room} {s : State} {m : MethodId} {args : Array Value} {below : List Frame} {meth : Method} {c : Code} {x : Cx} {N : Nat} {r : sR} {nL cells slots : Nat} {Q : State → Prop} {own : String} {cc : ByteArray} {ret : Option FieldType} {pc : Nat} {lv : List (Nat × Value)} {st : List Value} {t : sT} {a : sA} {ρ : Type} {A B : Option ρ} {v9 : ρ}
theorem j_lv (ks : List Nat) {lv' : List (Nat × Value)} (h : lv_pick lv ks = lv') (kk : J p l e R s m args below meth c x N r nL cells slots Q pc lv' st t a) : J p l e R s m args below meth c x N r nL cells slots Q pc lv st t a := fun H locs ls hW hl => kk H locs ls hW (lv_sub hl ks h)
theorem j_tsI (F : Fx p s m meth c cc nL own ret x) {u k : Int32} (tgt : Nat) {dflt lo hi off : Int} {offs : Array Int} {len : Nat} (hd : decode cc pc = .ok (.tableswitch dflt lo hi offs, len)) (hu : u = k) (h1 : ¬ k.toInt < lo) (h2 : ¬ hi < k.toInt) (ho : offs[(k.toInt - lo).toNat]? = some off) (ht : (pc : Int) + off = (tgt : Int)) (kk : J p l e R s m args below meth c x N r nL cells slots Q tgt lv st t a) : J p l e R s m args below meth c x N r nL cells slots Q pc lv (.int u :: st) t a := by
  subst hu
  exact fun H locs ls hW hl => lv_tableIn F.1 F.2.1 hd h1 h2 ho ht (kk H locs ls hW hl)
theorem j_tsD (F : Fx p s m meth c cc nL own ret x) {u : Int32} (tgt : Nat) {dflt lo hi : Int} {offs : Array Int} {len : Nat} (hd : decode cc pc = .ok (.tableswitch dflt lo hi offs, len)) (hsz : hi = lo + offs.size - 1) (ho : ∀ i : Nat, i < offs.size → offs[i]? = some dflt ∨ u.toInt ≠ lo + i) (ht : (pc : Int) + dflt = (tgt : Int)) (kk : J p l e R s m args below meth c x N r nL cells slots Q tgt lv st t a) : J p l e R s m args below meth c x N r nL cells slots Q pc lv (.int u :: st) t a := by
  intro H locs ls hW hl
  by_cases h : u.toInt < lo ∨ hi < u.toInt
  · exact lv_tableOut F.1 F.2.1 hd h ht (kk H locs ls hW hl)
  · have hi1 : (u.toInt - lo).toNat < offs.size := by omega
    rcases ho _ hi1 with h9 | h9
    · exact lv_tableIn F.1 F.2.1 hd (by omega) (by omega) h9 ht (kk H locs ls hW hl)
    · exact absurd (by omega) h9
theorem j_lsw (F : Fx p s m meth c cc nL own ret x) {u : Int32} (tgt : Nat) {dflt off : Int} {ps : Array (Int × Int)} {len : Nat} (hd : decode cc pc = .ok (.lookupswitch dflt ps, len)) (hp : (ps.toList.zip (ps.toList.drop 1)).all (fun (a, next) => a.1 < next.1) = true) (ho : Op.lookupswitch.offset ps.toList dflt u.toInt = off) (ht : (pc : Int) + off = (tgt : Int)) (kk : J p l e R s m args below meth c x N r nL cells slots Q tgt lv st t a) : J p l e R s m args below meth c x N r nL cells slots Q pc lv (.int u :: st) t a := fun H locs ls hW hl => lv_lookup F.1 F.2.1 hd hp ho ht (kk H locs ls hW hl)
theorem j_max (F : Fx p s m meth c cc nL own ret x) {u v : Int32} {idx : Nat} (q : .methodLink own idx Lib.Math.max.name ∈ lw_t) (hf : 1 ≤ R.frames) (hlo : (st.map fun v => v.category).sum + 13 ≤ R.locals) (hc : cells ≤ R.cells) (hs : slots ≤ R.slots) (hd : decode cc pc = .ok (.invokestatic idx, 3)) (kk : J p l e R s m args below meth c x N r nL cells slots Q (pc + 3) lv (.int (if u < v then v else u) :: st) t a) : J p l e R s m args below meth c x N r nL cells slots Q pc lv (.int v :: .int u :: st) t a := fun H locs ls hW hl =>
  va_mmax F.1 F.2.1 (F.2.2.1.trans hl.1.symm) F.2.2.2.1 (F.2.2.2.2.2.2.1.w args _ q) (F.2.2.2.2.2.2.1.w args _ qmax_s) (F.2.2.2.2.2.2.1.w args _ qmath_i) (F.2.2.2.2.2.2.1.w args _ qmax_c) hf hlo hc hs hd (kk H locs ls hW hl)
theorem j_min (F : Fx p s m meth c cc nL own ret x) {u v : Int32} {idx : Nat} (q : .methodLink own idx Lib.Math.min.name ∈ lw_t) (hf : 1 ≤ R.frames) (hlo : (st.map fun v => v.category).sum + 13 ≤ R.locals) (hc : cells ≤ R.cells) (hs : slots ≤ R.slots) (hd : decode cc pc = .ok (.invokestatic idx, 3)) (kk : J p l e R s m args below meth c x N r nL cells slots Q (pc + 3) lv (.int (if v < u then v else u) :: st) t a) : J p l e R s m args below meth c x N r nL cells slots Q pc lv (.int v :: .int u :: st) t a := fun H locs ls hW hl =>
  va_mmin F.1 F.2.1 (F.2.2.1.trans hl.1.symm) F.2.2.2.1 (F.2.2.2.2.2.2.1.w args _ q) (F.2.2.2.2.2.2.1.w args _ qmin_s) (F.2.2.2.2.2.2.1.w args _ qmath_i) (F.2.2.2.2.2.2.1.w args _ qmin_c) hf hlo hc hs hd (kk H locs ls hW hl)
theorem W_size {H : Heap} {locs : List Loc} {g : JFrame} (h : H.size = s.heap.size → W p l e R s m args below meth c H locs 0 slots Q g) : W p l e R s m args below meth c H locs 0 slots Q g := by
  intro T hT X
  have h1 : s.heap.size ≤ T.heap.size := X.same.2.1
  have h2 : T.heap.size ≤ s.heap.size + 0 := X.same.2.2.1
  exact h (by rw [← hT]; omega) T hT X
/-- System.arraycopy of n ints from the rows' beginnings, in a method that makes nothing -/
theorem j_copy (F : Fx p s m meth c cc nL own ret x) (hsz : s.heap.size = cz x + N) {k0 k1 n0 n1 idx : Nat} {n : Int32} (hk0 : k0 < N) (hl0 : lay k0 = (1, n0)) (hk1 : k1 < N) (hl1 : lay k1 = (1, n1)) (q : .methodLink own idx arraycopyName ∈ lw_t) (h3 : ¬ n < 0) (h4 : n.toNatClampNeg ≤ n0) (h5 : n.toNatClampNeg ≤ n1) (hf : 1 ≤ R.frames) (hlo : (st.map fun v => v.category).sum + (nativeFrameWords "java/lang/System" "arraycopy" 5 + 11) ≤ R.locals) (hd : decode cc pc = .ok (.invokestatic idx, 3))
    (kk : J p l e R s m args below meth c x N r nL 0 slots Q (pc + 3) lv st t (va_up a k1 (va_cpy (a k0) (a k1) 0 0 n.toNatClampNeg))) : J p l e R s m args below meth c x N r nL 0 slots Q pc lv (.int n :: .int 0 :: .ref (cz x + k1) :: .int 0 :: .ref (cz x + k0) :: st) t a := by
  intro H locs ls hW hl
  have hw := F.2.2.2.2.2.2.1.w args
  refine va_copyi (D := cD x) (sp := 0) (dp := 0) (n := n) (ty := .int) F.1 F.2.1 (F.2.2.1.trans hl.1.symm) F.2.2.2.1 (hw _ q) (hw _ qac_n) (hw _ qac_s) (hw _ qac_i) F.2.2.2.2.2.2.1.2 hW.1.2 wl_D hW.2 k0 k1 0 0 (by rw [wl_get hk0, ce_1 hl0]; rfl) (by rw [wl_get hk1, ce_1 hl1]; rfl) rfl rfl rfl (by decide) (by decide) h3 (by show 0 + _ ≤ _; omega) (by show 0 + _ ≤ _; omega) (fun i _ => rfl) hf hlo hd (fun H1 locs1 hP hD hS => ?_)
  rw [wl_putA hk1 hl1] at hP
  exact W_size (fun hs9 => kk H1 locs1 ls ⟨⟨hs9.trans hsz, hP⟩, hS⟩ hl)
end JR2
