/-! constructors -/
def isMd (k : Nat) : Prop := k = 50 ∨ k = 653 ∨ k = 1256
theorem Md_l {k : Nat} (h : isMd k) : lay k = (0, 7) := by rcases h with rfl | rfl | rfl <;> rfl
theorem Md_l1 {k : Nat} (h : isMd k) : lay (k + 1) = (1, 64) := by rcases h with rfl | rfl | rfl <;> rfl
theorem Md_l2 {k : Nat} (h : isMd k) : lay (k + 2) = (1, 6) := by rcases h with rfl | rfl | rfl <;> rfl
theorem Md_l3 {k : Nat} (h : isMd k) : lay (k + 3) = (1, 6) := by rcases h with rfl | rfl | rfl <;> rfl
theorem Md_l4 {k : Nat} (h : isMd k) : lay (k + 4) = (1, 8) := by rcases h with rfl | rfl | rfl <;> rfl
theorem Md_l5 {k : Nat} (h : isMd k) : lay (k + 5) = (1, 8) := by rcases h with rfl | rfl | rfl <;> rfl
theorem Md_l6 {k : Nat} (h : isMd k) : lay (k + 6) = (1, 8) := by rcases h with rfl | rfl | rfl <;> rfl
theorem Md_l7 {k : Nat} (h : isMd k) : lay (k + 7) = (1, 8) := by rcases h with rfl | rfl | rfl <;> rfl
theorem Md_l8 {k : Nat} (h : isMd k) : lay (k + 8) = (1, 4) := by rcases h with rfl | rfl | rfl <;> rfl
theorem Md_l9 {k : Nat} (h : isMd k) : lay (k + 9) = (1, 12) := by rcases h with rfl | rfl | rfl <;> rfl
theorem Md_l10 {k : Nat} (h : isMd k) : lay (k + 10) = (1, 12) := by rcases h with rfl | rfl | rfl <;> rfl
theorem Md_l11 {k : Nat} (h : isMd k) : lay (k + 11) = (1, 12) := by rcases h with rfl | rfl | rfl <;> rfl
theorem Md_l12 {k : Nat} (h : isMd k) : lay (k + 12) = (1, 585) := by rcases h with rfl | rfl | rfl <;> rfl
theorem Md_l13 {k : Nat} (h : isMd k) : lay (k + 13) = (2, 585) := by rcases h with rfl | rfl | rfl <;> rfl
theorem Md_l599 {k : Nat} (h : isMd k) : lay (k + 599) = (1, 585) := by rcases h with rfl | rfl | rfl <;> rfl
theorem Md_l600 {k : Nat} (h : isMd k) : lay (k + 600) = (1, 585) := by rcases h with rfl | rfl | rfl <;> rfl
theorem Md_l601 {k : Nat} (h : isMd k) : lay (k + 601) = (1, 4) := by rcases h with rfl | rfl | rfl <;> rfl
theorem Md_l602 {k : Nat} (h : isMd k) : lay (k + 602) = (1, 3) := by rcases h with rfl | rfl | rfl <;> rfl
theorem Md_r0 {k : Nat} {u v : Option Nat} (h : isMd k) : rho u v k 0 = some (k + 1) := by rcases h with rfl | rfl | rfl <;> rfl
theorem Md_r2 {k : Nat} {u v : Option Nat} (h : isMd k) : rho u v k 2 = some (k + 2) := by rcases h with rfl | rfl | rfl <;> rfl
theorem Md_r4 {k : Nat} {u v : Option Nat} (h : isMd k) : rho u v k 4 = some (k + 3) := by rcases h with rfl | rfl | rfl <;> rfl
theorem Md_r6 {k : Nat} {u v : Option Nat} (h : isMd k) : rho u v k 6 = some (k + 4) := by rcases h with rfl | rfl | rfl <;> rfl
theorem Md_r8 {k : Nat} {u v : Option Nat} (h : isMd k) : rho u v k 8 = some (k + 5) := by rcases h with rfl | rfl | rfl <;> rfl
theorem Md_r9 {k : Nat} {u v : Option Nat} (h : isMd k) : rho u v k 9 = some (k + 6) := by rcases h with rfl | rfl | rfl <;> rfl
theorem Md_r10 {k : Nat} {u v : Option Nat} (h : isMd k) : rho u v k 10 = some (k + 7) := by rcases h with rfl | rfl | rfl <;> rfl
theorem Md_r12 {k : Nat} {u v : Option Nat} (h : isMd k) : rho u v k 12 = some (k + 8) := by rcases h with rfl | rfl | rfl <;> rfl
theorem Md_r16 {k : Nat} {u v : Option Nat} (h : isMd k) : rho u v k 16 = some (k + 9) := by rcases h with rfl | rfl | rfl <;> rfl
theorem Md_r17 {k : Nat} {u v : Option Nat} (h : isMd k) : rho u v k 17 = some (k + 10) := by rcases h with rfl | rfl | rfl <;> rfl
theorem Md_r18 {k : Nat} {u v : Option Nat} (h : isMd k) : rho u v k 18 = some (k + 11) := by rcases h with rfl | rfl | rfl <;> rfl
theorem Md_r23 {k : Nat} {u v : Option Nat} (h : isMd k) : rho u v k 23 = some (k + 12) := by rcases h with rfl | rfl | rfl <;> rfl
theorem Md_r24 {k : Nat} {u v : Option Nat} (h : isMd k) : rho u v k 24 = some (k + 13) := by rcases h with rfl | rfl | rfl <;> rfl
theorem Md_r25 {k : Nat} {u v : Option Nat} (h : isMd k) : rho u v k 25 = some (k + 599) := by rcases h with rfl | rfl | rfl <;> rfl
theorem Md_r26 {k : Nat} {u v : Option Nat} (h : isMd k) : rho u v k 26 = some (k + 600) := by rcases h with rfl | rfl | rfl <;> rfl
theorem Md_r32 {k : Nat} {u v : Option Nat} (h : isMd k) : rho u v k 32 = some (k + 601) := by rcases h with rfl | rfl | rfl <;> rfl
theorem Md_r35 {k : Nat} {u v : Option Nat} (h : isMd k) : rho u v k 35 = some (k + 602) := by rcases h with rfl | rfl | rfl <;> rfl
theorem Md_rows {k i : Nat} (h : isMd k) (hi : i < 585) : lay (k + 14 + i) = (1, 3) := by
  unfold isMd at h
  have e : (k + 14 + i - 50) % 603 = 14 + i := by omega
  unfold lay layM
  rw [if_neg (by omega), e, if_neg (by omega), if_pos (by omega)]
theorem Md_rr {k : Nat} {u v : Option Nat} (h : isMd k) (j : Nat) : rho u v (k + 13) j = some (k + 14 + j) := by rcases h with rfl | rfl | rfl <;> rfl
theorem rQ_ne {k0 : Nat} {L : List Nat} {U : List (Nat × List Nat)} {u v : Option Nat} {k j : Nat} (h : k ≠ k0) : rQ ((k0, L) :: U) u v k j = rQ U u v k j := by
  have e : ((k0, L) :: U).any (fun q => decide (q.1 = k) && !(decide (j ∈ q.2))) = U.any (fun q => decide (q.1 = k) && !(decide (j ∈ q.2))) := by
    rw [List.any_cons]
    have : ¬ k0 = k := fun z => h z.symm
    simp [this]
  unfold rQ
  rw [e]
theorem rQ_in {k0 : Nat} {L : List Nat} {U : List (Nat × List Nat)} {u v : Option Nat} {j : Nat} (h : j ∈ L) : rQ ((k0, L) :: U) u v k0 j = rQ U u v k0 j := by
  have e : ((k0, L) :: U).any (fun q => decide (q.1 = k0) && !(decide (j ∈ q.2))) = U.any (fun q => decide (q.1 = k0) && !(decide (j ∈ q.2))) := by
    rw [List.any_cons]
    simp [h]
  unfold rQ
  rw [e]
theorem rQ_no {k0 : Nat} {U : List (Nat × List Nat)} {u v : Option Nat} {j : Nat} : rQ ((k0, []) :: U) u v k0 j = none := by
  have e : ((k0, []) :: U).any (fun q => decide (q.1 = k0) && !(decide (j ∈ q.2))) = true := by
    rw [List.any_cons]
    simp
  unfold rQ
  rw [e]
  rfl
theorem wl_done {x : Cx} {N k0 ci : Nat} {L : List Nat} {U : List (Nat × List Nat)} {u v : Option Nat} {t : sT} {a : sA} (hl : lay k0 = (0, ci)) (hL : ∀ j, j < nf ci → isR ci j = true → j ∈ L) : wl x N (rQ ((k0, L) :: U) u v) t a = wl x N (rQ U u v) t a := by
  apply Wo_r
  · intro k hk ci' h0 j hj hr
    by_cases e : k = k0
    · subst e
      have e2 : ci' = ci := by rw [hl] at h0; exact (Prod.mk.inj h0).2.symm
      subst e2
      exact rQ_in (hL j hj hr)
    · exact rQ_ne e
  · intro k hk n h2 j
    by_cases e : k = k0
    · subst e
      rw [hl] at h2
      exact absurd (Prod.mk.inj h2).1 (by decide)
    · exact rQ_ne e
theorem wl_begin {x : Cx} {N : Nat} {U : List (Nat × List Nat)} {u v : Option Nat} {t : sT} {a : sA} : wl x N (rQ U u v) t a = wl x N (rQ ((N, []) :: U) u v) t a := by
  apply Wo_r
  · intro k hk ci' h0 j hj hr
    exact (rQ_ne (by omega)).symm
  · intro k hk n h2 j
    exact (rQ_ne (by omega)).symm
theorem hdf_of {z N ci n : Nat} {U : List (Nat × List Nat)} {u v : Option Nat} {t : sT} {ty : Nat → FieldType} (hz : zT t N) (hty : ∀ j, j < n → (isR ci j = true → defaultValue (ty j) = .null) ∧ (isR ci j = false → defaultValue (ty j) = .int 0)) : ∀ j, j < n → defaultValue (ty j) = fval z (rQ ((N, []) :: U) u v) t N ci j := by
  intro j hj
  unfold fval
  by_cases hr : isR ci j = true
  · rw [if_pos hr, rQ_no, (hty j hj).1 hr]
    rfl
  · rw [if_neg hr, hz _ (by omega), (hty j hj).2 (by simpa using hr)]
def ones8 : Nat → Int32 := upd (upd (upd (upd (upd (upd (upd (upd (fun _ => 0) 0 1) 1 1) 2 1) 3 1) 4 1) 5 1) 6 1) 7 1
theorem arrV_cong {c : ClassId} {n : Nat} {f g : Nat → Value} (h : ∀ j, j < n → f j = g j) : arrV c n f = arrV c n g := by
  unfold arrV
  congr 1
  congr 1
  funext j
  exact h j.val j.isLt
section JI
variable {p : Program} {l : Launch} {e : Env} {R : Room} {s : State} {m : MethodId} {args : Array Value} {below : List Frame} {meth : Method} {c : Code} {x : Cx} {N : Nat} {r : sR} {nL cells slots : Nat} {Q : State → Prop} {own : String} {cc : ByteArray} {ret : Option FieldType} {pc : Nat} {lv : List (Nat × Value)} {st : List Value} {t : sT} {a : sA} {ρ : Type} {A B : Option ρ} {v9 : ρ}
theorem j_eqa {a2 : sA} (h : a = a2) (kk : J p l e R s m args below meth c x N r nL cells slots Q pc lv st t a2) : J p l e R s m args below meth c x N r nL cells slots Q pc lv st t a := by subst h; exact kk
theorem j_callIN (F : Fx p s m meth c cc nL own ret x) {y : MethodName} {bytes : ByteArray} {maxL idx k N2 mc ms : Nat} {host : String} {rm : Room} {r2 : sR} {t2 : sT} {a2 : sA} (M : mwI y bytes maxL) (q : .methodLinkNest own idx y host ∈ lw_t) (As : List Value) (hn : (parseMethodDescriptor y.desc).map (fun d => d.parameters.length) = some As.length) (hrm : rm.cells = mc ∧ rm.slots = ms ∧ rm.frames + 1 ≤ R.frames ∧ 8 + (maxL + 11) + rm.locals ≤ R.locals) (hf : cells + mc ≤ R.cells ∧ slots + ms ≤ R.slots) {st0 : List Value} (hst : st0 = As.reverse ++ .ref (cz x + k) :: st) (hro : (st.map fun v => v.category).sum ≤ 8) (hd : decode cc pc = .ok (.invokespecial idx, 3))
    (hM : Met l y [.code y bytes maxL none] rm (Pre x N r t a (.ref (cz x + k) :: As)) (PostV x N2 r2 t2 a2) mc ms (cA x)) (kk : J p l e R s m args below meth c x (N2) (r2) nL (cells + mc) (slots + ms) Q (pc + 3) lv st t2 a2) : J p l e R s m args below meth c x N r nL cells slots Q pc lv st0 t a := by
  intro H locs ls hW hl
  obtain ⟨hx, hb, hml, hown, hre, hlk, hK, hKs⟩ := F
  have hts := hK.w args
  obtain ⟨m1, m2, m4, m5, m6, m7⟩ := M
  refine va_callv (va_runIN (As := As) (rest := st) (Ts := lw_t) (host := host) ⟨hx, hb, hml, hown, hts⟩ hM ⟨⟨⟨hrm.1, hrm.2.1, hrm.2.2.1, hrm.2.2.2, fun w hw a1 U hU => by rw [List.mem_singleton] at hw; subst hw; exact gw_move (List.mem_filter.mp m1).2 hU (hts _ m1), List.mem_singleton.mpr rfl⟩, hts _ m1, hts _ m4, ⟨m5, m6⟩, ar_of hn, hts _ q⟩, m7, hts _ m2⟩ ⟨Pre.blind, Pre.at hK hKs hW⟩ rfl rfl hl.1 hst (lv_room hro) hd hf) hW.2 (fun _ _ h => h) (fun _ h => h) (fun u1 T1 H1 locs1 hT hvm hp hB hz hk1 hS1 => kk H1 locs1 ls ⟨by rw [hT] at hB; exact hB, hS1⟩ hl)
theorem j_callIP (F : Fx p s m meth c cc nL own ret x) {y : MethodName} {bytes : ByteArray} {maxL idx k N2 mc ms : Nat} {rm : Room} {r2 : sR} {t2 : sT} {a2 : sA} (M : mwI y bytes maxL) (q : .methodLink own idx y ∈ lw_t) (As : List Value) (hn : (parseMethodDescriptor y.desc).map (fun d => d.parameters.length) = some As.length) (hrm : rm.cells = mc ∧ rm.slots = ms ∧ rm.frames + 1 ≤ R.frames ∧ 8 + (maxL + 11) + rm.locals ≤ R.locals) (hf : cells + mc ≤ R.cells ∧ slots + ms ≤ R.slots) {st0 : List Value} (hst : st0 = As.reverse ++ .ref (cz x + k) :: st) (hro : (st.map fun v => v.category).sum ≤ 8) (hd : decode cc pc = .ok (.invokespecial idx, 3))
    (hM : Met l y [.code y bytes maxL none] rm (Pre x N r t a (.ref (cz x + k) :: As)) (PostV x N2 r2 t2 a2) mc ms (cA x)) (kk : J p l e R s m args below meth c x (N2) (r2) nL (cells + mc) (slots + ms) Q (pc + 3) lv st t2 a2) : J p l e R s m args below meth c x N r nL cells slots Q pc lv st0 t a := by
  intro H locs ls hW hl
  obtain ⟨hx, hb, hml, hown, hre, hlk, hK, hKs⟩ := F
  have hts := hK.w args
  obtain ⟨m1, m2, m4, m5, m6, m7⟩ := M
  refine va_callv (va_runI (As := As) (rest := st) (Ts := lw_t) ⟨hx, hb, hml, hown, hts⟩ hM ⟨⟨hrm.1, hrm.2.1, hrm.2.2.1, hrm.2.2.2, fun w hw a1 U hU => by rw [List.mem_singleton] at hw; subst hw; exact gw_move (List.mem_filter.mp m1).2 hU (hts _ m1), List.mem_singleton.mpr rfl, hts _ m1, hts _ m4, ⟨m5, m6⟩, ar_of hn, hts _ q⟩, m7, hts _ m2⟩ ⟨Pre.blind, Pre.at hK hKs hW⟩ rfl rfl hl.1 hst (lv_room hro) hd hf) hW.2 (fun _ _ h => h) (fun _ h => h) (fun u1 T1 H1 locs1 hT hvm hp hB hz hk1 hS1 => kk H1 locs1 ls ⟨by rw [hT] at hB; exact hB, hS1⟩ hl)
/-- new int[585][3] -/
theorem j_mna (F : Fx p s m meth c cc nL own ret x) {idx : Nat} (q : .classLink own idx ("[" ++ (FieldType.array .int).toString) ∈ lw_t) (hl0 : lay N = (2, 585)) (hl1 : ∀ i, i < 585 → lay (N + 1 + i) = (1, 3)) (hr : ∀ j, j < 585 → r N j = some (N + 1 + j)) (hz : ∀ i, i < 585 → a (N + 1 + i) = fun _ => 0) (hd : decode cc pc = .ok (.multianewarray idx 2, 4)) (hc : cells + (1 + 585) ≤ R.cells) (hs : slots + (585 + 585 * 3) ≤ R.slots) (kk : J p l e R s m args below meth c x (N + 586) (r) nL (cells + 1 + 585) (slots + 585 + 585 * 3) Q (pc + 4) lv (.ref (cz x + N) :: st) t a) : J p l e R s m args below meth c x N r nL cells slots Q pc lv (.int 3 :: .int 585 :: st) t a := by
  intro H locs ls hW hl T hT Xs
  obtain ⟨hx, hb, hml, hown, hre, hlk, hK, hKs⟩ := F
  have hts := hK.w args
  obtain ⟨vm₁, cB, comp, -, fA, fC, hO, -, X', step⟩ := Xs.multianewarray2F hx hown (hts _ q) (over_moved (Vm.Alike.refl s.vm) hKs.2.2.2.2.2.2.2.2.2) (hts _ qarI) (g := F0 m pc ls (.int 3 :: .int 585 :: st)) rfl (by rw [hb]; exact hd) rfl (by decide) (by decide) (Nat.le_of_ble_eq_true rfl) (Nat.le_of_ble_eq_true rfl) (Nat.le_of_ble_eq_true rfl) rfl rfl hc hs
  have ecB : cB = cO x := by
    have h9 : s.vm.findClass ("[" ++ (FieldType.array .int).toString) = some (cO x) := (hK.2.2 1 _ rfl).2
    exact Option.some.inj (fA.symm.trans h9)
  have ecI : comp = cI x := by
    have h9 : s.vm.findClass ("[" ++ FieldType.int.toString) = some (cI x) := (hK.2.2 0 _ rfl).2
    exact Option.some.inj (fC.symm.trans h9)
  subst ecB
  subst ecI
  have hTh : (T.setVm vm₁).heap = H := hT
  have n1 : (585 : Int32).toNatClampNeg = 585 := by decide
  have n2 : (3 : Int32).toNatClampNeg = 3 := by decide
  rw [n1, n2] at X' step
  generalize hFl : Jvm.Free.Multi.fill (T.setVm vm₁) (cO x) (cI x) 585 3 (defaultValue .int) 585 = Fl at X' step
  obtain ⟨f1, f2, -, -⟩ := Jvm.Free.Multi.fill_facts (T.setVm vm₁) (cO x) (cI x) 585 3 (defaultValue .int) 585
  rw [hFl, hTh] at f1 f2
  have hold : ∀ y : Nat, y < H.size → Fl.heap[y]? = H[y]? := fun y hy => by
    have := Jvm.Free.Multi.fill_old (T.setVm vm₁) (cO x) (cI x) 585 3 (defaultValue .int) (a := y) (by rw [hTh]; exact hy) 585
    rw [hFl, hTh] at this
    exact this
  have hrow : ∀ j : Nat, j < 585 → Fl.heap[H.size + 1 + j]? = some (Jvm.Free.Multi.innerC (cI x) 3 (defaultValue .int)) := fun j hj => by
    have := Jvm.Free.Multi.fill_inner (T.setVm vm₁) (cO x) (cI x) 585 3 (defaultValue .int) 585 j hj
    rw [hFl, hTh] at this
    exact this
  have hin : Jvm.Free.Multi.innerC (cI x) 3 (defaultValue .int) = arrV (cI x) 3 (fun _ => .int 0) := arrV_new (cI x) 3 (.int 0)
  have hsz : H.size = cz x + N := hW.1.1
  have hP : va_P (cD x) vwCl (wl x (N + 586) r t a) Fl.heap := by
    intro k p9 hp9
    have hk : k < N + 586 := by
      rcases Nat.lt_or_ge k (N + 586) with h | h
      · exact h
      · rw [List.getElem?_eq_none (by simp [wl]; omega)] at hp9
        cases hp9
    rw [wl_get hk] at hp9
    cases hp9
    rcases Nat.lt_or_ge k N with h | h
    · exact (hW.1.2 k _ (wl_get h)).kept (hold _ (by rw [hsz]; show cz x + k < cz x + N; omega))
    · rcases Nat.lt_or_ge N k with h2 | h2
      · obtain ⟨i, rfl⟩ : ∃ i, k = N + 1 + i := ⟨k - (N + 1), by omega⟩
        have hi : i < 585 := by omega
        show va_at _ _ (cz x + (N + 1 + i), ce x r t a (N + 1 + i)) Fl.heap
        rw [ce_1 (hl1 i hi)]
        show Fl.heap[cz x + (N + 1 + i)]? = some (vp_cell (cI x) (3, .inl (a (N + 1 + i))))
        have e9 : cz x + (N + 1 + i) = H.size + 1 + i := by omega
        rw [e9, hrow i hi, hin, vp_cell_i, hz i hi]
      · have e9 : k = N := by omega
        subst e9
        show va_at _ _ (cz x + k, ce x r t a k) Fl.heap
        rw [ce_2 hl0]
        show Fl.heap[cz x + k]? = some (vp_cell (cO x) (585, .inr (.inr (.inr (.inr (fun j => (r k j).map (fun q => cz x + q)))))))
        rw [← hsz, f2, vr_outer, vp_cell_q]
        refine congrArg some (arrV_cong (fun j hj => ?_))
        rw [hr j hj, if_pos hj, show H.size + 1 + j = cz x + (k + 1 + j) by omega]
        rfl
  have hf1 : Fl.heap.size = cz x + (N + 586) := by rw [f1, hsz]; omega
  obtain ⟨t2, a1, b1⟩ := kk Fl.heap locs ls ⟨⟨hf1, hP⟩, Nat.le_trans hW.2.1 (by rw [hf1, hsz]; omega), fun y h1 h2 => (hold y (Nat.lt_of_lt_of_le h1 hW.2.1)).trans (hW.2.2.1 y h1 h2), hW.2.2.2⟩ hl Fl rfl X'
  refine ⟨t2, step t2 ?_, b1⟩
  have e : T.heap.size = cz x + N := by rw [hT, hsz]
  rw [e]
  exact a1
end JI
