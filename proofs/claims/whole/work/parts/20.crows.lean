/-! making: objects under construction, rows of new things -/
/-- references while the objects of U are made: of (k, L) only the slots L are set -/
def rQ (U : List (Nat × List Nat)) (u v : Option Nat) : sR := fun k j => if U.any (fun q => decide (q.1 = k) && !(decide (j ∈ q.2))) then none else rho u v k j
theorem rQ_nil {u v : Option Nat} : rQ [] u v = rho u v := by funext k j; simp [rQ]
theorem rQ_put {k0 j g : Nat} {L : List Nat} {U : List (Nat × List Nat)} {u v : Option Nat} (hg : rho u v k0 j = some g) (hU : ∀ q ∈ U, q.1 ≠ k0) : va_up (rQ ((k0, L) :: U) u v) k0 (va_up (rQ ((k0, L) :: U) u v k0) j (some g)) = rQ ((k0, j :: L) :: U) u v := by
  have hU0 : U.any (fun q => decide (q.1 = k0) && !(decide (j ∈ q.2))) = false := by
    rw [List.any_eq_false]
    intro q hq
    have := hU q hq
    simp [this]
  funext k i
  by_cases hk : k = k0
  · subst hk
    by_cases hi : i = j
    · subst hi
      simp [va_up, rQ, hg, hU0]
    · have e1 : va_up (rQ ((k, L) :: U) u v) k (va_up (rQ ((k, L) :: U) u v k) j (some g)) k i = rQ ((k, L) :: U) u v k i := by
        unfold va_up
        rw [if_pos rfl, if_neg hi]
      have e : ((k, j :: L) :: U).any (fun q => decide (q.1 = k) && !(decide (i ∈ q.2))) = ((k, L) :: U).any (fun q => decide (q.1 = k) && !(decide (i ∈ q.2))) := by
        rw [List.any_cons, List.any_cons]
        congr 1
        simp [hi]
      rw [e1]
      unfold rQ
      rw [e]
  · have hk2 : ¬ k0 = k := fun h => hk h.symm
    have e1 : va_up (rQ ((k0, L) :: U) u v) k0 (va_up (rQ ((k0, L) :: U) u v k0) j (some g)) k i = rQ ((k0, L) :: U) u v k i := by
      unfold va_up
      rw [if_neg hk]
    have e : ((k0, j :: L) :: U).any (fun q => decide (q.1 = k) && !(decide (i ∈ q.2))) = ((k0, L) :: U).any (fun q => decide (q.1 = k) && !(decide (i ∈ q.2))) := by
      rw [List.any_cons, List.any_cons]
      congr 1
      simp [hk2]
    rw [e1]
    unfold rQ
    rw [e]
theorem wl_cong {x : Cx} {N : Nat} {r r2 : sR} {t t2 : sT} {a a2 : sA} (h : ∀ k, k < N → ce x r t a k = ce x r2 t2 a2 k) : wl x N r t a = wl x N r2 t2 a2 := by
  unfold wl
  apply List.map_congr_left
  intro k hk
  rw [h k (by simpa using hk)]
theorem lay_kind (k : Nat) : (lay k).1 = 0 ∨ (lay k).1 = 1 ∨ (lay k).1 = 2 := by
  have hC : ∀ i, i < 50 → ((layC.getD i (0, 0)).1 = 0 ∨ (layC.getD i (0, 0)).1 = 1 ∨ (layC.getD i (0, 0)).1 = 2) := by decide
  have hM : ∀ i, i < 14 → ((layM i).1 = 0 ∨ (layM i).1 = 1 ∨ (layM i).1 = 2) := by decide
  unfold lay
  split
  · exact hC k (by assumption)
  · generalize (k - 50) % 603 = j
    by_cases h1 : j < 14
    · exact hM j h1
    · unfold layM
      rw [if_neg h1]
      split
      · exact Or.inr (Or.inl rfl)
      · have hD : ∀ i, ((([(1, 585), (1, 585), (1, 4), (1, 3)] : List (Nat × Nat)).getD i (0, 0)).1 = 0 ∨ (([(1, 585), (1, 585), (1, 4), (1, 3)] : List (Nat × Nat)).getD i (0, 0)).1 = 1 ∨ (([(1, 585), (1, 585), (1, 4), (1, 3)] : List (Nat × Nat)).getD i (0, 0)).1 = 2) := by
          intro i
          rcases i with _ | _ | _ | _ | i <;> simp
        exact hD _
theorem Wo_r {x : Cx} {N : Nat} {r r2 : sR} {t : sT} {a : sA} (h0 : ∀ k, k < N → ∀ ci, lay k = (0, ci) → ∀ j, j < nf ci → isR ci j = true → r k j = r2 k j) (h2 : ∀ k, k < N → ∀ n, lay k = (2, n) → ∀ j, r k j = r2 k j) : wl x N r t a = wl x N r2 t a := by
  apply wl_cong
  intro k hk
  unfold ce
  by_cases c0 : (lay k).1 = 0
  · rw [if_pos c0, if_pos c0]
    unfold ceO
    congr 2
    apply List.map_congr_left
    intro j hj
    unfold fval
    by_cases hr : isR (lay k).2 j = true
    · rw [if_pos hr, if_pos hr, h0 k hk (lay k).2 (by rw [← c0]) j (by simpa using hj) hr]
    · rw [if_neg hr, if_neg hr]
  · rw [if_neg c0, if_neg c0]
    by_cases c1 : (lay k).1 = 1
    · rw [if_pos c1, if_pos c1]
    · rw [if_neg c1, if_neg c1]
      unfold ceR
      by_cases c2 : (lay k).1 = 2
      · have e : (fun j => (r k j).map (fun q => cz x + q)) = (fun j => (r2 k j).map (fun q => cz x + q)) := by
          funext j
          rw [h2 k hk (lay k).2 (by rw [← c2]) j]
        rw [e]
      · exfalso
        have : (lay k).1 = 0 ∨ (lay k).1 = 1 ∨ (lay k).1 = 2 := lay_kind k
        omega
/-- what is not yet made holds nothing -/
def zT (t : sT) (N : Nat) : Prop := ∀ q, 64 * N ≤ q → t q = 0
def zA (a : sA) (N : Nat) : Prop := ∀ k, N ≤ k → a k = fun _ => 0
theorem zT.le {t : sT} {N M : Nat} (h : zT t N) (hM : N ≤ M) : zT t M := fun q hq => h q (by omega)
theorem zA.le {a : sA} {N M : Nat} (h : zA a N) (hM : N ≤ M) : zA a M := fun k hk => h k (by omega)
theorem zT.up {t : sT} {N q : Nat} {v : Int32} (h : zT t N) (hq : q < 64 * N) : zT (va_up t q v) N := fun i hi => by
  unfold va_up
  rw [if_neg (by omega)]
  exact h i hi
theorem zA.up {a : sA} {N k : Nat} {f : Nat → Int32} (h : zA a N) (hk : k < N) : zA (va_up a k f) N := fun i hi => by
  unfold va_up
  rw [if_neg (by omega)]
  exact h i hi
theorem qarI : Cond.arrayClass .int ∈ lw_t := tb1 (List.mem_of_getElem? (i := 40) rfl) rfl
theorem qclRows : .classLink RX8 46 ("[" ++ (FieldType.array .int).toString) ∈ lw_t := tb4 (List.mem_of_getElem? (i := 88) rfl) rfl
theorem qk_X7_7 : .classLink RX7 7 RX1 ∈ lw_t := tb1 (List.mem_of_getElem? (i := 26) rfl) rfl
theorem qk_X7_16 : .classLink RX7 16 RX6 ∈ lw_t := tb1 (List.mem_of_getElem? (i := 41) rfl) rfl
theorem qk_X7_26 : .classLink RX7 26 RX2 ∈ lw_t := tb1 (List.mem_of_getElem? (i := 83) rfl) rfl
theorem qk_X7_36 : .classLink RX7 36 RX5 ∈ lw_t := tb1 (List.mem_of_getElem? (i := 99) rfl) rfl
theorem qk_X7_43 : .classLink RX7 43 RX3 ∈ lw_t := tb1 (List.mem_of_getElem? (i := 114) rfl) rfl
theorem qk_X7_55 : .classLink RX7 55 RX0 ∈ lw_t := tb1 (List.mem_of_getElem? (i := 176) rfl) rfl
theorem qk_X0_7 : .classLink RX0 7 RX6 ∈ lw_t := tb1 (List.mem_of_getElem? (i := 182) rfl) rfl
theorem qk_X0_16 : .classLink RX0 16 RX5 ∈ lw_t := tb1 (List.mem_of_getElem? (i := 184) rfl) rfl
theorem qk_L_7 : .classLink RL 7 RX7 ∈ lw_t := tb1 (List.mem_of_getElem? (i := 18) rfl) rfl
theorem qk_L_10 : .classLink RL 10 RX8 ∈ lw_t := tb4 (List.mem_of_getElem? (i := 82) rfl) rfl
theorem qk_X8_7 : .classLink RX8 7 RX8 ∈ lw_t := tb4 (List.mem_of_getElem? (i := 239) rfl) rfl
theorem qt_X7 : .instantiable RX7 11 ∈ lw_t := tb1 (List.mem_of_getElem? (i := 19) rfl) rfl
theorem qt_X0 : .instantiable RX0 4 ∈ lw_t := tb1 (List.mem_of_getElem? (i := 177) rfl) rfl
theorem qt_X1 : .instantiable RX1 2 ∈ lw_t := tb1 (List.mem_of_getElem? (i := 27) rfl) rfl
theorem qt_X2 : .instantiable RX2 2 ∈ lw_t := tb1 (List.mem_of_getElem? (i := 84) rfl) rfl
theorem qt_X3 : .instantiable RX3 18 ∈ lw_t := tb1 (List.mem_of_getElem? (i := 115) rfl) rfl
theorem qt_X5 : .instantiable RX5 2 ∈ lw_t := tb1 (List.mem_of_getElem? (i := 100) rfl) rfl
theorem qt_X6 : .instantiable RX6 8 ∈ lw_t := tb1 (List.mem_of_getElem? (i := 42) rfl) rfl
theorem qt_X8 : .instantiable RX8 36 ∈ lw_t := tb4 (List.mem_of_getElem? (i := 83) rfl) rfl
theorem qoi_c : .code objectInit ⟨#[0xb1]⟩ 1 none ∈ lw_t := tb1 (List.mem_of_getElem? (i := 25) rfl) rfl
theorem qoi_m : .instanceMethod objectInit ∈ lw_t := tb1 (List.mem_of_getElem? (i := 24) rfl) rfl
section JC
variable {p : Program} {l : Launch} {e : Env} {R : Room} {s : State} {m : MethodId} {args : Array Value} {below : List Frame} {meth : Method} {c : Code} {x : Cx} {N : Nat} {r : sR} {nL cells slots : Nat} {Q : State → Prop} {own : String} {cc : ByteArray} {ret : Option FieldType} {pc : Nat} {lv : List (Nat × Value)} {st : List Value} {t : sT} {a : sA} {ρ : Type} {A B : Option ρ} {v9 : ρ}
theorem j_cr {r2 : sR} (h : wl x N r t a = wl x N r2 t a) (kk : J p l e R s m args below meth c x (N) (r2) nL (cells) (slots) Q pc lv st t a) : J p l e R s m args below meth c x N r nL cells slots Q pc lv st t a := fun H locs ls hW hl => kk H locs ls ⟨⟨hW.1.1, by rw [← h]; exact hW.1.2⟩, hW.2⟩ hl
theorem j_wid {c2 s2 : Nat} (h1 : cells ≤ c2) (h2 : slots ≤ s2) (kk : J p l e R s m args below meth c x (N) (r) nL (c2) (s2) Q pc lv st t a) : J p l e R s m args below meth c x N r nL cells slots Q pc lv st t a := fun H locs ls hW hl => W.widen h1 h2 (kk H locs ls hW hl)
theorem j_oinit (F : Fx p s m meth c cc nL own ret x) {k idx : Nat} (q : .methodLink own idx objectInit ∈ lw_t) (hd : decode cc pc = .ok (.invokespecial idx, 3)) (hf : 1 ≤ R.frames) (hlo : (st.map fun v => v.category).sum + 12 ≤ R.locals) (kk : J p l e R s m args below meth c x N r nL cells slots Q (pc + 3) lv st t a) : J p l e R s m args below meth c x N r nL cells slots Q pc lv (.ref k :: st) t a := by
  intro H locs ls hW hl
  obtain ⟨hx, hb, hml, hown, hre, hlk, hK, hKs⟩ := F
  have hts := hK.w args
  refine W.objInit hx hb hown (hts _ q) (hts _ qoi_m) (hts _ qoi_c) rfl (by rw [hml]; exact hl.1) rfl hd hf (by show 2 * 0 + _ + 12 ≤ _; omega) (kk H locs ls hW hl)
theorem j_newA (F : Fx p s m meth c cc nL own ret x) {n : Int32} {n' : Nat} (hl0 : lay N = (1, n')) (hz : a N = fun _ => 0) (hn : ¬ n < 0) (hn' : n.toNatClampNeg = n') (hby : n' * 4 ≤ 536870912) (hd : decode cc pc = .ok (.newarray .int, 2)) (hc : cells + 1 ≤ R.cells) (hs : slots + n' ≤ R.slots) (kk : J p l e R s m args below meth c x (N + 1) (r) nL (cells + 1) (slots + n') Q (pc + 2) lv (.ref (cz x + N) :: st) t a) : J p l e R s m args below meth c x N r nL cells slots Q pc lv (.int n :: st) t a := by
  intro H locs ls hW hl
  obtain ⟨hx, hb, hml, hown, hre, hlk, hK, hKs⟩ := F
  have hts := hK.w args
  refine va_newaK (atype := .int) hx hb (hts _ qarI) rfl hd rfl hn hn' hby hc hs hW.1.1 fun H1 cB e1 z1 o1 hAr hNm => ?_
  have hcB : cB = cI x := by
    have h9 : s.vm.findClass ("[" ++ FieldType.int.toString) = some (cI x) := (hK.2.2 0 _ rfl).2
    exact Option.some.inj (hNm.symm.trans h9)
  subst hcB
  refine kk H1 locs ls ⟨⟨z1, ?_⟩, Nat.le_trans hW.2.1 (by rw [z1, hW.1.1]; omega), fun q h1 h2 => (o1 q (by rw [← hW.1.1]; exact Nat.lt_of_lt_of_le h1 hW.2.1)).trans (hW.2.2.1 q h1 h2), hW.2.2.2⟩ hl
  unfold wl
  rw [← rg_app]
  refine va_P.app (fun i q hq => (hW.1.2 i q hq).kept (o1 q.1 (by rw [← hW.1.1]; exact (hW.1.2 i q hq).lt))) ?_
  intro i q hq
  have hz1 : i < 1 := (List.getElem?_eq_some_iff.mp hq).1
  rw [show i = 0 by omega] at hq
  cases hq
  show va_at _ _ (cz x + N, ce x r t a N) H1
  rw [ce_1 hl0]
  show H1[cz x + N]? = some (vp_cell (cI x) (n', .inl (a N)))
  rw [e1, vp_cell_i, hz]
  rfl
theorem j_newO (F : Fx p s m meth c cc nL own ret x) {ci n idx : Nat} {C : String} {T : u_T} {ty : Nat → FieldType} (C0 : clO ci C T n ty) (hl0 : lay N = (0, ci)) (hdf : ∀ j, j < n → defaultValue (ty j) = fval (cz x) r t N ci j) (q1 : .classLink own idx C ∈ lw_t) (q2 : .instantiable C n ∈ lw_t) (q3 : .initialized C ∈ lw_t) (hd : decode cc pc = .ok (.new idx, 3)) (hc : cells + 1 ≤ R.cells) (hs : slots + n ≤ R.slots) (kk : J p l e R s m args below meth c x (N + 1) (r) nL (cells + 1) (slots + n) Q (pc + 3) lv (.ref (cz x + N) :: st) t a) : J p l e R s m args below meth c x N r nL cells slots Q pc lv st t a := by
  intro H locs ls hW hl
  obtain ⟨hx, hb, hml, hown, hre, hlk, hK, hKs⟩ := F
  obtain ⟨c1, c2, c3, c4, c5, c6⟩ := C0
  have hts := hK.w args
  have hKn := hK.2.1 ci _ c1
  refine W.newcK hx hb hown (hts _ q1) (hts _ q2) (hts _ q3) rfl hd hc hs hKn.2.1 hW.1.1 fun H1 kC hkC e1 z1 o1 => ?_
  refine kk H1 locs ls ⟨⟨z1, ?_⟩, Nat.le_trans hW.2.1 (by rw [z1, hW.1.1]; omega), fun q h1 h2 => (o1 q (by rw [← hW.1.1]; exact Nat.lt_of_lt_of_le h1 hW.2.1)).trans (hW.2.2.1 q h1 h2), hW.2.2.2⟩ hl
  unfold wl
  rw [← rg_app]
  refine va_P.app (fun i q hq => (hW.1.2 i q hq).kept (o1 q.1 (by rw [← hW.1.1]; exact (hW.1.2 i q hq).lt))) ?_
  intro i q hq
  have hz1 : i < 1 := (List.getElem?_eq_some_iff.mp hq).1
  rw [show i = 0 by omega] at hq
  cases hq
  show va_at _ _ (cz x + N, ce x r t a N) H1
  rw [ce_0 hl0]
  refine ⟨_, c1, (u_born ty hts c3 hKn hkC e1 c4).to (fun j hj => ?_)⟩
  rw [hdf j hj]
  unfold vp_V
  rw [List.getD_eq_getElem?_getD, rg_get (by rw [c2]; exact hj)]
  rfl
theorem j_putR (F : Fx p s m meth c cc nL own ret x) {k j ci n idx g : Nat} {C : String} {T : u_T} {ty : Nat → FieldType} {r2 : sR} (C0 : clO ci C T n ty) (hk : k < N) (hl0 : lay k = (0, ci)) (hj : j < n) (hr : isR ci j = true) (q : .fieldLink own idx C (T j).2.1 (T j).2.2.1 ∈ lw_t) (hfin : (T j).2.2.2 = false ∨ ((T j).2.2.2 = true ∧ meth.name = "<init>" ∧ own = C)) (hty : narrow (ty j) (.ref (cz x + g)) = .ref (cz x + g) ∧ fits (ty j) (.ref (cz x + g)) = true) (he : va_up r k (va_up (r k) j (some g)) = r2) (hd : decode cc pc = .ok (.putfield idx, 3)) (kk : J p l e R s m args below meth c x (N) (r2) nL (cells) (slots) Q (pc + 3) lv st t a) : J p l e R s m args below meth c x N r nL cells slots Q pc lv (.ref (cz x + g) :: .ref (cz x + k) :: st) t a := by
  intro H locs ls hW hl
  refine w_put F C0 hk hl0 hj q hfin hty hd hW (fun H1 locs1 g1 g2 g3 => ?_)
  have e9 : (Value.ref (cz x + g)) = rfv (cz x) (some g) := rfl
  rw [e9, wl_putR hk hl0 (by rw [C0.2.1]; exact hj) hr, he] at g2
  exact kk H1 locs1 ls ⟨⟨g1, g2⟩, g3⟩ hl
end JC
