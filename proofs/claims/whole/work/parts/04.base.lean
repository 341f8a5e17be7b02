/-! BASE: the cells of the system by their places; scalars t (64 * place + slot), rows a (by place), references r (place, slot) -/
abbrev sT : Type := Nat → Int32
abbrev sA : Type := Nat → Nat → Int32
abbrev sR : Type := Nat → Nat → Option Nat
def layM (j : Nat) : Nat × Nat :=
  if j < 14 then [(0, 7), (1, 64), (1, 6), (1, 6), (1, 8), (1, 8), (1, 8), (1, 8), (1, 4), (1, 12), (1, 12), (1, 12), (1, 585), (2, 585)].getD j (0, 0)
  else if j < 599 then (1, 3) else [(1, 585), (1, 585), (1, 4), (1, 3)].getD (j - 599) (0, 0)
def layC : List (Nat × Nat) := [(0, 6), (0, 1), (1, 64), (0, 5), (1, 8), (1, 8), (1, 8), (1, 4), (0, 5), (1, 8), (1, 8), (1, 8), (1, 4), (0, 2), (1, 6), (0, 2), (1, 6), (0, 4), (1, 12), (0, 3), (1, 585), (1, 585), (1, 585), (1, 585), (1, 585), (1, 2560), (1, 585), (1, 256), (1, 25), (1, 25), (0, 3), (1, 585), (1, 585), (1, 585), (1, 585), (1, 585), (1, 2560), (1, 585), (1, 256), (1, 25), (1, 25), (0, 0), (0, 5), (1, 8), (1, 8), (1, 8), (1, 4), (0, 4), (1, 12), (1, 7)]
/-- a place's kind: (0, class), (1, how many ints), (2, how many rows) -/
def lay (k : Nat) : Nat × Nat := if k < 50 then layC.getD k (0, 0) else layM ((k - 50) % 603)
def nf (ci : Nat) : Nat := [4, 2, 2, 18, 2, 8, 11, 36].getD ci 0
def refs (ci : Nat) : List Nat := [[0, 1], [0], [0], [0, 2, 3, 4, 5, 6, 7, 8, 9, 10, 11], [0], [0, 1, 2, 3], [0, 1, 2, 3, 4, 5, 6, 7, 8, 9], [0, 2, 4, 6, 8, 9, 10, 12, 16, 17, 18, 20, 22, 23, 24, 25, 26, 32, 35]].getD ci []
def isR (ci j : Nat) : Bool := (refs ci).elem j
theorem nf_le (ci : Nat) : nf ci ≤ 36 := by
  unfold nf
  rcases ci with _ | _ | _ | _ | _ | _ | _ | _ | ci <;> simp
/-- what the system's cells stand on: classes, the two array classes, the first address, the texts' addresses -/
abbrev Cx : Type := va_G × ClassId × ClassId × Nat × (Nat → Nat) × (Nat → Nat)
abbrev cD (x : Cx) : va_G := x.1
abbrev cI (x : Cx) : ClassId := x.2.1
abbrev cO (x : Cx) : ClassId := x.2.2.1
abbrev cz (x : Cx) : Nat := x.2.2.2.1
abbrev cAd (x : Cx) : Nat → Nat := x.2.2.2.2.1
abbrev cAv (x : Cx) : Nat → Nat := x.2.2.2.2.2
abbrev cA (x : Cx) : Nat → Prop := fun q => cz x ≤ q
def rfv (z : Nat) (o : Option Nat) : Value := va_rf (o.map (fun q => z + q))
def fval (z : Nat) (r : sR) (t : sT) (k ci j : Nat) : Value := if isR ci j then rfv z (r k j) else .int (t (64 * k + j))
def ceO (z : Nat) (r : sR) (t : sT) (k ci : Nat) : va_E := .inr (ci, (List.range (nf ci)).map (fval z r t k ci))
def ceI (x : Cx) (a : sA) (k n : Nat) : va_E := .inl (cI x, n, .inl (a k))
def ceR (x : Cx) (r : sR) (k n : Nat) : va_E := .inl (cO x, n, .inr (.inr (.inr (.inr (fun j => (r k j).map (fun q => cz x + q))))))
def ce (x : Cx) (r : sR) (t : sT) (a : sA) (k : Nat) : va_E :=
  if (lay k).1 = 0 then ceO (cz x) r t k (lay k).2 else if (lay k).1 = 1 then ceI x a k (lay k).2 else ceR x r k (lay k).2
def wl (x : Cx) (N : Nat) (r : sR) (t : sT) (a : sA) : va_W := (List.range N).map (fun k => (cz x + k, ce x r t a k))
theorem ce_0 {x : Cx} {r : sR} {t : sT} {a : sA} {k ci : Nat} (h : lay k = (0, ci)) : ce x r t a k = ceO (cz x) r t k ci := by simp [ce, h]
theorem ce_1 {x : Cx} {r : sR} {t : sT} {a : sA} {k n : Nat} (h : lay k = (1, n)) : ce x r t a k = ceI x a k n := by simp [ce, h]
theorem ce_2 {x : Cx} {r : sR} {t : sT} {a : sA} {k n : Nat} (h : lay k = (2, n)) : ce x r t a k = ceR x r k n := by simp [ce, h]
theorem rg_set {β : Type} (n k : Nat) (f g : Nat → β) (e : β) (hk : g k = e) (h : ∀ i, i < n → i ≠ k → g i = f i) : ((List.range n).map f).set k e = (List.range n).map g := by
  apply List.ext_getElem?
  intro i
  by_cases hi : i < n
  · by_cases hik : i = k
    · subst hik
      rw [List.getElem?_set_self (by simpa using hi)]
      simp [hi, hk]
    · rw [List.getElem?_set_ne (Ne.symm hik)]
      simp [hi, h i hi hik]
  · rw [List.getElem?_eq_none (by simp; omega), List.getElem?_eq_none (by simp; omega)]
theorem rg_get {β : Type} {n k : Nat} {f : Nat → β} (hk : k < n) : ((List.range n).map f)[k]? = some (f k) := by simp [hk]
theorem rg_app {β : Type} (n : Nat) (f : Nat → β) : (List.range n).map f ++ [f n] = (List.range (n + 1)).map f := by simp [List.range_succ]
theorem wl_get {x : Cx} {N : Nat} {r : sR} {t : sT} {a : sA} {k : Nat} (hk : k < N) : (wl x N r t a)[k]? = some (cz x + k, ce x r t a k) := rg_get hk
theorem wl_D {x : Cx} {N : Nat} {r : sR} {t : sT} {a : sA} : va_D (cA x) (wl x N r t a) := by
  have key : ∀ (i : Nat) (p : Nat × va_E), (wl x N r t a)[i]? = some p → p.1 = cz x + i := by
    intro i p h
    by_cases hi : i < N
    · rw [wl_get hi] at h
      cases h
      rfl
    · rw [List.getElem?_eq_none (by simp [wl]; omega)] at h
      cases h
  refine ⟨fun i j p q hp hq h => ?_, fun i p hp => ?_⟩
  · have h1 := key i p hp
    have h2 := key j q hq
    omega
  · rw [key i p hp]
    exact Nat.le_add_right _ _
/-- the heap holds the system's cells, N of them, from x's first address to its end -/
def Wo (x : Cx) (N : Nat) (r : sR) (t : sT) (a : sA) (H : Heap) : Prop := H.size = cz x + N ∧ va_P (cD x) vwCl (wl x N r t a) H
/-- .. and nothing else was written since H0 -/
def Wd (x : Cx) (N : Nat) (r : sR) (t : sT) (a : sA) (H0 H : Heap) (locs : List Loc) : Prop := Wo x N r t a H ∧ va_S (cA x) H0 H locs
theorem ceO_up {z : Nat} {r : sR} {t : sT} {k ci i j : Nat} {v : Int32} (hj : j < 64) (h : i ≠ k) : ceO z r (va_up t (64 * k + j) v) i ci = ceO z r t i ci := by
  unfold ceO
  congr 2
  apply List.map_congr_left
  intro q hq
  have hq : q < nf ci := by simpa using hq
  have := nf_le ci
  unfold fval va_up
  rw [if_neg (show ¬ 64 * i + q = 64 * k + j by omega)]
theorem wl_putI {x : Cx} {N : Nat} {r : sR} {t : sT} {a : sA} {k ci j : Nat} {v : Int32} (hk : k < N) (hl : lay k = (0, ci)) (hj : j < nf ci) (hr : isR ci j = false) :
    (wl x N r t a).set k (cz x + k, .inr (ci, ((List.range (nf ci)).map (fval (cz x) r t k ci)).set j (.int v))) = wl x N r (va_up t (64 * k + j) v) a := by
  have := nf_le ci
  unfold wl
  apply rg_set
  · rw [ce_0 hl]
    unfold ceO
    rw [rg_set (nf ci) j (fval (cz x) r t k ci) (fval (cz x) r (va_up t (64 * k + j) v) k ci)]
    · simp [fval, hr, va_up]
    · intro i hi hne
      unfold fval va_up
      rw [if_neg (show ¬ 64 * k + i = 64 * k + j by omega)]
  · intro i hi hne
    have : ce x r (va_up t (64 * k + j) v) a i = ce x r t a i := by
      unfold ce
      rw [ceO_up (by omega) hne]
    rw [this]
theorem wl_putR {x : Cx} {N : Nat} {r : sR} {t : sT} {a : sA} {k ci j : Nat} {v : Option Nat} (hk : k < N) (hl : lay k = (0, ci)) (hj : j < nf ci) (hr : isR ci j = true) :
    (wl x N r t a).set k (cz x + k, .inr (ci, ((List.range (nf ci)).map (fval (cz x) r t k ci)).set j (rfv (cz x) v))) = wl x N (va_up r k (va_up (r k) j v)) t a := by
  unfold wl
  apply rg_set
  · rw [ce_0 hl]
    unfold ceO
    rw [rg_set (nf ci) j (fval (cz x) r t k ci) (fval (cz x) (va_up r k (va_up (r k) j v)) t k ci)]
    · simp [fval, hr, va_up]
    · intro i hi hne
      simp [fval, va_up, hne]
  · intro i hi hne
    have : ce x (va_up r k (va_up (r k) j v)) t a i = ce x r t a i := by
      unfold ce ceO ceR fval va_up
      simp only [if_neg hne]
    rw [this]
theorem wl_putA {x : Cx} {N : Nat} {r : sR} {t : sT} {a : sA} {k n : Nat} {f : Nat → Int32} (hk : k < N) (hl : lay k = (1, n)) :
    (wl x N r t a).set k (cz x + k, .inl (cI x, n, .inl f)) = wl x N r t (va_up a k f) := by
  unfold wl
  apply rg_set
  · rw [ce_1 hl]
    simp [ceI, va_up]
  · intro i hi hne
    have : ce x r t (va_up a k f) i = ce x r t a i := by
      unfold ce ceI va_up
      simp only [if_neg hne]
    rw [this]
/-! words of the tables -/
def gw : Cond → Bool
  | .methodLinkNest _ _ _ _ => true
  | w => goodWord w
def lw_t : List Cond := lw_tbl.filter gw
theorem lw_in {w : Cond} (h : w ∈ lw_tbl) (hg : gw w = true) : w ∈ lw_t := List.mem_filter.mpr ⟨h, hg⟩
theorem gw_move {w : Cond} (hg : gw w = true) {args a' : Array Value} {s U : State} (hW : s.WarmedH U.vm) (h : w.before args s = true) : w.before a' U = true := by
  cases w with
  | methodLinkNest a i y o => exact va_Nw.use rfl (va_Nw.warmM hW (va_Nw.of rfl h))
  | _ => exact word_at hW (good_of_word hg) h
theorem lw_move {args a' : Array Value} {s U : State} (hW : s.WarmedH U.vm) (h : ∀ w ∈ lw_t, w.before args s = true) : ∀ w ∈ lw_t, w.before a' U = true :=
  fun w hw => gw_move (List.mem_filter.mp hw).2 hW (h w hw)
def strL : List Nat := [5, 4, 2, 1, 2, 0]
/-- what the tables say, at a state -/
def Kb (x : Cx) (U : State) : Prop := (∀ w ∈ lw_t, w.before #[] U = true) ∧ va_K (cD x) vwCl [(cI x, .int), (cO x, .array .int)] U
theorem Kb.move {x : Cx} {s U : State} (hW : s.WarmedH U.vm) (h : Kb x s) : Kb x U := ⟨lw_move hW h.1, va_K.moved hW.alike h.2⟩
theorem Kb.w {x : Cx} {s : State} (h : Kb x s) (args : Array Value) : ∀ w ∈ lw_t, w.before args s = true := lw_move (State.WarmedH.refl s) h.1
theorem Kb.calling {x : Cx} {U : State} {g : JFrame} {mk : MethodId} {a : Array Value} (h : Kb x U) : Kb x (U.calling g mk a) := Kb.move (U := U.calling g mk a) (State.WarmedH.refl U) h
/-- a class of ours, as the tables have it -/
def clO (ci : Nat) (C : String) (T : u_T) (n : Nat) (ty : Nat → FieldType) : Prop := vwCl[ci]? = some (C, T, n) ∧ nf ci = n ∧ (∀ w ∈ u_ws C T n, w ∈ lw_t) ∧ (∀ k, k < n → parseFieldDescriptor (T k).2.2.1 = some (ty k)) ∧ (∀ a, a < n → ∀ b, b < n → a ≠ b → (T a).2.1 ≠ (T b).2.1) ∧ ∀ k, k < n → (T k).1 = C
