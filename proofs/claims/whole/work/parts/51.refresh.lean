/-! the class's sayings: what its refresh leaves -/
def kE (W : Nat) (A : Nat → Int32) (c : Nat) : Nat := if c < W then (A c).toNatClampNeg else 3
def cE (W : Nat) (A : Nat → Int32) (c : Nat) : Nat := if c < W then (A c).toNatClampNeg else 0
theorem okE {W : Nat} {A B : Nat → Int32} (h : okW W A B) : okT (kE W A) (cE W B) := by
  intro c
  unfold kE cE
  by_cases hc : c < W
  · rw [if_pos hc, if_pos hc]
    obtain ⟨⟨k, hk, e1⟩, j, hj, e2⟩ := h.2 c hc
    rw [e1, e2, nI_cl (by omega), nI_cl (by omega)]
    exact ⟨hk, hj⟩
  · rw [if_neg hc, if_neg hc]
    exact ⟨by decide, by decide⟩
/-- the senses of a row, in both manners -/
theorem snS_snR {W : Nat} {A B row : Nat → Int32} : ∀ k, okR W row k → snS A B row k = ((snR (kE W A) (cE W B) (fun j => (row j).toNatClampNeg) k).1, (snR (kE W A) (cE W B) (fun j => (row j).toNatClampNeg) k).2.1, (snR (kE W A) (cE W B) (fun j => (row j).toNatClampNeg) k).2.2.1) := by
  intro k
  induction k with
  | zero => intro _; rfl
  | succ k ih =>
    intro h
    have ih := ih (fun i hi => h i (by omega))
    obtain ⟨c, hc, e⟩ := h k (by omega)
    show (_, _, _) = (_, _, _)
    have e1 : kE W A ((row k).toNatClampNeg) = (A (row k).toNatClampNeg).toNatClampNeg := by
      unfold kE
      rw [e]
      by_cases h9 : (nI c).toNatClampNeg < W
      · rw [if_pos h9]
      · rw [if_neg h9]
        exfalso
        apply h9
        rcases Nat.lt_or_ge c (2 ^ 31) with g | g
        · rw [nI_cl g]; exact hc
        · have : (nI c).toNatClampNeg < 2 ^ 31 := by have := (nI c).toInt_lt; unfold Int32.toNatClampNeg; omega
          omega
    have e2 : cE W B ((row k).toNatClampNeg) = (B (row k).toNatClampNeg).toNatClampNeg := by
      unfold cE
      rw [e]
      by_cases h9 : (nI c).toNatClampNeg < W
      · rw [if_pos h9]
      · exfalso
        apply h9
        rcases Nat.lt_or_ge c (2 ^ 31) with g | g
        · rw [nI_cl g]; exact hc
        · have : (nI c).toNatClampNeg < 2 ^ 31 := by have := (nI c).toInt_lt; unfold Int32.toNatClampNeg; omega
          omega
    rw [ih]
    show (gm _ _ _ _, gf _ _, gi _ _) = (gm _ _ (kE W A ((row k).toNatClampNeg)) (cE W B ((row k).toNatClampNeg)), gf _ (kE W A ((row k).toNatClampNeg)), gi _ (kE W A ((row k).toNatClampNeg)))
    rw [e1, e2]
section CL
variable {nF P W w : Nat} {t : sT} {a : sA}
theorem x_mean {x : Sn} {k : Nat} (h : okX x k) (hk : k ≤ 6) : fX4_meaning nF (nI (pkS x)) t a = some (nI x.1, t, a) := a_mean h.1 h.2.1 (by have := h.2.2.1; have := h.2.2.2; omega) (by have := h.2.2.2; omega)
theorem x_idle {x : Sn} {k : Nat} (h : okX x k) (hk : k ≤ 6) : fX4_idles nF (nI (pkS x)) t a = some (nI x.2.2.1, t, a) := a_idle h.1 h.2.1 (by have := h.2.2.1; have := h.2.2.2; omega) (by have := h.2.2.2; omega)
theorem x_len {x : Sn} {k : Nat} (h : okX x k) (hk : k ≤ 6) : fX4_length nF (nI (pkS x)) t a = some (nI x.2.2.2, t, a) := a_len h.1 h.2.1 (by have := h.2.2.1; have := h.2.2.2; omega) (by have := h.2.2.2; omega)
theorem x_grown {x : Sn} {k c : Nat} (q : t 196 = nI W) (hw : okW W (a 4) (a 5)) (h : okX x k) (hk : k ≤ 5) (hc : c < 2 ^ 30) : fX6_grown nF 3 (nI (pkS x)) (nI c) t a = some (nI (pkS (grw (kE W (a 4)) (cE W (a 5)) x c)), t, a) := by
  obtain ⟨h1, h2, h3, h4⟩ := h
  have hw8 := hw.1
  by_cases g : c < W
  · obtain ⟨⟨kn, hk, e1⟩, cn, hcn, e2⟩ := hw.2 c g
    have e3 : kE W (a 4) c = kn := by unfold kE; rw [if_pos g, e1, nI_cl (by omega)]
    have e4 : cE W (a 5) c = cn := by unfold cE; rw [if_pos g, e2, nI_cl (by omega)]
    unfold grw pkS
    rw [e3, e4]
    exact grownW q hw8 g e1 e2 hk hcn h1 h2 (by omega) (by omega)
  · have e3 : kE W (a 4) c = 3 := by unfold kE; rw [if_neg g]
    have e4 : cE W (a 5) c = 0 := by unfold cE; rw [if_neg g]
    unfold grw pkS
    rw [e3, e4]
    unfold fX6_grown
    rw [h7_big q (nneg (by omega)) ((x_le (by omega) (by omega)).mpr (by omega)), calS, if_pos rfl]
    have := grown_ok (nF := nF) (t := t) (a := a) (kd := 3) (cs := 0) (ln := x.2.2.2) (id := x.2.2.1) h1 h2 (by omega) (by omega) (by decide) (by decide)
    exact (congrArg (fun o => cal o (fun v2 t2 a2 => some (v2, t2, a2))) this).trans rfl
theorem key_ok {x : Sn} (h : okX x 3) : fX3_keyOf nF (nI (pkS x)) t a = some (nI (key x), t, a) := by
  have e1 := x_len (nF := nF) (t := t) (a := a) h (by decide)
  have e2 := x_idle (nF := nF) (t := t) (a := a) h (by decide)
  have e3 := x_mean (nF := nF) (t := t) (a := a) h (by decide)
  obtain ⟨h1, h2, h3, h4⟩ := h
  unfold fX3_keyOf key
  rw [e1, calS, e2, calS]
  unfold dvz
  rw [if_neg (by decide), e3, calS, if_neg (show ¬ (3 : Int32) < nI x.2.2.2 by rw [show (3 : Int32) = nI 3 from rfl, x_lt (by omega) (by omega)]; omega), if_neg (show ¬ nI x.2.2.2 < nI x.2.2.1 by rw [x_lt (by omega) (by omega)]; omega), nI_1, pk_mul]
  have hb : x.2.2.2 * (x.2.2.2 + 1) ≤ 12 := by
    have : ∀ l, l < 4 → l * (l + 1) ≤ 12 := by decide
    exact this _ (by omega)
  rw [show (2 : Int32) = nI 2 from rfl, pk_div (by omega) (by decide) (by decide), nI_add, show (256 : Int32) = nI 256 from rfl, pk_mul, nI_add]
/-- what the groups are, when s sayings have been put in -/
def GR (P w : Nat) (kd cs : Nat → Nat) (A : Nat → Int32) (G : Nat) (F Z : Nat → Nat) (s : Nat) (t : sT) (a : sA) : Prop :=
  t (64 * P + 14) = nI G ∧ G ≤ s ∧ (∀ g, g < G → F g < s ∧ Z g ≤ s ∧ a (P + 2) g = nI (pkS (sn w kd cs (F g))) ∧ a (P + 3) g = nI (F g) ∧ a (P + 4) g = nI (Z g) ∧ a (P + 5) g = nI (wS A (nI (sn w kd cs (F g)).1) 8) ∧ a (P + 6) (key (sn w kd cs (F g))) = nI (g + 1)) ∧ (∀ g h, g < h → h < G → F g < F h) ∧ (∀ i, i < s → ∃ g, g < G ∧ F g ≤ i ∧ key (sn w kd cs (F g)) = key (sn w kd cs i)) ∧ (∀ k, k < 2560 → (∀ g, g < G → key (sn w kd cs (F g)) ≠ k) → a (P + 6) k = 0) ∧ ∀ φ : Nat → Nat, sumN (fun g => Z g * φ (key (sn w kd cs (F g)))) G = sumN (fun i => φ (key (sn w kd cs i))) s
theorem putIn_ok (hF : 100 ≤ nF) {kd cs : Nat → Nat} (hT : okT kd cs) (hP : 19 ≤ P) (hb : okB (a 6)) {G : Nat} {F Z : Nat → Nat} {s : Nat} (hs : s < 585) (hs3 : s < lv w 3) (e : a (P + 1) s = nI (pkS (sn w kd cs s))) (h : GR P w kd cs (a 6) G F Z s t a) : ∃ t' a' G' F' Z', fX3_putInGroup nF P (nI s) t a = some (0, t', a') ∧ GR P w kd cs (a 6) G' F' Z' (s + 1) t' a' ∧ (∀ q, q ≠ 64 * P + 14 → t' q = t q) ∧ ∀ k, (k < P + 2 ∨ P + 7 ≤ k) → a' k = a k := by
  obtain ⟨h1, h2, h3, h4, h5, h6, h7⟩ := h
  have ok : ∀ i, i < lv w 3 → okX (sn w kd cs i) 3 := fun i hi => sn_ok hT 3 i hi
  have okF : ∀ g, g < G → okX (sn w kd cs (F g)) 3 := fun g hg => ok _ (by have := (h3 g hg).1; omega)
  have hk := key_lt (ok s hs3)
  unfold fX3_putInGroup
  rw [bnd_ok hs (by decide), nI_cl (by omega), e, key_ok (ok s hs3), calS, bnd_ok hk (by decide), nI_cl (by omega)]
  by_cases hex : ∃ g, g < G ∧ key (sn w kd cs (F g)) = key (sn w kd cs s)
  · obtain ⟨g, hg, hke⟩ := hex
    obtain ⟨f1, f2, f3, f4, f5, f6, f7⟩ := h3 g hg
    have e6 : a (P + 6) (key (sn w kd cs s)) - 1 = nI g := by rw [← hke, f7]; exact pk_sub (a := g + 1) (b := 1) (by omega)
    rw [e6, if_pos (Int32.not_lt.mp (nneg (by omega))), bnd_ok (show g < 585 by omega) (by decide), bnd_ok (show g < 585 by omega) (by decide), nI_cl (by omega), f5, nI_1]
    refine ⟨t, va_up a (P + 4) (upd (a (P + 4)) g (nI (Z g + 1))), G, F, fun j => if j = g then Z j + 1 else Z j, rfl, ⟨h1, by omega, fun j hj => ?_, h4, fun i hi => ?_, fun k hk2 hk3 => ?_, fun φ => ?_⟩, fun _ _ => rfl, fun k hk => up_ne (by omega)⟩
    · obtain ⟨g1, g2, g3, g4, g5, g6, g7⟩ := h3 j hj
      refine ⟨by omega, ?_, by rw [up_ne (by omega)]; exact g3, by rw [up_ne (by omega)]; exact g4, ?_, by rw [up_ne (by omega)]; exact g6, by rw [up_ne (by omega)]; exact g7⟩
      · show (if j = g then Z j + 1 else Z j) ≤ s + 1
        split <;> omega
      · show _ = nI (if j = g then Z j + 1 else Z j)
        rw [up_same]
        by_cases e9 : j = g
        · rw [if_pos e9, e9, upd_same]
        · rw [if_neg e9, upd_ne e9]; exact g5
    · by_cases e9 : i = s
      · subst e9
        exact ⟨g, hg, by omega, hke⟩
      · exact h5 i (by omega)
    · rw [up_ne (by omega)]; exact h6 k hk2 hk3
    · show _ = sumN (fun i => φ (key (sn w kd cs i))) s + φ (key (sn w kd cs s))
      rw [← h7 φ, ← hke]
      refine sumN_one G hg (fun i hi hne => ?_) ?_
      · show (if i = g then Z i + 1 else Z i) * _ = Z i * _
        rw [if_neg hne]
      · show (if g = g then Z g + 1 else Z g) * φ (key (sn w kd cs (F g))) = Z g * φ (key (sn w kd cs (F g))) + φ (key (sn w kd cs (F g)))
        rw [if_pos rfl, Nat.add_mul, Nat.one_mul]
  · have hne : ∀ g, g < G → key (sn w kd cs (F g)) ≠ key (sn w kd cs s) := fun g hg e9 => hex ⟨g, hg, e9⟩
    have e6 : a (P + 6) (key (sn w kd cs s)) = 0 := h6 _ hk hne
    have hG : G < 585 := by omega
    rw [e6, if_neg (by decide), bnd_ok hk (by decide), h1, bnd_ok hG (by decide), bnd_ok hG (by decide), bnd_ok hG (by decide), nI_cl (by omega), nI_1, up_same, x_mean (ok s hs3) (by decide), calS]
    have nn : ∀ (f : sA) (v : Nat → Int32) (i j : Nat), i ≠ j → va_up f (P + j) v (P + i) = f (P + i) := fun f v i j h => up_ne (by omega)
    rw [nn _ _ 2 6 (by decide), nn _ _ 3 2 (by decide), nn _ _ 3 6 (by decide), nn _ _ 4 3 (by decide), nn _ _ 4 2 (by decide), nn _ _ 4 6 (by decide)]
    have w6 : (va_up (va_up (va_up (va_up a (P + 6) (upd (a (P + 6)) (key (sn w kd cs s)) (nI (G + 1)))) (P + 2) (upd (a (P + 2)) G (nI (pkS (sn w kd cs s))))) (P + 3) (upd (a (P + 3)) G (nI s))) (P + 4) (upd (a (P + 4)) G 0)) 6 = a 6 := by
      rw [up_ne (by omega), up_ne (by omega), up_ne (by omega), up_ne (by omega)]
    have hw6 : ∀ a', a' 6 = a 6 → fX6_weightOf nF 3 (nI (sn w kd cs s).1) (va_up t (64 * P + 14) (nI (G + 1))) a' = some (nI (wS (a 6) (nI (sn w kd cs s).1) 8), va_up t (64 * P + 14) (nI (G + 1)), a') := fun a' e9 => by
      have := weight7 (nF := nF) (t := va_up t (64 * P + 14) (nI (G + 1))) (a := a') hF (by rw [e9]; exact hb) (nI (sn w kd cs s).1)
      rw [e9] at this
      exact this
    rw [hw6 _ w6, calS, bnd_ok hG (by decide), bnd_ok hG (by decide), bnd_ok hG (by decide), nn _ _ 5 4 (by decide), nn _ _ 5 3 (by decide), nn _ _ 5 2 (by decide), nn _ _ 5 6 (by decide), nn _ _ 4 5 (by decide), up_same, upd_same]
    refine ⟨_, _, G + 1, fun j => if j = G then s else F j, fun j => if j = G then 1 else Z j, rfl, ⟨up_same _ _ _, by omega, fun j hj => ?_, fun i j hij hj => ?_, fun i hi => ?_, fun k hk2 hk3 => ?_, fun φ => ?_⟩, fun q hq => up_ne hq, fun k hk => ?_⟩
    · by_cases e9 : j = G
      · subst e9
        show (if j = j then s else F j) < s + 1 ∧ (if j = j then 1 else Z j) ≤ s + 1 ∧ _ = nI (pkS (sn w kd cs (if j = j then s else F j))) ∧ _ = nI (if j = j then s else F j) ∧ _ = nI (if j = j then 1 else Z j) ∧ _ = nI (wS (a 6) (nI (sn w kd cs (if j = j then s else F j)).1) 8) ∧ (_ : sA) (P + 6) (key (sn w kd cs (if j = j then s else F j))) = nI (j + 1)
        rw [if_pos rfl, if_pos rfl]
        refine ⟨by omega, by omega, ?_, ?_, ?_, ?_, ?_⟩
        · rw [nn _ _ 2 4 (by decide), nn _ _ 2 5 (by decide), nn _ _ 2 4 (by decide), nn _ _ 2 3 (by decide), up_same, upd_same]
        · rw [nn _ _ 3 4 (by decide), nn _ _ 3 5 (by decide), nn _ _ 3 4 (by decide), up_same, upd_same]
        · rw [up_same, upd_same]; rfl
        · rw [nn _ _ 5 4 (by decide), up_same, upd_same]
        · rw [nn _ _ 6 4 (by decide), nn _ _ 6 5 (by decide), nn _ _ 6 4 (by decide), nn _ _ 6 3 (by decide), nn _ _ 6 2 (by decide), up_same, upd_same]
      · have hj : j < G := by omega
        obtain ⟨g1, g2, g3, g4, g5, g6, g7⟩ := h3 j hj
        show (if j = G then s else F j) < s + 1 ∧ (if j = G then 1 else Z j) ≤ s + 1 ∧ _ = nI (pkS (sn w kd cs (if j = G then s else F j))) ∧ _ = nI (if j = G then s else F j) ∧ _ = nI (if j = G then 1 else Z j) ∧ _ = nI (wS (a 6) (nI (sn w kd cs (if j = G then s else F j)).1) 8) ∧ (_ : sA) (P + 6) (key (sn w kd cs (if j = G then s else F j))) = nI (j + 1)
        rw [if_neg e9, if_neg e9]
        refine ⟨by omega, by omega, ?_, ?_, ?_, ?_, ?_⟩
        · rw [nn _ _ 2 4 (by decide), nn _ _ 2 5 (by decide), nn _ _ 2 4 (by decide), nn _ _ 2 3 (by decide), up_same, upd_ne e9]; exact g3
        · rw [nn _ _ 3 4 (by decide), nn _ _ 3 5 (by decide), nn _ _ 3 4 (by decide), up_same, upd_ne e9]; exact g4
        · rw [up_same, upd_ne e9, upd_ne e9]; exact g5
        · rw [nn _ _ 5 4 (by decide), up_same, upd_ne e9]; exact g6
        · rw [nn _ _ 6 4 (by decide), nn _ _ 6 5 (by decide), nn _ _ 6 4 (by decide), nn _ _ 6 3 (by decide), nn _ _ 6 2 (by decide), up_same, upd_ne (hne j hj)]; exact g7
    · show (if i = G then s else F i) < (if j = G then s else F j)
      rw [if_neg (by omega)]
      by_cases e9 : j = G
      · rw [if_pos e9]; exact (h3 i (by omega)).1
      · rw [if_neg e9]; exact h4 i j hij (by omega)
    · by_cases e9 : i = s
      · subst e9
        refine ⟨G, by omega, ?_, ?_⟩
        · show (if G = G then i else F G) ≤ i
          rw [if_pos rfl]; omega
        · show key (sn w kd cs (if G = G then i else F G)) = _
          rw [if_pos rfl]
      · obtain ⟨g, hg, g1, g2⟩ := h5 i (by omega)
        refine ⟨g, by omega, ?_, ?_⟩
        · show (if g = G then s else F g) ≤ i
          rw [if_neg (by omega)]; exact g1
        · show key (sn w kd cs (if g = G then s else F g)) = _
          rw [if_neg (by omega)]; exact g2
    · have n1 : k ≠ key (sn w kd cs s) := by
        have := hk3 G (by omega)
        have : key (sn w kd cs (if G = G then s else F G)) ≠ k := this
        rw [if_pos rfl] at this
        exact fun e9 => this e9.symm
      rw [nn _ _ 6 4 (by decide), nn _ _ 6 5 (by decide), nn _ _ 6 4 (by decide), nn _ _ 6 3 (by decide), nn _ _ 6 2 (by decide), up_same, upd_ne n1]
      refine h6 k hk2 (fun g hg => ?_)
      have := hk3 g (by omega)
      have : key (sn w kd cs (if g = G then s else F g)) ≠ k := this
      rw [if_neg (by omega)] at this
      exact this
    · show sumN (fun g => (if g = G then 1 else Z g) * φ (key (sn w kd cs (if g = G then s else F g)))) G + (if G = G then 1 else Z G) * φ (key (sn w kd cs (if G = G then s else F G))) = sumN (fun i => φ (key (sn w kd cs i))) s + φ (key (sn w kd cs s))
      rw [if_pos rfl, if_pos rfl, Nat.one_mul, ← h7 φ]
      congr 1
      refine sumN_congr G (fun g hg => ?_)
      show (if g = G then 1 else Z g) * φ (key (sn w kd cs (if g = G then s else F g))) = Z g * φ (key (sn w kd cs (F g)))
      rw [if_neg (by omega), if_neg (by omega)]
    · rw [up_ne (by omega), up_ne (by omega), up_ne (by omega), up_ne (by omega), up_ne (by omega), up_ne (by omega)]
end CL
