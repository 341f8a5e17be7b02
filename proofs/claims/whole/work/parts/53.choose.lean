/-! which sayings answer, and which of them a talker gives: pure, and by the class -/
def mfI (L x1 x2 x3 x4 : Int32) : Bool := if L = 0 then !decide (x3 ≤ x1) else if L = 1 then !decide (x3 < x1) else if L = 2 then !decide (x3 - x4 ≤ x1 - x2) else if L = 3 then decide (x1 = x3 + 1) else true
def osI (m q : Int32) : Bool := decide (m &&& (q ^^^ (-1 : Int32)) = 0) || decide (m &&& q = 0)
def stI (q m : Int32) : Bool := !decide (m = 0) && osI m q
theorem bbN {p : Prop} [Decidable p] {t : sT} {a : sA} : (if p then zok (0 : Int32) (some ((0 : Int32), t, a)) else zok (1 : Int32) (some ((1 : Int32), t, a))) = some (b2I (!decide p), t, a) := by
  by_cases h : p
  · rw [if_pos h, decide_eq_true h]; rfl
  · rw [if_neg h, decide_eq_false h]; rfl
theorem bbY {p : Prop} [Decidable p] {t : sT} {a : sA} : (if p then zok (1 : Int32) (some ((1 : Int32), t, a)) else zok (0 : Int32) (some ((0 : Int32), t, a))) = some (b2I (decide p), t, a) := by
  by_cases h : p
  · rw [if_pos h, decide_eq_true h]; rfl
  · rw [if_neg h, decide_eq_false h]; rfl
theorem mfI8 {nF : Nat} {L x1 x2 x3 x4 : Int32} {t : sT} {a : sA} : fX8_mayFollow nF L x1 x2 x3 x4 t a = some (b2I (mfI L x1 x2 x3 x4), t, a) := by
  unfold fX8_mayFollow mfI
  by_cases g0 : L = 0
  · rw [if_pos g0, if_pos g0, bbN]
  rw [if_neg g0, if_neg g0]
  by_cases g1 : L = 1
  · rw [if_pos g1, if_pos g1, bbN]
  rw [if_neg g1, if_neg g1]
  by_cases g2 : L = 2
  · rw [if_pos g2, if_pos g2, bbN]
  rw [if_neg g2, if_neg g2]
  by_cases g3 : L = 3
  · rw [if_pos g3, if_pos g3, bbY]
  rw [if_neg g3, if_neg g3]
  rfl
theorem osI7 {nF : Nat} {m q : Int32} {t : sT} {a : sA} : fX7_isOnOneSide nF m q t a = some (b2I (osI m q), t, a) := by
  unfold fX7_isOnOneSide osI
  by_cases g1 : m &&& (q ^^^ (-1 : Int32)) = 0
  · rw [if_pos g1, decide_eq_true g1]; rfl
  · rw [if_neg g1, decide_eq_false g1, Bool.false_or, bbY]
theorem stI7 {nF : Nat} {m q : Int32} {t : sT} {a : sA} : fX7_isSettled nF q m t a = some (b2I (stI q m), t, a) := by
  unfold fX7_isSettled stI
  by_cases g1 : m = 0
  · rw [if_pos g1, decide_eq_true g1]; rfl
  · rw [if_neg g1, decide_eq_false g1, osI7, calS]
    cases osI m q <;> rfl
theorem stI8 {nF : Nat} {m q : Int32} {t : sT} {a : sA} : fX8_doesSettle nF q m t a = some (b2I (stI q m), t, a) := by
  unfold fX8_doesSettle stI osI
  by_cases g1 : m = 0
  · rw [if_pos g1, decide_eq_true g1]; rfl
  · rw [if_neg g1, decide_eq_false g1]
    by_cases g2 : m &&& (q ^^^ (-1 : Int32)) = 0
    · rw [if_pos g2, decide_eq_true g2]; rfl
    · rw [if_neg g2, decide_eq_false g2, Bool.false_or, bbY]; rfl
def wtA (A : Nat → Int32) (m : Nat) : Nat := wS A (nI m) 8
theorem wtA_le {A : Nat → Int32} (hb : okB A) (m : Nat) : wtA A m ≤ 72 := wS_le hb (nI m) (Nat.le_refl 8)
def btN (m c : Nat) : Bool := decide (m / 2 ^ c % 2 = 1)
def rkN (j v n : Nat) : Nat := if j = 0 then v else if j = 1 then 100 - v else if j = 2 then (10 - n) * 1000 + v else if j = 3 then n * 1000 + (100 - v) else 0
theorem rkN_0 {v n : Nat} : rkN 0 v n = v := rfl
theorem rkN_1 {v n : Nat} : rkN 1 v n = 100 - v := rfl
theorem rkN_2 {v n : Nat} : rkN 2 v n = (10 - n) * 1000 + v := rfl
theorem rkN_3 {v n : Nat} : rkN 3 v n = n * 1000 + (100 - v) := rfl
theorem rkN_4 {v n : Nat} : rkN 4 v n = 0 := rfl
def rk (A : Nat → Int32) (j : Nat) (x : Sn) : Nat := rkN j (wtA A x.1) x.2.2.2
def ansB (L : Int32) (q x : Sn) : Bool := mfI L (nI x.2.2.2) (nI x.2.2.1) (nI q.2.2.2) (nI q.2.2.1) && stI (nI q.1) (nI x.1)
def elB (L : Int32) (q : Sn) (c : Nat) (x : Sn) : Bool := btN x.1 c && ansB L q x
/-- alike in all that counts -/
def sk (x y : Sn) : Prop := x.1 = y.1 ∧ x.2.2.1 = y.2.2.1 ∧ x.2.2.2 = y.2.2.2
theorem ansB_sk {L : Int32} {q x y : Sn} (h : sk x y) : ansB L q x = ansB L q y := by unfold ansB; rw [h.1, h.2.1, h.2.2]
theorem ansB_sq {L : Int32} {q q' x : Sn} (h : sk q q') : ansB L q x = ansB L q' x := by unfold ansB; rw [h.1, h.2.1, h.2.2]
theorem elB_sk {L : Int32} {q x y : Sn} {c : Nat} (h : sk x y) : elB L q c x = elB L q c y := by unfold elB; rw [ansB_sk h, h.1]
theorem rk_sk {A : Nat → Int32} {j : Nat} {x y : Sn} (h : sk x y) : rk A j x = rk A j y := by unfold rk; rw [h.1, h.2.2]
theorem key_sk {x y : Sn} (h : okX x 3) (h' : okX y 3) (e : key x = key y) : sk x y := key_inj h h' e
def pkO (w : Nat) (kd cs : Nat → Nat) (A : Nat → Int32) (j : Nat) (L : Int32) (q : Sn) (c : Nat) : Option Nat := pick (fun i => elB L q c (sn w kd cs i)) (fun i => rk A j (sn w kd cs i)) (lv w 3)
def oW (w : Nat) (kd cs : Nat → Nat) (A : Nat → Int32) : Option Nat → Nat
  | none => wtA A 255
  | some b => wtA A (sn w kd cs b).1
/-- what a question leaves -/
def LF (w : Nat) (kd cs : Nat → Nat) (A : Nat → Int32) (j : Nat) (L : Int32) (q : Sn) : Nat := sumN (fun c => (A c).toNatClampNeg * oW w kd cs A (pkO w kd cs A j L q c)) 8
def bestO (w : Nat) (kd cs : Nat → Nat) (A : Nat → Int32) (j : Nat) (L : Int32) : Option Nat := pick (fun i => decide (1 ≤ i)) (fun i => 6000 - LF w kd cs A j L (sn w kd cs i)) (lv w 3)
theorem oW_le {w : Nat} {kd cs : Nat → Nat} {A : Nat → Int32} (hb : okB A) (o : Option Nat) : oW w kd cs A o ≤ 72 := by
  cases o with
  | none => exact wtA_le hb _
  | some b => exact wtA_le hb _
theorem LF_le {w : Nat} {kd cs : Nat → Nat} {A : Nat → Int32} {j : Nat} {L : Int32} {q : Sn} (hb : okB A) : LF w kd cs A j L q ≤ 5184 := by
  have := sumN_le (f := fun c => (A c).toNatClampNeg * oW w kd cs A (pkO w kd cs A j L q c)) (B := 648) 8 (fun i hi => by
    obtain ⟨k, hk, e⟩ := hb i hi
    have h1 := oW_le (w := w) (kd := kd) (cs := cs) hb (pkO w kd cs A j L q i)
    have h2 : (A i).toNatClampNeg ≤ 9 := by rw [e, nI_cl (by omega)]; exact hk
    exact Nat.mul_le_mul h2 h1)
  exact this
theorem pkO_sq {w : Nat} {kd cs : Nat → Nat} {A : Nat → Int32} {j c : Nat} {L : Int32} {q q' : Sn} (h : sk q q') : pkO w kd cs A j L q c = pkO w kd cs A j L q' c := by
  unfold pkO elB
  refine pick_congr _ (fun i _ => ?_) (fun _ _ => rfl)
  rw [ansB_sq h]
theorem LF_sq {w : Nat} {kd cs : Nat → Nat} {A : Nat → Int32} {j : Nat} {L : Int32} {q q' : Sn} (h : sk q q') : LF w kd cs A j L q = LF w kd cs A j L q' := by
  unfold LF
  refine sumN_congr 8 (fun c _ => ?_)
  rw [pkO_sq h]
/-! numbers told apart by differences -/
section SUB
variable {a b : Nat}
theorem sub_le0 (ha : a < 2 ^ 30) (hb : b < 2 ^ 30) : nI a - nI b ≤ 0 ↔ a ≤ b := by
  rw [Int32.le_iff_toInt_le, pk_sub_toInt ha hb]; have : (0 : Int32).toInt = 0 := rfl
  omega
theorem sub_ge0 (ha : a < 2 ^ 30) (hb : b < 2 ^ 30) : 0 ≤ nI a - nI b ↔ b ≤ a := by
  rw [Int32.le_iff_toInt_le, pk_sub_toInt ha hb]; have : (0 : Int32).toInt = 0 := rfl
  omega
theorem sub_lt0 (ha : a < 2 ^ 30) (hb : b < 2 ^ 30) : nI a - nI b < 0 ↔ a < b := by
  rw [Int32.lt_iff_toInt_lt, pk_sub_toInt ha hb]; have : (0 : Int32).toInt = 0 := rfl
  omega
theorem sub_gt0 (ha : a < 2 ^ 30) (hb : b < 2 ^ 30) : 0 < nI a - nI b ↔ b < a := by
  rw [Int32.lt_iff_toInt_lt, pk_sub_toInt ha hb]; have : (0 : Int32).toInt = 0 := rfl
  omega
theorem sub_eq0 (ha : a < 2 ^ 30) (hb : b < 2 ^ 30) : nI a - nI b = 0 ↔ a = b := by
  rw [← Int32.toInt_inj, pk_sub_toInt ha hb]; have : (0 : Int32).toInt = 0 := rfl
  omega
end SUB
theorem bit_cl : ∀ c, c < 8 → (((nI c) &&& 31).toBitVec.smod 32).toNat = c := by decide
theorem bit_n {n c : Nat} (hn : n < 2 ^ 31) (hc : c < 8) : ((nI n >>> (nI c &&& 31)) &&& (1 : Int32)) = nI (n / 2 ^ c % 2) := by
  rw [pk_shrN hn _ c (bit_cl c hc), pk_andN (by have := Nat.div_le_self n (2 ^ c); omega) 1 (by decide)]
theorem bit_0 {n c : Nat} (hn : n < 2 ^ 31) (hc : c < 8) : ((nI n >>> (nI c &&& 31)) &&& (1 : Int32)) = 0 ↔ btN n c = false := by
  rw [bit_n hn hc, nI0 (by omega)]
  unfold btN
  rw [decide_eq_false_iff_not]
  omega
theorem bit_pk {x : Sn} {k c : Nat} (h : okX x k) (hk : k ≤ 6) (hc : c < 8) : ((nI (pkS x) >>> (nI c &&& 31)) &&& (1 : Int32)) = 0 ↔ btN x.1 c = false := by
  obtain ⟨h1, h2, h3, h4⟩ := h
  have h17 := pk17 (id := x.2.2.1) (ln := x.2.2.2) h1 h2 (by omega) (by omega)
  have e : btN (pkS x) c = btN x.1 c := by
    unfold btN pkS pk
    have : (x.1 + 256 * x.2.1 + 2048 * x.2.2.1 + 16384 * x.2.2.2) / 2 ^ c % 2 = x.1 / 2 ^ c % 2 := by
      have hc8 : c = 0 ∨ c = 1 ∨ c = 2 ∨ c = 3 ∨ c = 4 ∨ c = 5 ∨ c = 6 ∨ c = 7 := by omega
      rcases hc8 with rfl | rfl | rfl | rfl | rfl | rfl | rfl | rfl <;> omega
    rw [this]
  unfold pkS at *
  rw [bit_0 (by omega) hc, e]
theorem GR.fr {P w : Nat} {kd cs : Nat → Nat} {A : Nat → Int32} {G : Nat} {F Z : Nat → Nat} {s : Nat} {t t' : sT} {a a' : sA} (h : GR P w kd cs A G F Z s t a) (ht : t' (64 * P + 14) = t (64 * P + 14)) (ha : ∀ k, P + 2 ≤ k → k ≤ P + 6 → a' k = a k) : GR P w kd cs A G F Z s t' a' := by
  unfold GR
  rw [ht, ha (P + 2) (by omega) (by omega), ha (P + 3) (by omega) (by omega), ha (P + 4) (by omega) (by omega), ha (P + 5) (by omega) (by omega), ha (P + 6) (by omega) (by omega)]
  exact h
def FX (P w : Nat) (kd cs : Nat → Nat) (A : Nat → Int32) (G : Nat) (F Z : Nat → Nat) (t : sT) (a : sA) : Prop := t (64 * P + 12) = nI w ∧ t (64 * P + 13) = nI (lv w 3) ∧ (∀ i, i < lv w 3 → a (P + 1) i = nI (pkS (sn w kd cs i))) ∧ GR P w kd cs A G F Z (lv w 3) t a
theorem FX.fr {P w : Nat} {kd cs : Nat → Nat} {A : Nat → Int32} {G : Nat} {F Z : Nat → Nat} {t t' : sT} {a a' : sA} (h : FX P w kd cs A G F Z t a) (ht : ∀ q, 64 * P + 12 ≤ q → q ≤ 64 * P + 14 → t' q = t q) (ha : ∀ k, P + 1 ≤ k → k ≤ P + 6 → a' k = a k) : FX P w kd cs A G F Z t' a' := by
  obtain ⟨h1, h2, h3, h4⟩ := h
  exact ⟨by rw [ht _ (by omega) (by omega)]; exact h1, by rw [ht _ (by omega) (by omega)]; exact h2, by rw [ha _ (by omega) (by omega)]; exact h3, h4.fr (ht _ (by omega) (by omega)) (fun k h1 h2 => ha k (by omega) h2)⟩
theorem FX.fr1 {P w : Nat} {kd cs : Nat → Nat} {A : Nat → Int32} {G : Nat} {F Z : Nat → Nat} {t t' : sT} {a a' : sA} (h : FX P w kd cs A G F Z t a) (ht : ∀ q, q ≠ 64 * P + 15 → t' q = t q) (ha : ∀ k, k ≠ P + 7 → a' k = a k) : FX P w kd cs A G F Z t' a' := h.fr (fun q h1 h2 => ht q (by omega)) (fun k h1 h2 => ha k (by omega))
/-- the groups gathered -/
def FT (P w : Nat) (kd cs : Nat → Nat) (F : Nat → Nat) (L : Int32) (q : Sn) (G f : Nat) (fit : Nat → Nat) (t : sT) (a : sA) : Prop := t (64 * P + 15) = nI f ∧ f ≤ G ∧ (∀ k, k < f → fit k < G ∧ a (P + 7) k = nI (fit k) ∧ ansB L q (sn w kd cs (F (fit k))) = true) ∧ (∀ i k, i < k → k < f → fit i < fit k) ∧ (∀ g, g < G → ansB L q (sn w kd cs (F g)) = true → ∃ k, k < f ∧ fit k = g) ∧ ∀ ψ : Nat → Nat, sumN (fun k => ψ (fit k)) f = sumN (fun g => if ansB L q (sn w kd cs (F g)) then ψ g else 0) G
section CH
variable {nF P w : Nat} {kd cs : Nat → Nat} {A : Nat → Int32} {G : Nat} {F Z : Nat → Nat} {t : sT} {a : sA}
theorem FX.b (hw : w ≤ 8) (h : FX P w kd cs A G F Z t a) : G ≤ 585 ∧ ∀ g, g < G → F g < lv w 3 := by
  obtain ⟨-, -, -, -, h2, h3, -⟩ := h
  exact ⟨Nat.le_trans h2 (lv_3 hw), fun g hg => (h3 g hg).1⟩
theorem gather_ok (hF : 1000 ≤ nF) (hT : okT kd cs) (hw : w ≤ 8) (h : FX P w kd cs A G F Z t a) {q : Sn} (hq : okX q 6) (L : Int32) : ∃ t' a' f fit, fX3_gather nF P (nI (pkS q)) L t a = some (0, t', a') ∧ FX P w kd cs A G F Z t' a' ∧ FT P w kd cs F L q G f fit t' a' ∧ (∀ q, q ≠ 64 * P + 15 → t' q = t q) ∧ ∀ k, k ≠ P + 7 → a' k = a k := by
  obtain ⟨hG, hFl⟩ := h.b hw
  have h0 := h
  obtain ⟨-, -, -, e14, -, h3, -⟩ := h
  have go : ∀ d g n f (fit : Nat → Nat) (t9 : sT) (a9 : sA), g + d = G → d < n → t9 (64 * P + 14) = nI G → a9 (P + 2) = a (P + 2) → FT P w kd cs F L q g f fit t9 a9 → ∃ t' a' f fit, gX3_gather nF P n (nI (pkS q)) L (nI q.1) (nI g) t9 a9 = some (0, t', a') ∧ FT P w kd cs F L q G f fit t' a' ∧ (∀ q, q ≠ 64 * P + 15 → t' q = t9 q) ∧ ∀ k, k ≠ P + 7 → a' k = a9 k := by
    intro d
    induction d with
    | zero =>
      intro g n f fit t9 a9 hg hn e1 e2 hf
      obtain ⟨n, rfl⟩ : ∃ m, n = m + 1 := ⟨n - 1, by omega⟩
      have : g = G := by omega
      subst this
      refine ⟨t9, a9, f, fit, ?_, hf, fun _ _ => rfl, fun _ _ => rfl⟩
      show gX3_gather_13 nF P (gX3_gather nF P n) _ _ _ _ t9 a9 = _
      unfold gX3_gather_13
      rw [e1, if_pos ((x_le (by omega) (by omega)).mpr (Nat.le_refl g))]
    | succ d ih =>
      intro g n f fit t9 a9 hg hn e1 e2 hf
      obtain ⟨n, rfl⟩ : ∃ m, n = m + 1 := ⟨n - 1, by omega⟩
      obtain ⟨-, -, g3, -⟩ := h3 g (by omega)
      have ok := sn_ok hT 3 (F g) (hFl g (by omega))
      have e9 : gX3_gather nF P (n + 1) (nI (pkS q)) L (nI q.1) (nI g) t9 a9 = (if ansB L q (sn w kd cs (F g)) = true then bnd (t9 (64 * P + 15)) 585 (gX3_gather nF P n (nI (pkS q)) L (nI q.1) (nI (g + 1)) (va_up t9 (64 * P + 15) (t9 (64 * P + 15) + 1)) (va_up a9 (P + 7) (upd (a9 (P + 7)) (t9 (64 * P + 15)).toNatClampNeg (nI g)))) else gX3_gather nF P n (nI (pkS q)) L (nI q.1) (nI (g + 1)) t9 a9) := by
        show gX3_gather_13 nF P (gX3_gather nF P n) _ _ _ _ t9 a9 = _
        unfold gX3_gather_13 ansB
        rw [e1, if_neg (by rw [x_le (by omega) (by omega)]; omega), bnd_ok (by omega) (by decide), nI_cl (by omega), e2, g3, x_mean ok (by decide), calS, stI7, calS, nI_1]
        cases stI (nI q.1) (nI (sn w kd cs (F g)).1)
        · rw [b2F, if_pos rfl, Bool.and_false, if_neg Bool.false_ne_true]
        · have m := mf78 (nF := nF) (L := L) (t := t9) (a := a9) ok.1 ok.2.1 (show (sn w kd cs (F g)).2.2.1 < 8 by have := ok.2.2.1; have := ok.2.2.2; omega) (show (sn w kd cs (F g)).2.2.2 < 8 by have := ok.2.2.2; omega) hq.1 hq.2.1 (show q.2.2.1 < 8 by have := hq.2.2.1; have := hq.2.2.2; omega) (show q.2.2.2 < 8 by have := hq.2.2.2; omega)
          have m2 : fX7_mayFollow nF L (nI (pkS (sn w kd cs (F g)))) (nI (pkS q)) t9 a9 = _ := m
          rw [b2T, if_neg one0, m2, mfI8, calS, Bool.and_true]
          cases mfI L (nI (sn w kd cs (F g)).2.2.2) (nI (sn w kd cs (F g)).2.2.1) (nI q.2.2.2) (nI q.2.2.1)
          · rw [b2F, if_pos rfl, if_neg Bool.false_ne_true]
          · rw [b2T, if_neg one0, if_pos rfl]
      rw [e9]
      obtain ⟨k1, k2, k3, k4, k5, k6⟩ := hf
      by_cases hb : ansB L q (sn w kd cs (F g)) = true
      · rw [if_pos hb, k1, bnd_ok (by omega) (by decide), nI_cl (by omega), nI_1]
        have hf2 : FT P w kd cs F L q (g + 1) (f + 1) (fun k => if k = f then g else fit k) (va_up t9 (64 * P + 15) (nI (f + 1))) (va_up a9 (P + 7) (upd (a9 (P + 7)) f (nI g))) := by
          refine ⟨up_same _ _ _, by omega, fun k hk => ?_, fun i k hik hk => ?_, fun g' hg' hg2 => ?_, fun ψ => ?_⟩
          · show (if k = f then g else fit k) < g + 1 ∧ _ = nI (if k = f then g else fit k) ∧ ansB L q (sn w kd cs (F (if k = f then g else fit k))) = true
            rw [up_same]
            by_cases e : k = f
            · rw [if_pos e, e, upd_same]; exact ⟨by omega, rfl, hb⟩
            · rw [if_neg e, upd_ne e]
              obtain ⟨j1, j2, j3⟩ := k3 k (by omega)
              exact ⟨by omega, j2, j3⟩
          · show (if i = f then g else fit i) < (if k = f then g else fit k)
            rw [if_neg (by omega)]
            by_cases e : k = f
            · rw [if_pos e]; exact (k3 i (by omega)).1
            · rw [if_neg e]; exact k4 i k hik (by omega)
          · by_cases e : g' = g
            · exact ⟨f, by omega, by show (if f = f then g else fit f) = g'; rw [if_pos rfl, e]⟩
            · obtain ⟨k, j1, j2⟩ := k5 g' (by omega) hg2
              exact ⟨k, by omega, by show (if k = f then g else fit k) = g'; rw [if_neg (by omega), j2]⟩
          · show sumN (fun k => ψ (if k = f then g else fit k)) f + ψ (if f = f then g else fit f) = sumN (fun g => if ansB L q (sn w kd cs (F g)) then ψ g else 0) g + (if ansB L q (sn w kd cs (F g)) then ψ g else 0)
            rw [if_pos rfl, if_pos hb, ← k6 ψ]
            congr 1
            refine sumN_congr f (fun k hk => ?_)
            show ψ (if k = f then g else fit k) = ψ (fit k)
            rw [if_neg (by omega)]
        obtain ⟨t', a', f', fit', i1, i2, i3, i4⟩ := ih (g + 1) n (f + 1) _ _ _ (by omega) (by omega) (by rw [up_ne (by omega)]; exact e1) (by rw [up_ne (by omega)]; exact e2) hf2
        exact ⟨t', a', f', fit', i1, i2, fun q hq => by rw [i3 q hq, up_ne hq], fun k hk => by rw [i4 k hk, up_ne hk]⟩
      · rw [if_neg hb]
        exact ih (g + 1) n f fit t9 a9 (by omega) (by omega) e1 e2 ⟨k1, by omega, fun k hk => ⟨by have := (k3 k hk).1; omega, (k3 k hk).2⟩, k4, fun g' hg' hg2 => by
          by_cases e : g' = g
          · subst e; exact absurd hg2 hb
          · exact k5 g' (by omega) hg2, fun ψ => by
          show _ = sumN (fun g => if ansB L q (sn w kd cs (F g)) then ψ g else 0) g + (if ansB L q (sn w kd cs (F g)) then ψ g else 0)
          rw [if_neg hb, k6 ψ]; rfl⟩
  obtain ⟨t', a', f, fit, i1, i2, i3, i4⟩ := go G 0 nF 0 (fun _ => 0) (va_up t (64 * P + 15) 0) a (by omega) (by omega) (by rw [up_ne (by omega)]; exact e14) rfl ⟨up_same _ _ _, Nat.le_refl 0, fun k hk => absurd hk (Nat.not_lt_zero k), fun _ k _ hk => absurd hk (Nat.not_lt_zero k), fun g hg => absurd hg (Nat.not_lt_zero g), fun _ => rfl⟩
  have i3' : ∀ q, q ≠ 64 * P + 15 → t' q = t q := fun q hq => by rw [i3 q hq, up_ne hq]
  refine ⟨t', a', f, fit, ?_, h0.fr1 i3' i4, i2, i3', i4⟩
  unfold fX3_gather
  rw [x_mean hq (by decide), calS]
  exact i1
theorem holds_ok (hT : okT kd cs) (hw : w ≤ 8) (h : FX P w kd cs A G F Z t a) {g c : Nat} (hg : g < G) (hc : c < 8) : fX3_holdsCase nF P (nI g) (nI c) t a = some (b2I (btN (sn w kd cs (F g)).1 c), t, a) := by
  obtain ⟨hG, hFl⟩ := h.b hw
  obtain ⟨-, -, -, -, -, h3, -⟩ := h
  obtain ⟨-, -, g3, -⟩ := h3 g hg
  have ok := sn_ok hT 3 (F g) (hFl g hg)
  unfold fX3_holdsCase
  rw [bnd_ok (by omega) (by decide), nI_cl (by omega), g3]
  have := bit_pk ok (by decide) hc
  cases e : btN (sn w kd cs (F g)).1 c
  · rw [if_pos (this.mpr e)]; rfl
  · rw [if_neg (fun y => by rw [this.mp y] at e; exact absurd e (by decide))]; rfl
theorem liked_ok (hT : okT kd cs) (hw : w ≤ 8) (hA : okB A) (h : FX P w kd cs A G F Z t a) {g b j : Nat} (hg : g < G) (hb : b < G) (hj : j < 5) : fX3_isLiked nF P (nI j) (nI g) (nI b) t a = some (b2I (decide (rk A j (sn w kd cs (F b)) < rk A j (sn w kd cs (F g)))), t, a) := by
  obtain ⟨hG, hFl⟩ := h.b hw
  obtain ⟨-, -, -, -, -, h3, -⟩ := h
  obtain ⟨-, -, g3, -, -, g6, -⟩ := h3 g hg
  obtain ⟨-, -, b3, -, -, b6, -⟩ := h3 b hb
  have og := sn_ok hT 3 (F g) (hFl g hg)
  have ob := sn_ok hT 3 (F b) (hFl b hb)
  have wg : wS A (nI (sn w kd cs (F g)).1) 8 ≤ 72 := wtA_le hA _
  have wb : wS A (nI (sn w kd cs (F b)).1) 8 ≤ 72 := wtA_le hA _
  unfold fX3_isLiked
  rw [bnd_ok (by omega) (by decide), bnd_ok (by omega) (by decide), bnd_ok (by omega) (by decide), nI_cl (by omega), g3, x_len og (by decide), calS, bnd_ok (by omega) (by decide), nI_cl (by omega), b3, x_len ob (by decide), calS, g6, b6]
  unfold rk wtA
  have lg := og.2.2.2
  have lb := ob.2.2.2
  generalize (sn w kd cs (F g)).2.2.2 = n1 at *
  generalize (sn w kd cs (F b)).2.2.2 = n2 at *
  generalize wS A (nI (sn w kd cs (F g)).1) 8 = v1 at *
  generalize wS A (nI (sn w kd cs (F b)).1) 8 = v2 at *
  have hj5 : j = 0 ∨ j = 1 ∨ j = 2 ∨ j = 3 ∨ j = 4 := by omega
  have s1 := sub_le0 (a := v1) (b := v2) (by omega) (by omega)
  have s2 := sub_ge0 (a := v1) (b := v2) (by omega) (by omega)
  have s3 := sub_lt0 (a := n1) (b := n2) (by omega) (by omega)
  have s4 := sub_eq0 (a := n1) (b := n2) (by omega) (by omega)
  have s5 := sub_gt0 (a := n1) (b := n2) (by omega) (by omega)
  rcases hj5 with rfl | rfl | rfl | rfl | rfl
  · rw [if_pos (show nI 0 = (0 : Int32) from rfl), bbN, rkN_0, rkN_0]
    have : (!decide (nI v1 - nI v2 ≤ 0)) = decide (v2 < v1) := by rw [decide_eq_decide.mpr s1, ← decide_not]; exact decide_eq_decide.mpr (by omega)
    rw [this]
  · rw [if_neg (show ¬ nI 1 = (0 : Int32) by decide), if_pos (show nI 1 = (1 : Int32) from rfl), bbN, rkN_1, rkN_1]
    have : (!decide (0 ≤ nI v1 - nI v2)) = decide (100 - v2 < 100 - v1) := by rw [decide_eq_decide.mpr s2, ← decide_not]; exact decide_eq_decide.mpr (by omega)
    rw [this]
  · rw [if_neg (show ¬ nI 2 = (0 : Int32) by decide), if_neg (show ¬ nI 2 = (1 : Int32) by decide), if_pos (show nI 2 = (2 : Int32) from rfl), rkN_2, rkN_2]
    by_cases g1 : n1 < n2
    · rw [if_pos (s3.mpr g1), decide_eq_true (show (10 - n2) * 1000 + v2 < (10 - n1) * 1000 + v1 by omega)]; rfl
    · rw [if_neg (fun y => g1 (s3.mp y))]
      by_cases g2 : n1 = n2
      · subst g2
        rw [if_pos (s4.mpr rfl), bbN]
        have : (!decide (nI v1 - nI v2 ≤ 0)) = decide ((10 - n1) * 1000 + v2 < (10 - n1) * 1000 + v1) := by rw [decide_eq_decide.mpr s1, ← decide_not]; exact decide_eq_decide.mpr (by omega)
        rw [this]
      · rw [if_neg (fun y => g2 (s4.mp y)), decide_eq_false (show ¬ (10 - n2) * 1000 + v2 < (10 - n1) * 1000 + v1 by omega)]; rfl
  · rw [if_neg (show ¬ nI 3 = (0 : Int32) by decide), if_neg (show ¬ nI 3 = (1 : Int32) by decide), if_neg (show ¬ nI 3 = (2 : Int32) by decide), if_pos (show nI 3 = (3 : Int32) from rfl), rkN_3, rkN_3]
    by_cases g1 : n2 < n1
    · rw [if_pos (s5.mpr g1), decide_eq_true (show n2 * 1000 + (100 - v2) < n1 * 1000 + (100 - v1) by omega)]; rfl
    · rw [if_neg (fun y => g1 (s5.mp y))]
      by_cases g2 : n1 = n2
      · subst g2
        rw [if_pos (s4.mpr rfl), bbN]
        have : (!decide (0 ≤ nI v1 - nI v2)) = decide (n1 * 1000 + (100 - v2) < n1 * 1000 + (100 - v1)) := by rw [decide_eq_decide.mpr s2, ← decide_not]; exact decide_eq_decide.mpr (by omega)
        rw [this]
      · rw [if_neg (fun y => g2 (s4.mp y)), decide_eq_false (show ¬ n2 * 1000 + (100 - v2) < n1 * 1000 + (100 - v1) by omega)]; rfl
  · rw [if_neg (show ¬ nI 4 = (0 : Int32) by decide), if_neg (show ¬ nI 4 = (1 : Int32) by decide), if_neg (show ¬ nI 4 = (2 : Int32) by decide), if_neg (show ¬ nI 4 = (3 : Int32) by decide), rkN_4, rkN_4, decide_eq_false (show ¬ 0 < 0 by omega)]; rfl
def oG (fit : Nat → Nat) : Option Nat → Int32
  | none => -1
  | some k => nI (fit k)
/-- what the class chooses, against the choice among all sayings -/
def chS (G : Nat) (F : Nat → Nat) (v : Int32) (o : Option Nat) : Prop := match o with
  | none => v = -1
  | some b => ∃ g, g < G ∧ v = nI g ∧ F g = b
theorem chosen_ok (hF : 1000 ≤ nF) (hT : okT kd cs) (hw : w ≤ 8) (hA : okB A) (h : FX P w kd cs A G F Z t a) {L : Int32} {q : Sn} {f : Nat} {fit : Nat → Nat} (hf : FT P w kd cs F L q G f fit t a) {j c : Nat} (hj : j < 5) (hc : c < 8) : ∃ v, fX3_chosen nF P (nI j) (nI c) t a = some (v, t, a) ∧ chS G F v (pkO w kd cs A j L q c) := by
  obtain ⟨hG, hFl⟩ := h.b hw
  obtain ⟨k1, k2, k3, k4, k5, -⟩ := hf
  have ok : ∀ i, i < lv w 3 → okX (sn w kd cs i) 3 := fun i hi => sn_ok hT 3 i hi
  let e : Nat → Bool := fun k => btN (sn w kd cs (F (fit k))).1 c
  let r : Nat → Nat := fun k => rk A j (sn w kd cs (F (fit k)))
  have go : ∀ d k n, k + d = f → d < n → gX3_chosen nF P n (nI j) (nI c) (oG fit (pick e r k)) (nI k) t a = some (oG fit (pick e r f), t, a) := by
    intro d
    induction d with
    | zero =>
      intro k n hk hn
      obtain ⟨n, rfl⟩ : ∃ m, n = m + 1 := ⟨n - 1, by omega⟩
      have : k = f := by omega
      subst this
      show gX3_chosen_5 nF P (gX3_chosen nF P n) _ _ _ _ t a = _
      unfold gX3_chosen_5
      rw [k1, if_pos ((x_le (by omega) (by omega)).mpr (Nat.le_refl k))]
    | succ d ih =>
      intro k n hk hn
      obtain ⟨n, rfl⟩ : ∃ m, n = m + 1 := ⟨n - 1, by omega⟩
      obtain ⟨j1, j2, -⟩ := k3 k (by omega)
      have ih := ih (k + 1) n (by omega) (by omega)
      have e0 : pick e r (k + 1) = match pick e r k with
        | none => if e k then some k else none
        | some b => if e k && decide (r b < r k) then some k else some b := rfl
      show gX3_chosen_5 nF P (gX3_chosen nF P n) _ _ _ _ t a = _
      unfold gX3_chosen_5
      rw [k1, if_neg (by rw [x_le (by omega) (by omega)]; omega), bnd_ok (by omega) (by decide), nI_cl (by omega), j2, holds_ok hT hw h j1 hc, calS, nI_1]
      have ee : btN (sn w kd cs (F (fit k))).1 c = e k := rfl
      rw [ee]
      cases he : e k
      · rw [b2F, if_pos rfl]
        have : pick e r (k + 1) = pick e r k := by
          rw [e0, he]
          cases pick e r k <;> rfl
        rw [this] at ih
        exact ih
      · rw [b2T, if_neg one0]
        have hpl := fun b (hb : pick e r k = some b) => pick_lt hb
        cases hp : pick e r k with
        | none =>
          have : pick e r (k + 1) = some k := by rw [e0, hp, he]; rfl
          rw [this] at ih
          show (if (-1 : Int32) < 0 then _ else _) = _
          rw [if_pos (by decide)]
          exact ih
        | some b =>
          have hb := (k3 b (by have := (hpl b hp).1; omega)).1
          show (if nI (fit b) < 0 then _ else cal (fX3_isLiked nF P (nI j) (nI (fit k)) (nI (fit b)) t a) _) = _
          rw [if_neg (nneg (by omega)), liked_ok hT hw hA h j1 hb hj, calS]
          have rr : decide (rk A j (sn w kd cs (F (fit b))) < rk A j (sn w kd cs (F (fit k)))) = decide (r b < r k) := rfl
          rw [rr]
          cases hr : decide (r b < r k)
          · rw [b2F, if_pos rfl]
            have : pick e r (k + 1) = some b := by rw [e0, hp, he]; show (if true && decide (r b < r k) then some k else some b) = some b; rw [hr]; rfl
            rw [this] at ih
            exact ih
          · rw [b2T, if_neg one0]
            have : pick e r (k + 1) = some k := by rw [e0, hp, he]; show (if true && decide (r b < r k) then some k else some b) = some k; rw [hr]; rfl
            rw [this] at ih
            exact ih
  have hgo := go f 0 nF (by omega) (by omega)
  refine ⟨oG fit (pick e r f), hgo, ?_⟩
  obtain ⟨-, -, -, -, -, h3, h4, h5, -⟩ := h
  have hm : pkO w kd cs A j L q c = (pick e r f).map (fun k => F (fit k)) := by
    refine pick_map (fun k => F (fit k)) (fun k i hki hi => h4 _ _ (k4 k i hki hi) (k3 i hi).1) (fun k hk => hFl _ (k3 k hk).1) (fun k hk => ?_) (fun k hk => rfl) (fun i hi hei => ?_)
    · show btN (sn w kd cs (F (fit k))).1 c = (btN (sn w kd cs (F (fit k))).1 c && ansB L q (sn w kd cs (F (fit k))))
      rw [(k3 k hk).2.2, Bool.and_true]
    · have hei : (btN (sn w kd cs i).1 c && ansB L q (sn w kd cs i)) = true := hei
      rw [Bool.and_eq_true] at hei
      obtain ⟨g, hg, hgi, hke⟩ := h5 i hi
      have hs := key_sk (ok _ (hFl g hg)) (ok i hi) hke
      obtain ⟨k, hk, hfk⟩ := k5 g hg (by rw [ansB_sk hs]; exact hei.2)
      refine ⟨k, hk, by show F (fit k) ≤ i; rw [hfk]; exact hgi, ?_, ?_⟩
      · show btN (sn w kd cs (F (fit k))).1 c = true
        rw [hfk, hs.1]; exact hei.1
      · show rk A j (sn w kd cs (F (fit k))) = rk A j (sn w kd cs i)
        rw [hfk, rk_sk hs]
  rw [hm]
  cases hp : pick e r f with
  | none => rfl
  | some k => exact ⟨fit k, (k3 k (pick_lt hp).1).1, rfl, rfl⟩
end CH
