/-! which sayings answer, and which a talker gives: by the reference -/
def LI (w : Nat) (kd cs : Nat → Nat) (t : sT) (a : sA) : Prop := t 3227 = nI (lv w 3) ∧ ∀ i, i < lv w 3 → LsE w kd cs a i
def LQ (q : Sn) (L : Int32) (t : sT) : Prop := t 3228 = nI q.2.2.2 ∧ t 3229 = nI q.2.2.1 ∧ t 3230 = nI q.1 ∧ t 3231 = L
def AW (A : Nat → Int32) (a : sA) : Prop := ∀ c, c < 8 → a 57 c = A c
def o9 : Option Nat → Int32
  | none => -9
  | some b => nI b
section RM
variable {nF w : Nat} {kd cs : Nat → Nat} {A : Nat → Int32} {t : sT} {a : sA}
theorem LI.g (hw : w ≤ 8) (h : LI w kd cs t a) {i : Nat} (hi : i < lv w 3) : i < 585 ∧ a 62 i = nI (sn w kd cs i).2.2.2 ∧ a 649 i = nI (sn w kd cs i).1 ∧ a 650 i = nI (sn w kd cs i).2.2.1 := by
  obtain ⟨R, k, h1, h2, h3, h4, h5, h6, h7, h8⟩ := h.2 i hi
  exact ⟨by have := lv_3 hw; omega, by rw [h8]; exact h4, h6, h7⟩
theorem w8_ok (hF : 100 ≤ nF) (hA : okB A) (hw : AW A a) (x : Int32) : fX8_weightOf nF x t a = some (nI (wS A x 8), t, a) := by
  rw [weight8 hF (fun i hi => by rw [hw i hi]; exact hA i hi) x, wS_congr x (fun j hj => hw j hj)]
theorem isAns_ok (hw : w ≤ 8) (h : LI w kd cs t a) {q : Sn} {L : Int32} (hq : LQ q L t) {i : Nat} (hi : i < lv w 3) : fX8_isAnswer nF (nI i) t a = some (b2I (ansB L q (sn w kd cs i)), t, a) := by
  obtain ⟨h5, g1, g2, g3⟩ := h.g hw hi
  obtain ⟨q1, q2, q3, q4⟩ := hq
  unfold fX8_isAnswer ansB
  rw [bnd_ok h5 (by decide), bnd_ok h5 (by decide), nI_cl (by omega), g1, g3, q1, q2, q4, mfI8, calS]
  cases mfI L (nI (sn w kd cs i).2.2.2) (nI (sn w kd cs i).2.2.1) (nI q.2.2.2) (nI q.2.2.1)
  · rfl
  · rw [b2T, if_neg one0, bnd_ok h5 (by decide), g2, q3, stI8, calS]
    cases stI (nI q.1) (nI (sn w kd cs i).1) <;> rfl
theorem better_ok (hF : 100 ≤ nF) (hT : okT kd cs) (hA : okB A) (hw : w ≤ 8) (hAW : AW A a) (h : LI w kd cs t a) {i b j : Nat} (hi : i < lv w 3) (hb : b < lv w 3) (hj : j < 5) : fX8_isBetter nF (tkL j) (nI i) (nI b) t a = some (b2I (decide (rk A j (sn w kd cs b) < rk A j (sn w kd cs i))), t, a) := by
  obtain ⟨h5, g1, g2, g3⟩ := h.g hw hi
  obtain ⟨h5', g1', g2', g3'⟩ := h.g hw hb
  have wg : wS A (nI (sn w kd cs i).1) 8 ≤ 72 := wtA_le hA _
  have wb : wS A (nI (sn w kd cs b).1) 8 ≤ 72 := wtA_le hA _
  have og := (sn_ok (w := w) hT 3 i hi).2.2.2
  have ob := (sn_ok (w := w) hT 3 b hb).2.2.2
  unfold fX8_isBetter
  rw [bnd_ok h5 (by decide), nI_cl (by omega), g2, w8_ok hF hA hAW, calS, bnd_ok h5' (by decide), nI_cl (by omega), g2', w8_ok hF hA hAW, calS, bnd_ok h5 (by decide), bnd_ok h5' (by decide), bnd_ok h5 (by decide), bnd_ok h5' (by decide), bnd_ok h5 (by decide), bnd_ok h5' (by decide), bnd_ok h5 (by decide), bnd_ok h5' (by decide), g1, g1']
  unfold rk wtA
  generalize (sn w kd cs i).2.2.2 = n1 at *
  generalize (sn w kd cs b).2.2.2 = n2 at *
  generalize wS A (nI (sn w kd cs i).1) 8 = v1 at *
  generalize wS A (nI (sn w kd cs b).1) 8 = v2 at *
  have hj5 : j = 0 ∨ j = 1 ∨ j = 2 ∨ j = 3 ∨ j = 4 := by omega
  have s1 := sub_le0 (a := v1) (b := v2) (by omega) (by omega)
  have s2 := sub_ge0 (a := v1) (b := v2) (by omega) (by omega)
  have s3 := x_lt (a := n1) (b := n2) (by omega) (by omega)
  have s4 := x_eq (a := n1) (b := n2) (by omega) (by omega)
  have s5 := x_lt (a := n2) (b := n1) (by omega) (by omega)
  rcases hj5 with rfl | rfl | rfl | rfl | rfl
  · rw [if_neg (show ¬ tkL 0 = (98 : Int32) by decide), if_neg (show ¬ tkL 0 = (103 : Int32) by decide), if_pos (show tkL 0 = (104 : Int32) by decide), bbN, rkN_0, rkN_0]
    have : (!decide (nI v1 - nI v2 ≤ 0)) = decide (v2 < v1) := by rw [decide_eq_decide.mpr s1, ← decide_not]; exact decide_eq_decide.mpr (by omega)
    rw [this]
  · rw [if_neg (show ¬ tkL 1 = (98 : Int32) by decide), if_neg (show ¬ tkL 1 = (103 : Int32) by decide), if_neg (show ¬ tkL 1 = (104 : Int32) by decide), if_pos (show tkL 1 = (111 : Int32) by decide), bbN, rkN_1, rkN_1]
    have : (!decide (0 ≤ nI v1 - nI v2)) = decide (100 - v2 < 100 - v1) := by rw [decide_eq_decide.mpr s2, ← decide_not]; exact decide_eq_decide.mpr (by omega)
    rw [this]
  · rw [if_pos (show tkL 2 = (98 : Int32) by decide), rkN_2, rkN_2]
    by_cases g1 : n1 < n2
    · rw [if_pos (s3.mpr g1), decide_eq_true (show (10 - n2) * 1000 + v2 < (10 - n1) * 1000 + v1 by omega)]; rfl
    · rw [if_neg (fun y => g1 (s3.mp y))]
      by_cases g2 : n1 = n2
      · subst g2
        rw [if_pos rfl, bbN]
        have : (!decide (nI v1 - nI v2 ≤ 0)) = decide ((10 - n1) * 1000 + v2 < (10 - n1) * 1000 + v1) := by rw [decide_eq_decide.mpr s1, ← decide_not]; exact decide_eq_decide.mpr (by omega)
        rw [this]
      · rw [if_neg (fun y => g2 (s4.mp y)), decide_eq_false (show ¬ (10 - n2) * 1000 + v2 < (10 - n1) * 1000 + v1 by omega)]; rfl
  · rw [if_neg (show ¬ tkL 3 = (98 : Int32) by decide), if_pos (show tkL 3 = (103 : Int32) by decide), rkN_3, rkN_3]
    by_cases g1 : n2 < n1
    · rw [if_pos (s5.mpr g1), decide_eq_true (show n2 * 1000 + (100 - v2) < n1 * 1000 + (100 - v1) by omega)]; rfl
    · rw [if_neg (fun y => g1 (s5.mp y))]
      by_cases g2 : n1 = n2
      · subst g2
        rw [if_pos rfl, bbN]
        have : (!decide (0 ≤ nI v1 - nI v2)) = decide (n1 * 1000 + (100 - v2) < n1 * 1000 + (100 - v1)) := by rw [decide_eq_decide.mpr s2, ← decide_not]; exact decide_eq_decide.mpr (by omega)
        rw [this]
      · rw [if_neg (fun y => g2 (s4.mp y)), decide_eq_false (show ¬ n2 * 1000 + (100 - v2) < n1 * 1000 + (100 - v1) by omega)]; rfl
  · rw [if_neg (show ¬ tkL 4 = (98 : Int32) by decide), if_neg (show ¬ tkL 4 = (103 : Int32) by decide), if_neg (show ¬ tkL 4 = (104 : Int32) by decide), if_neg (show ¬ tkL 4 = (111 : Int32) by decide), rkN_4, rkN_4, decide_eq_false (show ¬ 0 < 0 by omega)]; rfl
theorem n9_nI {b : Nat} (h : b < 2 ^ 31) : ¬ nI b = (-9 : Int32) := fun e => by
  have := nneg h
  rw [e] at this
  exact this (by decide)
theorem answerOf_ok (hF : 1000 ≤ nF) (hT : okT kd cs) (hA : okB A) (hw : w ≤ 8) (hAW : AW A a) (h : LI w kd cs t a) {q : Sn} {L : Int32} (hq : LQ q L t) {j c : Nat} (hj : j < 5) (hc : c < 8) : fX8_answerOf nF (tkL j) (nI c) t a = some (o9 (pkO w kd cs A j L q c), t, a) := by
  have h585 := lv_3 hw
  have go : ∀ d i n, i + d = lv w 3 → d < n → gX8_answerOf nF n (tkL j) (nI c) (o9 (pick (fun i => elB L q c (sn w kd cs i)) (fun i => rk A j (sn w kd cs i)) i)) (nI i) t a = some (o9 (pkO w kd cs A j L q c), t, a) := by
    intro d
    induction d with
    | zero =>
      intro i n hi hn
      obtain ⟨n, rfl⟩ : ∃ m, n = m + 1 := ⟨n - 1, by omega⟩
      have : i = lv w 3 := by omega
      subst this
      show gX8_answerOf_6 nF (gX8_answerOf nF n) _ _ _ _ t a = _
      unfold gX8_answerOf_6
      rw [h.1, if_pos ((x_le (by omega) (by omega)).mpr (Nat.le_refl _))]
      rfl
    | succ d ih =>
      intro i n hi hn
      obtain ⟨n, rfl⟩ : ∃ m, n = m + 1 := ⟨n - 1, by omega⟩
      have hil : i < lv w 3 := by omega
      obtain ⟨h5, g1, g2, g3⟩ := h.g hw hil
      have ok := sn_ok (w := w) hT 3 i hil
      have ih := ih (i + 1) n (by omega) (by omega)
      have e0 : pick (fun i => elB L q c (sn w kd cs i)) (fun i => rk A j (sn w kd cs i)) (i + 1) = match pick (fun i => elB L q c (sn w kd cs i)) (fun i => rk A j (sn w kd cs i)) i with
        | none => if elB L q c (sn w kd cs i) then some i else none
        | some b => if elB L q c (sn w kd cs i) && decide (rk A j (sn w kd cs b) < rk A j (sn w kd cs i)) then some i else some b := rfl
      have hpl := fun b (hb : pick (fun i => elB L q c (sn w kd cs i)) (fun i => rk A j (sn w kd cs i)) i = some b) => (pick_lt hb).1
      generalize pick (fun i => elB L q c (sn w kd cs i)) (fun i => rk A j (sn w kd cs i)) i = o at *
      show gX8_answerOf_6 nF (gX8_answerOf nF n) _ _ _ _ t a = _
      unfold gX8_answerOf_6
      rw [h.1, if_neg (by rw [x_le (by omega) (by omega)]; omega), bnd_ok h5 (by decide), nI_cl (by omega), g2, nI_1]
      have hbit := bit_0 (n := (sn w kd cs i).1) (c := c) (by have := ok.1; omega) hc
      cases hbt : btN (sn w kd cs i).1 c
      · rw [if_pos (hbit.mpr hbt)]
        have he : elB L q c (sn w kd cs i) = false := by unfold elB; rw [hbt]; rfl
        rw [he] at e0
        have : pick (fun i => elB L q c (sn w kd cs i)) (fun i => rk A j (sn w kd cs i)) (i + 1) = o := by rw [e0]; cases o <;> rfl
        rw [this] at ih
        exact ih
      · rw [if_neg (fun y => by rw [hbit.mp y] at hbt; exact absurd hbt (by decide)), isAns_ok hw h hq hil, calS]
        have he : elB L q c (sn w kd cs i) = ansB L q (sn w kd cs i) := by unfold elB; rw [hbt, Bool.true_and]
        rw [he] at e0
        cases han : ansB L q (sn w kd cs i)
        · rw [b2F, if_pos rfl]
          rw [han] at e0
          have : pick (fun i => elB L q c (sn w kd cs i)) (fun i => rk A j (sn w kd cs i)) (i + 1) = o := by rw [e0]; cases o <;> rfl
          rw [this] at ih
          exact ih
        · rw [b2T, if_neg one0]
          rw [han] at e0
          cases o with
          | none =>
            have : pick (fun i => elB L q c (sn w kd cs i)) (fun i => rk A j (sn w kd cs i)) (i + 1) = some i := e0
            rw [this] at ih
            show (if (-9 : Int32) = (-9 : Int32) then _ else _) = _
            rw [if_pos rfl]
            exact ih
          | some b =>
            have hb := hpl b rfl
            show (if nI b = (-9 : Int32) then _ else cal (fX8_isBetter nF (tkL j) (nI i) (nI b) t a) _) = _
            rw [if_neg (n9_nI (by omega)), better_ok (by omega) hT hA hw hAW h hil (by omega) hj, calS]
            have e0 : pick (fun i => elB L q c (sn w kd cs i)) (fun i => rk A j (sn w kd cs i)) (i + 1) = if true && decide (rk A j (sn w kd cs b) < rk A j (sn w kd cs i)) then some i else some b := e0
            rw [Bool.true_and] at e0
            cases hr : decide (rk A j (sn w kd cs b) < rk A j (sn w kd cs i))
            · rw [b2F, if_pos rfl]
              rw [hr, if_neg Bool.false_ne_true] at e0
              rw [e0] at ih
              exact ih
            · rw [b2T, if_neg one0]
              rw [hr, if_pos rfl] at e0
              rw [e0] at ih
              exact ih
  exact go (lv w 3) 0 nF (by omega) (by omega)
theorem leftOf_ok (hF : 1000 ≤ nF) (hT : okT kd cs) (hA : okB A) (hw : w ≤ 8) (hAW : AW A a) (h : LI w kd cs t a) {q : Sn} {L : Int32} (hq : LQ q L t) {j : Nat} (hj : j < 5) : fX8_leftOf nF (tkL j) t a = some (nI (LF w kd cs A j L q), t, a) := by
  have h585 := lv_3 hw
  have go : ∀ d c n, c + d = 8 → d < n → gX8_leftOf nF n (tkL j) (nI (sumN (fun c => (A c).toNatClampNeg * oW w kd cs A (pkO w kd cs A j L q c)) c)) (nI c) t a = some (nI (LF w kd cs A j L q), t, a) := by
    intro d
    induction d with
    | zero =>
      intro c n hc hn
      obtain ⟨n, rfl⟩ : ∃ m, n = m + 1 := ⟨n - 1, by omega⟩
      have : c = 8 := by omega
      subst this
      show gX8_leftOf_4 nF (gX8_leftOf nF n) _ _ _ t a = _
      unfold gX8_leftOf_4
      rw [if_pos (by decide)]
      rfl
    | succ d ih =>
      intro c n hc hn
      obtain ⟨n, rfl⟩ : ∃ m, n = m + 1 := ⟨n - 1, by omega⟩
      obtain ⟨k, hk, k1, k2, k3⟩ := w_pos hA (show c < 8 by omega)
      have ih := ih (c + 1) n (by omega) (by omega)
      have e0 : sumN (fun c => (A c).toNatClampNeg * oW w kd cs A (pkO w kd cs A j L q c)) (c + 1) = sumN (fun c => (A c).toNatClampNeg * oW w kd cs A (pkO w kd cs A j L q c)) c + k * oW w kd cs A (pkO w kd cs A j L q c) := by
        show _ + (A c).toNatClampNeg * _ = _
        rw [k2]
      rw [e0] at ih
      show gX8_leftOf_4 nF (gX8_leftOf nF n) _ _ _ t a = _
      unfold gX8_leftOf_4
      rw [if_neg (by rw [show (8 : Int32) = nI 8 from rfl, x_le (by omega) (by omega)]; omega), bnd_ok (by omega) (by decide), nI_cl (by omega), hAW c (by omega), nI_1]
      by_cases hk0 : k = 0
      · subst hk0
        rw [if_pos (k3.mpr rfl)]
        rw [Nat.zero_mul, Nat.add_zero] at ih
        exact ih
      · rw [if_neg (fun y => hk0 (k3.mp y)), answerOf_ok hF hT hA hw hAW h hq hj (show c < 8 by omega), calS, bnd_ok (by omega) (by decide), hAW c (by omega), k1]
        cases hp : pkO w kd cs A j L q c with
        | none =>
          rw [hp] at ih
          show (if (-9 : Int32) = (-9 : Int32) then _ else _) = _
          rw [if_pos rfl, w8_ok (by omega) hA hAW, calS, pk_mul, nI_add]
          exact ih
        | some b =>
          rw [hp] at ih
          have hb : b < lv w 3 := (pick_lt hp).1
          obtain ⟨h5, g1, g2, g3⟩ := h.g hw hb
          have o9s : o9 (some b) = nI b := rfl
          rw [o9s, if_neg (n9_nI (by omega)), bnd_ok (show b < 585 by omega) (by decide), nI_cl (by omega), g2, w8_ok (by omega) hA hAW, calS, pk_mul, nI_add]
          exact ih
  exact go 8 0 nF (by omega) (by omega)
theorem LI.fr {t' : sT} {a' : sA} (h : LI w kd cs t a) (ht : t' 3227 = t 3227) (ha : ∀ k, 62 ≤ k → k ≤ 650 → a' k = a k) (hw : w ≤ 8) : LI w kd cs t' a' := by
  have h585 := lv_3 hw
  refine ⟨ht.trans h.1, fun i hi => (h.2 i hi).fr ?_ ?_ ?_ ?_⟩
  · rw [ha 62 (by omega) (by omega)]
  · rw [ha (64 + i) (by omega) (by omega)]
  · rw [ha 649 (by omega) (by omega)]
  · rw [ha 650 (by omega) (by omega)]
theorem bestOf_loop (hF : 1000 ≤ nF) (hT : okT kd cs) (hA : okB A) (hw : w ≤ 8) (hAW : AW A a) {L : Int32} {j : Nat} (hj : j < 5) : ∀ d i n (t : sT), 1 ≤ i → i + d = lv w 3 → d < n → LI w kd cs t a → (∀ b, pick (fun i => decide (1 ≤ i)) (fun i => 6000 - LF w kd cs A j L (sn w kd cs i)) i = some b → t 3233 = nI (LF w kd cs A j L (sn w kd cs b))) → ∃ t', gX8_bestOf nF n (tkL j) L (o9 (pick (fun i => decide (1 ≤ i)) (fun i => 6000 - LF w kd cs A j L (sn w kd cs i)) i)) (nI i) t a = some (o9 (bestO w kd cs A j L), t', a) ∧ (∀ b, bestO w kd cs A j L = some b → t' 3233 = nI (LF w kd cs A j L (sn w kd cs b))) ∧ ∀ q, (q < 3228 ∨ 3234 ≤ q) → t' q = t q := by
  have h585 := lv_3 hw
  intro d
  induction d with
  | zero =>
    intro i n t h1 hi hn h hb
    obtain ⟨n, rfl⟩ : ∃ m, n = m + 1 := ⟨n - 1, by omega⟩
    have : i = lv w 3 := by omega
    subst this
    refine ⟨t, ?_, hb, fun _ _ => rfl⟩
    show gX8_bestOf_10 nF (gX8_bestOf nF n) _ _ _ _ t a = _
    unfold gX8_bestOf_10
    rw [h.1, if_pos ((x_le (by omega) (by omega)).mpr (Nat.le_refl _))]
    rfl
  | succ d ih =>
    intro i n t h1 hi hn h hb
    obtain ⟨n, rfl⟩ : ∃ m, n = m + 1 := ⟨n - 1, by omega⟩
    have hil : i < lv w 3 := by omega
    obtain ⟨h5, g1, g2, g3⟩ := h.g hw hil
    have l2 := LF_le (w := w) (kd := kd) (cs := cs) (j := j) (L := L) (q := sn w kd cs i) hA
    let t1 : sT := va_up (va_up (va_up (va_up t 3228 (nI (sn w kd cs i).2.2.2)) 3229 (nI (sn w kd cs i).2.2.1)) 3230 (nI (sn w kd cs i).1)) 3231 L
    have h1I : LI w kd cs t1 a := h.fr rfl (fun _ _ _ => rfl) hw
    have hq : LQ (sn w kd cs i) L t1 := ⟨rfl, rfl, rfl, rfl⟩
    have hl := leftOf_ok (nF := nF) hF hT hA hw hAW h1I hq hj
    have fr1 : ∀ q, (q < 3228 ∨ 3234 ≤ q) → t1 q = t q := fun q hq => by
      show va_up (va_up (va_up (va_up t 3228 _) 3229 _) 3230 _) 3231 _ q = _
      rw [up_ne (by omega), up_ne (by omega), up_ne (by omega), up_ne (by omega)]
    have e0 : pick (fun i => decide (1 ≤ i)) (fun i => 6000 - LF w kd cs A j L (sn w kd cs i)) (i + 1) = match pick (fun i => decide (1 ≤ i)) (fun i => 6000 - LF w kd cs A j L (sn w kd cs i)) i with
      | none => if decide (1 ≤ i) then some i else none
      | some b => if decide (1 ≤ i) && decide (6000 - LF w kd cs A j L (sn w kd cs b) < 6000 - LF w kd cs A j L (sn w kd cs i)) then some i else some b := rfl
    rw [decide_eq_true h1] at e0
    have ih := fun t hI => ih (i + 1) n t (by omega) (by omega) (by omega) hI
    have hpl := fun b (hb : pick (fun i => decide (1 ≤ i)) (fun i => 6000 - LF w kd cs A j L (sn w kd cs i)) i = some b) => (pick_lt hb).1
    generalize pick (fun i => decide (1 ≤ i)) (fun i => 6000 - LF w kd cs A j L (sn w kd cs i)) i = o at *
    have st : gX8_bestOf nF (n + 1) (tkL j) L (o9 o) (nI i) t a = (if o9 o = (-9 : Int32) then gX8_bestOf nF n (tkL j) L (nI i) (nI (i + 1)) (va_up t1 3233 (nI (LF w kd cs A j L (sn w kd cs i)))) a else if t1 3233 ≤ nI (LF w kd cs A j L (sn w kd cs i)) then gX8_bestOf nF n (tkL j) L (o9 o) (nI (i + 1)) t1 a else gX8_bestOf nF n (tkL j) L (nI i) (nI (i + 1)) (va_up t1 3233 (nI (LF w kd cs A j L (sn w kd cs i)))) a) := by
      show gX8_bestOf_10 nF (gX8_bestOf nF n) _ _ _ _ t a = _
      unfold gX8_bestOf_10
      rw [h.1, if_neg (by rw [x_le (by omega) (by omega)]; omega), bnd_ok h5 (by decide), bnd_ok h5 (by decide), bnd_ok h5 (by decide), nI_cl (by omega), g1, g2, g3]
      unfold fX8_asks
      rw [calS]
      show cal (fX8_leftOf nF (tkL j) t1 a) _ = _
      rw [hl, calS, nI_1]
    rw [st]
    have take : ∀ (e : pick (fun i => decide (1 ≤ i)) (fun i => 6000 - LF w kd cs A j L (sn w kd cs i)) (i + 1) = some i), ∃ t', gX8_bestOf nF n (tkL j) L (nI i) (nI (i + 1)) (va_up t1 3233 (nI (LF w kd cs A j L (sn w kd cs i)))) a = some (o9 (bestO w kd cs A j L), t', a) ∧ (∀ b, bestO w kd cs A j L = some b → t' 3233 = nI (LF w kd cs A j L (sn w kd cs b))) ∧ ∀ q, (q < 3228 ∨ 3234 ≤ q) → t' q = t q := by
      intro e
      obtain ⟨t', i1, i2, i3⟩ := ih (va_up t1 3233 (nI (LF w kd cs A j L (sn w kd cs i)))) (h1I.fr (up_ne (by decide)) (fun _ _ _ => rfl) hw) (fun b hb9 => by
        rw [e] at hb9
        have : i = b := Option.some.inj hb9
        subst this
        exact up_same _ _ _)
      rw [e] at i1
      exact ⟨t', i1, i2, fun q hq => by rw [i3 q hq, up_ne (by omega), fr1 q hq]⟩
    cases o with
    | none =>
      rw [if_pos (show o9 none = (-9 : Int32) from rfl)]
      exact take (e0.trans (if_pos rfl))
    | some b =>
      have t33 : t1 3233 = nI (LF w kd cs A j L (sn w kd cs b)) := by
        have := hb b rfl
        exact this
      have l1 := LF_le (w := w) (kd := kd) (cs := cs) (j := j) (L := L) (q := sn w kd cs b) hA
      have e0 : pick (fun i => decide (1 ≤ i)) (fun i => 6000 - LF w kd cs A j L (sn w kd cs i)) (i + 1) = if true && decide (6000 - LF w kd cs A j L (sn w kd cs b) < 6000 - LF w kd cs A j L (sn w kd cs i)) then some i else some b := e0
      rw [Bool.true_and] at e0
      have hne : ¬ o9 (some b) = (-9 : Int32) := n9_nI (by have := hpl b rfl; omega)
      rw [if_neg hne, t33]
      by_cases hlt : LF w kd cs A j L (sn w kd cs i) < LF w kd cs A j L (sn w kd cs b)
      · rw [if_neg (by rw [x_le (by omega) (by omega)]; omega)]
        exact take (by rw [e0, if_pos (decide_eq_true (by omega))])
      · rw [if_pos ((x_le (by omega) (by omega)).mpr (by omega))]
        rw [if_neg (by rw [decide_eq_true_iff]; omega)] at e0
        obtain ⟨t', i1, i2, i3⟩ := ih t1 h1I (fun b' hb9 => by
          rw [e0] at hb9
          have : b = b' := Option.some.inj hb9
          subst this
          exact t33)
        rw [e0] at i1
        exact ⟨t', i1, i2, fun q hq => by rw [i3 q hq, fr1 q hq]⟩
end RM
