/-! lots -/
def stS (s : Int32) : Int32 := s * 1664525 + 1013904223
def drw (s : Int32) (m : Nat) : Nat := s.toBitVec.toNat % 2 ^ 31 / 256 % m
theorem nI_all (s : Int32) : s = nI s.toBitVec.toNat := by
  apply Int32.toBitVec_inj.mp
  apply BitVec.eq_of_toNat_eq
  rw [pk_tn s.toBitVec.isLt]
theorem drw_e {s : Int32} {m : Nat} (hm : 0 < m) (hm2 : m < 2 ^ 31) : ((s &&& (2147483647 : Int32)) / (256 : Int32)) - ((s &&& (2147483647 : Int32)) / (256 : Int32)) / nI m * nI m = nI (drw s m) := by
  have hb : s.toBitVec.toNat < 2 ^ 32 := s.toBitVec.isLt
  have e : s &&& (2147483647 : Int32) = nI (s.toBitVec.toNat % 2 ^ 31) := by
    have := pk_andN (n := s.toBitVec.toNat) hb (m := (2147483647 : Int32)) 31 (by decide)
    rw [← nI_all s] at this
    exact this
  have h31 : s.toBitVec.toNat % 2 ^ 31 < 2 ^ 31 := Nat.mod_lt _ (by decide)
  rw [e, show (256 : Int32) = nI 256 from rfl, pk_div h31 (by decide) (by decide), pk_rem (by omega) hm hm2]
  rfl
theorem drw_lt {s : Int32} {m : Nat} (hm : 0 < m) : drw s m < m := Nat.mod_lt _ hm
def lwd (W : Nat) : Nat → Int32 → (Nat → Nat) → Nat → Int32 × (Nat → Nat)
  | 0, s, R, _ => (s, R)
  | d + 1, s, R, i => lwd W d (stS s) (fun x => if x = i then drw (stS s) W else R x) (i + 1)
def mzI (w : Nat) (kd cs : Nat → Nat) : Option Nat → Int32
  | none => 255
  | some b => nI (sn w kd cs b).1
def lo (w : Nat) (kd cs : Nat → Nat) (A : Nat → Int32) (j : Nat) (L : Int32) (tc : Nat) : Nat → Int32 → Int32 → Int32
  | 0, _, c => c
  | d + 1, s, c => lo w kd cs A j L tc d (lwd w (1 + drw (stS s) 3) (stS s) (fun _ => 0) 0).1 (c &&& mzI w kd cs (pkO w kd cs A j L (snR kd cs (lwd w (1 + drw (stS s) 3) (stS s) (fun _ => 0) 0).2 (1 + drw (stS s) 3)) tc))
theorem lo_succ {w : Nat} {kd cs : Nat → Nat} {A : Nat → Int32} {j : Nat} {L : Int32} {tc d : Nat} {s c : Int32} : lo w kd cs A j L tc (d + 1) s c = lo w kd cs A j L tc d (lwd w (1 + drw (stS s) 3) (stS s) (fun _ => 0) 0).1 (c &&& mzI w kd cs (pkO w kd cs A j L (snR kd cs (lwd w (1 + drw (stS s) 3) (stS s) (fun _ => 0) 0).2 (1 + drw (stS s) 3)) tc)) := rfl
theorem snR_congr {kd cs : Nat → Nat} {R H : Nat → Nat} : ∀ k, (∀ x, x < k → R x = H x) → snR kd cs R k = snR kd cs H k := by
  intro k
  induction k with
  | zero => intro _; rfl
  | succ k ih =>
    intro h
    show grw kd cs (snR kd cs R k) (R k) = grw kd cs (snR kd cs H k) (H k)
    rw [ih (fun x hx => h x (by omega)), h k (by omega)]
theorem snR_ok {kd cs : Nat → Nat} {R : Nat → Nat} (hT : okT kd cs) : ∀ k, okX (snR kd cs R k) k := by
  intro k
  induction k with
  | zero => exact s0_ok 0
  | succ k ih => exact grw_ok hT ih
theorem lwd_ok {W : Nat} (hW : 0 < W) : ∀ d s R i, (∀ x, x < i → R x < W) → ∀ x, x < i + d → (lwd W d s R i).2 x < W := by
  intro d
  induction d with
  | zero => intro s R i h x hx; exact h x (by omega)
  | succ d ih =>
    intro s R i h x hx
    refine ih _ _ (i + 1) (fun y hy => ?_) x (by omega)
    show (if y = i then drw (stS s) W else R y) < W
    by_cases e : y = i
    · rw [if_pos e]; exact drw_lt hW
    · rw [if_neg e]; exact h y (by omega)
section LO
variable {nF W : Nat}
theorem drawn7 {s : Int32} {m : Nat} {t : sT} {a : sA} (hm : 0 < m) (hm2 : m < 2 ^ 31) : fX7_drawn nF s (nI m) t a = some (nI (drw s m), t, a) := by
  unfold fX7_drawn
  rw [if_pos (show (0 : Int32) < nI m from (x_lt (a := 0) (b := m) (by omega) hm2).mpr hm)]
  unfold dvz
  rw [if_neg (by decide), if_neg (by rw [nI0 hm2]; omega), drw_e hm hm2]
theorem draw8 {m : Nat} {t : sT} {a : sA} (hm : 0 < m) (hm2 : m < 2 ^ 31) : fX8_draw nF (nI m) t a = some (nI (drw (stS (t 3234)) m), va_up t 3234 (stS (t 3234)), a) := by
  unfold fX8_draw dvz
  rw [if_neg (by decide), if_neg (by rw [nI0 hm2]; omega), up_same]
  have := drw_e (s := stS (t 3234)) hm hm2
  unfold stS at *
  rw [this]
theorem clb_ok {l tc j : Nat} (hF : 10000 ≤ nF) {t : sT} {a : sA} (hs : SS t a) (q : t 196 = nI W) (hW : okW W (a 4) (a 5)) (hb : okB (a 6)) (ql : t 198 = nI l) (hj : j < 5) (htc : tc < 8) {x : Sn} (hx : okX x 6) : ∃ t2 a2, fX3_casesLeftBy nF 19 (nI (pkS x)) (nI j) (nI tc) t a = some (mzI W (kE W (a 4)) (cE W (a 5)) (pkO W (kE W (a 4)) (cE W (a 5)) (a 6) j (nI l) x tc), t2, a2) ∧ SS t2 a2 ∧ cS t t2 a a2 := by
  have hw8 := hW.1
  obtain ⟨t2, a2, G, F, Z, f, fit, r1, r2, r3, r4, r5⟩ := rg_ok hF hs q hW hb ql hx
  obtain ⟨vc, v1, v2⟩ := chosen_ok (nF := nF) (by omega) (okE hW) hw8 hb r2 r3 hj htc
  refine ⟨t2, a2, ?_, r4, r5⟩
  unfold fX3_casesLeftBy
  rw [r1, v1, calS]
  cases hp : pkO W (kE W (a 4)) (cE W (a 5)) (a 6) j (nI l) x tc with
  | none =>
    rw [hp] at v2
    have v2 : vc = -1 := v2
    subst v2
    rw [if_neg (by decide)]
    rfl
  | some b =>
    rw [hp] at v2
    obtain ⟨g, hg, rfl, hFb⟩ := v2
    obtain ⟨hG, hFl⟩ := r2.b hw8
    have hg3 := (r2.2.2.2.2.2.1 g hg).2.2.1
    rw [hFb] at hg3
    rw [if_pos (Int32.not_lt.mp (nneg (by omega))), bnd_ok (by omega) (by decide), nI_cl (by omega), hg3, x_mean (sn_ok (okE hW) 3 b (by rw [← hFb]; exact hFl g hg)) (by decide), calS]
    rfl
theorem words7 {j nn k m : Nat} {cas : Int32} {t : sT} {a : sA} (hW0 : 0 < W) (q : t 196 = nI W) (hW : okW W (a 4) (a 5)) (hm : m ≤ 3) : ∀ d i n (s : Int32) (R : Nat → Nat), i + d = m → d < n → (gX7_leftByLots nF n).2 (nI j) (nI nn) s cas (nI k) (nI m) (nI (pkS (snR (kE W (a 4)) (cE W (a 5)) R i))) (nI i) t a = cal (fX3_casesLeftBy nF 19 (nI (pkS (snR (kE W (a 4)) (cE W (a 5)) (lwd W d s R i).2 m))) (nI j) (t 199) t a) (fun v3 t3 a3 => (gX7_leftByLots nF (n - d - 1)).1 (nI j) (nI nn) (lwd W d s R i).1 (cas &&& v3) (nI k + 1) t3 a3) := by
  have hw8 := hW.1
  intro d
  induction d with
  | zero =>
    intro i n s R hi hn
    obtain ⟨n, rfl⟩ : ∃ m, n = m + 1 := ⟨n - 1, by omega⟩
    have : i = m := by omega
    subst this
    show gX7_leftByLots_42 nF (gX7_leftByLots nF n).1 (gX7_leftByLots nF n).2 _ _ _ _ _ _ _ _ t a = _
    unfold gX7_leftByLots_42
    rw [if_pos ((x_le (by omega) (by omega)).mpr (Nat.le_refl i))]
    rfl
  | succ d ih =>
    intro i n s R hi hn
    obtain ⟨n, rfl⟩ : ∃ m, n = m + 1 := ⟨n - 1, by omega⟩
    have hd := drw_lt (s := stS s) hW0
    have ih := ih (i + 1) n (stS s) (fun x => if x = i then drw (stS s) W else R x) (by omega) (by omega)
    have e1 : snR (kE W (a 4)) (cE W (a 5)) (fun x => if x = i then drw (stS s) W else R x) (i + 1) = grw (kE W (a 4)) (cE W (a 5)) (snR (kE W (a 4)) (cE W (a 5)) R i) (drw (stS s) W) := by
      show grw _ _ (snR _ _ (fun x => if x = i then drw (stS s) W else R x) i) (if i = i then drw (stS s) W else R i) = _
      rw [if_pos rfl, snR_congr i (fun x hx => by show (if x = i then _ else R x) = R x; rw [if_neg (by omega)])]
    rw [e1] at ih
    show gX7_leftByLots_42 nF (gX7_leftByLots nF n).1 (gX7_leftByLots nF n).2 _ _ _ _ _ _ _ _ t a = _
    unfold gX7_leftByLots_42
    have es : fX7_stirred nF s t a = some (stS s, t, a) := rfl
    rw [if_neg (by rw [x_le (by omega) (by omega)]; omega), es, calS, q, drawn7 hW0 (by omega), calS, x_grown q hW (snR_ok (okE hW) i) (by omega) (by omega), calS, nI_1]
    rw [show n + 1 - (d + 1) - 1 = n - d - 1 by omega]
    exact ih
theorem round7 {j nn k n : Nat} {kd cs : Nat → Nat} {s cas : Int32} {t : sT} {a : sA} (hk : k < nn ∧ nn < 1000) : (gX7_leftByLots nF (n + 1)).1 (nI j) (nI nn) s cas (nI k) t a = (gX7_leftByLots nF n).2 (nI j) (nI nn) (stS s) cas (nI k) (nI (1 + drw (stS s) 3)) (nI (pkS (snR kd cs (fun _ => 0) 0))) (nI 0) t a := by
  show gX7_leftByLots_11 nF (gX7_leftByLots nF n).1 (gX7_leftByLots nF n).2 _ _ _ _ _ t a = _
  unfold gX7_leftByLots_11
  have es : fX7_stirred nF s t a = some (stS s, t, a) := rfl
  have e3 : fX7_drawn nF (stS s) 3 t a = some (nI (drw (stS s) 3), t, a) := drawn7 (m := 3) (by decide) (by decide)
  have e4 : (1 : Int32) + nI (drw (stS s) 3) = nI (1 + drw (stS s) 3) := nI_add 1 _
  have e5 : nI (pkS (snR kd cs (fun _ => 0) 0)) = 255 := rfl
  rw [if_neg (by rw [x_le (by omega) (by omega)]; omega), es, calS, e3, calS, e4, e5, z00]
theorem lots7 {l tc j nn : Nat} (hF : 10000 ≤ nF) (hW0 : 0 < W) (hj : j < 5) (htc : tc < 8) (hnn : nn ≤ 30) {A4 A5 A6 : Nat → Int32} (hW : okW W A4 A5) (hb : okB A6) : ∀ d k n (s cas : Int32) (t : sT) (a : sA), k + d = nn → 6 * d < n → SS t a → t 196 = nI W → a 4 = A4 → a 5 = A5 → a 6 = A6 → t 198 = nI l → t 199 = nI tc → ∃ t' a', (gX7_leftByLots nF n).1 (nI j) (nI nn) s cas (nI k) t a = some (lo W (kE W A4) (cE W A5) A6 j (nI l) tc d s cas, t', a') ∧ SS t' a' ∧ cS t t' a a' := by
  intro d
  induction d with
  | zero =>
    intro k n s cas t a hk hn hs q h4 h5 h6 ql qc
    obtain ⟨n, rfl⟩ : ∃ m, n = m + 1 := ⟨n - 1, by omega⟩
    have : k = nn := by omega
    subst this
    refine ⟨t, a, ?_, hs, cS.rf⟩
    show gX7_leftByLots_11 nF (gX7_leftByLots nF n).1 (gX7_leftByLots nF n).2 _ _ _ _ _ t a = _
    unfold gX7_leftByLots_11
    rw [if_pos ((x_le (by omega) (by omega)).mpr (Nat.le_refl k))]
    rfl
  | succ d ih =>
    intro k n s cas t a hk hn hs q h4 h5 h6 ql qc
    obtain ⟨n, rfl⟩ : ∃ m, n = m + 1 := ⟨n - 1, by omega⟩
    subst h4 h5 h6
    have hd := drw_lt (s := stS s) (m := 3) (by decide)
    have hws := words7 (nF := nF) (j := j) (nn := nn) (k := k) (m := 1 + drw (stS s) 3) (cas := cas) (t := t) (a := a) hW0 q hW (by omega) (1 + drw (stS s) 3) 0 n (stS s) (fun _ => 0) (by omega) (by omega)
    obtain ⟨t2, a2, c1, c2, c3⟩ := clb_ok (nF := nF) hF hs q hW hb ql hj htc ((snR_ok (okE hW) (R := (lwd W (1 + drw (stS s) 3) (stS s) (fun _ => 0) 0).2) (1 + drw (stS s) 3)).le (show 1 + drw (stS s) 3 ≤ 6 by omega))
    obtain ⟨t', a', i1, i2, i3⟩ := ih (k + 1) (n - (1 + drw (stS s) 3) - 1) (lwd W (1 + drw (stS s) 3) (stS s) (fun _ => 0) 0).1 (cas &&& mzI W (kE W (a 4)) (cE W (a 5)) (pkO W (kE W (a 4)) (cE W (a 5)) (a 6) j (nI l) (snR (kE W (a 4)) (cE W (a 5)) (lwd W (1 + drw (stS s) 3) (stS s) (fun _ => 0) 0).2 (1 + drw (stS s) 3)) tc)) t2 a2 (by omega) (by omega) c2 (by rw [c3.1 196 (by omega)]; exact q) (c3.2 4 (by omega)) (c3.2 5 (by omega)) (c3.2 6 (by omega)) (by rw [c3.1 198 (by omega)]; exact ql) (by rw [c3.1 199 (by omega)]; exact qc)
    refine ⟨t', a', ?_, i2, c3.tr i3⟩
    rw [lo_succ]
    refine Eq.trans (round7 (kd := kE W (a 4)) (cs := cE W (a 5)) (by omega)) ?_
    refine Eq.trans hws ?_
    rw [qc, c1, calS, nI_1]
    exact i1
theorem words8 {p nn k m : Nat} {cas : Int32} (hW0 : 0 < W) (hw : W ≤ 8) (hm : m ≤ 3) : ∀ d i n (s : Int32) (R : Nat → Nat) (t : sT) (a : sA), i + d = m → d < n → t 3234 = s → t 3207 = nI W → (∀ x, x < i → a 652 x = nI (R x)) → ∃ t' a', (gX8_lots nF n).2 (nI p) (nI nn) cas (nI k) (nI m) (nI i) t a = (gX8_lots nF (n - d)).2 (nI p) (nI nn) cas (nI k) (nI m) (nI m) t' a' ∧ t' 3234 = (lwd W d s R i).1 ∧ (∀ x, x < m → a' 652 x = nI ((lwd W d s R i).2 x)) ∧ (∀ q, q ≠ 3234 → t' q = t q) ∧ ∀ k, k ≠ 652 → a' k = a k := by
  intro d
  induction d with
  | zero =>
    intro i n s R t a hi hn e1 e2 e3
    have : i = m := by omega
    subst this
    exact ⟨t, a, rfl, e1, e3, fun _ _ => rfl, fun _ _ => rfl⟩
  | succ d ih =>
    intro i n s R t a hi hn e1 e2 e3
    obtain ⟨n, rfl⟩ : ∃ m, n = m + 1 := ⟨n - 1, by omega⟩
    subst e1
    obtain ⟨t', a', i1, i2, i3, i4, i5⟩ := ih (i + 1) n (stS (t 3234)) (fun x => if x = i then drw (stS (t 3234)) W else R x) (va_up t 3234 (stS (t 3234))) (va_up a 652 (upd (a 652) i (nI (drw (stS (t 3234)) W)))) (by omega) (by omega) (up_same _ _ _) (by rw [up_ne (by decide)]; exact e2) (fun x hx => by
      rw [up_same]
      by_cases e : x = i
      · rw [if_pos e, e, upd_same]
      · rw [if_neg e, upd_ne e]; exact e3 x (by omega))
    refine ⟨t', a', ?_, i2, i3, fun q hq => by rw [i4 q hq, up_ne hq], fun k hk => by rw [i5 k hk, up_ne hk]⟩
    show gX8_lots_88 nF (gX8_lots nF n).1 (gX8_lots nF n).2 _ _ _ _ _ _ t a = _
    unfold gX8_lots_88
    rw [if_neg (by rw [x_le (by omega) (by omega)]; omega), e2, draw8 hW0 (by omega), calS, bnd_ok (by omega) (by decide), nI_cl (by omega), nI_1, i1, show n + 1 - (d + 1) = n - d by omega]
theorem first8 {p nn k n : Nat} {s cas : Int32} {t : sT} {a : sA} (hk : k < nn ∧ nn < 1000) (e34 : t 3234 = s) : (gX8_lots nF (n + 1)).1 (nI p) (nI nn) cas (nI k) t a = (gX8_lots nF n).2 (nI p) (nI nn) cas (nI k) (nI (1 + drw (stS s) 3)) (nI 0) (va_up t 3234 (stS s)) a := by
  subst e34
  show gX8_lots_70 nF (gX8_lots nF n).1 (gX8_lots nF n).2 _ _ _ _ t a = _
  unfold gX8_lots_70
  have e3 : fX8_draw nF 3 t a = some (nI (drw (stS (t 3234)) 3), va_up t 3234 (stS (t 3234)), a) := draw8 (m := 3) (by decide) (by decide)
  have e4 : nI (drw (stS (t 3234)) 3) + (1 : Int32) = nI (1 + drw (stS (t 3234)) 3) := by rw [nI_1, Nat.add_comm]
  rw [if_neg (by rw [x_le (by omega) (by omega)]; omega), e3, calS, e4, z00]
theorem round8 {kd cs : Nat → Nat} {A : Nat → Int32} {l tc j p nn k n m : Nat} {cas : Int32} {R : Nat → Nat} {t : sT} {a : sA} (hF : 1000 ≤ nF) (hw : W ≤ 8) (hT : okT kd cs) (hA : okB A) (hj : j < 5) (hp : p < 4) (htc : tc < 8) (hm : m ≤ 3) (hI : LI W kd cs t a) (hAW : AW A a) (hag : AG W kd cs a) (e58 : a 58 p = tkL j) (ql : t 3213 = nI l) (qc : t 3214 = nI tc) (hR : ∀ x, x < m → R x < W ∧ a 652 x = nI (R x)) : ∃ Q, Q = snR kd cs R m ∧ (gX8_lots nF (n + 1)).2 (nI p) (nI nn) cas (nI k) (nI m) (nI m) t a = (gX8_lots nF n).1 (nI p) (nI nn) (cas &&& mzI W kd cs (pkO W kd cs A j (nI l) Q tc)) (nI (k + 1)) (tq t Q l) a := by
  have hW1 := hag.ok hT hw
  have hr : okR W (a 652) m := fun x hx => ⟨R x, (hR x hx).1, (hR x hx).2⟩
  have es := snS_kd (A := a 55) (B := a 56) (row := a 652) (R := R) hT hw hag m hR
  have m1 := mean8 (nF := nF) (t := t) (a := a) (p := 652) (n1 := 3) (by omega) hW1 (show m ≤ 6 by omega) (by omega) (by decide) hr
  have m2 := idle8 (nF := nF) (t := t) (a := a) (p := 652) (n1 := 3) (by omega) hW1 (show m ≤ 6 by omega) (by omega) (by decide) hr
  rw [es] at m1 m2
  have hln : (snR kd cs R m).2.2.2 = m := snR_ln _
  refine ⟨snR kd cs R m, rfl, ?_⟩
  generalize snR kd cs R m = Q at *
  have m1 : fX8_meaning nF 652 3 (nI m) t a = some (nI Q.1, t, a) := m1
  have m2 : fX8_idleOf nF 652 3 (nI m) t a = some (nI Q.2.2.1, t, a) := m2
  have hI1 : LI W kd cs (tq t Q l) a := hI.fr (tq_ne (by omega)) (fun _ _ _ => rfl) hw
  have an := answerOf_ok (nF := nF) (A := A) hF hT hA hw hAW hI1 (tq_q (q := Q) (l := l)) hj htc
  have c1 : tq t Q l 3214 = nI tc := by rw [tq_ne (by omega)]; exact qc
  have ttq : va_up (va_up (va_up (va_up t 3228 (nI m)) 3229 (nI Q.2.2.1)) 3230 (nI Q.1)) 3231 (nI l) = tq t Q l := by
    unfold tq
    rw [hln]
  show gX8_lots_88 nF (gX8_lots nF n).1 (gX8_lots nF n).2 _ _ _ _ _ _ t a = _
  unfold gX8_lots_88 fX8_asks
  rw [if_pos ((x_le (by omega) (by omega)).mpr (Nat.le_refl _)), m2, calS, m1, calS, ql, calS, ttq, bnd_ok (by omega) (by decide), nI_cl (by omega), e58, c1, an, calS, nI_1]
  have h585 := lv_3 hw
  cases hpk : pkO W kd cs A j (nI l) Q tc with
  | none =>
    rw [if_pos (show o9 none = (-9 : Int32) from rfl)]
    rfl
  | some b =>
    have hb : b < lv W 3 := (pick_lt hpk).1
    have o9s : o9 (some b) = nI b := rfl
    rw [o9s, if_neg (n9_nI (by omega)), bnd_ok (by omega) (by decide), nI_cl (by omega), (hI1.g hw hb).2.2.1]
    rfl
theorem lots8 {kd cs : Nat → Nat} {A : Nat → Int32} {l tc j p nn : Nat} (hF : 10000 ≤ nF) (hW0 : 0 < W) (hw : W ≤ 8) (hT : okT kd cs) (hA : okB A) (hj : j < 5) (hp : p < 4) (htc : tc < 8) (hnn : nn ≤ 30) : ∀ d k n (s cas : Int32) (t : sT) (a : sA), k + d = nn → 6 * d < n → LI W kd cs t a → AW A a → AG W kd cs a → a 58 p = tkL j → t 3234 = s → t 3207 = nI W → t 3213 = nI l → t 3214 = nI tc → ∃ t' a', (gX8_lots nF n).1 (nI p) (nI nn) cas (nI k) t a = some (nI (wS A (lo W kd cs A j (nI l) tc d s cas) 8), t', a') ∧ mS t t' a a' := by
  intro d
  induction d with
  | zero =>
    intro k n s cas t a hk hn hI hAW hag e58 e34 q ql qc
    obtain ⟨n, rfl⟩ : ∃ m, n = m + 1 := ⟨n - 1, by omega⟩
    have : k = nn := by omega
    subst this
    refine ⟨t, a, ?_, mS.rf⟩
    show gX8_lots_70 nF (gX8_lots nF n).1 (gX8_lots nF n).2 _ _ _ _ t a = _
    unfold gX8_lots_70
    rw [if_pos ((x_le (by omega) (by omega)).mpr (Nat.le_refl k)), w8_ok (by omega) hA hAW, calS]
    rfl
  | succ d ih =>
    intro k n s cas t a hk hn hI hAW hag e58 e34 q ql qc
    obtain ⟨n, rfl⟩ : ∃ m, n = m + 1 := ⟨n - 1, by omega⟩
    have hd := drw_lt (s := stS s) (m := 3) (by decide)
    have hlt := lwd_ok hW0 (1 + drw (stS s) 3) (stS s) (fun _ => 0) 0 (fun x hx => absurd hx (Nat.not_lt_zero x))
    obtain ⟨t1, a1, i1, i2, i3, i4, i5⟩ := words8 (nF := nF) (p := p) (nn := nn) (k := k) (m := 1 + drw (stS s) 3) (cas := cas) hW0 hw (by omega) (1 + drw (stS s) 3) 0 n (stS s) (fun _ => 0) (va_up t 3234 (stS s)) a (by omega) (by omega) (up_same _ _ _) (by rw [up_ne (by decide)]; exact q) (fun x hx => absurd hx (Nat.not_lt_zero x))
    have f1 : ∀ q, q ≠ 3234 → t1 q = t q := fun q hq => by rw [i4 q hq, up_ne hq]
    obtain ⟨n', hn'⟩ : ∃ n', n - (1 + drw (stS s) 3) = n' + 1 := ⟨n - (1 + drw (stS s) 3) - 1, by omega⟩
    rw [hn'] at i1
    obtain ⟨Q, hQ, r1⟩ := round8 (nF := nF) (n := n') (nn := nn) (k := k) (cas := cas) (by omega) hw hT hA hj hp htc (show 1 + drw (stS s) 3 ≤ 3 by omega) (hI.fr (t' := t1) (f1 _ (by omega)) (fun k h1 h2 => i5 k (by omega)) hw) (hAW.fr (i5 57 (by decide))) (hag.fr (i5 55 (by decide)) (i5 56 (by decide))) (by rw [i5 58 (by decide)]; exact e58) (by rw [f1 _ (by omega)]; exact ql) (by rw [f1 _ (by omega)]; exact qc) (fun x hx => ⟨hlt x (by omega), i3 x hx⟩)
    have hI1 : LI W kd cs (tq t1 Q l) a1 := hI.fr (by rw [tq_ne (by omega), f1 _ (by omega)]) (fun k h1 h2 => i5 k (by omega)) hw
    obtain ⟨t', a', k1, k2⟩ := ih (k + 1) n' (lwd W (1 + drw (stS s) 3) (stS s) (fun _ => 0) 0).1 (cas &&& mzI W kd cs (pkO W kd cs A j (nI l) Q tc)) (tq t1 Q l) a1 (by omega) (by omega) hI1 (hAW.fr (i5 57 (by decide))) (hag.fr (i5 55 (by decide)) (i5 56 (by decide))) (by rw [i5 58 (by decide)]; exact e58) (by rw [tq_ne (by omega)]; exact i2) (by rw [tq_ne (by omega), f1 _ (by omega)]; exact q) (by rw [tq_ne (by omega), f1 _ (by omega)]; exact ql) (by rw [tq_ne (by omega), f1 _ (by omega)]; exact qc)
    have mm : mS t (tq t1 Q l) a a1 := ⟨fun q hq => by rw [tq_ne (by omega), f1 q (by omega)], fun k hk => i5 k (by omega)⟩
    refine ⟨t', a', ?_, mm.tr k2⟩
    rw [lo_succ, ← hQ]
    exact (first8 (by omega) e34).trans (i1.trans (r1.trans k1))
end LO
theorem stp27 {nF : Nat} (hF : 10000 ≤ nF) : stp_27 nF (Inv SS) := by
  intro x y z N u v t a h
  obtain ⟨W, l, tc, q1, q2, hW, hb, hag, haw, l1, l2, hl, c1, c2, htc⟩ := CX_of h.1
  have hw8 := hW.1
  rcases per_ok (nF := nF) h.1 x with ⟨p1, p2⟩ | ⟨p, j, hp, hj, rfl, j1, j2, p1, p2⟩
  · refine st_ref SF_SS h 1 (w := -1) ?_ ?_
    · unfold fX7_lots; rw [p1, calS, if_pos rfl, R7_1]; rfl
    · unfold fX8_lots; rw [p2 _ _ rfl, calS, if_pos rfl, R8_1]; rfl
  by_cases g1 : (1 : Int32) ≤ y
  · by_cases g2 : y ≤ (30 : Int32)
    · by_cases hW0 : W = 0
      · subst hW0
        refine st_ref SF_SS h 3 (w := -3) ?_ ?_
        · unfold fX7_lots; rw [p1, calS, if_neg one0, if_pos g1, if_pos g2, q1, if_pos z00, R7_3]; rfl
        · unfold fX8_lots; rw [p2 _ _ rfl, calS, if_neg one0, if_pos g1, if_pos g2, q2, if_pos z00, R8_3]; rfl
      have n0 : ¬ nI W = 0 := by rw [nI0 (by omega)]; exact hW0
      obtain ⟨nn, hnn, rfl⟩ := nI_of2 (M := 30) (n := 30) rfl (fun e => by
        have := Int32.lt_of_lt_of_le e (show (0 : Int32) ≤ 1 by decide)
        exact Int32.lt_irrefl (Int32.lt_of_lt_of_le this g1)) g2
      obtain ⟨t2, a2, r1, r2, r3⟩ := lots7 (nF := nF) (W := W) (l := l) (tc := tc) (j := j) (nn := nn) hF (by omega) hj htc hnn hW hb nn 0 nF z 255 t a (by omega) (by omega) h.2.1 q1 rfl rfl rfl l1 c1
      obtain ⟨t3, a3, m1, m2⟩ := list_ok (nF := nF) (t0 := t2) (a0 := a2) (by omega) (okE hW) hw8 (hag.fr (r3.2 55 (by omega)) (r3.2 56 (by omega))) (by rw [r3.1 3207 (by omega)]; exact q2) hF
      have fT : ∀ q, 3200 ≤ q → q < 3220 → va_up t3 3234 z q = t q := fun q h1 h2 => by rw [up_ne (by omega), m2.ms.1 q (by omega), r3.1 q (by omega)]
      have fA : ∀ k, 50 ≤ k → k < 62 → a3 k = a k := fun k h1 h2 => by rw [m2.ms.2 k (by omega), r3.2 k (by omega)]
      obtain ⟨t4, a4, k1, k2⟩ := lots8 (nF := nF) (W := W) (kd := kE W (a 4)) (cs := cE W (a 5)) (A := a 6) (l := l) (tc := tc) (j := j) (p := p) (nn := nn) hF (by omega) hw8 (okE hW) hb hj hp htc hnn nn 0 nF z 255 (va_up t3 3234 z) a3 (by omega) (by omega) (m2.li.fr (up_ne (by decide)) (fun _ _ _ => rfl) hw8) (haw.fr (fA 57 (by omega) (by omega))) (hag.fr (fA 55 (by omega) (by omega)) (fA 56 (by omega) (by omega))) (by rw [fA 58 (by omega) (by omega)]; exact j2) (up_same _ _ _) (by rw [fT 3207 (by omega) (by omega)]; exact q2) (by rw [fT 3213 (by omega) (by omega)]; exact l2) (by rw [fT 3214 (by omega) (by omega)]; exact c2)
      refine ⟨nI (wS (a 6) (lo W (kE W (a 4)) (cE W (a 5)) (a 6) j (nI l) tc nn z 255) 8), t2, a2, t4, a4, ?_, ?_, inv_fin h r2 r3 ((m2.ms.tr ⟨fun q hq => up_ne (by omega), fun _ _ => rfl⟩).tr k2)⟩
      · have w7 := weight7 (nF := nF) (t := t2) (a := a2) (by omega) (by rw [r3.2 6 (by omega)]; exact hb) (lo W (kE W (a 4)) (cE W (a 5)) (a 6) j (nI l) tc nn z 255)
        rw [r3.2 6 (by omega)] at w7
        unfold fX7_lots fX7_leftByLots
        rw [p1, calS, if_neg one0, if_pos g1, if_pos g2, q1, if_neg n0, bnd_ok (by omega) (by decide), nI_cl (by omega), j1, show (0 : Int32) = nI 0 from rfl, r1, calS, w7, calS]
      · unfold fX8_lots
        rw [p2 _ _ (r3.1 _ (by omega)), calS, if_neg one0, if_pos g1, if_pos g2, r3.1 3207 (by omega), q2, if_neg n0, m1, calS, show (0 : Int32) = nI 0 from rfl, k1]
    · refine st_ref SF_SS h 6 (w := -6) ?_ ?_
      · unfold fX7_lots; rw [p1, calS, if_neg one0, if_pos g1, if_neg g2, R7_6]; rfl
      · unfold fX8_lots; rw [p2 _ _ rfl, calS, if_neg one0, if_pos g1, if_neg g2, R8_6]; rfl
  · refine st_ref SF_SS h 4 (w := -4) ?_ ?_
    · unfold fX7_lots; rw [p1, calS, if_neg one0, if_neg g1, R7_4]; rfl
    · unfold fX8_lots; rw [p2 _ _ rfl, calS, if_neg one0, if_neg g1, R8_4]; rfl
