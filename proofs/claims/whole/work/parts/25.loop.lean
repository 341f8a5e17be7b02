/-! the law's loop, over any invariant that its calls keep -/
def stp_0 (nF : Nat) (I : Iv) : Prop := ∀ e1 : Int32, St2 I (fX7_letter nF e1) (fX8_letter nF e1)
def stp_1 (nF : Nat) (I : Iv) : Prop := StpTongue nF I
def stp_2 (nF : Nat) (I : Iv) : Prop := ∀ e1 e2 : Int32, St2 I (fX7_word nF e1 e2) (fX8_word nF e1 e2)
def stp_3 (nF : Nat) (I : Iv) : Prop := ∀ e1 : Int32, St2 I (fX7_weight nF e1) (fX8_weight nF e1)
def stp_4 (nF : Nat) (I : Iv) : Prop := ∀ e1 : Int32, St2 I (fX7_truth nF e1) (fX8_truth nF e1)
def stp_5 (nF : Nat) (I : Iv) : Prop := ∀ e1 : Int32, St2 I (fX7_law nF e1) (fX8_law nF e1)
def stp_6 (nF : Nat) (I : Iv) : Prop := ∀ e1 : Int32, St2 I (fX7_row nF e1) (fX8_row nF e1)
def stp_7 (nF : Nat) (I : Iv) : Prop := St2 I (fX7_means nF) (fX8_means nF)
def stp_8 (nF : Nat) (I : Iv) : Prop := ∀ e1 e2 : Int32, St2 I (fX7_follows nF e1 e2) (fX8_follows nF e1 e2)
def stp_9 (nF : Nat) (I : Iv) : Prop := ∀ e1 : Int32, St2 I (fX7_settles nF e1) (fX8_settles nF e1)
def stp_10 (nF : Nat) (I : Iv) : Prop := ∀ e1 e2 : Int32, St2 I (fX7_answer nF e1 e2) (fX8_answer nF e1 e2)
def stp_11 (nF : Nat) (I : Iv) : Prop := ∀ e1 : Int32, St2 I (fX7_answers nF e1) (fX8_answers nF e1)
def stp_12 (nF : Nat) (I : Iv) : Prop := ∀ e1 e2 : Int32, St2 I (fX7_least nF e1 e2) (fX8_least nF e1 e2)
def stp_13 (nF : Nat) (I : Iv) : Prop := ∀ e1 : Int32, St2 I (fX7_left nF e1) (fX8_left nF e1)
def stp_14 (nF : Nat) (I : Iv) : Prop := ∀ e1 e2 : Int32, St2 I (fX7_best nF e1 e2) (fX8_best nF e1 e2)
def stp_15 (nF : Nat) (I : Iv) : Prop := ∀ e1 e2 : Int32, St2 I (fX7_force nF e1 e2) (fX8_force nF e1 e2)
def stp_16 (nF : Nat) (I : Iv) : Prop := ∀ e1 : Int32, St2 I (fX7_told nF e1) (fX8_told nF e1)
def stp_17 (nF : Nat) (I : Iv) : Prop := ∀ e1 : Int32, St2 I (fX7_meant nF e1) (fX8_meant nF e1)
def stp_18 (nF : Nat) (I : Iv) : Prop := ∀ e1 e2 : Int32, St2 I (fX7_chance nF e1 e2) (fX8_chance nF e1 e2)
def stp_19 (nF : Nat) (I : Iv) : Prop := St2 I (fX7_say nF) (fX8_say nF)
def stp_20 (nF : Nat) (I : Iv) : Prop := ∀ e1 e2 : Int32, St2 I (fX7_saying nF e1 e2) (fX8_saying nF e1 e2)
def stp_21 (nF : Nat) (I : Iv) : Prop := St2 I (fX7_known nF) (fX8_known nF)
def stp_22 (nF : Nat) (I : Iv) : Prop := St2 I (fX7_silence nF) (fX8_silence nF)
def stp_23 (nF : Nat) (I : Iv) : Prop := ∀ e1 : Int32, St2 I (fX7_longest nF e1) (fX8_longest nF e1)
def stp_24 (nF : Nat) (I : Iv) : Prop := ∀ e1 : Int32, St2 I (fX7_last nF e1) (fX8_last nF e1)
def stp_25 (nF : Nat) (I : Iv) : Prop := ∀ e1 : Int32, St2 I (fX7_idle nF e1) (fX8_idle nF e1)
def stp_26 (nF : Nat) (I : Iv) : Prop := ∀ e1 e2 : Int32, St2 I (fX7_under nF e1 e2) (fX8_under nF e1 e2)
def stp_27 (nF : Nat) (I : Iv) : Prop := ∀ e1 e2 e3 : Int32, St2 I (fX7_lots nF e1 e2 e3) (fX8_lots nF e1 e2 e3)
def stp_28 (nF : Nat) (I : Iv) : Prop := StpImage nF I
def stp_29 (nF : Nat) (I : Iv) : Prop := StpOn nF I
def stp_30 (nF : Nat) (I : Iv) : Prop := ∀ e1 : Int32, St2 I (fX7_count nF e1) (fX8_count nF e1)
def AllSteps (nF : Nat) (I : Iv) : Prop := (∀ N u v t a, I N u v t a → 653 ≤ N) ∧ stp_0 nF I ∧ stp_1 nF I ∧ stp_2 nF I ∧ stp_3 nF I ∧ stp_4 nF I ∧ stp_5 nF I ∧ stp_6 nF I ∧ stp_7 nF I ∧ stp_8 nF I ∧ stp_9 nF I ∧ stp_10 nF I ∧ stp_11 nF I ∧ stp_12 nF I ∧ stp_13 nF I ∧ stp_14 nF I ∧ stp_15 nF I ∧ stp_16 nF I ∧ stp_17 nF I ∧ stp_18 nF I ∧ stp_19 nF I ∧ stp_20 nF I ∧ stp_21 nF I ∧ stp_22 nF I ∧ stp_23 nF I ∧ stp_24 nF I ∧ stp_25 nF I ∧ stp_26 nF I ∧ stp_27 nF I ∧ stp_28 nF I ∧ stp_29 nF I ∧ stp_30 nF I
theorem lb_nI {j L : Nat} (hL : L ≤ 256) (h4 : 4 * j ≤ L) (h : ¬ (Int32.ofNat L - 4 < nI (4 * j))) : 4 * j + 4 ≤ L := by
  rcases Nat.lt_or_ge L (4 * j + 4) with q | q
  · exfalso
    apply h
    rw [Int32.lt_iff_toInt_lt]
    have e1 : (nI (4 * j)).toInt = ((4 * j : Nat) : Int) := nI_toInt (by omega)
    have e2 : (Int32.ofNat L - 4).toInt = (L : Int) - 4 := by
      have := pk_sub_toInt (a := L) (b := 4) (by omega) (by omega)
      exact this
    rw [e1, e2]
    omega
  · exact q
theorem vin_nI {j L : Nat} (hL : L ≤ 256) (h : 4 * j + 4 ≤ L) (k : Nat) (hk : k < 4) : vp_in (nI (4 * j) + nI k) L := by
  rw [nI_add]
  exact vp_in_nI (by omega) (by omega)
section LL
variable {p : Program} {l : Launch} {e : Env} {s : State} {m : MethodId} {below : List Frame} {meth : Method} {c : Code} {x : Cx} {nF b L : Nat} {xs : Nat → Int32} {I : Iv}
def Jw (p : Program) (l : Launch) (e : Env) (s : State) (m : MethodId) (below : List Frame) (meth : Method) (c : Code) (x : Cx) (b : Nat) (N : Nat) (u v : Option Nat) (cells slots pc : Nat) (i : Int32) (t : sT) (a : sA) : Prop := J p l e room_1 s m #[Value.ref b] below meth c x N (rho u v) 4 cells slots (lw_Z below #[Value.ref b] s) pc [(3, .int i), (2, .ref (cz x + 50)), (1, .ref (cz x + 0)), (0, .ref b)] [] t a
theorem law_next (F : Fx p s m meth c cL_law 4 RL (some .boolean) x) {j N : Nat} {u v : Option Nat} {t : sT} {a : sA} {c2 s2 : Nat} (hc : c2 ≤ 653 + 603 * (j + 1)) (hs : s2 ≤ 17314 + 4286 * (j + 1)) (kk : Jw p l e s m below meth c x b N u v (653 + 603 * (j + 1)) (17314 + 4286 * (j + 1)) 18 (nI (4 * (j + 1))) t a) : Jw p l e s m below meth c x b N u v c2 s2 925 (nI (4 * j)) t a := by
  unfold Jw
  refine j_wid hc hs ?_
  refine j_iinc F (v := nI (4 * (j + 1))) (lv' := [(3, .int (nI (4 * (j + 1)))), (2, .ref (cz x + 50)), (1, .ref (cz x + 0)), (0, .ref b)]) dL_law_925 0 rfl (show nI (4 * j) + nI 4 = nI (4 * (j + 1)) from nI_add _ _) (Nat.le_of_ble_eq_true rfl) rfl ?_
  refine j_goto F 18 dL_law_928 rfl ?_
  exact kk
theorem law_end (F : Fx p s m meth c cL_law 4 RL (some .boolean) x) (hz : cz x = s.heap.size) {N cells slots : Nat} {r : sR} {lv : List (Nat × Value)} {t : sT} {a : sA} (hc : cells ≤ 600000) (hs : slots ≤ 7302250) : J p l e room_1 s m #[Value.ref b] below meth c x N r 4 cells slots (lw_Z below #[Value.ref b] s) 932 lv [.int 1] t a := by
  intro H locs ls hW hl
  refine va_forget (fun q hq => ?_) ?_
  · rw [← hz]
    exact hW.2.2.2 q hq
  · refine W.widen (k := 600000) (n := 7302250) hc hs ?_
    exact lw_ret F.1 F.2.1 F.2.2.2.2.1 F.2.2.2.2.2.1 dL_law_932
set_option maxRecDepth 100000 in
set_option maxHeartbeats 4000000 in
theorem law_loop (F : Fx p s m meth c cL_law 4 RL (some .boolean) x) (hX : va_X b L xs s s.heap) (hbl : b < s.heap.size) (hbA : ¬ cA x b) (hL : L ≤ 256) (hz : cz x = s.heap.size) (hA : AllSteps nF I) : ∀ (n j N : Nat) (u v : Option Nat) (t : sT) (a : sA), L + 4 ≤ 4 * (j + n) → 4 * j ≤ L → I N u v t a → Jw p l e s m below meth c x b N u v (653 + 603 * j) (17314 + 4286 * j) 18 (nI (4 * j)) t a := by
  intro n
  induction n with
  | zero =>
    intro j N u v t a h1 h2
    exact absurd h1 (by omega)
  | succ n ih =>
    intro j N u v t a h1 h2 hI
    have hN : 653 ≤ N := hA.1 N u v t a hI
    unfold Jw
    refine j_iload_n F 0 dL_law_18 rfl rfl ?_
    refine j_aload_n F 3 dL_law_19 rfl rfl ?_
    refine j_slen F hX hbl hbA dL_law_20 ?_
    refine j_iconst F dL_law_21 eI_4 ?_
    refine j_isub F dL_law_22 ?_
    by_cases hc : Int32.ofNat L - 4 < nI (4 * j)
    · refine j_icmp_gt F 931 (A := some ()) (B := none) (v9 := ()) dL_law_23 rfl (if_pos hc) (fun _ => ?_) (fun h => by cases h)
      refine j_iconst F dL_law_931 eI_1 ?_
      exact law_end F hz (by omega) (by omega)
    · refine j_icmp_gt F 931 (A := none) (B := some ()) (v9 := ()) dL_law_23 rfl (if_neg hc) (fun h => by cases h) (fun _ => ?_)
      have hj := lb_nI hL h2 hc
      have h0 : vp_in (nI (4 * j)) L := vp_in_nI (by omega) (by omega)
      have hi1 : vp_in (nI (4 * j) + 1) L := vin_nI hL hj 1 (by decide)
      have hi2 : vp_in (nI (4 * j) + 2) L := vin_nI hL hj 2 (by decide)
      have hi3 : vp_in (nI (4 * j) + 3) L := vin_nI hL hj 3 (by decide)
      have ok0 : 653 + 603 * j + 0 ≤ 600000 ∧ 17314 + 4286 * j + 0 ≤ 7302250 := by omega
      have ok1 : 653 + 603 * j + 603 ≤ 600000 ∧ 17314 + 4286 * j + 4286 ≤ 7302250 := by omega
      refine j_aload_n F 3 dL_law_26 rfl rfl ?_
      refine j_iload_n F 0 dL_law_27 rfl rfl ?_
      refine j_sld F hX hbl hbA h0 dL_law_28 ?_
      refine j_bipush F dL_law_29 (v := 31) (by decide) ?_
      refine j_iand F dL_law_31 ?_
      generalize xs (nI (4 * j)).toNatClampNeg &&& 31 = w9
      by_cases c0 : w9 = 0
      · refine j_tsI F 172 dL_law_32 c0 (by decide) (by decide) rfl rfl ?_
        obtain ⟨r1, t1, a1, t2, a2, hc1, hm1, hI2⟩ := hA.2.1 (xs (nI (4 * j) + 1).toNatClampNeg) N u v t a hI
        exact lc_0 F hN hX hbl hbA hi1 hc1 hm1 ok0 (law_next F (by omega) (by omega) (ih (j + 1) _ _ _ _ _ (by omega) (by omega) hI2))
      by_cases c1 : w9 = 1
      · refine j_tsI F 195 dL_law_32 c1 (by decide) (by decide) rfl rfl ?_
        obtain ⟨r1, t1, a1, t2, a2, N2, v2, hc1, hm1, hI2, hn1, hs1⟩ := hA.2.2.1 N u v t a hI
        rcases v with _ | kb
        · obtain ⟨q1, q2⟩ := hn1 rfl
          exact lc_1N (v := none) F hN hX hbl hbA hc1 q1 q2 hm1 ok1 (law_next F (by omega) (by omega) (ih (j + 1) _ _ _ _ _ (by omega) (by omega) hI2))
        · obtain ⟨q1, q2⟩ := hs1 kb rfl
          exact lc_1S (v := none) F hN hX hbl hbA hc1 q1 q2 hm1 ok1 (law_next F (by omega) (by omega) (ih (j + 1) _ _ _ _ _ (by omega) (by omega) hI2))
      by_cases c2 : w9 = 2
      · refine j_tsI F 208 dL_law_32 c2 (by decide) (by decide) rfl rfl ?_
        obtain ⟨r1, t1, a1, t2, a2, hc1, hm1, hI2⟩ := hA.2.2.2.1 (xs (nI (4 * j) + 1).toNatClampNeg) (xs (nI (4 * j) + 2).toNatClampNeg) N u v t a hI
        exact lc_2 F hN hX hbl hbA hi1 hi2 hc1 hm1 ok0 (law_next F (by omega) (by omega) (ih (j + 1) _ _ _ _ _ (by omega) (by omega) hI2))
      by_cases c3 : w9 = 3
      · refine j_tsI F 241 dL_law_32 c3 (by decide) (by decide) rfl rfl ?_
        obtain ⟨r1, t1, a1, t2, a2, hc1, hm1, hI2⟩ := hA.2.2.2.2.1 (xs (nI (4 * j) + 1).toNatClampNeg) N u v t a hI
        exact lc_3 F hN hX hbl hbA hi1 hc1 hm1 ok0 (law_next F (by omega) (by omega) (ih (j + 1) _ _ _ _ _ (by omega) (by omega) hI2))
      by_cases c4 : w9 = 4
      · refine j_tsI F 264 dL_law_32 c4 (by decide) (by decide) rfl rfl ?_
        obtain ⟨r1, t1, a1, t2, a2, hc1, hm1, hI2⟩ := hA.2.2.2.2.2.1 (xs (nI (4 * j) + 1).toNatClampNeg) N u v t a hI
        exact lc_4 F hN hX hbl hbA hi1 hc1 hm1 ok0 (law_next F (by omega) (by omega) (ih (j + 1) _ _ _ _ _ (by omega) (by omega) hI2))
      by_cases c5 : w9 = 5
      · refine j_tsI F 287 dL_law_32 c5 (by decide) (by decide) rfl rfl ?_
        obtain ⟨r1, t1, a1, t2, a2, hc1, hm1, hI2⟩ := hA.2.2.2.2.2.2.1 (xs (nI (4 * j) + 1).toNatClampNeg) N u v t a hI
        exact lc_5 F hN hX hbl hbA hi1 hc1 hm1 ok0 (law_next F (by omega) (by omega) (ih (j + 1) _ _ _ _ _ (by omega) (by omega) hI2))
      by_cases c6 : w9 = 6
      · refine j_tsI F 310 dL_law_32 c6 (by decide) (by decide) rfl rfl ?_
        obtain ⟨r1, t1, a1, t2, a2, hc1, hm1, hI2⟩ := hA.2.2.2.2.2.2.2.1 (xs (nI (4 * j) + 1).toNatClampNeg) N u v t a hI
        exact lc_6 F hN hX hbl hbA hi1 hc1 hm1 ok0 (law_next F (by omega) (by omega) (ih (j + 1) _ _ _ _ _ (by omega) (by omega) hI2))
      by_cases c7 : w9 = 7
      · refine j_tsI F 333 dL_law_32 c7 (by decide) (by decide) rfl rfl ?_
        obtain ⟨r1, t1, a1, t2, a2, hc1, hm1, hI2⟩ := hA.2.2.2.2.2.2.2.2.1 N u v t a hI
        exact lc_7 F hN hX hbl hbA hc1 hm1 ok0 (law_next F (by omega) (by omega) (ih (j + 1) _ _ _ _ _ (by omega) (by omega) hI2))
      by_cases c8 : w9 = 8
      · refine j_tsI F 346 dL_law_32 c8 (by decide) (by decide) rfl rfl ?_
        obtain ⟨r1, t1, a1, t2, a2, hc1, hm1, hI2⟩ := hA.2.2.2.2.2.2.2.2.2.1 (xs (nI (4 * j) + 1).toNatClampNeg) (xs (nI (4 * j) + 2).toNatClampNeg) N u v t a hI
        exact lc_8 F hN hX hbl hbA hi1 hi2 hc1 hm1 ok0 (law_next F (by omega) (by omega) (ih (j + 1) _ _ _ _ _ (by omega) (by omega) hI2))
      by_cases c9 : w9 = 9
      · refine j_tsI F 379 dL_law_32 c9 (by decide) (by decide) rfl rfl ?_
        obtain ⟨r1, t1, a1, t2, a2, hc1, hm1, hI2⟩ := hA.2.2.2.2.2.2.2.2.2.2.1 (xs (nI (4 * j) + 1).toNatClampNeg) N u v t a hI
        exact lc_9 F hN hX hbl hbA hi1 hc1 hm1 ok0 (law_next F (by omega) (by omega) (ih (j + 1) _ _ _ _ _ (by omega) (by omega) hI2))
      by_cases c10 : w9 = 10
      · refine j_tsI F 402 dL_law_32 c10 (by decide) (by decide) rfl rfl ?_
        obtain ⟨r1, t1, a1, t2, a2, hc1, hm1, hI2⟩ := hA.2.2.2.2.2.2.2.2.2.2.2.1 (xs (nI (4 * j) + 1).toNatClampNeg) (xs (nI (4 * j) + 2).toNatClampNeg) N u v t a hI
        exact lc_10 F hN hX hbl hbA hi1 hi2 hc1 hm1 ok0 (law_next F (by omega) (by omega) (ih (j + 1) _ _ _ _ _ (by omega) (by omega) hI2))
      by_cases c11 : w9 = 11
      · refine j_tsI F 435 dL_law_32 c11 (by decide) (by decide) rfl rfl ?_
        obtain ⟨r1, t1, a1, t2, a2, hc1, hm1, hI2⟩ := hA.2.2.2.2.2.2.2.2.2.2.2.2.1 (xs (nI (4 * j) + 1).toNatClampNeg) N u v t a hI
        exact lc_11 F hN hX hbl hbA hi1 hc1 hm1 ok0 (law_next F (by omega) (by omega) (ih (j + 1) _ _ _ _ _ (by omega) (by omega) hI2))
      by_cases c12 : w9 = 12
      · refine j_tsI F 458 dL_law_32 c12 (by decide) (by decide) rfl rfl ?_
        obtain ⟨r1, t1, a1, t2, a2, hc1, hm1, hI2⟩ := hA.2.2.2.2.2.2.2.2.2.2.2.2.2.1 (xs (nI (4 * j) + 1).toNatClampNeg) (xs (nI (4 * j) + 2).toNatClampNeg) N u v t a hI
        exact lc_12 F hN hX hbl hbA hi1 hi2 hc1 hm1 ok0 (law_next F (by omega) (by omega) (ih (j + 1) _ _ _ _ _ (by omega) (by omega) hI2))
      by_cases c13 : w9 = 13
      · refine j_tsI F 491 dL_law_32 c13 (by decide) (by decide) rfl rfl ?_
        obtain ⟨r1, t1, a1, t2, a2, hc1, hm1, hI2⟩ := hA.2.2.2.2.2.2.2.2.2.2.2.2.2.2.1 (xs (nI (4 * j) + 1).toNatClampNeg) N u v t a hI
        exact lc_13 F hN hX hbl hbA hi1 hc1 hm1 ok0 (law_next F (by omega) (by omega) (ih (j + 1) _ _ _ _ _ (by omega) (by omega) hI2))
      by_cases c14 : w9 = 14
      · refine j_tsI F 514 dL_law_32 c14 (by decide) (by decide) rfl rfl ?_
        obtain ⟨r1, t1, a1, t2, a2, hc1, hm1, hI2⟩ := hA.2.2.2.2.2.2.2.2.2.2.2.2.2.2.2.1 (xs (nI (4 * j) + 1).toNatClampNeg) (xs (nI (4 * j) + 2).toNatClampNeg) N u v t a hI
        exact lc_14 F hN hX hbl hbA hi1 hi2 hc1 hm1 ok0 (law_next F (by omega) (by omega) (ih (j + 1) _ _ _ _ _ (by omega) (by omega) hI2))
      by_cases c15 : w9 = 15
      · refine j_tsI F 547 dL_law_32 c15 (by decide) (by decide) rfl rfl ?_
        obtain ⟨r1, t1, a1, t2, a2, hc1, hm1, hI2⟩ := hA.2.2.2.2.2.2.2.2.2.2.2.2.2.2.2.2.1 (xs (nI (4 * j) + 1).toNatClampNeg) (xs (nI (4 * j) + 2).toNatClampNeg) N u v t a hI
        exact lc_15 F hN hX hbl hbA hi1 hi2 hc1 hm1 ok0 (law_next F (by omega) (by omega) (ih (j + 1) _ _ _ _ _ (by omega) (by omega) hI2))
      by_cases c16 : w9 = 16
      · refine j_tsI F 580 dL_law_32 c16 (by decide) (by decide) rfl rfl ?_
        obtain ⟨r1, t1, a1, t2, a2, hc1, hm1, hI2⟩ := hA.2.2.2.2.2.2.2.2.2.2.2.2.2.2.2.2.2.1 (xs (nI (4 * j) + 1).toNatClampNeg) N u v t a hI
        exact lc_16 F hN hX hbl hbA hi1 hc1 hm1 ok0 (law_next F (by omega) (by omega) (ih (j + 1) _ _ _ _ _ (by omega) (by omega) hI2))
      by_cases c17 : w9 = 17
      · refine j_tsI F 603 dL_law_32 c17 (by decide) (by decide) rfl rfl ?_
        obtain ⟨r1, t1, a1, t2, a2, hc1, hm1, hI2⟩ := hA.2.2.2.2.2.2.2.2.2.2.2.2.2.2.2.2.2.2.1 (xs (nI (4 * j) + 1).toNatClampNeg) N u v t a hI
        exact lc_17 F hN hX hbl hbA hi1 hc1 hm1 ok0 (law_next F (by omega) (by omega) (ih (j + 1) _ _ _ _ _ (by omega) (by omega) hI2))
      by_cases c18 : w9 = 18
      · refine j_tsI F 626 dL_law_32 c18 (by decide) (by decide) rfl rfl ?_
        obtain ⟨r1, t1, a1, t2, a2, hc1, hm1, hI2⟩ := hA.2.2.2.2.2.2.2.2.2.2.2.2.2.2.2.2.2.2.2.1 (xs (nI (4 * j) + 1).toNatClampNeg) (xs (nI (4 * j) + 2).toNatClampNeg) N u v t a hI
        exact lc_18 F hN hX hbl hbA hi1 hi2 hc1 hm1 ok0 (law_next F (by omega) (by omega) (ih (j + 1) _ _ _ _ _ (by omega) (by omega) hI2))
      by_cases c19 : w9 = 19
      · refine j_tsI F 659 dL_law_32 c19 (by decide) (by decide) rfl rfl ?_
        obtain ⟨r1, t1, a1, t2, a2, hc1, hm1, hI2⟩ := hA.2.2.2.2.2.2.2.2.2.2.2.2.2.2.2.2.2.2.2.2.1 N u v t a hI
        exact lc_19 F hN hX hbl hbA hc1 hm1 ok0 (law_next F (by omega) (by omega) (ih (j + 1) _ _ _ _ _ (by omega) (by omega) hI2))
      by_cases c20 : w9 = 20
      · refine j_tsI F 672 dL_law_32 c20 (by decide) (by decide) rfl rfl ?_
        obtain ⟨r1, t1, a1, t2, a2, hc1, hm1, hI2⟩ := hA.2.2.2.2.2.2.2.2.2.2.2.2.2.2.2.2.2.2.2.2.2.1 (xs (nI (4 * j) + 1).toNatClampNeg) (xs (nI (4 * j) + 2).toNatClampNeg) N u v t a hI
        exact lc_20 F hN hX hbl hbA hi1 hi2 hc1 hm1 ok0 (law_next F (by omega) (by omega) (ih (j + 1) _ _ _ _ _ (by omega) (by omega) hI2))
      by_cases c21 : w9 = 21
      · refine j_tsI F 705 dL_law_32 c21 (by decide) (by decide) rfl rfl ?_
        obtain ⟨r1, t1, a1, t2, a2, hc1, hm1, hI2⟩ := hA.2.2.2.2.2.2.2.2.2.2.2.2.2.2.2.2.2.2.2.2.2.2.1 N u v t a hI
        exact lc_21 F hN hX hbl hbA hc1 hm1 ok0 (law_next F (by omega) (by omega) (ih (j + 1) _ _ _ _ _ (by omega) (by omega) hI2))
      by_cases c22 : w9 = 22
      · refine j_tsI F 718 dL_law_32 c22 (by decide) (by decide) rfl rfl ?_
        obtain ⟨r1, t1, a1, t2, a2, hc1, hm1, hI2⟩ := hA.2.2.2.2.2.2.2.2.2.2.2.2.2.2.2.2.2.2.2.2.2.2.2.1 N u v t a hI
        exact lc_22 F hN hX hbl hbA hc1 hm1 ok0 (law_next F (by omega) (by omega) (ih (j + 1) _ _ _ _ _ (by omega) (by omega) hI2))
      by_cases c23 : w9 = 23
      · refine j_tsI F 731 dL_law_32 c23 (by decide) (by decide) rfl rfl ?_
        obtain ⟨r1, t1, a1, t2, a2, hc1, hm1, hI2⟩ := hA.2.2.2.2.2.2.2.2.2.2.2.2.2.2.2.2.2.2.2.2.2.2.2.2.1 (xs (nI (4 * j) + 1).toNatClampNeg) N u v t a hI
        exact lc_23 F hN hX hbl hbA hi1 hc1 hm1 ok0 (law_next F (by omega) (by omega) (ih (j + 1) _ _ _ _ _ (by omega) (by omega) hI2))
      by_cases c24 : w9 = 24
      · refine j_tsI F 754 dL_law_32 c24 (by decide) (by decide) rfl rfl ?_
        obtain ⟨r1, t1, a1, t2, a2, hc1, hm1, hI2⟩ := hA.2.2.2.2.2.2.2.2.2.2.2.2.2.2.2.2.2.2.2.2.2.2.2.2.2.1 (xs (nI (4 * j) + 1).toNatClampNeg) N u v t a hI
        exact lc_24 F hN hX hbl hbA hi1 hc1 hm1 ok0 (law_next F (by omega) (by omega) (ih (j + 1) _ _ _ _ _ (by omega) (by omega) hI2))
      by_cases c25 : w9 = 25
      · refine j_tsI F 777 dL_law_32 c25 (by decide) (by decide) rfl rfl ?_
        obtain ⟨r1, t1, a1, t2, a2, hc1, hm1, hI2⟩ := hA.2.2.2.2.2.2.2.2.2.2.2.2.2.2.2.2.2.2.2.2.2.2.2.2.2.2.1 (xs (nI (4 * j) + 1).toNatClampNeg) N u v t a hI
        exact lc_25 F hN hX hbl hbA hi1 hc1 hm1 ok0 (law_next F (by omega) (by omega) (ih (j + 1) _ _ _ _ _ (by omega) (by omega) hI2))
      by_cases c26 : w9 = 26
      · refine j_tsI F 800 dL_law_32 c26 (by decide) (by decide) rfl rfl ?_
        obtain ⟨r1, t1, a1, t2, a2, hc1, hm1, hI2⟩ := hA.2.2.2.2.2.2.2.2.2.2.2.2.2.2.2.2.2.2.2.2.2.2.2.2.2.2.2.1 (xs (nI (4 * j) + 1).toNatClampNeg) (xs (nI (4 * j) + 2).toNatClampNeg) N u v t a hI
        exact lc_26 F hN hX hbl hbA hi1 hi2 hc1 hm1 ok0 (law_next F (by omega) (by omega) (ih (j + 1) _ _ _ _ _ (by omega) (by omega) hI2))
      by_cases c27 : w9 = 27
      · refine j_tsI F 833 dL_law_32 c27 (by decide) (by decide) rfl rfl ?_
        obtain ⟨r1, t1, a1, t2, a2, hc1, hm1, hI2⟩ := hA.2.2.2.2.2.2.2.2.2.2.2.2.2.2.2.2.2.2.2.2.2.2.2.2.2.2.2.2.1 (xs (nI (4 * j) + 1).toNatClampNeg) (xs (nI (4 * j) + 2).toNatClampNeg) (xs (nI (4 * j) + 3).toNatClampNeg) N u v t a hI
        exact lc_27 F hN hX hbl hbA hi1 hi2 hi3 hc1 hm1 ok0 (law_next F (by omega) (by omega) (ih (j + 1) _ _ _ _ _ (by omega) (by omega) hI2))
      by_cases c28 : w9 = 28
      · refine j_tsI F 876 dL_law_32 c28 (by decide) (by decide) rfl rfl ?_
        obtain ⟨r1, t1, a1, t2, a2, hc1, hn1, hs1⟩ := hA.2.2.2.2.2.2.2.2.2.2.2.2.2.2.2.2.2.2.2.2.2.2.2.2.2.2.2.2.2.1 N u v t a hI
        rcases u with _ | ku
        · obtain ⟨q1, q2, q3, hm1, hI2⟩ := hn1 rfl
          exact lc_28N (u := none) F hN hX hbl hbA hc1 q1 q2 q3 hm1 ok1 (law_next F (by omega) (by omega) (ih (j + 1) _ _ _ _ _ (by omega) (by omega) hI2))
        · obtain ⟨q1, q2, hm1, hI2⟩ := hs1 ku rfl
          exact lc_28S (u := none) F hN hX hbl hbA hc1 q1 q2 hm1 ok1 (law_next F (by omega) (by omega) (ih (j + 1) _ _ _ _ _ (by omega) (by omega) hI2))
      by_cases c29 : w9 = 29
      · refine j_tsI F 889 dL_law_32 c29 (by decide) (by decide) rfl rfl ?_
        obtain ⟨r1, t1, a1, t2, a2, hc1, hn1, hs1⟩ := hA.2.2.2.2.2.2.2.2.2.2.2.2.2.2.2.2.2.2.2.2.2.2.2.2.2.2.2.2.2.2.1 N u v t a hI
        rcases u with _ | ku
        · obtain ⟨hm1, hI2⟩ := hn1 rfl
          exact lc_29N (u := none) F hN hX hbl hbA hc1 hm1 ok0 (law_next F (by omega) (by omega) (ih (j + 1) _ _ _ _ _ (by omega) (by omega) hI2))
        · obtain ⟨q1, q2, hm1, hI2⟩ := hs1 ku rfl
          exact lc_29S (u := none) F hN hX hbl hbA hc1 q1 q2 hm1 ok0 (law_next F (by omega) (by omega) (ih (j + 1) _ _ _ _ _ (by omega) (by omega) hI2))
      by_cases c30 : w9 = 30
      · refine j_tsI F 902 dL_law_32 c30 (by decide) (by decide) rfl rfl ?_
        obtain ⟨r1, t1, a1, t2, a2, hc1, hm1, hI2⟩ := hA.2.2.2.2.2.2.2.2.2.2.2.2.2.2.2.2.2.2.2.2.2.2.2.2.2.2.2.2.2.2.2 (xs (nI (4 * j) + 1).toNatClampNeg) N u v t a hI
        exact lc_30 F hN hX hbl hbA hi1 hc1 hm1 ok0 (law_next F (by omega) (by omega) (ih (j + 1) _ _ _ _ _ (by omega) (by omega) hI2))
      refine j_tsD F 925 dL_law_32 rfl (fun i hi => ?_) rfl ?_
      · have hi : i < 31 := hi
        have hi : i = 0 ∨ i = 1 ∨ i = 2 ∨ i = 3 ∨ i = 4 ∨ i = 5 ∨ i = 6 ∨ i = 7 ∨ i = 8 ∨ i = 9 ∨ i = 10 ∨ i = 11 ∨ i = 12 ∨ i = 13 ∨ i = 14 ∨ i = 15 ∨ i = 16 ∨ i = 17 ∨ i = 18 ∨ i = 19 ∨ i = 20 ∨ i = 21 ∨ i = 22 ∨ i = 23 ∨ i = 24 ∨ i = 25 ∨ i = 26 ∨ i = 27 ∨ i = 28 ∨ i = 29 ∨ i = 30 := by omega
        rcases hi with rfl | rfl | rfl | rfl | rfl | rfl | rfl | rfl | rfl | rfl | rfl | rfl | rfl | rfl | rfl | rfl | rfl | rfl | rfl | rfl | rfl | rfl | rfl | rfl | rfl | rfl | rfl | rfl | rfl | rfl | rfl
        · exact Or.inr (by have h9 := lv_neT (a := 0) c0 rfl; omega)
        · exact Or.inr (by have h9 := lv_neT (a := 1) c1 rfl; omega)
        · exact Or.inr (by have h9 := lv_neT (a := 2) c2 rfl; omega)
        · exact Or.inr (by have h9 := lv_neT (a := 3) c3 rfl; omega)
        · exact Or.inr (by have h9 := lv_neT (a := 4) c4 rfl; omega)
        · exact Or.inr (by have h9 := lv_neT (a := 5) c5 rfl; omega)
        · exact Or.inr (by have h9 := lv_neT (a := 6) c6 rfl; omega)
        · exact Or.inr (by have h9 := lv_neT (a := 7) c7 rfl; omega)
        · exact Or.inr (by have h9 := lv_neT (a := 8) c8 rfl; omega)
        · exact Or.inr (by have h9 := lv_neT (a := 9) c9 rfl; omega)
        · exact Or.inr (by have h9 := lv_neT (a := 10) c10 rfl; omega)
        · exact Or.inr (by have h9 := lv_neT (a := 11) c11 rfl; omega)
        · exact Or.inr (by have h9 := lv_neT (a := 12) c12 rfl; omega)
        · exact Or.inr (by have h9 := lv_neT (a := 13) c13 rfl; omega)
        · exact Or.inr (by have h9 := lv_neT (a := 14) c14 rfl; omega)
        · exact Or.inr (by have h9 := lv_neT (a := 15) c15 rfl; omega)
        · exact Or.inr (by have h9 := lv_neT (a := 16) c16 rfl; omega)
        · exact Or.inr (by have h9 := lv_neT (a := 17) c17 rfl; omega)
        · exact Or.inr (by have h9 := lv_neT (a := 18) c18 rfl; omega)
        · exact Or.inr (by have h9 := lv_neT (a := 19) c19 rfl; omega)
        · exact Or.inr (by have h9 := lv_neT (a := 20) c20 rfl; omega)
        · exact Or.inr (by have h9 := lv_neT (a := 21) c21 rfl; omega)
        · exact Or.inr (by have h9 := lv_neT (a := 22) c22 rfl; omega)
        · exact Or.inr (by have h9 := lv_neT (a := 23) c23 rfl; omega)
        · exact Or.inr (by have h9 := lv_neT (a := 24) c24 rfl; omega)
        · exact Or.inr (by have h9 := lv_neT (a := 25) c25 rfl; omega)
        · exact Or.inr (by have h9 := lv_neT (a := 26) c26 rfl; omega)
        · exact Or.inr (by have h9 := lv_neT (a := 27) c27 rfl; omega)
        · exact Or.inr (by have h9 := lv_neT (a := 28) c28 rfl; omega)
        · exact Or.inr (by have h9 := lv_neT (a := 29) c29 rfl; omega)
        · exact Or.inr (by have h9 := lv_neT (a := 30) c30 rfl; omega)
      exact (law_next F (by omega) (by omega) (ih (j + 1) _ _ _ _ _ (by omega) (by omega) hI))
end LL
