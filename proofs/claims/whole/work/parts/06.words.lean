/-! WORDS: references, layout facts, classes, the tables' words by name -/
def tblM : List Nat := [1, 0, 2, 0, 3, 0, 4, 0, 5, 6, 7, 0, 8, 0, 0, 0, 9, 10, 11, 0, 0, 0, 0, 12, 13, 599, 600, 0, 0, 0, 0, 0, 601, 0, 0, 602]
/-- the references of the system as made: u, v: the first model's kept and before -/
def rho (u v : Option Nat) : sR := fun k j =>
  if (lay k).1 = 0 then
    if (lay k).2 = 6 then ([some 1, some 3, some 8, some 13, some 15, some 17, some 19, some 30, some 41, some 49] : List (Option Nat)).getD j none
    else if (lay k).2 = 5 then (if j < 4 then some (k + 1 + j) else none)
    else if (lay k).2 = 3 then (if j = 0 then some 3 else if j < 12 then some (k + j - 1) else none)
    else if (lay k).2 = 0 then (if j = 0 then some (k + 1) else if j = 1 then some (k + 6) else none)
    else if (lay k).2 = 7 then (if j = 20 then (if k = 50 then u else none) else if j = 22 then (if k = 50 then v else none) else if tblM.getD j 0 = 0 then none else some (k + tblM.getD j 0))
    else (if j = 0 then some (k + 1) else none)
  else if (lay k).1 = 2 then some (k + 1 + j) else none
theorem ly0 : lay 0 = (0, 6) := rfl
theorem ly1 : lay 1 = (0, 1) := rfl
theorem ly2 : lay 2 = (1, 64) := rfl
theorem ly3 : lay 3 = (0, 5) := rfl
theorem ly4 : lay 4 = (1, 8) := rfl
theorem ly5 : lay 5 = (1, 8) := rfl
theorem ly6 : lay 6 = (1, 8) := rfl
theorem ly7 : lay 7 = (1, 4) := rfl
theorem ly8 : lay 8 = (0, 5) := rfl
theorem ly9 : lay 9 = (1, 8) := rfl
theorem ly10 : lay 10 = (1, 8) := rfl
theorem ly11 : lay 11 = (1, 8) := rfl
theorem ly12 : lay 12 = (1, 4) := rfl
theorem ly13 : lay 13 = (0, 2) := rfl
theorem ly14 : lay 14 = (1, 6) := rfl
theorem ly15 : lay 15 = (0, 2) := rfl
theorem ly16 : lay 16 = (1, 6) := rfl
theorem ly17 : lay 17 = (0, 4) := rfl
theorem ly18 : lay 18 = (1, 12) := rfl
theorem ly19 : lay 19 = (0, 3) := rfl
theorem ly20 : lay 20 = (1, 585) := rfl
theorem ly21 : lay 21 = (1, 585) := rfl
theorem ly22 : lay 22 = (1, 585) := rfl
theorem ly23 : lay 23 = (1, 585) := rfl
theorem ly24 : lay 24 = (1, 585) := rfl
theorem ly25 : lay 25 = (1, 2560) := rfl
theorem ly26 : lay 26 = (1, 585) := rfl
theorem ly27 : lay 27 = (1, 256) := rfl
theorem ly28 : lay 28 = (1, 25) := rfl
theorem ly29 : lay 29 = (1, 25) := rfl
theorem ly30 : lay 30 = (0, 3) := rfl
theorem ly31 : lay 31 = (1, 585) := rfl
theorem ly32 : lay 32 = (1, 585) := rfl
theorem ly33 : lay 33 = (1, 585) := rfl
theorem ly34 : lay 34 = (1, 585) := rfl
theorem ly35 : lay 35 = (1, 585) := rfl
theorem ly36 : lay 36 = (1, 2560) := rfl
theorem ly37 : lay 37 = (1, 585) := rfl
theorem ly38 : lay 38 = (1, 256) := rfl
theorem ly39 : lay 39 = (1, 25) := rfl
theorem ly40 : lay 40 = (1, 25) := rfl
theorem ly41 : lay 41 = (0, 0) := rfl
theorem ly42 : lay 42 = (0, 5) := rfl
theorem ly43 : lay 43 = (1, 8) := rfl
theorem ly44 : lay 44 = (1, 8) := rfl
theorem ly45 : lay 45 = (1, 8) := rfl
theorem ly46 : lay 46 = (1, 4) := rfl
theorem ly47 : lay 47 = (0, 4) := rfl
theorem ly48 : lay 48 = (1, 12) := rfl
theorem ly49 : lay 49 = (1, 7) := rfl
theorem ly50 : lay 50 = (0, 7) := rfl
theorem ly51 : lay 51 = (1, 64) := rfl
theorem ly52 : lay 52 = (1, 6) := rfl
theorem ly53 : lay 53 = (1, 6) := rfl
theorem ly54 : lay 54 = (1, 8) := rfl
theorem ly55 : lay 55 = (1, 8) := rfl
theorem ly56 : lay 56 = (1, 8) := rfl
theorem ly57 : lay 57 = (1, 8) := rfl
theorem ly58 : lay 58 = (1, 4) := rfl
theorem ly59 : lay 59 = (1, 12) := rfl
theorem ly60 : lay 60 = (1, 12) := rfl
theorem ly61 : lay 61 = (1, 12) := rfl
theorem ly62 : lay 62 = (1, 585) := rfl
theorem ly63 : lay 63 = (2, 585) := rfl
theorem ly649 : lay 649 = (1, 585) := rfl
theorem ly650 : lay 650 = (1, 585) := rfl
theorem ly651 : lay 651 = (1, 4) := rfl
theorem ly652 : lay 652 = (1, 3) := rfl
theorem lyRow {i : Nat} (h : i < 585) : lay (64 + i) = (1, 3) := by
  have e : (64 + i - 50) % 603 = 14 + i := by omega
  unfold lay layM
  rw [if_neg (by omega), e, if_neg (by omega), if_pos (by omega)]
theorem rh0_0 {u v : Option Nat} : rho u v 0 0 = some 1 := rfl
theorem rh0_1 {u v : Option Nat} : rho u v 0 1 = some 3 := rfl
theorem rh0_2 {u v : Option Nat} : rho u v 0 2 = some 8 := rfl
theorem rh0_3 {u v : Option Nat} : rho u v 0 3 = some 13 := rfl
theorem rh0_4 {u v : Option Nat} : rho u v 0 4 = some 15 := rfl
theorem rh0_5 {u v : Option Nat} : rho u v 0 5 = some 17 := rfl
theorem rh0_6 {u v : Option Nat} : rho u v 0 6 = some 19 := rfl
theorem rh0_7 {u v : Option Nat} : rho u v 0 7 = some 30 := rfl
theorem rh0_8 {u v : Option Nat} : rho u v 0 8 = some 41 := rfl
theorem rh0_9 {u v : Option Nat} : rho u v 0 9 = some 49 := rfl
theorem rh1_0 {u v : Option Nat} : rho u v 1 0 = some 2 := rfl
theorem rh41_0 {u v : Option Nat} : rho u v 41 0 = some 42 := rfl
theorem rh41_1 {u v : Option Nat} : rho u v 41 1 = some 47 := rfl
theorem rh50_0 {u v : Option Nat} : rho u v 50 0 = some 51 := rfl
theorem rh50_2 {u v : Option Nat} : rho u v 50 2 = some 52 := rfl
theorem rh50_4 {u v : Option Nat} : rho u v 50 4 = some 53 := rfl
theorem rh50_6 {u v : Option Nat} : rho u v 50 6 = some 54 := rfl
theorem rh50_8 {u v : Option Nat} : rho u v 50 8 = some 55 := rfl
theorem rh50_9 {u v : Option Nat} : rho u v 50 9 = some 56 := rfl
theorem rh50_10 {u v : Option Nat} : rho u v 50 10 = some 57 := rfl
theorem rh50_12 {u v : Option Nat} : rho u v 50 12 = some 58 := rfl
theorem rh50_16 {u v : Option Nat} : rho u v 50 16 = some 59 := rfl
theorem rh50_17 {u v : Option Nat} : rho u v 50 17 = some 60 := rfl
theorem rh50_18 {u v : Option Nat} : rho u v 50 18 = some 61 := rfl
theorem rh50_23 {u v : Option Nat} : rho u v 50 23 = some 62 := rfl
theorem rh50_24 {u v : Option Nat} : rho u v 50 24 = some 63 := rfl
theorem rh50_25 {u v : Option Nat} : rho u v 50 25 = some 649 := rfl
theorem rh50_26 {u v : Option Nat} : rho u v 50 26 = some 650 := rfl
theorem rh50_32 {u v : Option Nat} : rho u v 50 32 = some 651 := rfl
theorem rh50_35 {u v : Option Nat} : rho u v 50 35 = some 652 := rfl
theorem rh50_20 {u v : Option Nat} : rho u v 50 20 = u := rfl
theorem rh50_22 {u v : Option Nat} : rho u v 50 22 = v := rfl
theorem rh63 {u v : Option Nat} : ∀ j, j < 585 → rho u v 63 j = some (64 + j) := fun j _ => rfl
def isTg (k : Nat) : Prop := k = 3 ∨ k = 8 ∨ k = 42
theorem Tg_l {k : Nat} (h : isTg k) : lay k = (0, 5) := by rcases h with rfl | rfl | rfl <;> rfl
theorem Tg_l1 {k : Nat} (h : isTg k) : lay (k + 1) = (1, 8) := by rcases h with rfl | rfl | rfl <;> rfl
theorem Tg_l2 {k : Nat} (h : isTg k) : lay (k + 2) = (1, 8) := by rcases h with rfl | rfl | rfl <;> rfl
theorem Tg_l3 {k : Nat} (h : isTg k) : lay (k + 3) = (1, 8) := by rcases h with rfl | rfl | rfl <;> rfl
theorem Tg_l4 {k : Nat} (h : isTg k) : lay (k + 4) = (1, 4) := by rcases h with rfl | rfl | rfl <;> rfl
theorem Tg_r0 {k : Nat} {u v : Option Nat} (h : isTg k) : rho u v k 0 = some (k + 1) := by rcases h with rfl | rfl | rfl <;> rfl
theorem Tg_r1 {k : Nat} {u v : Option Nat} (h : isTg k) : rho u v k 1 = some (k + 2) := by rcases h with rfl | rfl | rfl <;> rfl
theorem Tg_r2 {k : Nat} {u v : Option Nat} (h : isTg k) : rho u v k 2 = some (k + 3) := by rcases h with rfl | rfl | rfl <;> rfl
theorem Tg_r3 {k : Nat} {u v : Option Nat} (h : isTg k) : rho u v k 3 = some (k + 4) := by rcases h with rfl | rfl | rfl <;> rfl
theorem Tg_lt {k N : Nat} (h : isTg k) (hN : 653 ≤ N) : k < N := by unfold isTg at h; omega
theorem Tg_lt1 {k N : Nat} (h : isTg k) (hN : 653 ≤ N) : k + 1 < N := by unfold isTg at h; omega
theorem Tg_lt2 {k N : Nat} (h : isTg k) (hN : 653 ≤ N) : k + 2 < N := by unfold isTg at h; omega
theorem Tg_lt3 {k N : Nat} (h : isTg k) (hN : 653 ≤ N) : k + 3 < N := by unfold isTg at h; omega
theorem Tg_lt4 {k N : Nat} (h : isTg k) (hN : 653 ≤ N) : k + 4 < N := by unfold isTg at h; omega
def isRw (k : Nat) : Prop := k = 13 ∨ k = 15
theorem Rw_l {k : Nat} (h : isRw k) : lay k = (0, 2) := by rcases h with rfl | rfl <;> rfl
theorem Rw_l1 {k : Nat} (h : isRw k) : lay (k + 1) = (1, 6) := by rcases h with rfl | rfl <;> rfl
theorem Rw_r0 {k : Nat} {u v : Option Nat} (h : isRw k) : rho u v k 0 = some (k + 1) := by rcases h with rfl | rfl <;> rfl
theorem Rw_lt {k N : Nat} (h : isRw k) (hN : 653 ≤ N) : k < N := by unfold isRw at h; omega
theorem Rw_lt1 {k N : Nat} (h : isRw k) (hN : 653 ≤ N) : k + 1 < N := by unfold isRw at h; omega
def isTk (k : Nat) : Prop := k = 17 ∨ k = 47
theorem Tk_l {k : Nat} (h : isTk k) : lay k = (0, 4) := by rcases h with rfl | rfl <;> rfl
theorem Tk_l1 {k : Nat} (h : isTk k) : lay (k + 1) = (1, 12) := by rcases h with rfl | rfl <;> rfl
theorem Tk_r0 {k : Nat} {u v : Option Nat} (h : isTk k) : rho u v k 0 = some (k + 1) := by rcases h with rfl | rfl <;> rfl
theorem Tk_lt {k N : Nat} (h : isTk k) (hN : 653 ≤ N) : k < N := by unfold isTk at h; omega
theorem Tk_lt1 {k N : Nat} (h : isTk k) (hN : 653 ≤ N) : k + 1 < N := by unfold isTk at h; omega
def isSy (k : Nat) : Prop := k = 19 ∨ k = 30
theorem Sy_l {k : Nat} (h : isSy k) : lay k = (0, 3) := by rcases h with rfl | rfl <;> rfl
theorem Sy_l1 {k : Nat} (h : isSy k) : lay (k + 1) = (1, 585) := by rcases h with rfl | rfl <;> rfl
theorem Sy_l2 {k : Nat} (h : isSy k) : lay (k + 2) = (1, 585) := by rcases h with rfl | rfl <;> rfl
theorem Sy_l3 {k : Nat} (h : isSy k) : lay (k + 3) = (1, 585) := by rcases h with rfl | rfl <;> rfl
theorem Sy_l4 {k : Nat} (h : isSy k) : lay (k + 4) = (1, 585) := by rcases h with rfl | rfl <;> rfl
theorem Sy_l5 {k : Nat} (h : isSy k) : lay (k + 5) = (1, 585) := by rcases h with rfl | rfl <;> rfl
theorem Sy_l6 {k : Nat} (h : isSy k) : lay (k + 6) = (1, 2560) := by rcases h with rfl | rfl <;> rfl
theorem Sy_l7 {k : Nat} (h : isSy k) : lay (k + 7) = (1, 585) := by rcases h with rfl | rfl <;> rfl
theorem Sy_l8 {k : Nat} (h : isSy k) : lay (k + 8) = (1, 256) := by rcases h with rfl | rfl <;> rfl
theorem Sy_l9 {k : Nat} (h : isSy k) : lay (k + 9) = (1, 25) := by rcases h with rfl | rfl <;> rfl
theorem Sy_l10 {k : Nat} (h : isSy k) : lay (k + 10) = (1, 25) := by rcases h with rfl | rfl <;> rfl
theorem Sy_r2 {k : Nat} {u v : Option Nat} (h : isSy k) : rho u v k 2 = some (k + 1) := by rcases h with rfl | rfl <;> rfl
theorem Sy_r3 {k : Nat} {u v : Option Nat} (h : isSy k) : rho u v k 3 = some (k + 2) := by rcases h with rfl | rfl <;> rfl
theorem Sy_r4 {k : Nat} {u v : Option Nat} (h : isSy k) : rho u v k 4 = some (k + 3) := by rcases h with rfl | rfl <;> rfl
theorem Sy_r5 {k : Nat} {u v : Option Nat} (h : isSy k) : rho u v k 5 = some (k + 4) := by rcases h with rfl | rfl <;> rfl
theorem Sy_r6 {k : Nat} {u v : Option Nat} (h : isSy k) : rho u v k 6 = some (k + 5) := by rcases h with rfl | rfl <;> rfl
theorem Sy_r7 {k : Nat} {u v : Option Nat} (h : isSy k) : rho u v k 7 = some (k + 6) := by rcases h with rfl | rfl <;> rfl
theorem Sy_r8 {k : Nat} {u v : Option Nat} (h : isSy k) : rho u v k 8 = some (k + 7) := by rcases h with rfl | rfl <;> rfl
theorem Sy_r9 {k : Nat} {u v : Option Nat} (h : isSy k) : rho u v k 9 = some (k + 8) := by rcases h with rfl | rfl <;> rfl
theorem Sy_r10 {k : Nat} {u v : Option Nat} (h : isSy k) : rho u v k 10 = some (k + 9) := by rcases h with rfl | rfl <;> rfl
theorem Sy_r11 {k : Nat} {u v : Option Nat} (h : isSy k) : rho u v k 11 = some (k + 10) := by rcases h with rfl | rfl <;> rfl
theorem Sy_r0 {k : Nat} {u v : Option Nat} (h : isSy k) : rho u v k 0 = some 3 := by rcases h with rfl | rfl <;> rfl
theorem Sy_lt {k N : Nat} (h : isSy k) (hN : 653 ≤ N) : k < N := by unfold isSy at h; omega
theorem Sy_lt1 {k N : Nat} (h : isSy k) (hN : 653 ≤ N) : k + 1 < N := by unfold isSy at h; omega
theorem Sy_lt2 {k N : Nat} (h : isSy k) (hN : 653 ≤ N) : k + 2 < N := by unfold isSy at h; omega
theorem Sy_lt3 {k N : Nat} (h : isSy k) (hN : 653 ≤ N) : k + 3 < N := by unfold isSy at h; omega
theorem Sy_lt4 {k N : Nat} (h : isSy k) (hN : 653 ≤ N) : k + 4 < N := by unfold isSy at h; omega
theorem Sy_lt5 {k N : Nat} (h : isSy k) (hN : 653 ≤ N) : k + 5 < N := by unfold isSy at h; omega
theorem Sy_lt6 {k N : Nat} (h : isSy k) (hN : 653 ≤ N) : k + 6 < N := by unfold isSy at h; omega
theorem Sy_lt7 {k N : Nat} (h : isSy k) (hN : 653 ≤ N) : k + 7 < N := by unfold isSy at h; omega
theorem Sy_lt8 {k N : Nat} (h : isSy k) (hN : 653 ≤ N) : k + 8 < N := by unfold isSy at h; omega
theorem Sy_lt9 {k N : Nat} (h : isSy k) (hN : 653 ≤ N) : k + 9 < N := by unfold isSy at h; omega
theorem Sy_lt10 {k N : Nat} (h : isSy k) (hN : 653 ≤ N) : k + 10 < N := by unfold isSy at h; omega
set_option maxRecDepth 100000 in
theorem clX0 : clO 0 RX0 TX0 4 tyX0 := ⟨rfl, rfl, by decide +kernel, tyX0_ok, nmX0, by decide +kernel⟩
set_option maxRecDepth 100000 in
theorem clX1 : clO 1 RX1 TX1 2 tyX1 := ⟨rfl, rfl, by decide +kernel, tyX1_ok, nmX1, by decide +kernel⟩
set_option maxRecDepth 100000 in
theorem clX2 : clO 2 RX2 TX2 2 tyX2 := ⟨rfl, rfl, by decide +kernel, tyX2_ok, nmX2, by decide +kernel⟩
set_option maxRecDepth 100000 in
theorem clX3 : clO 3 RX3 TX3 18 tyX3 := ⟨rfl, rfl, by decide +kernel, tyX3_ok, nmX3, by decide +kernel⟩
set_option maxRecDepth 100000 in
theorem clX5 : clO 4 RX5 TX5 2 tyX5 := ⟨rfl, rfl, by decide +kernel, tyX5_ok, nmX5, by decide +kernel⟩
set_option maxRecDepth 100000 in
theorem clX6 : clO 5 RX6 TX6 8 tyX6 := ⟨rfl, rfl, by decide +kernel, tyX6_ok, nmX6, by decide +kernel⟩
set_option maxRecDepth 100000 in
theorem clX7 : clO 6 RX7 TX7 11 tyX7 := ⟨rfl, rfl, by decide +kernel, tyX7_ok, nmX7, by decide +kernel⟩
set_option maxRecDepth 100000 in
theorem clX8 : clO 7 RX8 TX8 36 tyX8 := ⟨rfl, rfl, by decide +kernel, tyX8_ok, nmX8, by decide +kernel⟩
theorem tb1 {w : Cond} (h : w ∈ tables_1_1) (g : gw w = true) : w ∈ lw_t := lw_in (List.mem_append_right _ (List.mem_append_left _ h)) g
theorem tb2 {w : Cond} (h : w ∈ tables_1_2) (g : gw w = true) : w ∈ lw_t := lw_in (List.mem_append_right _ (List.mem_append_right _ (List.mem_append_left _ h))) g
theorem tb3 {w : Cond} (h : w ∈ tables_1_3) (g : gw w = true) : w ∈ lw_t := lw_in (List.mem_append_right _ (List.mem_append_right _ (List.mem_append_right _ (List.mem_append_left _ h)))) g
theorem tb4 {w : Cond} (h : w ∈ tables_1_4) (g : gw w = true) : w ∈ lw_t := lw_in (List.mem_append_right _ (List.mem_append_right _ (List.mem_append_right _ (List.mem_append_right _ (List.mem_append_left _ h))))) g
theorem tb5 {w : Cond} (h : w ∈ tables_1_5) (g : gw w = true) : w ∈ lw_t := lw_in (List.mem_append_right _ (List.mem_append_right _ (List.mem_append_right _ (List.mem_append_right _ (List.mem_append_right _ h))))) g
theorem tbs {q : MethodName × Nat} (h : q ∈ lw_privs) : Cond.selects q.1.cls q.1 q.1 ∈ lw_t := lw_in (List.mem_append_left _ (List.mem_map.mpr ⟨q, h, rfl⟩)) rfl
theorem qi_X7 : .initialized RX7 ∈ lw_t := tb1 (List.mem_of_getElem? (i := 1) rfl) rfl
theorem qi_X0 : .initialized RX0 ∈ lw_t := tb1 (List.mem_of_getElem? (i := 7) rfl) rfl
theorem qi_X1 : .initialized RX1 ∈ lw_t := tb1 (List.mem_of_getElem? (i := 2) rfl) rfl
theorem qi_X2 : .initialized RX2 ∈ lw_t := tb1 (List.mem_of_getElem? (i := 4) rfl) rfl
theorem qi_X3 : .initialized RX3 ∈ lw_t := tb1 (List.mem_of_getElem? (i := 6) rfl) rfl
theorem qi_X4 : .initialized RX4 ∈ lw_t := tb1 (List.mem_of_getElem? (i := 16) rfl) rfl
theorem qi_X5 : .initialized RX5 ∈ lw_t := tb1 (List.mem_of_getElem? (i := 5) rfl) rfl
theorem qi_X6 : .initialized RX6 ∈ lw_t := tb1 (List.mem_of_getElem? (i := 3) rfl) rfl
theorem qi_L : .initialized RL ∈ lw_t := tb1 (List.mem_of_getElem? (i := 0) rfl) rfl
theorem qi_X8 : .initialized RX8 ∈ lw_t := tb1 (List.mem_of_getElem? (i := 8) rfl) rfl
theorem qi_J11 : .initialized RJ11 ∈ lw_t := tb1 (List.mem_of_getElem? (i := 14) rfl) rfl
theorem qi_J9 : .initialized RJ9 ∈ lw_t := tb1 (List.mem_of_getElem? (i := 13) rfl) rfl
theorem qi_J0 : .initialized RJ0 ∈ lw_t := tb1 (List.mem_of_getElem? (i := 9) rfl) rfl
theorem qi_J1 : .initialized RJ1 ∈ lw_t := tb1 (List.mem_of_getElem? (i := 10) rfl) rfl
theorem qi_J2 : .initialized RJ2 ∈ lw_t := tb1 (List.mem_of_getElem? (i := 12) rfl) rfl
theorem qi_J10 : .initialized RJ10 ∈ lw_t := tb1 (List.mem_of_getElem? (i := 15) rfl) rfl
theorem qi_J7 : .initialized RJ7 ∈ lw_t := tb1 (List.mem_of_getElem? (i := 17) rfl) rfl
theorem qi_J3 : .initialized RJ3 ∈ lw_t := tb1 (List.mem_of_getElem? (i := 11) rfl) rfl
theorem mwJ7_fill_53178 : mwS yJ7_fill_53178 cJ7_fill_53178 4 none := ⟨tb3 (List.mem_of_getElem? (i := 102) rfl) rfl, tb3 (List.mem_of_getElem? (i := 101) rfl) rfl, qi_J7, by decide +kernel, by decide +kernel⟩
theorem mwX0_init : mwI yX0_init cX0_init 1 := ⟨tb1 (List.mem_of_getElem? (i := 180) rfl) rfl, tb1 (List.mem_of_getElem? (i := 179) rfl) rfl, qi_X0, by decide +kernel, by decide +kernel, rfl⟩
theorem mwX1_add : mwV yX1_add cX1_add 2 none := ⟨tb2 (List.mem_of_getElem? (i := 6) rfl) rfl, tb2 (List.mem_of_getElem? (i := 4) rfl) rfl, tb2 (List.mem_of_getElem? (i := 5) rfl) rfl, qi_X1, by decide +kernel, by decide +kernel⟩
theorem mwX1_behind : mwV yX1_behind cX1_behind 3 (Option.some FieldType.int) := ⟨tb2 (List.mem_of_getElem? (i := 18) rfl) rfl, tb2 (List.mem_of_getElem? (i := 17) rfl) rfl, tbs (q := (yX1_behind, 2)) (List.mem_of_getElem? (i := 1) rfl), qi_X1, by decide +kernel, by decide +kernel⟩
theorem mwX1_behindForm : mwV yX1_behindForm cX1_behindForm 5 (Option.some FieldType.int) := ⟨tb2 (List.mem_of_getElem? (i := 41) rfl) rfl, tb2 (List.mem_of_getElem? (i := 40) rfl) rfl, tbs (q := (yX1_behindForm, 2)) (List.mem_of_getElem? (i := 4) rfl), qi_X1, by decide +kernel, by decide +kernel⟩
theorem mwX1_behindTelling : mwV yX1_behindTelling cX1_behindTelling 4 (Option.some FieldType.int) := ⟨tb2 (List.mem_of_getElem? (i := 26) rfl) rfl, tb2 (List.mem_of_getElem? (i := 25) rfl) rfl, tbs (q := (yX1_behindTelling, 2)) (List.mem_of_getElem? (i := 3) rfl), qi_X1, by decide +kernel, by decide +kernel⟩
theorem mwX1_digit : mwV yX1_digit cX1_digit 2 (Option.some FieldType.int) := ⟨tb2 (List.mem_of_getElem? (i := 182) rfl) rfl, tb2 (List.mem_of_getElem? (i := 181) rfl) rfl, tbs (q := (yX1_digit, 2)) (List.mem_of_getElem? (i := 7) rfl), qi_X1, by decide +kernel, by decide +kernel⟩
theorem mwX1_fits : mwS yX1_fits cX1_fits 2 (Option.some FieldType.boolean) := ⟨tb2 (List.mem_of_getElem? (i := 96) rfl) rfl, tb2 (List.mem_of_getElem? (i := 95) rfl) rfl, qi_X1, by decide +kernel, by decide +kernel⟩
theorem mwX1_formOf : mwS yX1_formOf cX1_formOf 1 (Option.some (FieldType.object "java/lang/String")) := ⟨tb2 (List.mem_of_getElem? (i := 32) rfl) rfl, tb2 (List.mem_of_getElem? (i := 31) rfl) rfl, qi_X1, by decide +kernel, by decide +kernel⟩
theorem mwX1_init : mwI yX1_init cX1_init 1 := ⟨tb1 (List.mem_of_getElem? (i := 30) rfl) rfl, tb1 (List.mem_of_getElem? (i := 29) rfl) rfl, qi_X1, by decide +kernel, by decide +kernel, rfl⟩
theorem mwX1_isDigit : mwS yX1_isDigit cX1_isDigit 1 (Option.some FieldType.boolean) := ⟨tb2 (List.mem_of_getElem? (i := 29) rfl) rfl, tb2 (List.mem_of_getElem? (i := 28) rfl) rfl, qi_X1, by decide +kernel, by decide +kernel⟩
theorem mwX1_sign : mwV yX1_sign cX1_sign 2 (Option.some FieldType.int) := ⟨tb2 (List.mem_of_getElem? (i := 22) rfl) rfl, tb2 (List.mem_of_getElem? (i := 21) rfl) rfl, tbs (q := (yX1_sign, 2)) (List.mem_of_getElem? (i := 2) rfl), qi_X1, by decide +kernel, by decide +kernel⟩
theorem mwX1_statements : mwV yX1_statements cX1_statements 4 (Option.some FieldType.int) := ⟨tb2 (List.mem_of_getElem? (i := 14) rfl) rfl, tb2 (List.mem_of_getElem? (i := 12) rfl) rfl, tb2 (List.mem_of_getElem? (i := 13) rfl) rfl, qi_X1, by decide +kernel, by decide +kernel⟩
theorem mwX1_talkerOf : mwS yX1_talkerOf cX1_talkerOf 1 (Option.some FieldType.int) := ⟨tb2 (List.mem_of_getElem? (i := 99) rfl) rfl, tb2 (List.mem_of_getElem? (i := 98) rfl) rfl, qi_X1, by decide +kernel, by decide +kernel⟩
theorem mwX1_tellOne : mwV yX1_tellOne cX1_tellOne 4 (Option.some FieldType.boolean) := ⟨tb2 (List.mem_of_getElem? (i := 174) rfl) rfl, tb2 (List.mem_of_getElem? (i := 173) rfl) rfl, tbs (q := (yX1_tellOne, 2)) (List.mem_of_getElem? (i := 5) rfl), qi_X1, by decide +kernel, by decide +kernel⟩
theorem mwX1_tellTo : mwV yX1_tellTo cX1_tellTo 6 (Option.some FieldType.int) := ⟨tb2 (List.mem_of_getElem? (i := 170) rfl) rfl, tb2 (List.mem_of_getElem? (i := 168) rfl) rfl, tb2 (List.mem_of_getElem? (i := 169) rfl) rfl, qi_X1, by decide +kernel, by decide +kernel⟩
theorem mwX1_tellWord : mwV yX1_tellWord cX1_tellWord 8 (Option.some FieldType.boolean) := ⟨tb2 (List.mem_of_getElem? (i := 178) rfl) rfl, tb2 (List.mem_of_getElem? (i := 177) rfl) rfl, tbs (q := (yX1_tellWord, 2)) (List.mem_of_getElem? (i := 6) rfl), qi_X1, by decide +kernel, by decide +kernel⟩
theorem mwX2_add : mwV yX2_add cX2_add 2 none := ⟨tb3 (List.mem_of_getElem? (i := 4) rfl) rfl, tb3 (List.mem_of_getElem? (i := 2) rfl) rfl, tb3 (List.mem_of_getElem? (i := 3) rfl) rfl, qi_X2, by decide +kernel, by decide +kernel⟩
theorem mwX2_init : mwI yX2_init cX2_init 1 := ⟨tb1 (List.mem_of_getElem? (i := 87) rfl) rfl, tb1 (List.mem_of_getElem? (i := 86) rfl) rfl, qi_X2, by decide +kernel, by decide +kernel, rfl⟩
theorem mwX2_sense : mwV yX2_sense cX2_sense 4 (Option.some FieldType.int) := ⟨tb3 (List.mem_of_getElem? (i := 16) rfl) rfl, tb3 (List.mem_of_getElem? (i := 14) rfl) rfl, tb3 (List.mem_of_getElem? (i := 15) rfl) rfl, qi_X2, by decide +kernel, by decide +kernel⟩
theorem mwX3_answerTo : mwV yX3_answerTo cX3_answerTo 5 (Option.some FieldType.int) := ⟨tb3 (List.mem_of_getElem? (i := 75) rfl) rfl, tb3 (List.mem_of_getElem? (i := 73) rfl) rfl, tb3 (List.mem_of_getElem? (i := 74) rfl) rfl, qi_X3, by decide +kernel, by decide +kernel⟩
theorem mwX3_bestQuestion : mwV yX3_bestQuestion cX3_bestQuestion 4 (Option.some FieldType.int) := ⟨tb3 (List.mem_of_getElem? (i := 188) rfl) rfl, tb3 (List.mem_of_getElem? (i := 186) rfl) rfl, tb3 (List.mem_of_getElem? (i := 187) rfl) rfl, qi_X3, by decide +kernel, by decide +kernel⟩
theorem mwX3_casesAnsweredBy : mwV yX3_casesAnsweredBy cX3_casesAnsweredBy 7 (Option.some FieldType.int) := ⟨tb3 (List.mem_of_getElem? (i := 221) rfl) rfl, tb3 (List.mem_of_getElem? (i := 219) rfl) rfl, tb3 (List.mem_of_getElem? (i := 220) rfl) rfl, qi_X3, by decide +kernel, by decide +kernel⟩
theorem mwX3_casesLeftBy : mwV yX3_casesLeftBy cX3_casesLeftBy 5 (Option.some FieldType.int) := ⟨tb4 (List.mem_of_getElem? (i := 64) rfl) rfl, tb4 (List.mem_of_getElem? (i := 62) rfl) rfl, tb4 (List.mem_of_getElem? (i := 63) rfl) rfl, qi_X3, by decide +kernel, by decide +kernel⟩
theorem mwX3_casesWithWeight : mwV yX3_casesWithWeight cX3_casesWithWeight 3 (Option.some FieldType.int) := ⟨tb3 (List.mem_of_getElem? (i := 204) rfl) rfl, tb3 (List.mem_of_getElem? (i := 203) rfl) rfl, tbs (q := (yX3_casesWithWeight, 18)) (List.mem_of_getElem? (i := 24) rfl), qi_X3, by decide +kernel, by decide +kernel⟩
theorem mwX3_chosen : mwV yX3_chosen cX3_chosen 6 (Option.some FieldType.int) := ⟨tb3 (List.mem_of_getElem? (i := 112) rfl) rfl, tb3 (List.mem_of_getElem? (i := 111) rfl) rfl, tbs (q := (yX3_chosen, 18)) (List.mem_of_getElem? (i := 15) rfl), qi_X3, by decide +kernel, by decide +kernel⟩
theorem mwX3_clearGroups : mwV yX3_clearGroups cX3_clearGroups 2 none := ⟨tb3 (List.mem_of_getElem? (i := 83) rfl) rfl, tb3 (List.mem_of_getElem? (i := 82) rfl) rfl, tbs (q := (yX3_clearGroups, 18)) (List.mem_of_getElem? (i := 12) rfl), qi_X3, by decide +kernel, by decide +kernel⟩
theorem mwX3_findBest : mwV yX3_findBest cX3_findBest 6 (Option.some FieldType.int) := ⟨tb3 (List.mem_of_getElem? (i := 183) rfl) rfl, tb3 (List.mem_of_getElem? (i := 182) rfl) rfl, tbs (q := (yX3_findBest, 18)) (List.mem_of_getElem? (i := 22) rfl), qi_X3, by decide +kernel, by decide +kernel⟩
theorem mwX3_findFirsts : mwV yX3_findFirsts cX3_findFirsts 3 none := ⟨tb3 (List.mem_of_getElem? (i := 153) rfl) rfl, tb3 (List.mem_of_getElem? (i := 152) rfl) rfl, tbs (q := (yX3_findFirsts, 18)) (List.mem_of_getElem? (i := 19) rfl), qi_X3, by decide +kernel, by decide +kernel⟩
theorem mwX3_firstThatForces : mwV yX3_firstThatForces cX3_firstThatForces 3 (Option.some FieldType.int) := ⟨tb3 (List.mem_of_getElem? (i := 196) rfl) rfl, tb3 (List.mem_of_getElem? (i := 194) rfl) rfl, tb3 (List.mem_of_getElem? (i := 195) rfl) rfl, qi_X3, by decide +kernel, by decide +kernel⟩
theorem mwX3_firstThatMeans : mwV yX3_firstThatMeans cX3_firstThatMeans 2 (Option.some FieldType.int) := ⟨tb3 (List.mem_of_getElem? (i := 149) rfl) rfl, tb3 (List.mem_of_getElem? (i := 147) rfl) rfl, tb3 (List.mem_of_getElem? (i := 148) rfl) rfl, qi_X3, by decide +kernel, by decide +kernel⟩
theorem mwX3_forcesAnswer : mwV yX3_forcesAnswer cX3_forcesAnswer 6 (Option.some FieldType.boolean) := ⟨tb3 (List.mem_of_getElem? (i := 200) rfl) rfl, tb3 (List.mem_of_getElem? (i := 199) rfl) rfl, tbs (q := (yX3_forcesAnswer, 18)) (List.mem_of_getElem? (i := 23) rfl), qi_X3, by decide +kernel, by decide +kernel⟩
theorem mwX3_gather : mwV yX3_gather cX3_gather 6 none := ⟨tb3 (List.mem_of_getElem? (i := 106) rfl) rfl, tb3 (List.mem_of_getElem? (i := 105) rfl) rfl, tbs (q := (yX3_gather, 18)) (List.mem_of_getElem? (i := 14) rfl), qi_X3, by decide +kernel, by decide +kernel⟩
theorem mwX3_holdsCase : mwV yX3_holdsCase cX3_holdsCase 3 (Option.some FieldType.boolean) := ⟨tb3 (List.mem_of_getElem? (i := 116) rfl) rfl, tb3 (List.mem_of_getElem? (i := 115) rfl) rfl, tbs (q := (yX3_holdsCase, 18)) (List.mem_of_getElem? (i := 16) rfl), qi_X3, by decide +kernel, by decide +kernel⟩
theorem mwX3_howManyAnswer : mwV yX3_howManyAnswer cX3_howManyAnswer 5 (Option.some FieldType.int) := ⟨tb3 (List.mem_of_getElem? (i := 141) rfl) rfl, tb3 (List.mem_of_getElem? (i := 139) rfl) rfl, tb3 (List.mem_of_getElem? (i := 140) rfl) rfl, qi_X3, by decide +kernel, by decide +kernel⟩
theorem mwX3_init : mwI yX3_init cX3_init 3 := ⟨tb1 (List.mem_of_getElem? (i := 118) rfl) rfl, tb1 (List.mem_of_getElem? (i := 117) rfl) rfl, qi_X3, by decide +kernel, by decide +kernel, rfl⟩
theorem mwX3_isLiked : mwV yX3_isLiked cX3_isLiked 6 (Option.some FieldType.boolean) := ⟨tb3 (List.mem_of_getElem? (i := 120) rfl) rfl, tb3 (List.mem_of_getElem? (i := 119) rfl) rfl, tbs (q := (yX3_isLiked, 18)) (List.mem_of_getElem? (i := 17) rfl), qi_X3, by decide +kernel, by decide +kernel⟩
theorem mwX3_keyOf : mwS yX3_keyOf cX3_keyOf 3 (Option.some FieldType.int) := ⟨tb3 (List.mem_of_getElem? (i := 86) rfl) rfl, tb3 (List.mem_of_getElem? (i := 85) rfl) rfl, qi_X3, by decide +kernel, by decide +kernel⟩
theorem mwX3_leftBy : mwV yX3_leftBy cX3_leftBy 3 (Option.some FieldType.int) := ⟨tb3 (List.mem_of_getElem? (i := 167) rfl) rfl, tb3 (List.mem_of_getElem? (i := 165) rfl) rfl, tb3 (List.mem_of_getElem? (i := 166) rfl) rfl, qi_X3, by decide +kernel, by decide +kernel⟩
theorem mwX3_leftOfBest : mwV yX3_leftOfBest cX3_leftOfBest 4 (Option.some FieldType.int) := ⟨tb3 (List.mem_of_getElem? (i := 179) rfl) rfl, tb3 (List.mem_of_getElem? (i := 177) rfl) rfl, tb3 (List.mem_of_getElem? (i := 178) rfl) rfl, qi_X3, by decide +kernel, by decide +kernel⟩
theorem mwX3_leftUnder : mwV yX3_leftUnder cX3_leftUnder 8 (Option.some FieldType.int) := ⟨tb3 (List.mem_of_getElem? (i := 171) rfl) rfl, tb3 (List.mem_of_getElem? (i := 170) rfl) rfl, tbs (q := (yX3_leftUnder, 18)) (List.mem_of_getElem? (i := 21) rfl), qi_X3, by decide +kernel, by decide +kernel⟩
theorem mwX3_lengthOf : mwV yX3_lengthOf cX3_lengthOf 5 (Option.some FieldType.int) := ⟨tb3 (List.mem_of_getElem? (i := 128) rfl) rfl, tb3 (List.mem_of_getElem? (i := 126) rfl) rfl, tb3 (List.mem_of_getElem? (i := 127) rfl) rfl, qi_X3, by decide +kernel, by decide +kernel⟩
theorem mwX3_noteFirst : mwV yX3_noteFirst cX3_noteFirst 4 none := ⟨tb3 (List.mem_of_getElem? (i := 157) rfl) rfl, tb3 (List.mem_of_getElem? (i := 156) rfl) rfl, tbs (q := (yX3_noteFirst, 18)) (List.mem_of_getElem? (i := 20) rfl), qi_X3, by decide +kernel, by decide +kernel⟩
theorem mwX3_numberOf : mwV yX3_numberOf cX3_numberOf 4 (Option.some FieldType.int) := ⟨tb3 (List.mem_of_getElem? (i := 217) rfl) rfl, tb3 (List.mem_of_getElem? (i := 215) rfl) rfl, tb3 (List.mem_of_getElem? (i := 216) rfl) rfl, qi_X3, by decide +kernel, by decide +kernel⟩
theorem mwX3_putInGroup : mwV yX3_putInGroup cX3_putInGroup 5 none := ⟨tb3 (List.mem_of_getElem? (i := 95) rfl) rfl, tb3 (List.mem_of_getElem? (i := 94) rfl) rfl, tbs (q := (yX3_putInGroup, 18)) (List.mem_of_getElem? (i := 13) rfl), qi_X3, by decide +kernel, by decide +kernel⟩
theorem mwX3_refresh : mwV yX3_refresh cX3_refresh 4 none := ⟨tb3 (List.mem_of_getElem? (i := 79) rfl) rfl, tb3 (List.mem_of_getElem? (i := 78) rfl) rfl, tbs (q := (yX3_refresh, 18)) (List.mem_of_getElem? (i := 11) rfl), qi_X3, by decide +kernel, by decide +kernel⟩
theorem mwX3_wordOf : mwV yX3_wordOf cX3_wordOf 6 (Option.some FieldType.int) := ⟨tb3 (List.mem_of_getElem? (i := 132) rfl) rfl, tb3 (List.mem_of_getElem? (i := 130) rfl) rfl, tb3 (List.mem_of_getElem? (i := 131) rfl) rfl, qi_X3, by decide +kernel, by decide +kernel⟩
theorem mwX4_grown : mwS yX4_grown cX4_grown 4 (Option.some FieldType.int) := ⟨tb3 (List.mem_of_getElem? (i := 24) rfl) rfl, tb3 (List.mem_of_getElem? (i := 23) rfl) rfl, qi_X4, by decide +kernel, by decide +kernel⟩
theorem mwX4_idles : mwS yX4_idles cX4_idles 1 (Option.some FieldType.int) := ⟨tb3 (List.mem_of_getElem? (i := 47) rfl) rfl, tb3 (List.mem_of_getElem? (i := 46) rfl) rfl, qi_X4, by decide +kernel, by decide +kernel⟩
theorem mwX4_length : mwS yX4_length cX4_length 1 (Option.some FieldType.int) := ⟨tb3 (List.mem_of_getElem? (i := 44) rfl) rfl, tb3 (List.mem_of_getElem? (i := 43) rfl) rfl, qi_X4, by decide +kernel, by decide +kernel⟩
theorem mwX4_meaning : mwS yX4_meaning cX4_meaning 1 (Option.some FieldType.int) := ⟨tb3 (List.mem_of_getElem? (i := 31) rfl) rfl, tb3 (List.mem_of_getElem? (i := 30) rfl) rfl, qi_X4, by decide +kernel, by decide +kernel⟩
theorem mwX4_ofLength : mwS yX4_ofLength cX4_ofLength 2 (Option.some FieldType.int) := ⟨tb3 (List.mem_of_getElem? (i := 38) rfl) rfl, tb3 (List.mem_of_getElem? (i := 37) rfl) rfl, qi_X4, by decide +kernel, by decide +kernel⟩
theorem mwX4_withTelling : mwS yX4_withTelling cX4_withTelling 5 (Option.some FieldType.int) := ⟨tb3 (List.mem_of_getElem? (i := 27) rfl) rfl, tb3 (List.mem_of_getElem? (i := 26) rfl) rfl, qi_X4, by decide +kernel, by decide +kernel⟩
theorem mwX5_add : mwV yX5_add cX5_add 2 none := ⟨tb4 (List.mem_of_getElem? (i := 1) rfl) rfl, tb3 (List.mem_of_getElem? (i := 239) rfl) rfl, tb4 (List.mem_of_getElem? (i := 0) rfl) rfl, qi_X5, by decide +kernel, by decide +kernel⟩
theorem mwX5_copyFrom : mwV yX5_copyFrom cX5_copyFrom 2 none := ⟨tb4 (List.mem_of_getElem? (i := 72) rfl) rfl, tb4 (List.mem_of_getElem? (i := 70) rfl) rfl, tb4 (List.mem_of_getElem? (i := 71) rfl) rfl, qi_X5, by decide +kernel, by decide +kernel⟩
theorem mwX5_init : mwI yX5_init cX5_init 1 := ⟨tb1 (List.mem_of_getElem? (i := 103) rfl) rfl, tb1 (List.mem_of_getElem? (i := 102) rfl) rfl, qi_X5, by decide +kernel, by decide +kernel, rfl⟩
theorem mwX5_latest : mwV yX5_latest cX5_latest 1 (Option.some FieldType.int) := ⟨tb3 (List.mem_of_getElem? (i := 237) rfl) rfl, tb3 (List.mem_of_getElem? (i := 235) rfl) rfl, tb3 (List.mem_of_getElem? (i := 236) rfl) rfl, qi_X5, by decide +kernel, by decide +kernel⟩
theorem mwX5_meaningOfAnswers : mwV yX5_meaningOfAnswers cX5_meaningOfAnswers 3 (Option.some FieldType.int) := ⟨tb4 (List.mem_of_getElem? (i := 13) rfl) rfl, tb4 (List.mem_of_getElem? (i := 11) rfl) rfl, tb4 (List.mem_of_getElem? (i := 12) rfl) rfl, qi_X5, by decide +kernel, by decide +kernel⟩
theorem mwX6_addPerson : mwV yX6_addPerson cX6_addPerson 2 (Option.some FieldType.boolean) := ⟨tb2 (List.mem_of_getElem? (i := 205) rfl) rfl, tb2 (List.mem_of_getElem? (i := 203) rfl) rfl, tb2 (List.mem_of_getElem? (i := 204) rfl) rfl, qi_X6, by decide +kernel, by decide +kernel⟩
theorem mwX6_addWord : mwV yX6_addWord cX6_addWord 3 (Option.some FieldType.boolean) := ⟨tb2 (List.mem_of_getElem? (i := 189) rfl) rfl, tb2 (List.mem_of_getElem? (i := 187) rfl) rfl, tb2 (List.mem_of_getElem? (i := 188) rfl) rfl, qi_X6, by decide +kernel, by decide +kernel⟩
theorem mwX6_copyFrom : mwV yX6_copyFrom cX6_copyFrom 2 none := ⟨tb2 (List.mem_of_getElem? (i := 163) rfl) rfl, tb2 (List.mem_of_getElem? (i := 161) rfl) rfl, tb2 (List.mem_of_getElem? (i := 162) rfl) rfl, qi_X6, by decide +kernel, by decide +kernel⟩
theorem mwX6_grown : mwV yX6_grown cX6_grown 3 (Option.some FieldType.int) := ⟨tb3 (List.mem_of_getElem? (i := 20) rfl) rfl, tb3 (List.mem_of_getElem? (i := 18) rfl) rfl, tb3 (List.mem_of_getElem? (i := 19) rfl) rfl, qi_X6, by decide +kernel, by decide +kernel⟩
theorem mwX6_hasPerson : mwV yX6_hasPerson cX6_hasPerson 2 (Option.some FieldType.boolean) := ⟨tb3 (List.mem_of_getElem? (i := 71) rfl) rfl, tb3 (List.mem_of_getElem? (i := 69) rfl) rfl, tb3 (List.mem_of_getElem? (i := 70) rfl) rfl, qi_X6, by decide +kernel, by decide +kernel⟩
theorem mwX6_hasWord : mwV yX6_hasWord cX6_hasWord 2 (Option.some FieldType.boolean) := ⟨tb2 (List.mem_of_getElem? (i := 218) rfl) rfl, tb2 (List.mem_of_getElem? (i := 216) rfl) rfl, tb2 (List.mem_of_getElem? (i := 217) rfl) rfl, qi_X6, by decide +kernel, by decide +kernel⟩
theorem mwX6_init : mwI yX6_init cX6_init 1 := ⟨tb1 (List.mem_of_getElem? (i := 45) rfl) rfl, tb1 (List.mem_of_getElem? (i := 44) rfl) rfl, qi_X6, by decide +kernel, by decide +kernel, rfl⟩
theorem mwX6_setLaw : mwV yX6_setLaw cX6_setLaw 2 (Option.some FieldType.boolean) := ⟨tb2 (List.mem_of_getElem? (i := 198) rfl) rfl, tb2 (List.mem_of_getElem? (i := 196) rfl) rfl, tb2 (List.mem_of_getElem? (i := 197) rfl) rfl, qi_X6, by decide +kernel, by decide +kernel⟩
theorem mwX6_setWeight : mwV yX6_setWeight cX6_setWeight 3 (Option.some FieldType.boolean) := ⟨tb2 (List.mem_of_getElem? (i := 193) rfl) rfl, tb2 (List.mem_of_getElem? (i := 191) rfl) rfl, tb2 (List.mem_of_getElem? (i := 192) rfl) rfl, qi_X6, by decide +kernel, by decide +kernel⟩
theorem mwX6_weightOf : mwV yX6_weightOf cX6_weightOf 4 (Option.some FieldType.int) := ⟨tb3 (List.mem_of_getElem? (i := 99) rfl) rfl, tb3 (List.mem_of_getElem? (i := 97) rfl) rfl, tb3 (List.mem_of_getElem? (i := 98) rfl) rfl, qi_X6, by decide +kernel, by decide +kernel⟩
theorem mwX7_addTo : mwV yX7_addTo cX7_addTo 3 (Option.some FieldType.int) := ⟨tb3 (List.mem_of_getElem? (i := 0) rfl) rfl, tb2 (List.mem_of_getElem? (i := 239) rfl) rfl, tbs (q := (yX7_addTo, 11)) (List.mem_of_getElem? (i := 9) rfl), qi_X7, by decide +kernel, by decide +kernel⟩
theorem mwX7_answer : mwV yX7_answer cX7_answer 4 (Option.some FieldType.int) := ⟨tb3 (List.mem_of_getElem? (i := 67) rfl) rfl, tb3 (List.mem_of_getElem? (i := 65) rfl) rfl, tb3 (List.mem_of_getElem? (i := 66) rfl) rfl, qi_X7, by decide +kernel, by decide +kernel⟩
theorem mwX7_answers : mwV yX7_answers cX7_answers 2 (Option.some FieldType.int) := ⟨tb3 (List.mem_of_getElem? (i := 137) rfl) rfl, tb3 (List.mem_of_getElem? (i := 135) rfl) rfl, tb3 (List.mem_of_getElem? (i := 136) rfl) rfl, qi_X7, by decide +kernel, by decide +kernel⟩
theorem mwX7_asBit : mwS yX7_asBit cX7_asBit 1 (Option.some FieldType.int) := ⟨tb3 (List.mem_of_getElem? (i := 50) rfl) rfl, tb3 (List.mem_of_getElem? (i := 49) rfl) rfl, qi_X7, by decide +kernel, by decide +kernel⟩
theorem mwX7_best : mwV yX7_best cX7_best 4 (Option.some FieldType.int) := ⟨tb3 (List.mem_of_getElem? (i := 175) rfl) rfl, tb3 (List.mem_of_getElem? (i := 173) rfl) rfl, tb3 (List.mem_of_getElem? (i := 174) rfl) rfl, qi_X7, by decide +kernel, by decide +kernel⟩
theorem mwX7_chance : mwV yX7_chance cX7_chance 6 (Option.some FieldType.int) := ⟨tb3 (List.mem_of_getElem? (i := 225) rfl) rfl, tb3 (List.mem_of_getElem? (i := 223) rfl) rfl, tb3 (List.mem_of_getElem? (i := 224) rfl) rfl, qi_X7, by decide +kernel, by decide +kernel⟩
theorem mwX7_commonDivisor : mwS yX7_commonDivisor cX7_commonDivisor 6 (Option.some FieldType.int) := ⟨tb3 (List.mem_of_getElem? (i := 229) rfl) rfl, tb3 (List.mem_of_getElem? (i := 228) rfl) rfl, qi_X7, by decide +kernel, by decide +kernel⟩
theorem mwX7_count : mwV yX7_count cX7_count 2 (Option.some FieldType.int) := ⟨tb4 (List.mem_of_getElem? (i := 81) rfl) rfl, tb4 (List.mem_of_getElem? (i := 79) rfl) rfl, tb4 (List.mem_of_getElem? (i := 80) rfl) rfl, qi_X7, by decide +kernel, by decide +kernel⟩
theorem mwX7_drawn : mwS yX7_drawn cX7_drawn 2 (Option.some FieldType.int) := ⟨tb4 (List.mem_of_getElem? (i := 58) rfl) rfl, tb4 (List.mem_of_getElem? (i := 57) rfl) rfl, qi_X7, by decide +kernel, by decide +kernel⟩
theorem mwX7_follows : mwV yX7_follows cX7_follows 3 (Option.some FieldType.int) := ⟨tb3 (List.mem_of_getElem? (i := 35) rfl) rfl, tb3 (List.mem_of_getElem? (i := 33) rfl) rfl, tb3 (List.mem_of_getElem? (i := 34) rfl) rfl, qi_X7, by decide +kernel, by decide +kernel⟩
theorem mwX7_force : mwV yX7_force cX7_force 4 (Option.some FieldType.int) := ⟨tb3 (List.mem_of_getElem? (i := 192) rfl) rfl, tb3 (List.mem_of_getElem? (i := 190) rfl) rfl, tb3 (List.mem_of_getElem? (i := 191) rfl) rfl, qi_X7, by decide +kernel, by decide +kernel⟩
theorem mwX7_forgetSayings : mwV yX7_forgetSayings cX7_forgetSayings 1 none := ⟨tb2 (List.mem_of_getElem? (i := 209) rfl) rfl, tb2 (List.mem_of_getElem? (i := 208) rfl) rfl, tbs (q := (yX7_forgetSayings, 11)) (List.mem_of_getElem? (i := 8) rfl), qi_X7, by decide +kernel, by decide +kernel⟩
theorem mwX7_idle : mwV yX7_idle cX7_idle 3 (Option.some FieldType.int) := ⟨tb4 (List.mem_of_getElem? (i := 37) rfl) rfl, tb4 (List.mem_of_getElem? (i := 35) rfl) rfl, tb4 (List.mem_of_getElem? (i := 36) rfl) rfl, qi_X7, by decide +kernel, by decide +kernel⟩
theorem mwX7_image : mwV yX7_image cX7_image 1 (Option.some FieldType.int) := ⟨tb4 (List.mem_of_getElem? (i := 68) rfl) rfl, tb4 (List.mem_of_getElem? (i := 66) rfl) rfl, tb4 (List.mem_of_getElem? (i := 67) rfl) rfl, qi_X7, by decide +kernel, by decide +kernel⟩
theorem mwX7_init : mwI yX7_init cX7_init 1 := ⟨tb1 (List.mem_of_getElem? (i := 22) rfl) rfl, tb1 (List.mem_of_getElem? (i := 21) rfl) rfl, qi_X7, by decide +kernel, by decide +kernel, rfl⟩
theorem mwX7_isCase : mwS yX7_isCase cX7_isCase 1 (Option.some FieldType.boolean) := ⟨tb2 (List.mem_of_getElem? (i := 185) rfl) rfl, tb2 (List.mem_of_getElem? (i := 184) rfl) rfl, qi_X7, by decide +kernel, by decide +kernel⟩
theorem mwX7_isLaw : mwS yX7_isLaw cX7_isLaw 1 (Option.some FieldType.boolean) := ⟨tb2 (List.mem_of_getElem? (i := 201) rfl) rfl, tb2 (List.mem_of_getElem? (i := 200) rfl) rfl, qi_X7, by decide +kernel, by decide +kernel⟩
theorem mwX7_isOnOneSide : mwS yX7_isOnOneSide cX7_isOnOneSide 2 (Option.some FieldType.boolean) := ⟨tb3 (List.mem_of_getElem? (i := 63) rfl) rfl, tb3 (List.mem_of_getElem? (i := 62) rfl) rfl, qi_X7, by decide +kernel, by decide +kernel⟩
theorem mwX7_isSet : mwS yX7_isSet cX7_isSet 1 (Option.some FieldType.boolean) := ⟨tb3 (List.mem_of_getElem? (i := 57) rfl) rfl, tb3 (List.mem_of_getElem? (i := 56) rfl) rfl, qi_X7, by decide +kernel, by decide +kernel⟩
theorem mwX7_isSettled : mwS yX7_isSettled cX7_isSettled 2 (Option.some FieldType.boolean) := ⟨tb3 (List.mem_of_getElem? (i := 60) rfl) rfl, tb3 (List.mem_of_getElem? (i := 59) rfl) rfl, qi_X7, by decide +kernel, by decide +kernel⟩
theorem mwX7_known : mwV yX7_known cX7_known 1 (Option.some FieldType.int) := ⟨tb4 (List.mem_of_getElem? (i := 9) rfl) rfl, tb4 (List.mem_of_getElem? (i := 7) rfl) rfl, tb4 (List.mem_of_getElem? (i := 8) rfl) rfl, qi_X7, by decide +kernel, by decide +kernel⟩
theorem mwX7_last : mwV yX7_last cX7_last 2 (Option.some FieldType.int) := ⟨tb4 (List.mem_of_getElem? (i := 30) rfl) rfl, tb4 (List.mem_of_getElem? (i := 28) rfl) rfl, tb4 (List.mem_of_getElem? (i := 29) rfl) rfl, qi_X7, by decide +kernel, by decide +kernel⟩
theorem mwX7_law : mwV yX7_law cX7_law 3 (Option.some FieldType.int) := ⟨tb2 (List.mem_of_getElem? (i := 231) rfl) rfl, tb2 (List.mem_of_getElem? (i := 229) rfl) rfl, tb2 (List.mem_of_getElem? (i := 230) rfl) rfl, qi_X7, by decide +kernel, by decide +kernel⟩
theorem mwX7_least : mwV yX7_least cX7_least 4 (Option.some FieldType.int) := ⟨tb3 (List.mem_of_getElem? (i := 145) rfl) rfl, tb3 (List.mem_of_getElem? (i := 143) rfl) rfl, tb3 (List.mem_of_getElem? (i := 144) rfl) rfl, qi_X7, by decide +kernel, by decide +kernel⟩
theorem mwX7_left : mwV yX7_left cX7_left 2 (Option.some FieldType.int) := ⟨tb3 (List.mem_of_getElem? (i := 163) rfl) rfl, tb3 (List.mem_of_getElem? (i := 161) rfl) rfl, tb3 (List.mem_of_getElem? (i := 162) rfl) rfl, qi_X7, by decide +kernel, by decide +kernel⟩
theorem mwX7_leftByLots : mwV yX7_leftByLots cX7_leftByLots 10 (Option.some FieldType.int) := ⟨tb4 (List.mem_of_getElem? (i := 50) rfl) rfl, tb4 (List.mem_of_getElem? (i := 49) rfl) rfl, tbs (q := (yX7_leftByLots, 11)) (List.mem_of_getElem? (i := 25) rfl), qi_X7, by decide +kernel, by decide +kernel⟩
theorem mwX7_lengthOrWord : mwV yX7_lengthOrWord cX7_lengthOrWord 3 (Option.some FieldType.int) := ⟨tb3 (List.mem_of_getElem? (i := 124) rfl) rfl, tb3 (List.mem_of_getElem? (i := 123) rfl) rfl, tbs (q := (yX7_lengthOrWord, 11)) (List.mem_of_getElem? (i := 18) rfl), qi_X7, by decide +kernel, by decide +kernel⟩
theorem mwX7_letter : mwV yX7_letter cX7_letter 2 (Option.some FieldType.int) := ⟨tb1 (List.mem_of_getElem? (i := 238) rfl) rfl, tb1 (List.mem_of_getElem? (i := 236) rfl) rfl, tb1 (List.mem_of_getElem? (i := 237) rfl) rfl, qi_X7, by decide +kernel, by decide +kernel⟩
theorem mwX7_longest : mwV yX7_longest cX7_longest 2 (Option.some FieldType.int) := ⟨tb4 (List.mem_of_getElem? (i := 22) rfl) rfl, tb4 (List.mem_of_getElem? (i := 20) rfl) rfl, tb4 (List.mem_of_getElem? (i := 21) rfl) rfl, qi_X7, by decide +kernel, by decide +kernel⟩
theorem mwX7_longestFrom : mwS yX7_longestFrom cX7_longestFrom 6 (Option.some FieldType.int) := ⟨tb4 (List.mem_of_getElem? (i := 25) rfl) rfl, tb4 (List.mem_of_getElem? (i := 24) rfl) rfl, qi_X7, by decide +kernel, by decide +kernel⟩
theorem mwX7_lots : mwV yX7_lots cX7_lots 4 (Option.some FieldType.int) := ⟨tb4 (List.mem_of_getElem? (i := 46) rfl) rfl, tb4 (List.mem_of_getElem? (i := 44) rfl) rfl, tb4 (List.mem_of_getElem? (i := 45) rfl) rfl, qi_X7, by decide +kernel, by decide +kernel⟩
theorem mwX7_mayFollow : mwS yX7_mayFollow cX7_mayFollow 5 (Option.some FieldType.boolean) := ⟨tb3 (List.mem_of_getElem? (i := 41) rfl) rfl, tb3 (List.mem_of_getElem? (i := 40) rfl) rfl, qi_X7, by decide +kernel, by decide +kernel⟩
theorem mwX7_means : mwV yX7_means cX7_means 1 (Option.some FieldType.int) := ⟨tb3 (List.mem_of_getElem? (i := 8) rfl) rfl, tb3 (List.mem_of_getElem? (i := 6) rfl) rfl, tb3 (List.mem_of_getElem? (i := 7) rfl) rfl, qi_X7, by decide +kernel, by decide +kernel⟩
theorem mwX7_meant : mwV yX7_meant cX7_meant 3 (Option.some FieldType.int) := ⟨tb3 (List.mem_of_getElem? (i := 213) rfl) rfl, tb3 (List.mem_of_getElem? (i := 211) rfl) rfl, tb3 (List.mem_of_getElem? (i := 212) rfl) rfl, qi_X7, by decide +kernel, by decide +kernel⟩
theorem mwX7_on : mwV yX7_on cX7_on 1 (Option.some FieldType.int) := ⟨tb4 (List.mem_of_getElem? (i := 77) rfl) rfl, tb4 (List.mem_of_getElem? (i := 75) rfl) rfl, tb4 (List.mem_of_getElem? (i := 76) rfl) rfl, qi_X7, by decide +kernel, by decide +kernel⟩
theorem mwX7_refuse : mwV yX7_refuse cX7_refuse 2 (Option.some FieldType.int) := ⟨tb2 (List.mem_of_getElem? (i := 2) rfl) rfl, tb2 (List.mem_of_getElem? (i := 1) rfl) rfl, tbs (q := (yX7_refuse, 11)) (List.mem_of_getElem? (i := 0) rfl), qi_X7, by decide +kernel, by decide +kernel⟩
theorem mwX7_row : mwV yX7_row cX7_row 2 (Option.some FieldType.int) := ⟨tb2 (List.mem_of_getElem? (i := 236) rfl) rfl, tb2 (List.mem_of_getElem? (i := 234) rfl) rfl, tb2 (List.mem_of_getElem? (i := 235) rfl) rfl, qi_X7, by decide +kernel, by decide +kernel⟩
theorem mwX7_say : mwV yX7_say cX7_say 2 (Option.some FieldType.int) := ⟨tb3 (List.mem_of_getElem? (i := 233) rfl) rfl, tb3 (List.mem_of_getElem? (i := 231) rfl) rfl, tb3 (List.mem_of_getElem? (i := 232) rfl) rfl, qi_X7, by decide +kernel, by decide +kernel⟩
theorem mwX7_saying : mwV yX7_saying cX7_saying 4 (Option.some FieldType.int) := ⟨tb4 (List.mem_of_getElem? (i := 5) rfl) rfl, tb4 (List.mem_of_getElem? (i := 3) rfl) rfl, tb4 (List.mem_of_getElem? (i := 4) rfl) rfl, qi_X7, by decide +kernel, by decide +kernel⟩
theorem mwX7_settles : mwV yX7_settles cX7_settles 2 (Option.some FieldType.int) := ⟨tb3 (List.mem_of_getElem? (i := 54) rfl) rfl, tb3 (List.mem_of_getElem? (i := 52) rfl) rfl, tb3 (List.mem_of_getElem? (i := 53) rfl) rfl, qi_X7, by decide +kernel, by decide +kernel⟩
theorem mwX7_silence : mwV yX7_silence cX7_silence 2 (Option.some FieldType.int) := ⟨tb4 (List.mem_of_getElem? (i := 18) rfl) rfl, tb4 (List.mem_of_getElem? (i := 16) rfl) rfl, tb4 (List.mem_of_getElem? (i := 17) rfl) rfl, qi_X7, by decide +kernel, by decide +kernel⟩
theorem mwX7_speaksLast : mwS yX7_speaksLast cX7_speaksLast 4 (Option.some FieldType.boolean) := ⟨tb4 (List.mem_of_getElem? (i := 33) rfl) rfl, tb4 (List.mem_of_getElem? (i := 32) rfl) rfl, qi_X7, by decide +kernel, by decide +kernel⟩
theorem mwX7_stirred : mwS yX7_stirred cX7_stirred 1 (Option.some FieldType.int) := ⟨tb4 (List.mem_of_getElem? (i := 53) rfl) rfl, tb4 (List.mem_of_getElem? (i := 52) rfl) rfl, qi_X7, by decide +kernel, by decide +kernel⟩
theorem mwX7_takeRow : mwV yX7_takeRow cX7_takeRow 2 (Option.some FieldType.int) := ⟨tb3 (List.mem_of_getElem? (i := 12) rfl) rfl, tb3 (List.mem_of_getElem? (i := 11) rfl) rfl, tbs (q := (yX7_takeRow, 11)) (List.mem_of_getElem? (i := 10) rfl), qi_X7, by decide +kernel, by decide +kernel⟩
theorem mwX7_told : mwV yX7_told cX7_told 2 (Option.some FieldType.int) := ⟨tb3 (List.mem_of_getElem? (i := 209) rfl) rfl, tb3 (List.mem_of_getElem? (i := 207) rfl) rfl, tb3 (List.mem_of_getElem? (i := 208) rfl) rfl, qi_X7, by decide +kernel, by decide +kernel⟩
theorem mwX7_tongue : mwV yX7_tongue cX7_tongue 2 (Option.some FieldType.int) := ⟨tb2 (List.mem_of_getElem? (i := 10) rfl) rfl, tb2 (List.mem_of_getElem? (i := 8) rfl) rfl, tb2 (List.mem_of_getElem? (i := 9) rfl) rfl, qi_X7, by decide +kernel, by decide +kernel⟩
theorem mwX7_truth : mwV yX7_truth cX7_truth 3 (Option.some FieldType.int) := ⟨tb2 (List.mem_of_getElem? (i := 227) rfl) rfl, tb2 (List.mem_of_getElem? (i := 225) rfl) rfl, tb2 (List.mem_of_getElem? (i := 226) rfl) rfl, qi_X7, by decide +kernel, by decide +kernel⟩
theorem mwX7_under : mwV yX7_under cX7_under 3 (Option.some FieldType.int) := ⟨tb4 (List.mem_of_getElem? (i := 42) rfl) rfl, tb4 (List.mem_of_getElem? (i := 40) rfl) rfl, tb4 (List.mem_of_getElem? (i := 41) rfl) rfl, qi_X7, by decide +kernel, by decide +kernel⟩
theorem mwX7_weight : mwV yX7_weight cX7_weight 2 (Option.some FieldType.int) := ⟨tb2 (List.mem_of_getElem? (i := 222) rfl) rfl, tb2 (List.mem_of_getElem? (i := 220) rfl) rfl, tb2 (List.mem_of_getElem? (i := 221) rfl) rfl, qi_X7, by decide +kernel, by decide +kernel⟩
theorem mwX7_word : mwV yX7_word cX7_word 3 (Option.some FieldType.int) := ⟨tb2 (List.mem_of_getElem? (i := 214) rfl) rfl, tb2 (List.mem_of_getElem? (i := 212) rfl) rfl, tb2 (List.mem_of_getElem? (i := 213) rfl) rfl, qi_X7, by decide +kernel, by decide +kernel⟩
theorem mwX8_add : mwV yX8_add cX8_add 6 none := ⟨tb5 (List.mem_of_getElem? (i := 94) rfl) rfl, tb5 (List.mem_of_getElem? (i := 93) rfl) rfl, tbs (q := (yX8_add, 36)) (List.mem_of_getElem? (i := 43) rfl), qi_X8, by decide +kernel, by decide +kernel⟩
theorem mwX8_addWord : mwV yX8_addWord cX8_addWord 3 (Option.some FieldType.boolean) := ⟨tb5 (List.mem_of_getElem? (i := 19) rfl) rfl, tb5 (List.mem_of_getElem? (i := 18) rfl) rfl, tbs (q := (yX8_addWord, 36)) (List.mem_of_getElem? (i := 37) rfl), qi_X8, by decide +kernel, by decide +kernel⟩
theorem mwX8_answer : mwV yX8_answer cX8_answer 4 (Option.some FieldType.int) := ⟨tb5 (List.mem_of_getElem? (i := 82) rfl) rfl, tb5 (List.mem_of_getElem? (i := 80) rfl) rfl, tb5 (List.mem_of_getElem? (i := 81) rfl) rfl, qi_X8, by decide +kernel, by decide +kernel⟩
theorem mwX8_answerOf : mwV yX8_answerOf cX8_answerOf 5 (Option.some FieldType.int) := ⟨tb5 (List.mem_of_getElem? (i := 106) rfl) rfl, tb5 (List.mem_of_getElem? (i := 105) rfl) rfl, tbs (q := (yX8_answerOf, 36)) (List.mem_of_getElem? (i := 46) rfl), qi_X8, by decide +kernel, by decide +kernel⟩
theorem mwX8_answers : mwV yX8_answers cX8_answers 4 (Option.some FieldType.int) := ⟨tb5 (List.mem_of_getElem? (i := 122) rfl) rfl, tb5 (List.mem_of_getElem? (i := 120) rfl) rfl, tb5 (List.mem_of_getElem? (i := 121) rfl) rfl, qi_X8, by decide +kernel, by decide +kernel⟩
theorem mwX8_asks : mwV yX8_asks cX8_asks 5 none := ⟨tb5 (List.mem_of_getElem? (i := 102) rfl) rfl, tb5 (List.mem_of_getElem? (i := 101) rfl) rfl, tbs (q := (yX8_asks, 36)) (List.mem_of_getElem? (i := 45) rfl), qi_X8, by decide +kernel, by decide +kernel⟩
theorem mwX8_asksRow : mwV yX8_asksRow cX8_asksRow 1 none := ⟨tb5 (List.mem_of_getElem? (i := 98) rfl) rfl, tb5 (List.mem_of_getElem? (i := 97) rfl) rfl, tbs (q := (yX8_asksRow, 36)) (List.mem_of_getElem? (i := 44) rfl), qi_X8, by decide +kernel, by decide +kernel⟩
theorem mwX8_best : mwV yX8_best cX8_best 4 (Option.some FieldType.int) := ⟨tb5 (List.mem_of_getElem? (i := 142) rfl) rfl, tb5 (List.mem_of_getElem? (i := 140) rfl) rfl, tb5 (List.mem_of_getElem? (i := 141) rfl) rfl, qi_X8, by decide +kernel, by decide +kernel⟩
theorem mwX8_bestOf : mwV yX8_bestOf cX8_bestOf 6 (Option.some FieldType.int) := ⟨tb5 (List.mem_of_getElem? (i := 146) rfl) rfl, tb5 (List.mem_of_getElem? (i := 145) rfl) rfl, tbs (q := (yX8_bestOf, 36)) (List.mem_of_getElem? (i := 52) rfl), qi_X8, by decide +kernel, by decide +kernel⟩
theorem mwX8_chance : mwV yX8_chance cX8_chance 6 (Option.some FieldType.int) := ⟨tb5 (List.mem_of_getElem? (i := 170) rfl) rfl, tb5 (List.mem_of_getElem? (i := 168) rfl) rfl, tb5 (List.mem_of_getElem? (i := 169) rfl) rfl, qi_X8, by decide +kernel, by decide +kernel⟩
theorem mwX8_comes : mwV yX8_comes cX8_comes 3 (Option.some FieldType.boolean) := ⟨tb5 (List.mem_of_getElem? (i := 11) rfl) rfl, tb5 (List.mem_of_getElem? (i := 10) rfl) rfl, tbs (q := (yX8_comes, 36)) (List.mem_of_getElem? (i := 35) rfl), qi_X8, by decide +kernel, by decide +kernel⟩
theorem mwX8_common : mwS yX8_common cX8_common 5 (Option.some FieldType.int) := ⟨tb5 (List.mem_of_getElem? (i := 173) rfl) rfl, tb5 (List.mem_of_getElem? (i := 172) rfl) rfl, qi_X8, by decide +kernel, by decide +kernel⟩
theorem mwX8_count : mwV yX8_count cX8_count 2 (Option.some FieldType.int) := ⟨tb5 (List.mem_of_getElem? (i := 229) rfl) rfl, tb5 (List.mem_of_getElem? (i := 227) rfl) rfl, tb5 (List.mem_of_getElem? (i := 228) rfl) rfl, qi_X8, by decide +kernel, by decide +kernel⟩
theorem mwX8_digit : mwV yX8_digit cX8_digit 2 (Option.some FieldType.boolean) := ⟨tb4 (List.mem_of_getElem? (i := 230) rfl) rfl, tb4 (List.mem_of_getElem? (i := 229) rfl) rfl, tbs (q := (yX8_digit, 36)) (List.mem_of_getElem? (i := 31) rfl), qi_X8, by decide +kernel, by decide +kernel⟩
theorem mwX8_doesSettle : mwS yX8_doesSettle cX8_doesSettle 2 (Option.some FieldType.boolean) := ⟨tb5 (List.mem_of_getElem? (i := 78) rfl) rfl, tb5 (List.mem_of_getElem? (i := 77) rfl) rfl, qi_X8, by decide +kernel, by decide +kernel⟩
theorem mwX8_draw : mwV yX8_draw cX8_draw 2 (Option.some FieldType.int) := ⟨tb5 (List.mem_of_getElem? (i := 214) rfl) rfl, tb5 (List.mem_of_getElem? (i := 213) rfl) rfl, tbs (q := (yX8_draw, 36)) (List.mem_of_getElem? (i := 55) rfl), qi_X8, by decide +kernel, by decide +kernel⟩
theorem mwX8_faultOfForm : mwV yX8_faultOfForm cX8_faultOfForm 1 (Option.some FieldType.int) := ⟨tb4 (List.mem_of_getElem? (i := 214) rfl) rfl, tb4 (List.mem_of_getElem? (i := 213) rfl) rfl, tbs (q := (yX8_faultOfForm, 36)) (List.mem_of_getElem? (i := 27) rfl), qi_X8, by decide +kernel, by decide +kernel⟩
theorem mwX8_follows : mwV yX8_follows cX8_follows 4 (Option.some FieldType.int) := ⟨tb5 (List.mem_of_getElem? (i := 61) rfl) rfl, tb5 (List.mem_of_getElem? (i := 59) rfl) rfl, tb5 (List.mem_of_getElem? (i := 60) rfl) rfl, qi_X8, by decide +kernel, by decide +kernel⟩
theorem mwX8_force : mwV yX8_force cX8_force 4 (Option.some FieldType.int) := ⟨tb5 (List.mem_of_getElem? (i := 150) rfl) rfl, tb5 (List.mem_of_getElem? (i := 148) rfl) rfl, tb5 (List.mem_of_getElem? (i := 149) rfl) rfl, qi_X8, by decide +kernel, by decide +kernel⟩
theorem mwX8_forces : mwV yX8_forces cX8_forces 7 (Option.some FieldType.boolean) := ⟨tb5 (List.mem_of_getElem? (i := 154) rfl) rfl, tb5 (List.mem_of_getElem? (i := 153) rfl) rfl, tbs (q := (yX8_forces, 36)) (List.mem_of_getElem? (i := 53) rfl), qi_X8, by decide +kernel, by decide +kernel⟩
theorem mwX8_goesBy : mwV yX8_goesBy cX8_goesBy 2 (Option.some FieldType.boolean) := ⟨tb4 (List.mem_of_getElem? (i := 218) rfl) rfl, tb4 (List.mem_of_getElem? (i := 217) rfl) rfl, tbs (q := (yX8_goesBy, 36)) (List.mem_of_getElem? (i := 28) rfl), qi_X8, by decide +kernel, by decide +kernel⟩
theorem mwX8_goesOn : mwV yX8_goesOn cX8_goesOn 2 (Option.some FieldType.boolean) := ⟨tb5 (List.mem_of_getElem? (i := 130) rfl) rfl, tb5 (List.mem_of_getElem? (i := 129) rfl) rfl, tbs (q := (yX8_goesOn, 36)) (List.mem_of_getElem? (i := 50) rfl), qi_X8, by decide +kernel, by decide +kernel⟩
theorem mwX8_idle : mwV yX8_idle cX8_idle 3 (Option.some FieldType.int) := ⟨tb5 (List.mem_of_getElem? (i := 201) rfl) rfl, tb5 (List.mem_of_getElem? (i := 199) rfl) rfl, tb5 (List.mem_of_getElem? (i := 200) rfl) rfl, qi_X8, by decide +kernel, by decide +kernel⟩
theorem mwX8_idleOf : mwV yX8_idleOf cX8_idleOf 5 (Option.some FieldType.int) := ⟨tb5 (List.mem_of_getElem? (i := 65) rfl) rfl, tb5 (List.mem_of_getElem? (i := 64) rfl) rfl, tbs (q := (yX8_idleOf, 36)) (List.mem_of_getElem? (i := 40) rfl), qi_X8, by decide +kernel, by decide +kernel⟩
theorem mwX8_image : mwV yX8_image cX8_image 1 (Option.some FieldType.int) := ⟨tb5 (List.mem_of_getElem? (i := 221) rfl) rfl, tb5 (List.mem_of_getElem? (i := 219) rfl) rfl, tb5 (List.mem_of_getElem? (i := 220) rfl) rfl, qi_X8, by decide +kernel, by decide +kernel⟩
theorem mwX8_in : mwS yX8_in cX8_in 3 (Option.some FieldType.boolean) := ⟨tb5 (List.mem_of_getElem? (i := 30) rfl) rfl, tb5 (List.mem_of_getElem? (i := 29) rfl) rfl, qi_X8, by decide +kernel, by decide +kernel⟩
theorem mwX8_init : mwI yX8_init cX8_init 2 := ⟨tb4 (List.mem_of_getElem? (i := 86) rfl) rfl, tb4 (List.mem_of_getElem? (i := 85) rfl) rfl, qi_X8, by decide +kernel, by decide +kernel, rfl⟩
theorem mwX8_isAnswer : mwV yX8_isAnswer cX8_isAnswer 2 (Option.some FieldType.boolean) := ⟨tb5 (List.mem_of_getElem? (i := 110) rfl) rfl, tb5 (List.mem_of_getElem? (i := 109) rfl) rfl, tbs (q := (yX8_isAnswer, 36)) (List.mem_of_getElem? (i := 47) rfl), qi_X8, by decide +kernel, by decide +kernel⟩
theorem mwX8_isBetter : mwV yX8_isBetter cX8_isBetter 5 (Option.some FieldType.boolean) := ⟨tb5 (List.mem_of_getElem? (i := 114) rfl) rfl, tb5 (List.mem_of_getElem? (i := 113) rfl) rfl, tbs (q := (yX8_isBetter, 36)) (List.mem_of_getElem? (i := 48) rfl), qi_X8, by decide +kernel, by decide +kernel⟩
theorem mwX8_isCase : mwS yX8_isCase cX8_isCase 1 (Option.some FieldType.boolean) := ⟨tb5 (List.mem_of_getElem? (i := 37) rfl) rfl, tb5 (List.mem_of_getElem? (i := 36) rfl) rfl, qi_X8, by decide +kernel, by decide +kernel⟩
theorem mwX8_isPerson : mwV yX8_isPerson cX8_isPerson 2 (Option.some FieldType.boolean) := ⟨tb5 (List.mem_of_getElem? (i := 86) rfl) rfl, tb5 (List.mem_of_getElem? (i := 85) rfl) rfl, tbs (q := (yX8_isPerson, 36)) (List.mem_of_getElem? (i := 41) rfl), qi_X8, by decide +kernel, by decide +kernel⟩
theorem mwX8_isSet : mwS yX8_isSet cX8_isSet 1 (Option.some FieldType.boolean) := ⟨tb5 (List.mem_of_getElem? (i := 75) rfl) rfl, tb5 (List.mem_of_getElem? (i := 74) rfl) rfl, qi_X8, by decide +kernel, by decide +kernel⟩
theorem mwX8_isTold : mwV yX8_isTold cX8_isTold 3 (Option.some FieldType.boolean) := ⟨tb5 (List.mem_of_getElem? (i := 166) rfl) rfl, tb5 (List.mem_of_getElem? (i := 165) rfl) rfl, tbs (q := (yX8_isTold, 36)) (List.mem_of_getElem? (i := 54) rfl), qi_X8, by decide +kernel, by decide +kernel⟩
theorem mwX8_isWord : mwV yX8_isWord cX8_isWord 2 (Option.some FieldType.boolean) := ⟨tb5 (List.mem_of_getElem? (i := 27) rfl) rfl, tb5 (List.mem_of_getElem? (i := 26) rfl) rfl, tbs (q := (yX8_isWord, 36)) (List.mem_of_getElem? (i := 38) rfl), qi_X8, by decide +kernel, by decide +kernel⟩
theorem mwX8_known : mwV yX8_known cX8_known 3 (Option.some FieldType.int) := ⟨tb5 (List.mem_of_getElem? (i := 185) rfl) rfl, tb5 (List.mem_of_getElem? (i := 183) rfl) rfl, tb5 (List.mem_of_getElem? (i := 184) rfl) rfl, qi_X8, by decide +kernel, by decide +kernel⟩
theorem mwX8_last : mwV yX8_last cX8_last 2 (Option.some FieldType.int) := ⟨tb5 (List.mem_of_getElem? (i := 197) rfl) rfl, tb5 (List.mem_of_getElem? (i := 195) rfl) rfl, tb5 (List.mem_of_getElem? (i := 196) rfl) rfl, qi_X8, by decide +kernel, by decide +kernel⟩
theorem mwX8_law : mwV yX8_law cX8_law 3 (Option.some FieldType.int) := ⟨tb5 (List.mem_of_getElem? (i := 45) rfl) rfl, tb5 (List.mem_of_getElem? (i := 43) rfl) rfl, tb5 (List.mem_of_getElem? (i := 44) rfl) rfl, qi_X8, by decide +kernel, by decide +kernel⟩
theorem mwX8_least : mwV yX8_least cX8_least 4 (Option.some FieldType.int) := ⟨tb5 (List.mem_of_getElem? (i := 126) rfl) rfl, tb5 (List.mem_of_getElem? (i := 124) rfl) rfl, tb5 (List.mem_of_getElem? (i := 125) rfl) rfl, qi_X8, by decide +kernel, by decide +kernel⟩
theorem mwX8_left : mwV yX8_left cX8_left 2 (Option.some FieldType.int) := ⟨tb5 (List.mem_of_getElem? (i := 134) rfl) rfl, tb5 (List.mem_of_getElem? (i := 132) rfl) rfl, tb5 (List.mem_of_getElem? (i := 133) rfl) rfl, qi_X8, by decide +kernel, by decide +kernel⟩
theorem mwX8_leftOf : mwV yX8_leftOf cX8_leftOf 5 (Option.some FieldType.int) := ⟨tb5 (List.mem_of_getElem? (i := 138) rfl) rfl, tb5 (List.mem_of_getElem? (i := 137) rfl) rfl, tbs (q := (yX8_leftOf, 36)) (List.mem_of_getElem? (i := 51) rfl), qi_X8, by decide +kernel, by decide +kernel⟩
theorem mwX8_letter : mwV yX8_letter cX8_letter 2 (Option.some FieldType.int) := ⟨tb4 (List.mem_of_getElem? (i := 202) rfl) rfl, tb4 (List.mem_of_getElem? (i := 200) rfl) rfl, tb4 (List.mem_of_getElem? (i := 201) rfl) rfl, qi_X8, by decide +kernel, by decide +kernel⟩
theorem mwX8_list : mwV yX8_list cX8_list 4 none := ⟨tb5 (List.mem_of_getElem? (i := 90) rfl) rfl, tb5 (List.mem_of_getElem? (i := 89) rfl) rfl, tbs (q := (yX8_list, 36)) (List.mem_of_getElem? (i := 42) rfl), qi_X8, by decide +kernel, by decide +kernel⟩
theorem mwX8_longest : mwV yX8_longest cX8_longest 2 (Option.some FieldType.int) := ⟨tb5 (List.mem_of_getElem? (i := 193) rfl) rfl, tb5 (List.mem_of_getElem? (i := 191) rfl) rfl, tb5 (List.mem_of_getElem? (i := 192) rfl) rfl, qi_X8, by decide +kernel, by decide +kernel⟩
theorem mwX8_lots : mwV yX8_lots cX8_lots 8 (Option.some FieldType.int) := ⟨tb5 (List.mem_of_getElem? (i := 210) rfl) rfl, tb5 (List.mem_of_getElem? (i := 208) rfl) rfl, tb5 (List.mem_of_getElem? (i := 209) rfl) rfl, qi_X8, by decide +kernel, by decide +kernel⟩
theorem mwX8_mayFollow : mwS yX8_mayFollow cX8_mayFollow 5 (Option.some FieldType.boolean) := ⟨tb5 (List.mem_of_getElem? (i := 68) rfl) rfl, tb5 (List.mem_of_getElem? (i := 67) rfl) rfl, qi_X8, by decide +kernel, by decide +kernel⟩
theorem mwX8_meaning : mwV yX8_meaning cX8_meaning 10 (Option.some FieldType.int) := ⟨tb5 (List.mem_of_getElem? (i := 57) rfl) rfl, tb5 (List.mem_of_getElem? (i := 56) rfl) rfl, tbs (q := (yX8_meaning, 36)) (List.mem_of_getElem? (i := 39) rfl), qi_X8, by decide +kernel, by decide +kernel⟩
theorem mwX8_means : mwV yX8_means cX8_means 2 (Option.some FieldType.int) := ⟨tb5 (List.mem_of_getElem? (i := 53) rfl) rfl, tb5 (List.mem_of_getElem? (i := 51) rfl) rfl, tb5 (List.mem_of_getElem? (i := 52) rfl) rfl, qi_X8, by decide +kernel, by decide +kernel⟩
theorem mwX8_meant : mwV yX8_meant cX8_meant 4 (Option.some FieldType.int) := ⟨tb5 (List.mem_of_getElem? (i := 162) rfl) rfl, tb5 (List.mem_of_getElem? (i := 160) rfl) rfl, tb5 (List.mem_of_getElem? (i := 161) rfl) rfl, qi_X8, by decide +kernel, by decide +kernel⟩
theorem mwX8_must : mwV yX8_must cX8_must 3 (Option.some FieldType.boolean) := ⟨tb4 (List.mem_of_getElem? (i := 222) rfl) rfl, tb4 (List.mem_of_getElem? (i := 221) rfl) rfl, tbs (q := (yX8_must, 36)) (List.mem_of_getElem? (i := 29) rfl), qi_X8, by decide +kernel, by decide +kernel⟩
theorem mwX8_on : mwV yX8_on cX8_on 1 (Option.some FieldType.int) := ⟨tb5 (List.mem_of_getElem? (i := 225) rfl) rfl, tb5 (List.mem_of_getElem? (i := 223) rfl) rfl, tb5 (List.mem_of_getElem? (i := 224) rfl) rfl, qi_X8, by decide +kernel, by decide +kernel⟩
theorem mwX8_over : mwS yX8_over cX8_over 3 none := ⟨tb5 (List.mem_of_getElem? (i := 7) rfl) rfl, tb5 (List.mem_of_getElem? (i := 6) rfl) rfl, qi_X8, by decide +kernel, by decide +kernel⟩
theorem mwX8_refuse : mwV yX8_refuse cX8_refuse 2 (Option.some FieldType.int) := ⟨tb4 (List.mem_of_getElem? (i := 206) rfl) rfl, tb4 (List.mem_of_getElem? (i := 205) rfl) rfl, tbs (q := (yX8_refuse, 36)) (List.mem_of_getElem? (i := 26) rfl), qi_X8, by decide +kernel, by decide +kernel⟩
theorem mwX8_row : mwV yX8_row cX8_row 2 (Option.some FieldType.int) := ⟨tb5 (List.mem_of_getElem? (i := 49) rfl) rfl, tb5 (List.mem_of_getElem? (i := 47) rfl) rfl, tb5 (List.mem_of_getElem? (i := 48) rfl) rfl, qi_X8, by decide +kernel, by decide +kernel⟩
theorem mwX8_say : mwV yX8_say cX8_say 3 (Option.some FieldType.int) := ⟨tb5 (List.mem_of_getElem? (i := 177) rfl) rfl, tb5 (List.mem_of_getElem? (i := 175) rfl) rfl, tb5 (List.mem_of_getElem? (i := 176) rfl) rfl, qi_X8, by decide +kernel, by decide +kernel⟩
theorem mwX8_saying : mwV yX8_saying cX8_saying 3 (Option.some FieldType.int) := ⟨tb5 (List.mem_of_getElem? (i := 181) rfl) rfl, tb5 (List.mem_of_getElem? (i := 179) rfl) rfl, tb5 (List.mem_of_getElem? (i := 180) rfl) rfl, qi_X8, by decide +kernel, by decide +kernel⟩
theorem mwX8_sees : mwV yX8_sees cX8_sees 2 (Option.some FieldType.boolean) := ⟨tb4 (List.mem_of_getElem? (i := 226) rfl) rfl, tb4 (List.mem_of_getElem? (i := 225) rfl) rfl, tbs (q := (yX8_sees, 36)) (List.mem_of_getElem? (i := 30) rfl), qi_X8, by decide +kernel, by decide +kernel⟩
theorem mwX8_seesDigit : mwV yX8_seesDigit cX8_seesDigit 1 (Option.some FieldType.boolean) := ⟨tb4 (List.mem_of_getElem? (i := 234) rfl) rfl, tb4 (List.mem_of_getElem? (i := 233) rfl) rfl, tbs (q := (yX8_seesDigit, 36)) (List.mem_of_getElem? (i := 32) rfl), qi_X8, by decide +kernel, by decide +kernel⟩
theorem mwX8_seesTalker : mwV yX8_seesTalker cX8_seesTalker 1 (Option.some FieldType.boolean) := ⟨tb4 (List.mem_of_getElem? (i := 238) rfl) rfl, tb4 (List.mem_of_getElem? (i := 237) rfl) rfl, tbs (q := (yX8_seesTalker, 36)) (List.mem_of_getElem? (i := 33) rfl), qi_X8, by decide +kernel, by decide +kernel⟩
theorem mwX8_settles : mwV yX8_settles cX8_settles 3 (Option.some FieldType.int) := ⟨tb5 (List.mem_of_getElem? (i := 72) rfl) rfl, tb5 (List.mem_of_getElem? (i := 70) rfl) rfl, tb5 (List.mem_of_getElem? (i := 71) rfl) rfl, qi_X8, by decide +kernel, by decide +kernel⟩
theorem mwX8_silence : mwV yX8_silence cX8_silence 2 (Option.some FieldType.int) := ⟨tb5 (List.mem_of_getElem? (i := 189) rfl) rfl, tb5 (List.mem_of_getElem? (i := 187) rfl) rfl, tb5 (List.mem_of_getElem? (i := 188) rfl) rfl, qi_X8, by decide +kernel, by decide +kernel⟩
theorem mwX8_takeFrom : mwV yX8_takeFrom cX8_takeFrom 2 none := ⟨tb5 (List.mem_of_getElem? (i := 4) rfl) rfl, tb5 (List.mem_of_getElem? (i := 3) rfl) rfl, tbs (q := (yX8_takeFrom, 36)) (List.mem_of_getElem? (i := 34) rfl), qi_X8, by decide +kernel, by decide +kernel⟩
theorem mwX8_tellingComes : mwV yX8_tellingComes cX8_tellingComes 4 (Option.some FieldType.boolean) := ⟨tb5 (List.mem_of_getElem? (i := 15) rfl) rfl, tb5 (List.mem_of_getElem? (i := 14) rfl) rfl, tbs (q := (yX8_tellingComes, 36)) (List.mem_of_getElem? (i := 36) rfl), qi_X8, by decide +kernel, by decide +kernel⟩
theorem mwX8_told : mwV yX8_told cX8_told 2 (Option.some FieldType.int) := ⟨tb5 (List.mem_of_getElem? (i := 158) rfl) rfl, tb5 (List.mem_of_getElem? (i := 156) rfl) rfl, tb5 (List.mem_of_getElem? (i := 157) rfl) rfl, qi_X8, by decide +kernel, by decide +kernel⟩
theorem mwX8_tongue : mwV yX8_tongue cX8_tongue 4 (Option.some FieldType.int) := ⟨tb4 (List.mem_of_getElem? (i := 210) rfl) rfl, tb4 (List.mem_of_getElem? (i := 208) rfl) rfl, tb4 (List.mem_of_getElem? (i := 209) rfl) rfl, qi_X8, by decide +kernel, by decide +kernel⟩
theorem mwX8_truth : mwV yX8_truth cX8_truth 3 (Option.some FieldType.int) := ⟨tb5 (List.mem_of_getElem? (i := 41) rfl) rfl, tb5 (List.mem_of_getElem? (i := 39) rfl) rfl, tb5 (List.mem_of_getElem? (i := 40) rfl) rfl, qi_X8, by decide +kernel, by decide +kernel⟩
theorem mwX8_under : mwV yX8_under cX8_under 3 (Option.some FieldType.int) := ⟨tb5 (List.mem_of_getElem? (i := 206) rfl) rfl, tb5 (List.mem_of_getElem? (i := 204) rfl) rfl, tb5 (List.mem_of_getElem? (i := 205) rfl) rfl, qi_X8, by decide +kernel, by decide +kernel⟩
theorem mwX8_weight : mwV yX8_weight cX8_weight 2 (Option.some FieldType.int) := ⟨tb5 (List.mem_of_getElem? (i := 34) rfl) rfl, tb5 (List.mem_of_getElem? (i := 32) rfl) rfl, tb5 (List.mem_of_getElem? (i := 33) rfl) rfl, qi_X8, by decide +kernel, by decide +kernel⟩
theorem mwX8_weightOf : mwV yX8_weightOf cX8_weightOf 4 (Option.some FieldType.int) := ⟨tb5 (List.mem_of_getElem? (i := 118) rfl) rfl, tb5 (List.mem_of_getElem? (i := 117) rfl) rfl, tbs (q := (yX8_weightOf, 36)) (List.mem_of_getElem? (i := 49) rfl), qi_X8, by decide +kernel, by decide +kernel⟩
theorem mwX8_word : mwV yX8_word cX8_word 3 (Option.some FieldType.int) := ⟨tb5 (List.mem_of_getElem? (i := 23) rfl) rfl, tb5 (List.mem_of_getElem? (i := 21) rfl) rfl, tb5 (List.mem_of_getElem? (i := 22) rfl) rfl, qi_X8, by decide +kernel, by decide +kernel⟩
theorem ql_X7_1 : .methodLink RX7 1 ⟨"java/lang/Object", "<init>", "()V"⟩ ∈ lw_t := tb1 (List.mem_of_getElem? (i := 23) rfl) rfl
theorem ql_X7_45 : .methodLink RX7 45 yX3_init ∈ lw_t := tb1 (List.mem_of_getElem? (i := 116) rfl) rfl
theorem ql_X7_66 : .methodLink RX7 66 yX7_refuse ∈ lw_t := tb1 (List.mem_of_getElem? (i := 239) rfl) rfl
theorem ql_X7_74 : .methodLink RX7 74 yX1_add ∈ lw_t := tb2 (List.mem_of_getElem? (i := 3) rfl) rfl
theorem ql_X7_78 : .methodLink RX7 78 yX1_statements ∈ lw_t := tb2 (List.mem_of_getElem? (i := 11) rfl) rfl
theorem ql_X7_82 : .methodLink RX7 82 yX6_copyFrom ∈ lw_t := tb2 (List.mem_of_getElem? (i := 160) rfl) rfl
theorem ql_X7_86 : .methodLink RX7 86 yX1_tellTo ∈ lw_t := tb2 (List.mem_of_getElem? (i := 167) rfl) rfl
theorem ql_X7_90 : .methodLink RX7 90 yX7_forgetSayings ∈ lw_t := tb2 (List.mem_of_getElem? (i := 206) rfl) rfl
theorem ql_X7_93 : .methodLink RX7 93 yX6_hasWord ∈ lw_t := tb2 (List.mem_of_getElem? (i := 215) rfl) rfl
theorem ql_X7_103 : .methodLink RX7 103 yX7_isCase ∈ lw_t := tb2 (List.mem_of_getElem? (i := 223) rfl) rfl
theorem ql_X7_112 : .methodLink RX7 112 yX7_isLaw ∈ lw_t := tb2 (List.mem_of_getElem? (i := 232) rfl) rfl
theorem ql_X7_118 : .methodLink RX7 118 yX7_addTo ∈ lw_t := tb2 (List.mem_of_getElem? (i := 237) rfl) rfl
theorem ql_X7_122 : .methodLink RX7 122 yX7_takeRow ∈ lw_t := tb3 (List.mem_of_getElem? (i := 9) rfl) rfl
theorem ql_X7_125 : .methodLink RX7 125 yX4_meaning ∈ lw_t := tb3 (List.mem_of_getElem? (i := 29) rfl) rfl
theorem ql_X7_130 : .methodLink RX7 130 yX4_ofLength ∈ lw_t := tb3 (List.mem_of_getElem? (i := 36) rfl) rfl
theorem ql_X7_134 : .methodLink RX7 134 yX7_mayFollow ∈ lw_t := tb3 (List.mem_of_getElem? (i := 39) rfl) rfl
theorem ql_X7_138 : .methodLink RX7 138 yX7_asBit ∈ lw_t := tb3 (List.mem_of_getElem? (i := 48) rfl) rfl
theorem ql_X7_142 : .methodLink RX7 142 yX7_isSet ∈ lw_t := tb3 (List.mem_of_getElem? (i := 55) rfl) rfl
theorem ql_X7_145 : .methodLink RX7 145 yX7_isSettled ∈ lw_t := tb3 (List.mem_of_getElem? (i := 58) rfl) rfl
theorem ql_X7_149 : .methodLink RX7 149 yX6_hasPerson ∈ lw_t := tb3 (List.mem_of_getElem? (i := 68) rfl) rfl
theorem ql_X7_152 : .methodLink RX7 152 yX2_sense ∈ lw_t := tb3 (List.mem_of_getElem? (i := 13) rfl) rfl
theorem ql_X7_158 : .methodLink RX7 158 yX3_answerTo ∈ lw_t := tb3 (List.mem_of_getElem? (i := 72) rfl) rfl
theorem ql_X7_162 : .methodLink RX7 162 yX7_lengthOrWord ∈ lw_t := tb3 (List.mem_of_getElem? (i := 121) rfl) rfl
theorem ql_X7_165 : .methodLink RX7 165 yX3_howManyAnswer ∈ lw_t := tb3 (List.mem_of_getElem? (i := 138) rfl) rfl
theorem ql_X7_168 : .methodLink RX7 168 yX3_firstThatMeans ∈ lw_t := tb3 (List.mem_of_getElem? (i := 146) rfl) rfl
theorem ql_X7_171 : .methodLink RX7 171 yX3_leftBy ∈ lw_t := tb3 (List.mem_of_getElem? (i := 164) rfl) rfl
theorem ql_X7_177 : .methodLink RX7 177 yX3_leftOfBest ∈ lw_t := tb3 (List.mem_of_getElem? (i := 176) rfl) rfl
theorem ql_X7_180 : .methodLink RX7 180 yX3_bestQuestion ∈ lw_t := tb3 (List.mem_of_getElem? (i := 185) rfl) rfl
theorem ql_X7_183 : .methodLink RX7 183 yX3_firstThatForces ∈ lw_t := tb3 (List.mem_of_getElem? (i := 193) rfl) rfl
theorem ql_X7_186 : .methodLink RX7 186 yX3_numberOf ∈ lw_t := tb3 (List.mem_of_getElem? (i := 214) rfl) rfl
theorem ql_X7_191 : .methodLink RX7 191 yX3_casesAnsweredBy ∈ lw_t := tb3 (List.mem_of_getElem? (i := 218) rfl) rfl
theorem ql_X7_197 : .methodLink RX7 197 yX6_weightOf ∈ lw_t := tb3 (List.mem_of_getElem? (i := 226) rfl) rfl
theorem ql_X7_200 : .methodLink RX7 200 yX7_commonDivisor ∈ lw_t := tb3 (List.mem_of_getElem? (i := 227) rfl) rfl
theorem ql_X7_204 : .methodLink RX7 204 yX5_latest ∈ lw_t := tb3 (List.mem_of_getElem? (i := 234) rfl) rfl
theorem ql_X7_207 : .methodLink RX7 207 yX5_add ∈ lw_t := tb3 (List.mem_of_getElem? (i := 238) rfl) rfl
theorem ql_X7_211 : .methodLink RX7 211 yX4_length ∈ lw_t := tb3 (List.mem_of_getElem? (i := 42) rfl) rfl
theorem ql_X7_214 : .methodLink RX7 214 yX4_idles ∈ lw_t := tb3 (List.mem_of_getElem? (i := 45) rfl) rfl
theorem ql_X7_217 : .methodLink RX7 217 yX5_meaningOfAnswers ∈ lw_t := tb4 (List.mem_of_getElem? (i := 10) rfl) rfl
theorem ql_X7_220 : .methodLink RX7 220 yX7_longestFrom ∈ lw_t := tb4 (List.mem_of_getElem? (i := 23) rfl) rfl
theorem ql_X7_223 : .methodLink RX7 223 yX7_speaksLast ∈ lw_t := tb4 (List.mem_of_getElem? (i := 31) rfl) rfl
theorem ql_X7_227 : .methodLink RX7 227 yX7_leftByLots ∈ lw_t := tb4 (List.mem_of_getElem? (i := 47) rfl) rfl
theorem ql_X7_236 : .methodLink RX7 236 yX5_copyFrom ∈ lw_t := tb4 (List.mem_of_getElem? (i := 69) rfl) rfl
theorem ql_X7_249 : .methodLink RX7 249 yX2_add ∈ lw_t := tb3 (List.mem_of_getElem? (i := 1) rfl) rfl
theorem ql_X7_250 : .methodLink RX7 250 yX3_lengthOf ∈ lw_t := tb3 (List.mem_of_getElem? (i := 125) rfl) rfl
theorem ql_X7_253 : .methodLink RX7 253 yX3_wordOf ∈ lw_t := tb3 (List.mem_of_getElem? (i := 129) rfl) rfl
theorem ql_X7_259 : .methodLink RX7 259 yX7_stirred ∈ lw_t := tb4 (List.mem_of_getElem? (i := 51) rfl) rfl
theorem ql_X7_262 : .methodLink RX7 262 yX7_drawn ∈ lw_t := tb4 (List.mem_of_getElem? (i := 56) rfl) rfl
theorem ql_X7_265 : .methodLink RX7 265 yX6_grown ∈ lw_t := tb4 (List.mem_of_getElem? (i := 60) rfl) rfl
theorem ql_X7_268 : .methodLink RX7 268 yX3_casesLeftBy ∈ lw_t := tb4 (List.mem_of_getElem? (i := 61) rfl) rfl
theorem ql_X7_274 : .methodLink RX7 274 yX7_isOnOneSide ∈ lw_t := tb3 (List.mem_of_getElem? (i := 61) rfl) rfl
theorem ql_X7_277 : .methodLink RX7 277 yJ9_max_7cf53 ∈ lw_t := tb4 (List.mem_of_getElem? (i := 26) rfl) rfl
theorem ql_X0_1 : .methodLink RX0 1 ⟨"java/lang/Object", "<init>", "()V"⟩ ∈ lw_t := tb1 (List.mem_of_getElem? (i := 181) rfl) rfl
theorem ql_X1_3 : .methodLink RX1 3 ⟨"java/lang/Object", "<init>", "()V"⟩ ∈ lw_t := tb1 (List.mem_of_getElem? (i := 31) rfl) rfl
theorem ql_X1_19 : .methodLink RX1 19 yX1_behind ∈ lw_t := tb2 (List.mem_of_getElem? (i := 15) rfl) rfl
theorem ql_X1_23 : .methodLink RX1 23 yX1_tellOne ∈ lw_t := tb2 (List.mem_of_getElem? (i := 171) rfl) rfl
theorem ql_X1_27 : .methodLink RX1 27 yX1_sign ∈ lw_t := tb2 (List.mem_of_getElem? (i := 19) rfl) rfl
theorem ql_X1_30 : .methodLink RX1 30 yX1_behindTelling ∈ lw_t := tb2 (List.mem_of_getElem? (i := 23) rfl) rfl
theorem ql_X1_33 : .methodLink RX1 33 yX1_formOf ∈ lw_t := tb2 (List.mem_of_getElem? (i := 30) rfl) rfl
theorem ql_X1_37 : .methodLink RX1 37 yX1_behindForm ∈ lw_t := tb2 (List.mem_of_getElem? (i := 38) rfl) rfl
theorem ql_X1_41 : .methodLink RX1 41 yX1_isDigit ∈ lw_t := tb2 (List.mem_of_getElem? (i := 27) rfl) rfl
theorem ql_X1_45 : .methodLink RX1 45 yJ0_isEmpty_aae02 ∈ lw_t := tb2 (List.mem_of_getElem? (i := 42) rfl) rfl
theorem ql_X1_51 : .methodLink RX1 51 yJ0_length_8abf5 ∈ lw_t := tb2 (List.mem_of_getElem? (i := 46) rfl) rfl
theorem ql_X1_55 : .methodLink RX1 55 yJ0_charAt_5068e ∈ lw_t := tb2 (List.mem_of_getElem? (i := 56) rfl) rfl
theorem ql_X1_59 : .methodLink RX1 59 yX1_fits ∈ lw_t := tb2 (List.mem_of_getElem? (i := 94) rfl) rfl
theorem ql_X1_73 : .methodLink RX1 73 yX1_talkerOf ∈ lw_t := tb2 (List.mem_of_getElem? (i := 97) rfl) rfl
theorem ql_X1_76 : .methodLink RX1 76 yX1_tellWord ∈ lw_t := tb2 (List.mem_of_getElem? (i := 175) rfl) rfl
theorem ql_X1_79 : .methodLink RX1 79 yX6_addWord ∈ lw_t := tb2 (List.mem_of_getElem? (i := 186) rfl) rfl
theorem ql_X1_85 : .methodLink RX1 85 yX1_digit ∈ lw_t := tb2 (List.mem_of_getElem? (i := 179) rfl) rfl
theorem ql_X1_88 : .methodLink RX1 88 yX6_setWeight ∈ lw_t := tb2 (List.mem_of_getElem? (i := 190) rfl) rfl
theorem ql_X1_91 : .methodLink RX1 91 yX6_setLaw ∈ lw_t := tb2 (List.mem_of_getElem? (i := 195) rfl) rfl
theorem ql_X1_94 : .methodLink RX1 94 yX6_addPerson ∈ lw_t := tb2 (List.mem_of_getElem? (i := 202) rfl) rfl
theorem ql_X1_102 : .methodLink RX1 102 yJ0_indexOf_0f7a4 ∈ lw_t := tb2 (List.mem_of_getElem? (i := 101) rfl) rfl
theorem ql_X2_3 : .methodLink RX2 3 ⟨"java/lang/Object", "<init>", "()V"⟩ ∈ lw_t := tb1 (List.mem_of_getElem? (i := 88) rfl) rfl
theorem ql_X2_21 : .methodLink RX2 21 yX6_grown ∈ lw_t := tb3 (List.mem_of_getElem? (i := 17) rfl) rfl
theorem ql_X3_3 : .methodLink RX3 3 ⟨"java/lang/Object", "<init>", "()V"⟩ ∈ lw_t := tb1 (List.mem_of_getElem? (i := 119) rfl) rfl
theorem ql_X3_50 : .methodLink RX3 50 yX3_refresh ∈ lw_t := tb3 (List.mem_of_getElem? (i := 76) rfl) rfl
theorem ql_X3_58 : .methodLink RX3 58 yX3_gather ∈ lw_t := tb3 (List.mem_of_getElem? (i := 103) rfl) rfl
theorem ql_X3_62 : .methodLink RX3 62 yX3_chosen ∈ lw_t := tb3 (List.mem_of_getElem? (i := 109) rfl) rfl
theorem ql_X3_69 : .methodLink RX3 69 yX3_holdsCase ∈ lw_t := tb3 (List.mem_of_getElem? (i := 113) rfl) rfl
theorem ql_X3_73 : .methodLink RX3 73 yX4_meaning ∈ lw_t := tb3 (List.mem_of_getElem? (i := 90) rfl) rfl
theorem ql_X3_79 : .methodLink RX3 79 yX3_leftUnder ∈ lw_t := tb3 (List.mem_of_getElem? (i := 168) rfl) rfl
theorem ql_X3_83 : .methodLink RX3 83 yX6_weightOf ∈ lw_t := tb3 (List.mem_of_getElem? (i := 96) rfl) rfl
theorem ql_X3_89 : .methodLink RX3 89 yX3_findBest ∈ lw_t := tb3 (List.mem_of_getElem? (i := 180) rfl) rfl
theorem ql_X3_95 : .methodLink RX3 95 yX3_forcesAnswer ∈ lw_t := tb3 (List.mem_of_getElem? (i := 197) rfl) rfl
theorem ql_X3_103 : .methodLink RX3 103 yX3_findFirsts ∈ lw_t := tb3 (List.mem_of_getElem? (i := 150) rfl) rfl
theorem ql_X3_119 : .methodLink RX3 119 yX3_lengthOf ∈ lw_t := tb3 (List.mem_of_getElem? (i := 133) rfl) rfl
theorem ql_X3_125 : .methodLink RX3 125 yX3_clearGroups ∈ lw_t := tb3 (List.mem_of_getElem? (i := 80) rfl) rfl
theorem ql_X3_129 : .methodLink RX3 129 yJ9_min_7cf53 ∈ lw_t := tb3 (List.mem_of_getElem? (i := 88) rfl) rfl
theorem ql_X3_134 : .methodLink RX3 134 yX6_grown ∈ lw_t := tb3 (List.mem_of_getElem? (i := 91) rfl) rfl
theorem ql_X3_138 : .methodLink RX3 138 yX3_putInGroup ∈ lw_t := tb3 (List.mem_of_getElem? (i := 92) rfl) rfl
theorem ql_X3_142 : .methodLink RX3 142 yJ7_fill_53178 ∈ lw_t := tb3 (List.mem_of_getElem? (i := 100) rfl) rfl
theorem ql_X3_148 : .methodLink RX3 148 yX3_keyOf ∈ lw_t := tb3 (List.mem_of_getElem? (i := 84) rfl) rfl
theorem ql_X3_151 : .methodLink RX3 151 yX4_length ∈ lw_t := tb3 (List.mem_of_getElem? (i := 87) rfl) rfl
theorem ql_X3_154 : .methodLink RX3 154 yX4_idles ∈ lw_t := tb3 (List.mem_of_getElem? (i := 89) rfl) rfl
theorem ql_X3_157 : .methodLink RX3 157 yX3_noteFirst ∈ lw_t := tb3 (List.mem_of_getElem? (i := 154) rfl) rfl
theorem ql_X3_160 : .methodLink RX3 160 yJ9_max_7cf53 ∈ lw_t := tb3 (List.mem_of_getElem? (i := 158) rfl) rfl
theorem ql_X3_170 : .methodLink RX3 170 yX3_isLiked ∈ lw_t := tb3 (List.mem_of_getElem? (i := 117) rfl) rfl
theorem ql_X3_176 : .methodLink RX3 176 yX3_casesWithWeight ∈ lw_t := tb3 (List.mem_of_getElem? (i := 201) rfl) rfl
theorem ql_X4_11 : .methodLink RX4 11 yX4_withTelling ∈ lw_t := tb3 (List.mem_of_getElem? (i := 25) rfl) rfl
theorem ql_X5_3 : .methodLink RX5 3 ⟨"java/lang/Object", "<init>", "()V"⟩ ∈ lw_t := tb1 (List.mem_of_getElem? (i := 104) rfl) rfl
theorem ql_X5_21 : .methodLink RX5 21 yX4_meaning ∈ lw_t := tb4 (List.mem_of_getElem? (i := 14) rfl) rfl
theorem ql_X5_25 : .methodLink RX5 25 ⟨"java/lang/System", "arraycopy", "(Ljava/lang/Object;ILjava/lang/Object;II)V"⟩ ∈ lw_t := tb4 (List.mem_of_getElem? (i := 73) rfl) rfl
theorem ql_X6_3 : .methodLink RX6 3 ⟨"java/lang/Object", "<init>", "()V"⟩ ∈ lw_t := tb1 (List.mem_of_getElem? (i := 46) rfl) rfl
theorem ql_X6_24 : .methodLink RX6 24 ⟨"java/lang/System", "arraycopy", "(Ljava/lang/Object;ILjava/lang/Object;II)V"⟩ ∈ lw_t := tb2 (List.mem_of_getElem? (i := 164) rfl) rfl
theorem ql_X6_50 : .methodLink RX6 50 yX6_hasWord ∈ lw_t := tb3 (List.mem_of_getElem? (i := 21) rfl) rfl
theorem ql_X6_53 : .methodLink RX6 53 yX4_grown ∈ lw_t := tb3 (List.mem_of_getElem? (i := 22) rfl) rfl
theorem ql_L_9 : .methodLink RL 9 yX7_init ∈ lw_t := tb1 (List.mem_of_getElem? (i := 20) rfl) rfl
theorem ql_L_12 : .methodLink RL 12 yX8_init ∈ lw_t := tb4 (List.mem_of_getElem? (i := 84) rfl) rfl
theorem ql_L_13 : .methodLink RL 13 yX7_letter ∈ lw_t := tb1 (List.mem_of_getElem? (i := 235) rfl) rfl
theorem ql_L_17 : .methodLink RL 17 yX8_letter ∈ lw_t := tb4 (List.mem_of_getElem? (i := 199) rfl) rfl
theorem ql_L_18 : .methodLink RL 18 yX7_tongue ∈ lw_t := tb2 (List.mem_of_getElem? (i := 7) rfl) rfl
theorem ql_L_22 : .methodLink RL 22 yX8_tongue ∈ lw_t := tb4 (List.mem_of_getElem? (i := 207) rfl) rfl
theorem ql_L_23 : .methodLink RL 23 yX7_word ∈ lw_t := tb2 (List.mem_of_getElem? (i := 211) rfl) rfl
theorem ql_L_27 : .methodLink RL 27 yX8_word ∈ lw_t := tb5 (List.mem_of_getElem? (i := 20) rfl) rfl
theorem ql_L_28 : .methodLink RL 28 yX7_weight ∈ lw_t := tb2 (List.mem_of_getElem? (i := 219) rfl) rfl
theorem ql_L_31 : .methodLink RL 31 yX8_weight ∈ lw_t := tb5 (List.mem_of_getElem? (i := 31) rfl) rfl
theorem ql_L_32 : .methodLink RL 32 yX7_truth ∈ lw_t := tb2 (List.mem_of_getElem? (i := 224) rfl) rfl
theorem ql_L_35 : .methodLink RL 35 yX8_truth ∈ lw_t := tb5 (List.mem_of_getElem? (i := 38) rfl) rfl
theorem ql_L_36 : .methodLink RL 36 yX7_law ∈ lw_t := tb2 (List.mem_of_getElem? (i := 228) rfl) rfl
theorem ql_L_39 : .methodLink RL 39 yX8_law ∈ lw_t := tb5 (List.mem_of_getElem? (i := 42) rfl) rfl
theorem ql_L_40 : .methodLink RL 40 yX7_row ∈ lw_t := tb2 (List.mem_of_getElem? (i := 233) rfl) rfl
theorem ql_L_43 : .methodLink RL 43 yX8_row ∈ lw_t := tb5 (List.mem_of_getElem? (i := 46) rfl) rfl
theorem ql_L_44 : .methodLink RL 44 yX7_means ∈ lw_t := tb3 (List.mem_of_getElem? (i := 5) rfl) rfl
theorem ql_L_47 : .methodLink RL 47 yX8_means ∈ lw_t := tb5 (List.mem_of_getElem? (i := 50) rfl) rfl
theorem ql_L_48 : .methodLink RL 48 yX7_follows ∈ lw_t := tb3 (List.mem_of_getElem? (i := 32) rfl) rfl
theorem ql_L_51 : .methodLink RL 51 yX8_follows ∈ lw_t := tb5 (List.mem_of_getElem? (i := 58) rfl) rfl
theorem ql_L_52 : .methodLink RL 52 yX7_settles ∈ lw_t := tb3 (List.mem_of_getElem? (i := 51) rfl) rfl
theorem ql_L_55 : .methodLink RL 55 yX8_settles ∈ lw_t := tb5 (List.mem_of_getElem? (i := 69) rfl) rfl
theorem ql_L_56 : .methodLink RL 56 yX7_answer ∈ lw_t := tb3 (List.mem_of_getElem? (i := 64) rfl) rfl
theorem ql_L_59 : .methodLink RL 59 yX8_answer ∈ lw_t := tb5 (List.mem_of_getElem? (i := 79) rfl) rfl
theorem ql_L_60 : .methodLink RL 60 yX7_answers ∈ lw_t := tb3 (List.mem_of_getElem? (i := 134) rfl) rfl
theorem ql_L_63 : .methodLink RL 63 yX8_answers ∈ lw_t := tb5 (List.mem_of_getElem? (i := 119) rfl) rfl
theorem ql_L_64 : .methodLink RL 64 yX7_least ∈ lw_t := tb3 (List.mem_of_getElem? (i := 142) rfl) rfl
theorem ql_L_67 : .methodLink RL 67 yX8_least ∈ lw_t := tb5 (List.mem_of_getElem? (i := 123) rfl) rfl
theorem ql_L_68 : .methodLink RL 68 yX7_left ∈ lw_t := tb3 (List.mem_of_getElem? (i := 160) rfl) rfl
theorem ql_L_71 : .methodLink RL 71 yX8_left ∈ lw_t := tb5 (List.mem_of_getElem? (i := 131) rfl) rfl
theorem ql_L_72 : .methodLink RL 72 yX7_best ∈ lw_t := tb3 (List.mem_of_getElem? (i := 172) rfl) rfl
theorem ql_L_75 : .methodLink RL 75 yX8_best ∈ lw_t := tb5 (List.mem_of_getElem? (i := 139) rfl) rfl
theorem ql_L_76 : .methodLink RL 76 yX7_force ∈ lw_t := tb3 (List.mem_of_getElem? (i := 189) rfl) rfl
theorem ql_L_79 : .methodLink RL 79 yX8_force ∈ lw_t := tb5 (List.mem_of_getElem? (i := 147) rfl) rfl
theorem ql_L_80 : .methodLink RL 80 yX7_told ∈ lw_t := tb3 (List.mem_of_getElem? (i := 206) rfl) rfl
theorem ql_L_83 : .methodLink RL 83 yX8_told ∈ lw_t := tb5 (List.mem_of_getElem? (i := 155) rfl) rfl
theorem ql_L_84 : .methodLink RL 84 yX7_meant ∈ lw_t := tb3 (List.mem_of_getElem? (i := 210) rfl) rfl
theorem ql_L_87 : .methodLink RL 87 yX8_meant ∈ lw_t := tb5 (List.mem_of_getElem? (i := 159) rfl) rfl
theorem ql_L_88 : .methodLink RL 88 yX7_chance ∈ lw_t := tb3 (List.mem_of_getElem? (i := 222) rfl) rfl
theorem ql_L_91 : .methodLink RL 91 yX8_chance ∈ lw_t := tb5 (List.mem_of_getElem? (i := 167) rfl) rfl
theorem ql_L_92 : .methodLink RL 92 yX7_say ∈ lw_t := tb3 (List.mem_of_getElem? (i := 230) rfl) rfl
theorem ql_L_95 : .methodLink RL 95 yX8_say ∈ lw_t := tb5 (List.mem_of_getElem? (i := 174) rfl) rfl
theorem ql_L_96 : .methodLink RL 96 yX7_saying ∈ lw_t := tb4 (List.mem_of_getElem? (i := 2) rfl) rfl
theorem ql_L_99 : .methodLink RL 99 yX8_saying ∈ lw_t := tb5 (List.mem_of_getElem? (i := 178) rfl) rfl
theorem ql_L_100 : .methodLink RL 100 yX7_known ∈ lw_t := tb4 (List.mem_of_getElem? (i := 6) rfl) rfl
theorem ql_L_103 : .methodLink RL 103 yX8_known ∈ lw_t := tb5 (List.mem_of_getElem? (i := 182) rfl) rfl
theorem ql_L_104 : .methodLink RL 104 yX7_silence ∈ lw_t := tb4 (List.mem_of_getElem? (i := 15) rfl) rfl
theorem ql_L_107 : .methodLink RL 107 yX8_silence ∈ lw_t := tb5 (List.mem_of_getElem? (i := 186) rfl) rfl
theorem ql_L_108 : .methodLink RL 108 yX7_longest ∈ lw_t := tb4 (List.mem_of_getElem? (i := 19) rfl) rfl
theorem ql_L_111 : .methodLink RL 111 yX8_longest ∈ lw_t := tb5 (List.mem_of_getElem? (i := 190) rfl) rfl
theorem ql_L_112 : .methodLink RL 112 yX7_last ∈ lw_t := tb4 (List.mem_of_getElem? (i := 27) rfl) rfl
theorem ql_L_115 : .methodLink RL 115 yX8_last ∈ lw_t := tb5 (List.mem_of_getElem? (i := 194) rfl) rfl
theorem ql_L_116 : .methodLink RL 116 yX7_idle ∈ lw_t := tb4 (List.mem_of_getElem? (i := 34) rfl) rfl
theorem ql_L_119 : .methodLink RL 119 yX8_idle ∈ lw_t := tb5 (List.mem_of_getElem? (i := 198) rfl) rfl
theorem ql_L_120 : .methodLink RL 120 yX7_under ∈ lw_t := tb4 (List.mem_of_getElem? (i := 39) rfl) rfl
theorem ql_L_123 : .methodLink RL 123 yX8_under ∈ lw_t := tb5 (List.mem_of_getElem? (i := 203) rfl) rfl
theorem ql_L_124 : .methodLink RL 124 yX7_lots ∈ lw_t := tb4 (List.mem_of_getElem? (i := 43) rfl) rfl
theorem ql_L_128 : .methodLink RL 128 yX8_lots ∈ lw_t := tb5 (List.mem_of_getElem? (i := 207) rfl) rfl
theorem ql_L_129 : .methodLink RL 129 yX7_image ∈ lw_t := tb4 (List.mem_of_getElem? (i := 65) rfl) rfl
theorem ql_L_132 : .methodLink RL 132 yX8_image ∈ lw_t := tb5 (List.mem_of_getElem? (i := 218) rfl) rfl
theorem ql_L_133 : .methodLink RL 133 yX7_on ∈ lw_t := tb4 (List.mem_of_getElem? (i := 74) rfl) rfl
theorem ql_L_136 : .methodLink RL 136 yX8_on ∈ lw_t := tb5 (List.mem_of_getElem? (i := 222) rfl) rfl
theorem ql_L_137 : .methodLink RL 137 yX7_count ∈ lw_t := tb4 (List.mem_of_getElem? (i := 78) rfl) rfl
theorem ql_L_140 : .methodLink RL 140 yX8_count ∈ lw_t := tb5 (List.mem_of_getElem? (i := 226) rfl) rfl
theorem ql_X8_1 : .methodLink RX8 1 ⟨"java/lang/Object", "<init>", "()V"⟩ ∈ lw_t := tb4 (List.mem_of_getElem? (i := 87) rfl) rfl
theorem ql_X8_63 : .methodLink RX8 63 yX8_in ∈ lw_t := tb5 (List.mem_of_getElem? (i := 28) rfl) rfl
theorem ql_X8_74 : .methodLink RX8 74 yX8_refuse ∈ lw_t := tb4 (List.mem_of_getElem? (i := 203) rfl) rfl
theorem ql_X8_84 : .methodLink RX8 84 yX8_seesDigit ∈ lw_t := tb4 (List.mem_of_getElem? (i := 231) rfl) rfl
theorem ql_X8_88 : .methodLink RX8 88 yX8_sees ∈ lw_t := tb4 (List.mem_of_getElem? (i := 223) rfl) rfl
theorem ql_X8_92 : .methodLink RX8 92 yX8_must ∈ lw_t := tb4 (List.mem_of_getElem? (i := 219) rfl) rfl
theorem ql_X8_95 : .methodLink RX8 95 yX8_digit ∈ lw_t := tb4 (List.mem_of_getElem? (i := 227) rfl) rfl
theorem ql_X8_98 : .methodLink RX8 98 yX8_seesTalker ∈ lw_t := tb4 (List.mem_of_getElem? (i := 235) rfl) rfl
theorem ql_X8_101 : .methodLink RX8 101 yX8_goesBy ∈ lw_t := tb4 (List.mem_of_getElem? (i := 215) rfl) rfl
theorem ql_X8_104 : .methodLink RX8 104 yX8_addWord ∈ lw_t := tb5 (List.mem_of_getElem? (i := 16) rfl) rfl
theorem ql_X8_108 : .methodLink RX8 108 yX8_tellingComes ∈ lw_t := tb5 (List.mem_of_getElem? (i := 12) rfl) rfl
theorem ql_X8_114 : .methodLink RX8 114 yX8_faultOfForm ∈ lw_t := tb4 (List.mem_of_getElem? (i := 211) rfl) rfl
theorem ql_X8_122 : .methodLink RX8 122 yX8_init ∈ lw_t := tb5 (List.mem_of_getElem? (i := 0) rfl) rfl
theorem ql_X8_123 : .methodLink RX8 123 yX8_takeFrom ∈ lw_t := tb5 (List.mem_of_getElem? (i := 1) rfl) rfl
theorem ql_X8_127 : .methodLink RX8 127 yX8_comes ∈ lw_t := tb5 (List.mem_of_getElem? (i := 8) rfl) rfl
theorem ql_X8_130 : .methodLink RX8 130 yX8_isWord ∈ lw_t := tb5 (List.mem_of_getElem? (i := 24) rfl) rfl
theorem ql_X8_133 : .methodLink RX8 133 yX8_isCase ∈ lw_t := tb5 (List.mem_of_getElem? (i := 35) rfl) rfl
theorem ql_X8_142 : .methodLink RX8 142 yX8_meaning ∈ lw_t := tb5 (List.mem_of_getElem? (i := 54) rfl) rfl
theorem ql_X8_146 : .methodLink RX8 146 yX8_idleOf ∈ lw_t := tb5 (List.mem_of_getElem? (i := 62) rfl) rfl
theorem ql_X8_149 : .methodLink RX8 149 yX8_mayFollow ∈ lw_t := tb5 (List.mem_of_getElem? (i := 66) rfl) rfl
theorem ql_X8_153 : .methodLink RX8 153 yX8_isSet ∈ lw_t := tb5 (List.mem_of_getElem? (i := 73) rfl) rfl
theorem ql_X8_156 : .methodLink RX8 156 yX8_doesSettle ∈ lw_t := tb5 (List.mem_of_getElem? (i := 76) rfl) rfl
theorem ql_X8_162 : .methodLink RX8 162 yX8_add ∈ lw_t := tb5 (List.mem_of_getElem? (i := 91) rfl) rfl
theorem ql_X8_178 : .methodLink RX8 178 yX8_asks ∈ lw_t := tb5 (List.mem_of_getElem? (i := 99) rfl) rfl
theorem ql_X8_181 : .methodLink RX8 181 yX8_weightOf ∈ lw_t := tb5 (List.mem_of_getElem? (i := 115) rfl) rfl
theorem ql_X8_184 : .methodLink RX8 184 yX8_isAnswer ∈ lw_t := tb5 (List.mem_of_getElem? (i := 107) rfl) rfl
theorem ql_X8_187 : .methodLink RX8 187 yX8_isBetter ∈ lw_t := tb5 (List.mem_of_getElem? (i := 111) rfl) rfl
theorem ql_X8_190 : .methodLink RX8 190 yX8_isPerson ∈ lw_t := tb5 (List.mem_of_getElem? (i := 83) rfl) rfl
theorem ql_X8_193 : .methodLink RX8 193 yX8_list ∈ lw_t := tb5 (List.mem_of_getElem? (i := 87) rfl) rfl
theorem ql_X8_196 : .methodLink RX8 196 yX8_asksRow ∈ lw_t := tb5 (List.mem_of_getElem? (i := 95) rfl) rfl
theorem ql_X8_199 : .methodLink RX8 199 yX8_answerOf ∈ lw_t := tb5 (List.mem_of_getElem? (i := 103) rfl) rfl
theorem ql_X8_203 : .methodLink RX8 203 yX8_goesOn ∈ lw_t := tb5 (List.mem_of_getElem? (i := 127) rfl) rfl
theorem ql_X8_206 : .methodLink RX8 206 yX8_leftOf ∈ lw_t := tb5 (List.mem_of_getElem? (i := 135) rfl) rfl
theorem ql_X8_212 : .methodLink RX8 212 yX8_bestOf ∈ lw_t := tb5 (List.mem_of_getElem? (i := 143) rfl) rfl
theorem ql_X8_215 : .methodLink RX8 215 yX8_forces ∈ lw_t := tb5 (List.mem_of_getElem? (i := 151) rfl) rfl
theorem ql_X8_224 : .methodLink RX8 224 yX8_isTold ∈ lw_t := tb5 (List.mem_of_getElem? (i := 163) rfl) rfl
theorem ql_X8_227 : .methodLink RX8 227 yX8_common ∈ lw_t := tb5 (List.mem_of_getElem? (i := 171) rfl) rfl
theorem ql_X8_240 : .methodLink RX8 240 yX8_draw ∈ lw_t := tb5 (List.mem_of_getElem? (i := 211) rfl) rfl
theorem ql_X8_243 : .methodLink RX8 243 yX8_over ∈ lw_t := tb5 (List.mem_of_getElem? (i := 5) rfl) rfl
theorem qn_X7_9 : .methodLinkNest RX7 9 yX1_init RX7 ∈ lw_t := tb1 (List.mem_of_getElem? (i := 28) rfl) rfl
theorem qn_X7_18 : .methodLinkNest RX7 18 yX6_init RX7 ∈ lw_t := tb1 (List.mem_of_getElem? (i := 43) rfl) rfl
theorem qn_X7_28 : .methodLinkNest RX7 28 yX2_init RX7 ∈ lw_t := tb1 (List.mem_of_getElem? (i := 85) rfl) rfl
theorem qn_X7_38 : .methodLinkNest RX7 38 yX5_init RX7 ∈ lw_t := tb1 (List.mem_of_getElem? (i := 101) rfl) rfl
theorem qn_X7_57 : .methodLinkNest RX7 57 yX0_init RX7 ∈ lw_t := tb1 (List.mem_of_getElem? (i := 178) rfl) rfl
theorem qn_X0_9 : .methodLinkNest RX0 9 yX6_init RX7 ∈ lw_t := tb1 (List.mem_of_getElem? (i := 183) rfl) rfl
theorem qn_X0_18 : .methodLinkNest RX0 18 yX5_init RX7 ∈ lw_t := tb1 (List.mem_of_getElem? (i := 185) rfl) rfl
theorem qn_X1_97 : .methodLinkNest RX1 97 yX7_isCase RX7 ∈ lw_t := tb2 (List.mem_of_getElem? (i := 183) rfl) rfl
theorem qn_X3_106 : .methodLinkNest RX3 106 yX7_isSet RX7 ∈ lw_t := tb3 (List.mem_of_getElem? (i := 159) rfl) rfl
theorem qn_X3_163 : .methodLinkNest RX3 163 yX7_isSettled RX7 ∈ lw_t := tb3 (List.mem_of_getElem? (i := 107) rfl) rfl
theorem qn_X3_166 : .methodLinkNest RX3 166 yX7_mayFollow RX7 ∈ lw_t := tb3 (List.mem_of_getElem? (i := 108) rfl) rfl
theorem qn_X3_173 : .methodLinkNest RX3 173 yX7_isLaw RX7 ∈ lw_t := tb3 (List.mem_of_getElem? (i := 184) rfl) rfl
theorem qn_X3_180 : .methodLinkNest RX3 180 yX7_isOnOneSide RX7 ∈ lw_t := tb3 (List.mem_of_getElem? (i := 205) rfl) rfl
theorem qn_X6_43 : .methodLinkNest RX6 43 yX7_isCase RX7 ∈ lw_t := tb2 (List.mem_of_getElem? (i := 194) rfl) rfl
theorem qn_X6_47 : .methodLinkNest RX6 47 yX7_isLaw RX7 ∈ lw_t := tb2 (List.mem_of_getElem? (i := 199) rfl) rfl
theorem qf_X7_10 : .fieldLink RX7 10 RX7 "letters" "LAnswerShorter$Letters;" ∈ lw_t := tb1 (List.mem_of_getElem? (i := 201) rfl) rfl
theorem qf_X7_19 : .fieldLink RX7 19 RX7 "speech" "LAnswerShorter$Tongue;" ∈ lw_t := tb1 (List.mem_of_getElem? (i := 202) rfl) rfl
theorem qf_X7_23 : .fieldLink RX7 23 RX7 "draft" "LAnswerShorter$Tongue;" ∈ lw_t := tb1 (List.mem_of_getElem? (i := 203) rfl) rfl
theorem qf_X7_29 : .fieldLink RX7 29 RX7 "asked" "LAnswerShorter$Row;" ∈ lw_t := tb1 (List.mem_of_getElem? (i := 204) rfl) rfl
theorem qf_X7_33 : .fieldLink RX7 33 RX7 "heard" "LAnswerShorter$Row;" ∈ lw_t := tb1 (List.mem_of_getElem? (i := 205) rfl) rfl
theorem qf_X7_39 : .fieldLink RX7 39 RX7 "talk" "LAnswerShorter$Talk;" ∈ lw_t := tb1 (List.mem_of_getElem? (i := 206) rfl) rfl
theorem qf_X7_48 : .fieldLink RX7 48 RX7 "sayings" "LAnswerShorter$Sayings;" ∈ lw_t := tb1 (List.mem_of_getElem? (i := 207) rfl) rfl
theorem qf_X7_52 : .fieldLink RX7 52 RX7 "idler" "LAnswerShorter$Sayings;" ∈ lw_t := tb1 (List.mem_of_getElem? (i := 208) rfl) rfl
theorem qf_X7_58 : .fieldLink RX7 58 RX7 "kept" "LAnswerShorter$Image;" ∈ lw_t := tb1 (List.mem_of_getElem? (i := 209) rfl) rfl
theorem qf_X7_62 : .fieldLink RX7 62 RX7 "refusals" "[I" ∈ lw_t := tb1 (List.mem_of_getElem? (i := 210) rfl) rfl
theorem qf_X7_70 : .fieldLink RX7 70 RX1 "size" "I" ∈ lw_t := tb1 (List.mem_of_getElem? (i := 34) rfl) rfl
theorem qf_X7_97 : .fieldLink RX7 97 RX6 "kinds" "[I" ∈ lw_t := tb1 (List.mem_of_getElem? (i := 48) rfl) rfl
theorem qf_X7_100 : .fieldLink RX7 100 RX6 "cases" "[I" ∈ lw_t := tb1 (List.mem_of_getElem? (i := 50) rfl) rfl
theorem qf_X7_106 : .fieldLink RX7 106 RX6 "weights" "[I" ∈ lw_t := tb1 (List.mem_of_getElem? (i := 52) rfl) rfl
theorem qf_X7_109 : .fieldLink RX7 109 RX6 "trueCase" "I" ∈ lw_t := tb1 (List.mem_of_getElem? (i := 65) rfl) rfl
theorem qf_X7_115 : .fieldLink RX7 115 RX6 "lawNow" "I" ∈ lw_t := tb1 (List.mem_of_getElem? (i := 63) rfl) rfl
theorem qf_X7_155 : .fieldLink RX7 155 RX6 "persons" "[I" ∈ lw_t := tb1 (List.mem_of_getElem? (i := 55) rfl) rfl
theorem qf_X7_174 : .fieldLink RX7 174 RX6 "words" "I" ∈ lw_t := tb1 (List.mem_of_getElem? (i := 58) rfl) rfl
theorem qf_X7_190 : .fieldLink RX7 190 RX2 "size" "I" ∈ lw_t := tb1 (List.mem_of_getElem? (i := 93) rfl) rfl
theorem qf_X7_194 : .fieldLink RX7 194 RX7 "meantCases" "I" ∈ lw_t := tb1 (List.mem_of_getElem? (i := 211) rfl) rfl
theorem qf_X7_203 : .fieldLink RX7 203 RX5 "size" "I" ∈ lw_t := tb1 (List.mem_of_getElem? (i := 108) rfl) rfl
theorem qf_X7_208 : .fieldLink RX7 208 RX5 "senses" "[I" ∈ lw_t := tb1 (List.mem_of_getElem? (i := 106) rfl) rfl
theorem qf_X7_230 : .fieldLink RX7 230 RX0 "tongueThen" "LAnswerShorter$Tongue;" ∈ lw_t := tb1 (List.mem_of_getElem? (i := 187) rfl) rfl
theorem qf_X7_233 : .fieldLink RX7 233 RX0 "talkThen" "LAnswerShorter$Talk;" ∈ lw_t := tb1 (List.mem_of_getElem? (i := 189) rfl) rfl
theorem qf_X7_239 : .fieldLink RX7 239 RX0 "meantThen" "I" ∈ lw_t := tb1 (List.mem_of_getElem? (i := 190) rfl) rfl
theorem qf_X7_242 : .fieldLink RX7 242 RX0 "taken" "Z" ∈ lw_t := tb1 (List.mem_of_getElem? (i := 191) rfl) rfl
theorem qf_X7_246 : .fieldLink RX7 246 RX6 "people" "I" ∈ lw_t := tb1 (List.mem_of_getElem? (i := 60) rfl) rfl
theorem qf_X7_256 : .fieldLink RX7 256 RX3 "fresh" "Z" ∈ lw_t := tb1 (List.mem_of_getElem? (i := 138) rfl) rfl
theorem qf_X0_10 : .fieldLink RX0 10 RX0 "tongueThen" "LAnswerShorter$Tongue;" ∈ lw_t := tb1 (List.mem_of_getElem? (i := 186) rfl) rfl
theorem qf_X0_19 : .fieldLink RX0 19 RX0 "talkThen" "LAnswerShorter$Talk;" ∈ lw_t := tb1 (List.mem_of_getElem? (i := 188) rfl) rfl
theorem qf_X1_9 : .fieldLink RX1 9 RX1 "signs" "[I" ∈ lw_t := tb1 (List.mem_of_getElem? (i := 32) rfl) rfl
theorem qf_X1_15 : .fieldLink RX1 15 RX1 "size" "I" ∈ lw_t := tb1 (List.mem_of_getElem? (i := 33) rfl) rfl
theorem qf_X2_9 : .fieldLink RX2 9 RX2 "words" "[I" ∈ lw_t := tb1 (List.mem_of_getElem? (i := 89) rfl) rfl
theorem qf_X2_15 : .fieldLink RX2 15 RX2 "size" "I" ∈ lw_t := tb1 (List.mem_of_getElem? (i := 91) rfl) rfl
theorem qf_X3_11 : .fieldLink RX3 11 RX3 "senses" "[I" ∈ lw_t := tb1 (List.mem_of_getElem? (i := 122) rfl) rfl
theorem qf_X3_15 : .fieldLink RX3 15 RX3 "groupSense" "[I" ∈ lw_t := tb1 (List.mem_of_getElem? (i := 123) rfl) rfl
theorem qf_X3_18 : .fieldLink RX3 18 RX3 "groupFirst" "[I" ∈ lw_t := tb1 (List.mem_of_getElem? (i := 124) rfl) rfl
theorem qf_X3_21 : .fieldLink RX3 21 RX3 "groupSize" "[I" ∈ lw_t := tb1 (List.mem_of_getElem? (i := 125) rfl) rfl
theorem qf_X3_24 : .fieldLink RX3 24 RX3 "groupWeight" "[I" ∈ lw_t := tb1 (List.mem_of_getElem? (i := 126) rfl) rfl
theorem qf_X3_27 : .fieldLink RX3 27 RX3 "groupBehind" "[I" ∈ lw_t := tb1 (List.mem_of_getElem? (i := 127) rfl) rfl
theorem qf_X3_30 : .fieldLink RX3 30 RX3 "fitting" "[I" ∈ lw_t := tb1 (List.mem_of_getElem? (i := 128) rfl) rfl
theorem qf_X3_33 : .fieldLink RX3 33 RX3 "firstFor" "[I" ∈ lw_t := tb1 (List.mem_of_getElem? (i := 129) rfl) rfl
theorem qf_X3_36 : .fieldLink RX3 36 RX3 "bestGroup" "[I" ∈ lw_t := tb1 (List.mem_of_getElem? (i := 130) rfl) rfl
theorem qf_X3_39 : .fieldLink RX3 39 RX3 "bestLeft" "[I" ∈ lw_t := tb1 (List.mem_of_getElem? (i := 131) rfl) rfl
theorem qf_X3_42 : .fieldLink RX3 42 RX3 "speech" "LAnswerShorter$Tongue;" ∈ lw_t := tb1 (List.mem_of_getElem? (i := 120) rfl) rfl
theorem qf_X3_46 : .fieldLink RX3 46 RX3 "moreIdle" "I" ∈ lw_t := tb1 (List.mem_of_getElem? (i := 121) rfl) rfl
theorem qf_X3_53 : .fieldLink RX3 53 RX6 "lawNow" "I" ∈ lw_t := tb1 (List.mem_of_getElem? (i := 61) rfl) rfl
theorem qf_X3_66 : .fieldLink RX3 66 RX3 "fits" "I" ∈ lw_t := tb1 (List.mem_of_getElem? (i := 135) rfl) rfl
theorem qf_X3_86 : .fieldLink RX3 86 RX6 "weights" "[I" ∈ lw_t := tb1 (List.mem_of_getElem? (i := 53) rfl) rfl
theorem qf_X3_92 : .fieldLink RX3 92 RX3 "groups" "I" ∈ lw_t := tb1 (List.mem_of_getElem? (i := 134) rfl) rfl
theorem qf_X3_99 : .fieldLink RX3 99 RX3 "firstsKnown" "Z" ∈ lw_t := tb1 (List.mem_of_getElem? (i := 136) rfl) rfl
theorem qf_X3_109 : .fieldLink RX3 109 RX2 "size" "I" ∈ lw_t := tb1 (List.mem_of_getElem? (i := 92) rfl) rfl
theorem qf_X3_114 : .fieldLink RX3 114 RX3 "words" "I" ∈ lw_t := tb1 (List.mem_of_getElem? (i := 132) rfl) rfl
theorem qf_X3_117 : .fieldLink RX3 117 RX2 "words" "[I" ∈ lw_t := tb1 (List.mem_of_getElem? (i := 90) rfl) rfl
theorem qf_X3_122 : .fieldLink RX3 122 RX3 "fresh" "Z" ∈ lw_t := tb1 (List.mem_of_getElem? (i := 137) rfl) rfl
theorem qf_X3_128 : .fieldLink RX3 128 RX6 "words" "I" ∈ lw_t := tb1 (List.mem_of_getElem? (i := 57) rfl) rfl
theorem qf_X3_137 : .fieldLink RX3 137 RX3 "size" "I" ∈ lw_t := tb1 (List.mem_of_getElem? (i := 133) rfl) rfl
theorem qf_X5_9 : .fieldLink RX5 9 RX5 "senses" "[I" ∈ lw_t := tb1 (List.mem_of_getElem? (i := 105) rfl) rfl
theorem qf_X5_15 : .fieldLink RX5 15 RX5 "size" "I" ∈ lw_t := tb1 (List.mem_of_getElem? (i := 107) rfl) rfl
theorem qf_X6_9 : .fieldLink RX6 9 RX6 "kinds" "[I" ∈ lw_t := tb1 (List.mem_of_getElem? (i := 47) rfl) rfl
theorem qf_X6_15 : .fieldLink RX6 15 RX6 "cases" "[I" ∈ lw_t := tb1 (List.mem_of_getElem? (i := 49) rfl) rfl
theorem qf_X6_18 : .fieldLink RX6 18 RX6 "weights" "[I" ∈ lw_t := tb1 (List.mem_of_getElem? (i := 51) rfl) rfl
theorem qf_X6_21 : .fieldLink RX6 21 RX6 "persons" "[I" ∈ lw_t := tb1 (List.mem_of_getElem? (i := 54) rfl) rfl
theorem qf_X6_30 : .fieldLink RX6 30 RX6 "words" "I" ∈ lw_t := tb1 (List.mem_of_getElem? (i := 56) rfl) rfl
theorem qf_X6_34 : .fieldLink RX6 34 RX6 "people" "I" ∈ lw_t := tb1 (List.mem_of_getElem? (i := 59) rfl) rfl
theorem qf_X6_37 : .fieldLink RX6 37 RX6 "lawNow" "I" ∈ lw_t := tb1 (List.mem_of_getElem? (i := 62) rfl) rfl
theorem qf_X6_40 : .fieldLink RX6 40 RX6 "trueCase" "I" ∈ lw_t := tb1 (List.mem_of_getElem? (i := 64) rfl) rfl
theorem qf_X8_9 : .fieldLink RX8 9 RX8 "letters" "[I" ∈ lw_t := tb4 (List.mem_of_getElem? (i := 90) rfl) rfl
theorem qf_X8_13 : .fieldLink RX8 13 RX8 "row" "[I" ∈ lw_t := tb4 (List.mem_of_getElem? (i := 92) rfl) rfl
theorem qf_X8_16 : .fieldLink RX8 16 RX8 "answered" "[I" ∈ lw_t := tb4 (List.mem_of_getElem? (i := 94) rfl) rfl
theorem qf_X8_19 : .fieldLink RX8 19 RX8 "refused" "[I" ∈ lw_t := tb4 (List.mem_of_getElem? (i := 96) rfl) rfl
theorem qf_X8_22 : .fieldLink RX8 22 RX8 "kind" "[I" ∈ lw_t := tb4 (List.mem_of_getElem? (i := 98) rfl) rfl
theorem qf_X8_25 : .fieldLink RX8 25 RX8 "tells" "[I" ∈ lw_t := tb4 (List.mem_of_getElem? (i := 99) rfl) rfl
theorem qf_X8_28 : .fieldLink RX8 28 RX8 "weight" "[I" ∈ lw_t := tb4 (List.mem_of_getElem? (i := 100) rfl) rfl
theorem qf_X8_31 : .fieldLink RX8 31 RX8 "talker" "[I" ∈ lw_t := tb4 (List.mem_of_getElem? (i := 102) rfl) rfl
theorem qf_X8_34 : .fieldLink RX8 34 RX8 "sayingWords" "[I" ∈ lw_t := tb4 (List.mem_of_getElem? (i := 106) rfl) rfl
theorem qf_X8_37 : .fieldLink RX8 37 RX8 "sayingMeans" "[I" ∈ lw_t := tb4 (List.mem_of_getElem? (i := 107) rfl) rfl
theorem qf_X8_40 : .fieldLink RX8 40 RX8 "sayingIdle" "[I" ∈ lw_t := tb4 (List.mem_of_getElem? (i := 108) rfl) rfl
theorem qf_X8_43 : .fieldLink RX8 43 RX8 "manyOf" "[I" ∈ lw_t := tb4 (List.mem_of_getElem? (i := 113) rfl) rfl
theorem qf_X8_48 : .fieldLink RX8 48 RX8 "wordsOf" "[[I" ∈ lw_t := tb4 (List.mem_of_getElem? (i := 114) rfl) rfl
theorem qf_X8_51 : .fieldLink RX8 51 RX8 "meaningOf" "[I" ∈ lw_t := tb4 (List.mem_of_getElem? (i := 115) rfl) rfl
theorem qf_X8_54 : .fieldLink RX8 54 RX8 "idleIn" "[I" ∈ lw_t := tb4 (List.mem_of_getElem? (i := 116) rfl) rfl
theorem qf_X8_57 : .fieldLink RX8 57 RX8 "fourWords" "[I" ∈ lw_t := tb4 (List.mem_of_getElem? (i := 122) rfl) rfl
theorem qf_X8_60 : .fieldLink RX8 60 RX8 "lot" "[I" ∈ lw_t := tb4 (List.mem_of_getElem? (i := 125) rfl) rfl
theorem qf_X8_67 : .fieldLink RX8 67 RX8 "words" "I" ∈ lw_t := tb4 (List.mem_of_getElem? (i := 97) rfl) rfl
theorem qf_X8_71 : .fieldLink RX8 71 RX8 "persons" "I" ∈ lw_t := tb4 (List.mem_of_getElem? (i := 101) rfl) rfl
theorem qf_X8_78 : .fieldLink RX8 78 RX8 "letterMany" "I" ∈ lw_t := tb4 (List.mem_of_getElem? (i := 91) rfl) rfl
theorem qf_X8_81 : .fieldLink RX8 81 RX8 "at" "I" ∈ lw_t := tb4 (List.mem_of_getElem? (i := 111) rfl) rfl
theorem qf_X8_111 : .fieldLink RX8 111 RX8 "law" "I" ∈ lw_t := tb4 (List.mem_of_getElem? (i := 103) rfl) rfl
theorem qf_X8_118 : .fieldLink RX8 118 RX8 "before" "LAnswerShorterModel;" ∈ lw_t := tb4 (List.mem_of_getElem? (i := 112) rfl) rfl
theorem qf_X8_136 : .fieldLink RX8 136 RX8 "isTrue" "I" ∈ lw_t := tb4 (List.mem_of_getElem? (i := 104) rfl) rfl
theorem qf_X8_139 : .fieldLink RX8 139 RX8 "rowMany" "I" ∈ lw_t := tb4 (List.mem_of_getElem? (i := 93) rfl) rfl
theorem qf_X8_159 : .fieldLink RX8 159 RX8 "listed" "I" ∈ lw_t := tb4 (List.mem_of_getElem? (i := 117) rfl) rfl
theorem qf_X8_166 : .fieldLink RX8 166 RX8 "askedMany" "I" ∈ lw_t := tb4 (List.mem_of_getElem? (i := 118) rfl) rfl
theorem qf_X8_169 : .fieldLink RX8 169 RX8 "askedIdle" "I" ∈ lw_t := tb4 (List.mem_of_getElem? (i := 119) rfl) rfl
theorem qf_X8_172 : .fieldLink RX8 172 RX8 "askedMeans" "I" ∈ lw_t := tb4 (List.mem_of_getElem? (i := 120) rfl) rfl
theorem qf_X8_175 : .fieldLink RX8 175 RX8 "askedLaw" "I" ∈ lw_t := tb4 (List.mem_of_getElem? (i := 121) rfl) rfl
theorem qf_X8_209 : .fieldLink RX8 209 RX8 "bestLeft" "I" ∈ lw_t := tb4 (List.mem_of_getElem? (i := 123) rfl) rfl
theorem qf_X8_218 : .fieldLink RX8 218 RX8 "answeredMany" "I" ∈ lw_t := tb4 (List.mem_of_getElem? (i := 95) rfl) rfl
theorem qf_X8_221 : .fieldLink RX8 221 RX8 "meantNow" "I" ∈ lw_t := tb4 (List.mem_of_getElem? (i := 109) rfl) rfl
theorem qf_X8_230 : .fieldLink RX8 230 RX8 "sayings" "I" ∈ lw_t := tb4 (List.mem_of_getElem? (i := 105) rfl) rfl
theorem qf_X8_234 : .fieldLink RX8 234 RX8 "drawn" "I" ∈ lw_t := tb4 (List.mem_of_getElem? (i := 124) rfl) rfl
theorem qf_X8_247 : .fieldLink RX8 247 RX8 "kept" "LAnswerShorterModel;" ∈ lw_t := tb4 (List.mem_of_getElem? (i := 110) rfl) rfl
theorem qc_X7_226 : .constant RX7 226 1000000000 ∈ lw_t := tb4 (List.mem_of_getElem? (i := 38) rfl) rfl
theorem qc_X7_271 : .constant RX7 271 1664525 ∈ lw_t := tb4 (List.mem_of_getElem? (i := 54) rfl) rfl
theorem qc_X7_272 : .constant RX7 272 1013904223 ∈ lw_t := tb4 (List.mem_of_getElem? (i := 55) rfl) rfl
theorem qc_X7_273 : .constant RX7 273 2147483647 ∈ lw_t := tb4 (List.mem_of_getElem? (i := 59) rfl) rfl
theorem qc_X4_15 : .constant RX4 15 129024 ∈ lw_t := tb3 (List.mem_of_getElem? (i := 28) rfl) rfl
theorem qc_X8_233 : .constant RX8 233 1000000000 ∈ lw_t := tb5 (List.mem_of_getElem? (i := 202) rfl) rfl
theorem qc_X8_237 : .constant RX8 237 1664525 ∈ lw_t := tb5 (List.mem_of_getElem? (i := 215) rfl) rfl
theorem qc_X8_238 : .constant RX8 238 1013904223 ∈ lw_t := tb5 (List.mem_of_getElem? (i := 216) rfl) rfl
theorem qc_X8_239 : .constant RX8 239 2147483647 ∈ lw_t := tb5 (List.mem_of_getElem? (i := 217) rfl) rfl
