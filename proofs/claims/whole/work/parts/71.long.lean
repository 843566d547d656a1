/-! long numbers from 0 on -/
def j3 (n : Nat) : Int64 := Int64.ofNat n
theorem j3_toInt {n : Nat} (h : n < 9223372036854775808) : (j3 n).toInt = n := Int64.toInt_ofNat_of_lt h
theorem j3_add (a b : Nat) : j3 a + j3 b = j3 (a + b) := (Int64.ofNat_add a b).symm
theorem j3_mul (a b : Nat) : j3 a * j3 b = j3 (a * b) := (Int64.ofNat_mul a b).symm
theorem j3_sub {a b : Nat} (h : b ≤ a) : j3 a - j3 b = j3 (a - b) := (Int64.ofNat_sub a b h).symm
theorem j3_lt {a b : Nat} (ha : a < 9223372036854775808) (hb : b < 9223372036854775808) : j3 a < j3 b ↔ a < b := Int64.ofNat_lt_iff_lt ha hb
theorem j3_le {a b : Nat} (ha : a < 9223372036854775808) (hb : b < 9223372036854775808) : j3 a ≤ j3 b ↔ a ≤ b := Int64.ofNat_le_iff_le ha hb
theorem j3_eq {a b : Nat} (ha : a < 9223372036854775808) (hb : b < 9223372036854775808) : j3 a = j3 b ↔ a = b := by
  rw [j_eq, j3_toInt ha, j3_toInt hb]; omega
theorem j3_div {a b : Nat} (ha : a < 9223372036854775808) (hb : b < 9223372036854775808) : j3 a / j3 b = j3 (a / b) := (Int64.ofNat_div ha hb).symm
theorem j3_rem {a b : Nat} (ha : a < 9223372036854775808) (hb : b < 9223372036854775808) : j3 a - j3 a / j3 b * j3 b = j3 (a % b) := by
  have h2 : a / b * b ≤ a := Nat.div_mul_le_self a b
  rw [j3_div ha hb, j3_mul, j3_sub h2]
  congr 1
  have := Nat.mod_add_div a b
  rw [Nat.mul_comm] at this
  omega
theorem j3_n {n : Nat} (h : n < 2147483648) : (n3 n).toInt64 = j3 n := by
  rw [j_eq, i_toL, n3_toInt h, j3_toInt (by omega)]
theorem j3_32 (n : Nat) : (j3 n).toInt32 = n3 n := by
  show (Int64.ofNat n).toInt32 = Int32.ofNat n
  rw [← Int64.ofInt_eq_ofNat, ← Int32.ofInt_eq_ofNat]
  exact Int64.toInt32_ofInt
theorem lg3_le (x y : Int64) : lg_cmp x y ≤ n3 0 ↔ x ≤ y := lg_cmp_le x y
theorem lg3_lt (x y : Int64) : lg_cmp x y < n3 0 ↔ x < y := lg_cmp_lt x y
theorem lg3_eq (x y : Int64) : lg_cmp x y = n3 0 ↔ x = y := lg_cmp_eq x y
theorem j3_l : ((0 : Int64) = j3 0) ∧ ((1 : Int64) = j3 1) ∧ ((2 : Int64) = j3 2) ∧ ((3 : Int64) = j3 3) ∧ ((4 : Int64) = j3 4) ∧ ((5 : Int64) = j3 5) ∧ ((7 : Int64) = j3 7) ∧ ((8 : Int64) = j3 8) ∧ ((9 : Int64) = j3 9) ∧ ((10 : Int64) = j3 10) ∧ ((11 : Int64) = j3 11) ∧ ((20 : Int64) = j3 20) ∧ ((30 : Int64) = j3 30) ∧ ((32 : Int64) = j3 32) ∧ ((40 : Int64) = j3 40) ∧ ((48 : Int64) = j3 48) ∧ ((60 : Int64) = j3 60) ∧ ((96 : Int64) = j3 96) ∧ ((99 : Int64) = j3 99) ∧ ((100 : Int64) = j3 100) ∧ ((199 : Int64) = j3 199) ∧ ((200 : Int64) = j3 200) ∧ ((400 : Int64) = j3 400) ∧ ((1000 : Int64) = j3 1000) ∧ ((1103 : Int64) = j3 1103) ∧ ((5000 : Int64) = j3 5000) ∧ ((12345 : Int64) = j3 12345) ∧ ((1000000 : Int64) = j3 1000000) ∧ ((1000003 : Int64) = j3 1000003) ∧ ((1000000000 : Int64) = j3 1000000000) := ⟨rfl, rfl, rfl, rfl, rfl, rfl, rfl, rfl, rfl, rfl, rfl, rfl, rfl, rfl, rfl, rfl, rfl, rfl, rfl, rfl, rfl, rfl, rfl, rfl, rfl, rfl, rfl, rfl, rfl, rfl⟩
theorem r_in3 {N a b c : Nat} {h : ra_H} (ha : a < 9223372036854775808) (hb : b < 9223372036854775808) (hc : c < 9223372036854775808) : fX12_in N (j3 a) (j3 b) (j3 c) h = some (if b ≤ a ∧ a ≤ c then n3 1 else n3 0, h) := by
  rw [r_in, j3_toInt ha, j3_toInt hb, j3_toInt hc]
  congr 3
  apply propext
  omega
/-- counting -/
def cnt (P : Nat → Prop) [DecidablePred P] : Nat → Nat
  | 0 => 0
  | n + 1 => cnt P n + if P n then 1 else 0
theorem cnt_le (P : Nat → Prop) [DecidablePred P] : ∀ n, cnt P n ≤ n := by
  intro n
  induction n with
  | zero => exact Nat.le_refl _
  | succ n ih => rw [cnt]; split <;> omega
theorem cnt_congr {P Q : Nat → Prop} [DecidablePred P] [DecidablePred Q] : ∀ n, (∀ i, i < n → (P i ↔ Q i)) → cnt P n = cnt Q n := by
  intro n
  induction n with
  | zero => intro _; rfl
  | succ n ih =>
    intro h
    rw [cnt, cnt, ih (fun i hi => h i (by omega))]
    have := h n (by omega)
    by_cases hP : P n
    · rw [if_pos hP, if_pos (this.mp hP)]
    · rw [if_neg hP, if_neg (fun z => hP (this.mpr z))]
theorem cnt_n3 (P : Nat → Prop) [DecidablePred P] : ∀ n, fo (fun b s => if P b then s + n3 1 else s) 0 n (n3 0) = n3 (cnt P n) := by
  intro n
  induction n with
  | zero => rfl
  | succ n ih =>
    rw [fo_last, ih, Nat.zero_add, cnt]
    split
    · rw [n3_add]
    · rfl
theorem cnt_j3 (P : Nat → Prop) [DecidablePred P] : ∀ n, fo (fun b s => if P b then s + j3 1 else s) 0 n (j3 0) = j3 (cnt P n) := by
  intro n
  induction n with
  | zero => rfl
  | succ n ih =>
    rw [fo_last, ih, Nat.zero_add, cnt]
    split
    · rw [j3_add]
    · rfl
theorem marked_cnt (F : Nat → Int32) (n : Nat) : sp_marked F n = n3 (cnt (fun b => ¬ F (12 * b) = -n3 1) n) := by
  rw [← cnt_n3]
  unfold sp_marked
  refine fo_congr n 0 _ (fun j s _ _ => ?_)
  by_cases h : F (12 * j) = -n3 1 <;> simp [h]
theorem found_cnt (F : Nat → Int32) (x : Int32) (n : Nat) : sp_found F x n = n3 (cnt (fun b => F (12 * b + 11) = x) n) := by
  rw [← cnt_n3]
  rfl
theorem books_cnt (F : Nat → Int32) (x : Int32) (n : Nat) : sp_books F x n = n3 (cnt (fun b => F (12 * b) = x) n) := by
  rw [← cnt_n3]
  rfl
section
variable (N : Nat) (κ : hk_T)
theorem r_marked {n : Nat} (hB : hk_A κ 71 480 = n3 n) (hn : n ≤ 40) (hN : 1000 < N) : fX12_marked N 69 (hp κ) = some (n3 (cnt (fun b => ¬ hk_A κ 71 (12 * b) = -n3 1) n), hp κ) := by
  rw [← cnt_n3]
  unfold fX12_marked nX12_marked_0
  simp (maxSteps := 400000) (disch := omega) only [n3_l, n3_add, n3_mul, n3_sub, n3_subn, n3_lt, n3_le, n3_eq, n3_eqn, n3_neq, n3_and, n3_or, n3_shl, n3_i, n3_cl, ↓hbd_0, ↓hbd_1, ↓hbd_2, hk_ob_0, hk_rd_0, hk_rd_1, hk_rd_2, hk_al_0, hk_al_1, h3r_0, h3r_1, hk_wi_0, hk_wj_0, h3w_0, h3w_1, h3v_0, hk_kI, hk_kJ, hk_kA, hk_kB, A_eq, A_ne, A_row, B_eq, B_ne, B_row, I_eq, I_ne, J_eq, J_ne, Option.bind_some, Option.some.injEq, if_true, if_false, eq_self, true_or, or_true, true_and, and_true, false_or, or_false, not_true_eq_false, not_false_eq_true, Classical.not_not, nar_b0, nar_b1, rz_0, rz_1, rz_i, ite01, Nat.add_zero, Nat.zero_add, Nat.one_mul, mul12, reduceIte, ra_z0, Nat.reduceEqDiff, Nat.reduceLT, Nat.reduceLeDiff, Nat.reduceAdd, Nat.reduceMul, Nat.reduceSub, Nat.reduceDiv, Nat.reduceMod, Bool.false_eq_true, false_and, and_false, reduceCtorEq]
  refine lp0 (fun m i s => nX12_marked_4 N m 69 s (n3 i) (hp κ)) n _ (fun s => some (s, hp κ)) ?_ ?_ (by omega) _
  · intro m i s hi
    rw [nX12_marked_4]
    simp (maxSteps := 400000) (disch := omega) only [n3_l, n3_add, n3_mul, n3_sub, n3_subn, n3_lt, n3_le, n3_eq, n3_eqn, n3_neq, n3_and, n3_or, n3_shl, n3_i, n3_cl, ↓hbd_0, ↓hbd_1, ↓hbd_2, hk_ob_0, hk_rd_0, hk_rd_1, hk_rd_2, hk_al_0, hk_al_1, h3r_0, h3r_1, hk_wi_0, hk_wj_0, h3w_0, h3w_1, h3v_0, hk_kI, hk_kJ, hk_kA, hk_kB, A_eq, A_ne, A_row, B_eq, B_ne, B_row, I_eq, I_ne, J_eq, J_ne, Option.bind_some, Option.some.injEq, if_true, if_false, eq_self, true_or, or_true, true_and, and_true, false_or, or_false, not_true_eq_false, not_false_eq_true, Classical.not_not, nar_b0, nar_b1, rz_0, rz_1, rz_i, ite01, Nat.add_zero, Nat.zero_add, Nat.one_mul, mul12, reduceIte, ra_z0, Nat.reduceEqDiff, Nat.reduceLT, Nat.reduceLeDiff, Nat.reduceAdd, Nat.reduceMul, Nat.reduceSub, Nat.reduceDiv, Nat.reduceMod, Bool.false_eq_true, false_and, and_false, reduceCtorEq, hB, hi, r_hasMark, nX12_marked_30]
    (repeat' split) <;> first | rfl | contradiction
  · intro m s
    rw [nX12_marked_4]
    simp (maxSteps := 400000) (disch := omega) only [n3_l, n3_add, n3_mul, n3_sub, n3_subn, n3_lt, n3_le, n3_eq, n3_eqn, n3_neq, n3_and, n3_or, n3_shl, n3_i, n3_cl, ↓hbd_0, ↓hbd_1, ↓hbd_2, hk_ob_0, hk_rd_0, hk_rd_1, hk_rd_2, hk_al_0, hk_al_1, h3r_0, h3r_1, hk_wi_0, hk_wj_0, h3w_0, h3w_1, h3v_0, hk_kI, hk_kJ, hk_kA, hk_kB, A_eq, A_ne, A_row, B_eq, B_ne, B_row, I_eq, I_ne, J_eq, J_ne, Option.bind_some, Option.some.injEq, if_true, if_false, eq_self, true_or, or_true, true_and, and_true, false_or, or_false, not_true_eq_false, not_false_eq_true, Classical.not_not, nar_b0, nar_b1, rz_0, rz_1, rz_i, ite01, Nat.add_zero, Nat.zero_add, Nat.one_mul, mul12, reduceIte, ra_z0, Nat.reduceEqDiff, Nat.reduceLT, Nat.reduceLeDiff, Nat.reduceAdd, Nat.reduceMul, Nat.reduceSub, Nat.reduceDiv, Nat.reduceMod, Bool.false_eq_true, false_and, and_false, reduceCtorEq, hB, Nat.lt_irrefl]
theorem r_hopes {n x : Nat} (hB : hk_A κ 71 480 = n3 n) (hn : n ≤ 40) (hx : x < 12) (hN : 1000 < N) : fX12_hopes N 69 (n3 x) (hp κ) = some (j3 (cnt (fun b => hk_A κ 71 (12 * b + 11) = n3 x) n) * (hk_A κ 71 (610 + 3 * x) - hk_A κ 71 (610 + 3 * x + 1)).toInt64, hp κ) := by
  rw [← cnt_j3]
  unfold fX12_hopes nX12_hopes_0
  simp (maxSteps := 400000) (disch := omega) only [n3_l, n3_add, n3_mul, n3_sub, n3_subn, n3_lt, n3_le, n3_eq, n3_eqn, n3_neq, n3_and, n3_or, n3_shl, n3_i, n3_cl, j3_l, j3_add, j3_mul, j3_sub, j3_lt, j3_le, j3_eq, j3_n, lg3_le, lg3_lt, lg3_eq, r_in3, ↓hbd_0, ↓hbd_1, ↓hbd_2, hk_ob_0, hk_rd_0, hk_rd_1, hk_rd_2, hk_al_0, hk_al_1, h3r_0, h3r_1, hk_wi_0, hk_wj_0, h3w_0, h3w_1, h3v_0, hk_kI, hk_kJ, hk_kA, hk_kB, A_eq, A_ne, A_row, B_eq, B_ne, B_row, I_eq, I_ne, J_eq, J_ne, Option.bind_some, Option.some.injEq, if_true, if_false, eq_self, true_or, or_true, true_and, and_true, false_or, or_false, not_true_eq_false, not_false_eq_true, Classical.not_not, nar_b0, nar_b1, rz_0, rz_1, rz_i, ite01, Nat.add_zero, Nat.zero_add, Nat.one_mul, mul12, reduceIte, ra_z0, Nat.reduceEqDiff, Nat.reduceLT, Nat.reduceLeDiff, Nat.reduceAdd, Nat.reduceMul, Nat.reduceSub, Nat.reduceDiv, Nat.reduceMod, Bool.false_eq_true, false_and, and_false, reduceCtorEq]
  refine lp0 (fun m i s => nX12_hopes_5 N m 69 (n3 x) s (n3 i) (hp κ)) n _ (fun s => some (s * (hk_A κ 71 (610 + 3 * x) - hk_A κ 71 (610 + 3 * x + 1)).toInt64, hp κ)) ?_ ?_ (by omega) _
  · intro m i s hi
    rw [nX12_hopes_5]
    simp (maxSteps := 400000) (disch := omega) only [n3_l, n3_add, n3_mul, n3_sub, n3_subn, n3_lt, n3_le, n3_eq, n3_eqn, n3_neq, n3_and, n3_or, n3_shl, n3_i, n3_cl, j3_l, j3_add, j3_mul, j3_sub, j3_lt, j3_le, j3_eq, j3_n, lg3_le, lg3_lt, lg3_eq, r_in3, ↓hbd_0, ↓hbd_1, ↓hbd_2, hk_ob_0, hk_rd_0, hk_rd_1, hk_rd_2, hk_al_0, hk_al_1, h3r_0, h3r_1, hk_wi_0, hk_wj_0, h3w_0, h3w_1, h3v_0, hk_kI, hk_kJ, hk_kA, hk_kB, A_eq, A_ne, A_row, B_eq, B_ne, B_row, I_eq, I_ne, J_eq, J_ne, Option.bind_some, Option.some.injEq, if_true, if_false, eq_self, true_or, or_true, true_and, and_true, false_or, or_false, not_true_eq_false, not_false_eq_true, Classical.not_not, nar_b0, nar_b1, rz_0, rz_1, rz_i, ite01, Nat.add_zero, Nat.zero_add, Nat.one_mul, mul12, reduceIte, ra_z0, Nat.reduceEqDiff, Nat.reduceLT, Nat.reduceLeDiff, Nat.reduceAdd, Nat.reduceMul, Nat.reduceSub, Nat.reduceDiv, Nat.reduceMod, Bool.false_eq_true, false_and, and_false, reduceCtorEq, hB, hi, nX12_hopes_41]
    split
    · rfl
    · show nX12_hopes_5 N m 69 (n3 x) (s + 0) _ _ = _; rw [Int64.add_zero]
  · intro m s
    rw [nX12_hopes_5]
    simp (maxSteps := 400000) (disch := omega) only [n3_l, n3_add, n3_mul, n3_sub, n3_subn, n3_lt, n3_le, n3_eq, n3_eqn, n3_neq, n3_and, n3_or, n3_shl, n3_i, n3_cl, ↓hbd_0, ↓hbd_1, ↓hbd_2, hk_ob_0, hk_rd_0, hk_rd_1, hk_rd_2, hk_al_0, hk_al_1, h3r_0, h3r_1, hk_wi_0, hk_wj_0, h3w_0, h3w_1, h3v_0, hk_kI, hk_kJ, hk_kA, hk_kB, A_eq, A_ne, A_row, B_eq, B_ne, B_row, I_eq, I_ne, J_eq, J_ne, Option.bind_some, Option.some.injEq, if_true, if_false, eq_self, true_or, or_true, true_and, and_true, false_or, or_false, not_true_eq_false, not_false_eq_true, Classical.not_not, nar_b0, nar_b1, rz_0, rz_1, rz_i, ite01, Nat.add_zero, Nat.zero_add, Nat.one_mul, mul12, reduceIte, ra_z0, Nat.reduceEqDiff, Nat.reduceLT, Nat.reduceLeDiff, Nat.reduceAdd, Nat.reduceMul, Nat.reduceSub, Nat.reduceDiv, Nat.reduceMod, Bool.false_eq_true, false_and, and_false, reduceCtorEq, hB, Nat.lt_irrefl]
theorem c_expect {n x a l L : Nat} {xs : Nat → Int32} (hx' : hk_x κ = ra_ex0 L xs) (hB : hk_I κ 1 13 = n3 n) (hn : n ≤ 40) (hx : x < 12) (ha : hk_A κ 12 x = n3 a) (hl : hk_A κ 13 x = n3 l) (h1 : a ≤ 5000) (h2 : l ≤ a) (h3 : 0 < l) (hN : 1000 < N) : fX11_expect N 0 (n3 x) (hp κ) = some (n3 (cnt (fun b => hk_A κ 2 (12 * b + 11) = n3 x) n * (a - l) * 100 / l), hp κ) := by
  have hc := cnt_le (fun b => hk_A κ 2 (12 * b + 11) = n3 x) n
  have hm : cnt (fun b => hk_A κ 2 (12 * b + 11) = n3 x) n * (a - l) ≤ 40 * 5000 := Nat.mul_le_mul (by omega) (by omega)
  have hv : vIn 0 11 (n3 x) = true := vIn_n3 (lo := 0) (hi := 11) (by omega) (by omega) (by omega)
  have hl0 : ¬ l = 0 := by omega
  simp (maxSteps := 400000) (disch := omega) only [n3_l, n3_add, n3_mul, n3_sub, n3_subn, n3_lt, n3_le, n3_eq, n3_eqn, n3_neq, n3_and, n3_or, n3_shl, n3_i, n3_cl, ↓hbd_0, ↓hbd_1, ↓hbd_2, hk_ob_0, hk_rd_0, hk_rd_1, hk_rd_2, hk_al_0, hk_al_1, h3r_0, h3r_1, hk_wi_0, hk_wj_0, h3w_0, h3w_1, h3v_0, hk_kI, hk_kJ, hk_kA, hk_kB, A_eq, A_ne, A_row, B_eq, B_ne, B_row, I_eq, I_ne, J_eq, J_ne, Option.bind_some, Option.some.injEq, if_true, if_false, eq_self, true_or, or_true, true_and, and_true, false_or, or_false, not_true_eq_false, not_false_eq_true, Classical.not_not, nar_b0, nar_b1, rz_0, rz_1, rz_i, ite01, Nat.add_zero, Nat.zero_add, Nat.one_mul, mul12, reduceIte, ra_z0, Nat.reduceEqDiff, Nat.reduceLT, Nat.reduceLeDiff, Nat.reduceAdd, Nat.reduceMul, Nat.reduceSub, Nat.reduceDiv, Nat.reduceMod, Bool.false_eq_true, false_and, and_false, reduceCtorEq, fX11_expect, nX11_expect_21, nX11_expect_0, c_fitn hx', hv, hl, h_found N κ hB hn hx hN, found_cnt, ha, n3_div, hl0]
theorem c_expect0 {x L : Nat} {xs : Nat → Int32} (hx' : hk_x κ = ra_ex0 L xs) (hx : x < 12) (hl : hk_A κ 13 x = n3 0) : fX11_expect N 0 (n3 x) (hp κ) = some (-n3 1, hp κ) := by
  have hv : vIn 0 11 (n3 x) = true := vIn_n3 (lo := 0) (hi := 11) (by omega) (by omega) (by omega)
  simp (maxSteps := 400000) (disch := omega) only [n3_l, n3_add, n3_mul, n3_sub, n3_subn, n3_lt, n3_le, n3_eq, n3_eqn, n3_neq, n3_and, n3_or, n3_shl, n3_i, n3_cl, ↓hbd_0, ↓hbd_1, ↓hbd_2, hk_ob_0, hk_rd_0, hk_rd_1, hk_rd_2, hk_al_0, hk_al_1, h3r_0, h3r_1, hk_wi_0, hk_wj_0, h3w_0, h3w_1, h3v_0, hk_kI, hk_kJ, hk_kA, hk_kB, A_eq, A_ne, A_row, B_eq, B_ne, B_row, I_eq, I_ne, J_eq, J_ne, Option.bind_some, Option.some.injEq, if_true, if_false, eq_self, true_or, or_true, true_and, and_true, false_or, or_false, not_true_eq_false, not_false_eq_true, Classical.not_not, nar_b0, nar_b1, rz_0, rz_1, rz_i, ite01, Nat.add_zero, Nat.zero_add, Nat.one_mul, mul12, reduceIte, ra_z0, Nat.reduceEqDiff, Nat.reduceLT, Nat.reduceLeDiff, Nat.reduceAdd, Nat.reduceMul, Nat.reduceSub, Nat.reduceDiv, Nat.reduceMod, Bool.false_eq_true, false_and, and_false, reduceCtorEq, fX11_expect, nX11_expect_21, nX11_expect_0, c_fitn hx', hv, hl]
theorem c_expectn {L : Nat} {x : Int32} {xs : Nat → Int32} (hx' : hk_x κ = ra_ex0 L xs) (hx : ¬ vIn 0 11 x = true) : fX11_expect N 0 x (hp κ) = some (-n3 1, hp κ) := by
  simp (maxSteps := 400000) (disch := omega) only [n3_l, n3_add, n3_mul, n3_sub, n3_subn, n3_lt, n3_le, n3_eq, n3_eqn, n3_neq, n3_and, n3_or, n3_shl, n3_i, n3_cl, ↓hbd_0, ↓hbd_1, ↓hbd_2, hk_ob_0, hk_rd_0, hk_rd_1, hk_rd_2, hk_al_0, hk_al_1, h3r_0, h3r_1, hk_wi_0, hk_wj_0, h3w_0, h3w_1, h3v_0, hk_kI, hk_kJ, hk_kA, hk_kB, A_eq, A_ne, A_row, B_eq, B_ne, B_row, I_eq, I_ne, J_eq, J_ne, Option.bind_some, Option.some.injEq, if_true, if_false, eq_self, true_or, or_true, true_and, and_true, false_or, or_false, not_true_eq_false, not_false_eq_true, Classical.not_not, nar_b0, nar_b1, rz_0, rz_1, rz_i, ite01, Nat.add_zero, Nat.zero_add, Nat.one_mul, mul12, reduceIte, ra_z0, Nat.reduceEqDiff, Nat.reduceLT, Nat.reduceLeDiff, Nat.reduceAdd, Nat.reduceMul, Nat.reduceSub, Nat.reduceDiv, Nat.reduceMod, Bool.false_eq_true, false_and, and_false, reduceCtorEq, fX11_expect, nX11_expect_21, nX11_expect_0, c_fitn hx', hx]
theorem r_expect {n x a l : Nat} (hB : hk_A κ 71 480 = n3 n) (hn : n ≤ 40) (hx : x < 12) (ha : hk_A κ 71 (610 + 3 * x) = n3 a) (hl : hk_A κ 71 (610 + 3 * x + 1) = n3 l) (h1 : a ≤ 5000) (h2 : l ≤ a) (h3 : 0 < l) (hN : 1000 < N) : fX12_expect N 69 (n3 x) (hp κ) = some (n3 (cnt (fun b => hk_A κ 71 (12 * b + 11) = n3 x) n * (a - l) * 100 / l), hp (hk_wI κ 69 0 (n3 0))) := by
  have hc := cnt_le (fun b => hk_A κ 71 (12 * b + 11) = n3 x) n
  have hm : cnt (fun b => hk_A κ 71 (12 * b + 11) = n3 x) n * (a - l) ≤ 40 * 5000 := Nat.mul_le_mul (by omega) (by omega)
  have hv : vIn 0 11 (n3 x) = true := vIn_n3 (lo := 0) (hi := 11) (by omega) (by omega) (by omega)
  have hl0 : ¬ l = 0 := by omega
  have hj0 : ¬ j3 l = j3 0 := by rw [j3_eq (by omega) (by omega)]; exact hl0
  have hh := r_hopes N (hk_wI κ 69 0 (n3 0)) (n := n) (x := x) hB hn hx hN
  have hx' : x ≤ 11 := by omega
  simp (maxSteps := 400000) (disch := omega) only [n3_l, n3_add, n3_mul, n3_sub, n3_subn, n3_lt, n3_le, n3_eq, n3_eqn, n3_neq, n3_and, n3_or, n3_shl, n3_i, n3_cl, j3_l, j3_add, j3_mul, j3_sub, j3_lt, j3_le, j3_eq, j3_n, lg3_le, lg3_lt, lg3_eq, r_in3, ↓hbd_0, ↓hbd_1, ↓hbd_2, hk_ob_0, hk_rd_0, hk_rd_1, hk_rd_2, hk_al_0, hk_al_1, h3r_0, h3r_1, hk_wi_0, hk_wj_0, h3w_0, h3w_1, h3v_0, hk_kI, hk_kJ, hk_kA, hk_kB, A_eq, A_ne, A_row, B_eq, B_ne, B_row, I_eq, I_ne, J_eq, J_ne, Option.bind_some, Option.some.injEq, if_true, if_false, eq_self, true_or, or_true, true_and, and_true, false_or, or_false, not_true_eq_false, not_false_eq_true, Classical.not_not, nar_b0, nar_b1, rz_0, rz_1, rz_i, ite01, Nat.add_zero, Nat.zero_add, Nat.one_mul, mul12, reduceIte, ra_z0, Nat.reduceEqDiff, Nat.reduceLT, Nat.reduceLeDiff, Nat.reduceAdd, Nat.reduceMul, Nat.reduceSub, Nat.reduceDiv, Nat.reduceMod, Bool.false_eq_true, false_and, and_false, reduceCtorEq, fX12_expect, nX12_expect_34, nX12_expect_0, hx', hh, ha, hl, j3_div, j3_32, hl0, hj0, Nat.mul_comm 100, Nat.zero_le]
theorem r_expect0 {x : Nat} (hx : x < 12) (hl : hk_A κ 71 (610 + 3 * x + 1) = n3 0) : fX12_expect N 69 (n3 x) (hp κ) = some (-n3 1, hp (hk_wI κ 69 0 (n3 0))) := by
  have hv : vIn 0 11 (n3 x) = true := vIn_n3 (lo := 0) (hi := 11) (by omega) (by omega) (by omega)
  simp (maxSteps := 400000) (disch := omega) only [n3_l, n3_add, n3_mul, n3_sub, n3_subn, n3_lt, n3_le, n3_eq, n3_eqn, n3_neq, n3_and, n3_or, n3_shl, n3_i, n3_cl, ↓hbd_0, ↓hbd_1, ↓hbd_2, hk_ob_0, hk_rd_0, hk_rd_1, hk_rd_2, hk_al_0, hk_al_1, h3r_0, h3r_1, hk_wi_0, hk_wj_0, h3w_0, h3w_1, h3v_0, hk_kI, hk_kJ, hk_kA, hk_kB, A_eq, A_ne, A_row, B_eq, B_ne, B_row, I_eq, I_ne, J_eq, J_ne, Option.bind_some, Option.some.injEq, if_true, if_false, eq_self, true_or, or_true, true_and, and_true, false_or, or_false, not_true_eq_false, not_false_eq_true, Classical.not_not, nar_b0, nar_b1, rz_0, rz_1, rz_i, ite01, Nat.add_zero, Nat.zero_add, Nat.one_mul, mul12, reduceIte, ra_z0, Nat.reduceEqDiff, Nat.reduceLT, Nat.reduceLeDiff, Nat.reduceAdd, Nat.reduceMul, Nat.reduceSub, Nat.reduceDiv, Nat.reduceMod, Bool.false_eq_true, false_and, and_false, reduceCtorEq, fX12_expect, nX12_expect_34, nX12_expect_0, r_in32, j_l, hv, hl]
theorem r_expectn {x : Int32} (hx : ¬ vIn 0 11 x = true) : fX12_expect N 69 x (hp κ) = some (-n3 1, hp (hk_wI κ 69 0 (n3 0))) := by
  simp (maxSteps := 400000) (disch := omega) only [n3_l, n3_add, n3_mul, n3_sub, n3_subn, n3_lt, n3_le, n3_eq, n3_eqn, n3_neq, n3_and, n3_or, n3_shl, n3_i, n3_cl, ↓hbd_0, ↓hbd_1, ↓hbd_2, hk_ob_0, hk_rd_0, hk_rd_1, hk_rd_2, hk_al_0, hk_al_1, h3r_0, h3r_1, hk_wi_0, hk_wj_0, h3w_0, h3w_1, h3v_0, hk_kI, hk_kJ, hk_kA, hk_kB, A_eq, A_ne, A_row, B_eq, B_ne, B_row, I_eq, I_ne, J_eq, J_ne, Option.bind_some, Option.some.injEq, if_true, if_false, eq_self, true_or, or_true, true_and, and_true, false_or, or_false, not_true_eq_false, not_false_eq_true, Classical.not_not, nar_b0, nar_b1, rz_0, rz_1, rz_i, ite01, Nat.add_zero, Nat.zero_add, Nat.one_mul, mul12, reduceIte, ra_z0, Nat.reduceEqDiff, Nat.reduceLT, Nat.reduceLeDiff, Nat.reduceAdd, Nat.reduceMul, Nat.reduceSub, Nat.reduceDiv, Nat.reduceMod, Bool.false_eq_true, false_and, and_false, reduceCtorEq, fX12_expect, nX12_expect_34, nX12_expect_0, r_in32, j_l, hx]
end
