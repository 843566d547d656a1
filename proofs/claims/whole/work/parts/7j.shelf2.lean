/-! what is asked of shelves -/
/-- which book is the i-th -/
def atG (sz : Nat) (g : Nat → Nat) (i : Int32) : Int32 := if vIn 0 (sz - 1) i = true then n3 (g i.toInt.toNat) else -n3 1
/-- places: pl i of the i-th, bh i the one behind the one ahead of it -/
def bhG (pl : Nat → Nat) (i : Nat) : Nat := if i = 0 then 1 else pl (i - 1) + 1
def gpS (pl : Nat → Nat) (i : Nat) (s : Nat × Nat) : Nat × Nat := if bhG pl i < pl i then (s.1 + 1, s.2 + (pl i - bhG pl i)) else s
theorem gp_le {pl : Nat → Nat} (h : ∀ i, pl i ≤ 99) : ∀ n, (fo (gpS pl) 0 n (0, 0)).1 ≤ n ∧ (fo (gpS pl) 0 n (0, 0)).2 ≤ 99 * n := by
  intro n
  induction n with
  | zero => exact ⟨Nat.le_refl _, Nat.le_refl _⟩
  | succ n ih =>
    rw [fo_last, Nat.zero_add]
    have := h n
    generalize fo (gpS pl) 0 n (0, 0) = w at ih ⊢
    unfold gpS
    split <;> first | (dsimp only; omega) | omega
def gapV (pl : Nat → Nat) (w : Int32) (i : Nat) : Int32 := if w = n3 0 then n3 (bhG pl i) else n3 (pl i - bhG pl i)
/-- the answer of gap -/
def gapG (pl : Nat → Nat) (sz : Nat) (i w : Int32) : Int32 := if i = -n3 1 then (if w = n3 0 then n3 (fo (gpS pl) 0 sz (0, 0)).1 else n3 (fo (gpS pl) 0 sz (0, 0)).2) else (fo (stI i (fun k => bhG pl k < pl k) (gapV pl w)) 0 sz (n3 0, -n3 1)).2
def clG (F : Nat → Int32) (sz : Nat) (g : Nat → Nat) : Nat := cnt (fun i => 0 < i ∧ vIn (-1) 1 (F (12 * g i + 8) - F (12 * g (i - 1) + 8)) = true) sz
def toG (W : Nat → Int32) (sz : Nat) (g : Nat → Nat) : Nat := cnt (fun i => ∃ k, k < sz ∧ (¬ k = i ∧ ¬ W (g i) = -n3 1 ∧ W (g k) = W (g i))) sz
section
variable (N : Nat) (κ : hk_T)
theorem c_bookAt {x sz : Nat} {g : Nat → Nat} {κ' : hk_T} {i : Int32} (he : fX5_lineUp N 38 (n3 x) (hp κ) = some (n3 sz, hp κ')) (hg : ∀ i, i < sz → hk_A κ' 39 i = n3 (g i)) (hs : sz ≤ 40) : fX5_bookAt N 38 (n3 x) i (hp κ) = some (atG sz g i, hp κ') := by
  simp (maxSteps := 400000) (disch := omega) only [n3_l, n3_add, n3_mul, n3_sub, n3_subn, n3_lt, n3_le, n3_eq, n3_eqn, n3_neq, n3_and, n3_or, n3_shl, n3_i, n3_cl, ↓hbd_0, ↓hbd_1, ↓hbd_2, hk_ob_0, hk_rd_0, hk_rd_1, hk_rd_2, hk_al_0, hk_al_1, h3r_0, h3r_1, hk_wi_0, hk_wj_0, h3w_0, h3w_1, h3v_0, hk_kI, hk_kJ, hk_kA, hk_kB, A_eq, A_ne, A_row, B_eq, B_ne, B_row, I_eq, I_ne, J_eq, J_ne, Option.bind_some, Option.some.injEq, if_true, if_false, eq_self, true_or, or_true, true_and, and_true, false_or, or_false, not_true_eq_false, not_false_eq_true, Classical.not_not, nar_b0, nar_b1, rz_0, rz_1, rz_i, ite01, Nat.add_zero, Nat.zero_add, Nat.one_mul, mul12, reduceIte, ra_z0, Nat.reduceEqDiff, Nat.reduceLT, Nat.reduceLeDiff, Nat.reduceAdd, Nat.reduceMul, Nat.reduceSub, Nat.reduceDiv, Nat.reduceMod, Bool.false_eq_true, false_and, and_false, reduceCtorEq, fX5_bookAt, nX5_bookAt_25, nX5_bookAt_24, nX5_bookAt_0, he, lt3]
  unfold atG
  by_cases c : vIn 0 (sz - 1) i = true
  · obtain ⟨k, hk, rfl⟩ := n3_ex (x := i) (n := sz) (vIn_iff.mp c).1 (by have := (vIn_iff.mp c).2; omega)
    have := vIn_iff.mp c
    rw [n3_toInt (by omega)] at this
    have hks : k < sz := by omega
    rw [if_pos c, n3_toInt (by omega), if_neg (by omega), if_pos (by omega), Int.toNat_natCast]
    simp (maxSteps := 400000) (disch := omega) only [n3_l, n3_add, n3_mul, n3_sub, n3_subn, n3_lt, n3_le, n3_eq, n3_eqn, n3_neq, n3_and, n3_or, n3_shl, n3_i, n3_cl, ↓hbd_0, ↓hbd_1, ↓hbd_2, hk_ob_0, hk_rd_0, hk_rd_1, hk_rd_2, hk_al_0, hk_al_1, h3r_0, h3r_1, hk_wi_0, hk_wj_0, h3w_0, h3w_1, h3v_0, hk_kI, hk_kJ, hk_kA, hk_kB, A_eq, A_ne, A_row, B_eq, B_ne, B_row, I_eq, I_ne, J_eq, J_ne, Option.bind_some, Option.some.injEq, if_true, if_false, eq_self, true_or, or_true, true_and, and_true, false_or, or_false, not_true_eq_false, not_false_eq_true, Classical.not_not, nar_b0, nar_b1, rz_0, rz_1, rz_i, ite01, Nat.add_zero, Nat.zero_add, Nat.one_mul, mul12, reduceIte, ra_z0, Nat.reduceEqDiff, Nat.reduceLT, Nat.reduceLeDiff, Nat.reduceAdd, Nat.reduceMul, Nat.reduceSub, Nat.reduceDiv, Nat.reduceMod, Bool.false_eq_true, false_and, and_false, reduceCtorEq, hg k hks]
  · have : ¬ (0 ≤ i.toInt ∧ i.toInt ≤ (sz : Int) - 1) := fun z => c (vIn_iff.mpr z)
    rw [if_neg c]
    by_cases c0 : i.toInt < 0
    · rw [if_pos (by omega)]
    · rw [if_neg (by omega), if_neg (by omega)]
theorem c_placeOf {sz k : Nat} {g : Nat → Nat} {se : Nat → Option Nat} (hk : k < sz) (hs : sz ≤ 40) (hg : hk_A κ 39 k = n3 (g k)) (hg4 : g k < 40) {s : Nat} (h36 : hk_A κ 36 (g k) = n3 s) (h5 : s < 5346) : fX5_placeOf N 38 (n3 k) (hp κ) = some (n3 (s % 99 + 1), hp κ) := by
  simp (maxSteps := 400000) (disch := omega) only [n3_l, n3_add, n3_mul, n3_sub, n3_subn, n3_lt, n3_le, n3_eq, n3_eqn, n3_neq, n3_and, n3_or, n3_shl, n3_i, n3_cl, ↓hbd_0, ↓hbd_1, ↓hbd_2, hk_ob_0, hk_rd_0, hk_rd_1, hk_rd_2, hk_al_0, hk_al_1, h3r_0, h3r_1, hk_wi_0, hk_wj_0, h3w_0, h3w_1, h3v_0, hk_kI, hk_kJ, hk_kA, hk_kB, A_eq, A_ne, A_row, B_eq, B_ne, B_row, I_eq, I_ne, J_eq, J_ne, Option.bind_some, Option.some.injEq, if_true, if_false, eq_self, true_or, or_true, true_and, and_true, false_or, or_false, not_true_eq_false, not_false_eq_true, Classical.not_not, nar_b0, nar_b1, rz_0, rz_1, rz_i, ite01, Nat.add_zero, Nat.zero_add, Nat.one_mul, mul12, reduceIte, ra_z0, Nat.reduceEqDiff, Nat.reduceLT, Nat.reduceLeDiff, Nat.reduceAdd, Nat.reduceMul, Nat.reduceSub, Nat.reduceDiv, Nat.reduceMod, Bool.false_eq_true, false_and, and_false, reduceCtorEq, fX5_placeOf, nX5_placeOf_0, hg, h36, n3_rem]
theorem c_gaps {x sz : Nat} {g : Nat → Nat} {pl : Nat → Nat} {κ' : hk_T} {w : Int32} (he : fX5_lineUp N 38 (n3 x) (hp κ) = some (n3 sz, hp κ')) (hs : sz ≤ 40) (hpl : ∀ i, pl i ≤ 99) (hp' : ∀ i, i < sz → fX5_placeOf N 38 (n3 i) (hp κ') = some (n3 (pl i), hp κ')) (hN : 1000 < N) : fX5_gapsTogether N 38 (n3 x) w (hp κ) = some (if w = n3 0 then n3 (fo (gpS pl) 0 sz (0, 0)).1 else n3 (fo (gpS pl) 0 sz (0, 0)).2, hp κ') := by
  unfold fX5_gapsTogether nX5_gapsTogether_0
  simp (maxSteps := 400000) (disch := omega) only [n3_l, n3_add, n3_mul, n3_sub, n3_subn, n3_lt, n3_le, n3_eq, n3_eqn, n3_neq, n3_and, n3_or, n3_shl, n3_i, n3_cl, ↓hbd_0, ↓hbd_1, ↓hbd_2, hk_ob_0, hk_rd_0, hk_rd_1, hk_rd_2, hk_al_0, hk_al_1, h3r_0, h3r_1, hk_wi_0, hk_wj_0, h3w_0, h3w_1, h3v_0, hk_kI, hk_kJ, hk_kA, hk_kB, A_eq, A_ne, A_row, B_eq, B_ne, B_row, I_eq, I_ne, J_eq, J_ne, Option.bind_some, Option.some.injEq, if_true, if_false, eq_self, true_or, or_true, true_and, and_true, false_or, or_false, not_true_eq_false, not_false_eq_true, Classical.not_not, nar_b0, nar_b1, rz_0, rz_1, rz_i, ite01, Nat.add_zero, Nat.zero_add, Nat.one_mul, mul12, reduceIte, ra_z0, Nat.reduceEqDiff, Nat.reduceLT, Nat.reduceLeDiff, Nat.reduceAdd, Nat.reduceMul, Nat.reduceSub, Nat.reduceDiv, Nat.reduceMod, Bool.false_eq_true, false_and, and_false, reduceCtorEq, he]
  have b0 : ∀ i, bhG pl i ≤ 100 := fun i => by have := hpl (i - 1); unfold bhG; split <;> omega
  refine (lp (fun m i (s : Nat × Nat) => nX5_gapsTogether_18 N m 38 w (n3 sz) (n3 s.1) (n3 s.2) (n3 (bhG pl i)) (n3 i) (hp κ')) sz (gpS pl) (fun s => some (if w = n3 0 then n3 s.1 else n3 s.2, hp κ')) (fun i s => s.1 ≤ i ∧ s.2 ≤ 99 * i) ?_ ?_ sz 0 N (0, 0) (by omega) (by omega) ⟨Nat.le_refl _, Nat.le_refl _⟩).1
  · intro m i s hi hI
    have h1 := hpl i
    have h2 := b0 i
    have e1 : bhG pl (i + 1) = pl i + 1 := by unfold bhG; rw [if_neg (by omega), Nat.add_sub_cancel]
    constructor
    · rw [nX5_gapsTogether_18]
      simp (maxSteps := 400000) (disch := omega) only [n3_l, n3_add, n3_mul, n3_sub, n3_subn, n3_lt, n3_le, n3_eq, n3_eqn, n3_neq, n3_and, n3_or, n3_shl, n3_i, n3_cl, ↓hbd_0, ↓hbd_1, ↓hbd_2, hk_ob_0, hk_rd_0, hk_rd_1, hk_rd_2, hk_al_0, hk_al_1, h3r_0, h3r_1, hk_wi_0, hk_wj_0, h3w_0, h3w_1, h3v_0, hk_kI, hk_kJ, hk_kA, hk_kB, A_eq, A_ne, A_row, B_eq, B_ne, B_row, I_eq, I_ne, J_eq, J_ne, Option.bind_some, Option.some.injEq, if_true, if_false, eq_self, true_or, or_true, true_and, and_true, false_or, or_false, not_true_eq_false, not_false_eq_true, Classical.not_not, nar_b0, nar_b1, rz_0, rz_1, rz_i, ite01, Nat.add_zero, Nat.zero_add, Nat.one_mul, mul12, reduceIte, ra_z0, Nat.reduceEqDiff, Nat.reduceLT, Nat.reduceLeDiff, Nat.reduceAdd, Nat.reduceMul, Nat.reduceSub, Nat.reduceDiv, Nat.reduceMod, Bool.false_eq_true, false_and, and_false, reduceCtorEq, hi, hp' i hi, nX5_gapsTogether_52, e1, gpS]
      by_cases c : pl i ≤ bhG pl i
      · have c' : ¬ bhG pl i < pl i := by omega
        simp (maxSteps := 400000) (disch := omega) only [n3_l, n3_add, n3_mul, n3_sub, n3_subn, n3_lt, n3_le, n3_eq, n3_eqn, n3_neq, n3_and, n3_or, n3_shl, n3_i, n3_cl, ↓hbd_0, ↓hbd_1, ↓hbd_2, hk_ob_0, hk_rd_0, hk_rd_1, hk_rd_2, hk_al_0, hk_al_1, h3r_0, h3r_1, hk_wi_0, hk_wj_0, h3w_0, h3w_1, h3v_0, hk_kI, hk_kJ, hk_kA, hk_kB, A_eq, A_ne, A_row, B_eq, B_ne, B_row, I_eq, I_ne, J_eq, J_ne, Option.bind_some, Option.some.injEq, if_true, if_false, eq_self, true_or, or_true, true_and, and_true, false_or, or_false, not_true_eq_false, not_false_eq_true, Classical.not_not, nar_b0, nar_b1, rz_0, rz_1, rz_i, ite01, Nat.add_zero, Nat.zero_add, Nat.one_mul, mul12, reduceIte, ra_z0, Nat.reduceEqDiff, Nat.reduceLT, Nat.reduceLeDiff, Nat.reduceAdd, Nat.reduceMul, Nat.reduceSub, Nat.reduceDiv, Nat.reduceMod, Bool.false_eq_true, false_and, and_false, reduceCtorEq, c, c']
      · have c' : bhG pl i < pl i := by omega
        simp (maxSteps := 400000) (disch := omega) only [n3_l, n3_add, n3_mul, n3_sub, n3_subn, n3_lt, n3_le, n3_eq, n3_eqn, n3_neq, n3_and, n3_or, n3_shl, n3_i, n3_cl, ↓hbd_0, ↓hbd_1, ↓hbd_2, hk_ob_0, hk_rd_0, hk_rd_1, hk_rd_2, hk_al_0, hk_al_1, h3r_0, h3r_1, hk_wi_0, hk_wj_0, h3w_0, h3w_1, h3v_0, hk_kI, hk_kJ, hk_kA, hk_kB, A_eq, A_ne, A_row, B_eq, B_ne, B_row, I_eq, I_ne, J_eq, J_ne, Option.bind_some, Option.some.injEq, if_true, if_false, eq_self, true_or, or_true, true_and, and_true, false_or, or_false, not_true_eq_false, not_false_eq_true, Classical.not_not, nar_b0, nar_b1, rz_0, rz_1, rz_i, ite01, Nat.add_zero, Nat.zero_add, Nat.one_mul, mul12, reduceIte, ra_z0, Nat.reduceEqDiff, Nat.reduceLT, Nat.reduceLeDiff, Nat.reduceAdd, Nat.reduceMul, Nat.reduceSub, Nat.reduceDiv, Nat.reduceMod, Bool.false_eq_true, false_and, and_false, reduceCtorEq, c, c']
    · unfold gpS
      split <;> first | (dsimp only; omega) | omega
  · intro m s hI
    rw [nX5_gapsTogether_18]
    simp (maxSteps := 400000) (disch := omega) only [n3_l, n3_add, n3_mul, n3_sub, n3_subn, n3_lt, n3_le, n3_eq, n3_eqn, n3_neq, n3_and, n3_or, n3_shl, n3_i, n3_cl, ↓hbd_0, ↓hbd_1, ↓hbd_2, hk_ob_0, hk_rd_0, hk_rd_1, hk_rd_2, hk_al_0, hk_al_1, h3r_0, h3r_1, hk_wi_0, hk_wj_0, h3w_0, h3w_1, h3v_0, hk_kI, hk_kJ, hk_kA, hk_kB, A_eq, A_ne, A_row, B_eq, B_ne, B_row, I_eq, I_ne, J_eq, J_ne, Option.bind_some, Option.some.injEq, if_true, if_false, eq_self, true_or, or_true, true_and, and_true, false_or, or_false, not_true_eq_false, not_false_eq_true, Classical.not_not, nar_b0, nar_b1, rz_0, rz_1, rz_i, ite01, Nat.add_zero, Nat.zero_add, Nat.one_mul, mul12, reduceIte, ra_z0, Nat.reduceEqDiff, Nat.reduceLT, Nat.reduceLeDiff, Nat.reduceAdd, Nat.reduceMul, Nat.reduceSub, Nat.reduceDiv, Nat.reduceMod, Bool.false_eq_true, false_and, and_false, reduceCtorEq, Nat.lt_irrefl, nX5_gapsTogether_75]
    split <;> rfl
theorem c_gapOf {x sz : Nat} {g : Nat → Nat} {pl : Nat → Nat} {κ' : hk_T} {i w : Int32} (he : fX5_lineUp N 38 (n3 x) (hp κ) = some (n3 sz, hp κ')) (hs : sz ≤ 40) (hpl : ∀ i, pl i ≤ 99) (hp' : ∀ i, i < sz → fX5_placeOf N 38 (n3 i) (hp κ') = some (n3 (pl i), hp κ')) (hN : 1000 < N) : fX5_gapOf N 38 (n3 x) i w (hp κ) = some ((fo (stI i (fun k => bhG pl k < pl k) (gapV pl w)) 0 sz (n3 0, -n3 1)).2, hp κ') := by
  unfold fX5_gapOf nX5_gapOf_0
  simp (maxSteps := 400000) (disch := omega) only [n3_l, n3_add, n3_mul, n3_sub, n3_subn, n3_lt, n3_le, n3_eq, n3_eqn, n3_neq, n3_and, n3_or, n3_shl, n3_i, n3_cl, ↓hbd_0, ↓hbd_1, ↓hbd_2, hk_ob_0, hk_rd_0, hk_rd_1, hk_rd_2, hk_al_0, hk_al_1, h3r_0, h3r_1, hk_wi_0, hk_wj_0, h3w_0, h3w_1, h3v_0, hk_kI, hk_kJ, hk_kA, hk_kB, A_eq, A_ne, A_row, B_eq, B_ne, B_row, I_eq, I_ne, J_eq, J_ne, Option.bind_some, Option.some.injEq, if_true, if_false, eq_self, true_or, or_true, true_and, and_true, false_or, or_false, not_true_eq_false, not_false_eq_true, Classical.not_not, nar_b0, nar_b1, rz_0, rz_1, rz_i, ite01, Nat.add_zero, Nat.zero_add, Nat.one_mul, mul12, reduceIte, ra_z0, Nat.reduceEqDiff, Nat.reduceLT, Nat.reduceLeDiff, Nat.reduceAdd, Nat.reduceMul, Nat.reduceSub, Nat.reduceDiv, Nat.reduceMod, Bool.false_eq_true, false_and, and_false, reduceCtorEq, he]
  have b0 : ∀ i, bhG pl i ≤ 100 := fun i => by have := hpl (i - 1); unfold bhG; split <;> omega
  have := srch (i := i) (P := fun k => bhG pl k < pl k) (val := gapV pl w) (w := true) (e := sz) (fun m p k => nX5_gapOf_16 N m 38 i w (n3 sz) p (n3 (bhG pl k)) (n3 k) (hp κ')) (fun _ => some (-n3 1, hp κ')) (fun v => some (v, hp κ')) (by
    intro b hb
    have := hpl b
    have := b0 b
    unfold gapV
    split
    · exact fun z => (n3_eqn (by omega) (by omega) (by omega)).mp z
    · exact fun z => (n3_eqn (by omega) (by omega) (by omega)).mp z) (by
    intro m k b hb hk
    have h1 := hpl b
    have h2 := b0 b
    have e1 : bhG pl (b + 1) = pl b + 1 := by unfold bhG; rw [if_neg (by omega), Nat.add_sub_cancel]
    rw [nX5_gapOf_16]
    simp (maxSteps := 400000) (disch := omega) only [n3_l, n3_add, n3_mul, n3_sub, n3_subn, n3_lt, n3_le, n3_eq, n3_eqn, n3_neq, n3_and, n3_or, n3_shl, n3_i, n3_cl, ↓hbd_0, ↓hbd_1, ↓hbd_2, hk_ob_0, hk_rd_0, hk_rd_1, hk_rd_2, hk_al_0, hk_al_1, h3r_0, h3r_1, hk_wi_0, hk_wj_0, h3w_0, h3w_1, h3v_0, hk_kI, hk_kJ, hk_kA, hk_kB, A_eq, A_ne, A_row, B_eq, B_ne, B_row, I_eq, I_ne, J_eq, J_ne, Option.bind_some, Option.some.injEq, if_true, if_false, eq_self, true_or, or_true, true_and, and_true, false_or, or_false, not_true_eq_false, not_false_eq_true, Classical.not_not, nar_b0, nar_b1, rz_0, rz_1, rz_i, ite01, Nat.add_zero, Nat.zero_add, Nat.one_mul, mul12, reduceIte, ra_z0, Nat.reduceEqDiff, Nat.reduceLT, Nat.reduceLeDiff, Nat.reduceAdd, Nat.reduceMul, Nat.reduceSub, Nat.reduceDiv, Nat.reduceMod, Bool.false_eq_true, false_and, and_false, reduceCtorEq, hb, hp' b hb, nX5_gapOf_58, nX5_gapOf_62, e1, gapV]
    by_cases c : pl b ≤ bhG pl b
    · have c' : ¬ bhG pl b < pl b := by omega
      simp (maxSteps := 400000) (disch := omega) only [n3_l, n3_add, n3_mul, n3_sub, n3_subn, n3_lt, n3_le, n3_eq, n3_eqn, n3_neq, n3_and, n3_or, n3_shl, n3_i, n3_cl, ↓hbd_0, ↓hbd_1, ↓hbd_2, hk_ob_0, hk_rd_0, hk_rd_1, hk_rd_2, hk_al_0, hk_al_1, h3r_0, h3r_1, hk_wi_0, hk_wj_0, h3w_0, h3w_1, h3v_0, hk_kI, hk_kJ, hk_kA, hk_kB, A_eq, A_ne, A_row, B_eq, B_ne, B_row, I_eq, I_ne, J_eq, J_ne, Option.bind_some, Option.some.injEq, if_true, if_false, eq_self, true_or, or_true, true_and, and_true, false_or, or_false, not_true_eq_false, not_false_eq_true, Classical.not_not, nar_b0, nar_b1, rz_0, rz_1, rz_i, ite01, Nat.add_zero, Nat.zero_add, Nat.one_mul, mul12, reduceIte, ra_z0, Nat.reduceEqDiff, Nat.reduceLT, Nat.reduceLeDiff, Nat.reduceAdd, Nat.reduceMul, Nat.reduceSub, Nat.reduceDiv, Nat.reduceMod, Bool.false_eq_true, false_and, and_false, reduceCtorEq, c, c']
    · have c' : bhG pl b < pl b := by omega
      simp (maxSteps := 400000) (disch := omega) only [n3_l, n3_add, n3_mul, n3_sub, n3_subn, n3_lt, n3_le, n3_eq, n3_eqn, n3_neq, n3_and, n3_or, n3_shl, n3_i, n3_cl, ↓hbd_0, ↓hbd_1, ↓hbd_2, hk_ob_0, hk_rd_0, hk_rd_1, hk_rd_2, hk_al_0, hk_al_1, h3r_0, h3r_1, hk_wi_0, hk_wj_0, h3w_0, h3w_1, h3v_0, hk_kI, hk_kJ, hk_kA, hk_kB, A_eq, A_ne, A_row, B_eq, B_ne, B_row, I_eq, I_ne, J_eq, J_ne, Option.bind_some, Option.some.injEq, if_true, if_false, eq_self, true_or, or_true, true_and, and_true, false_or, or_false, not_true_eq_false, not_false_eq_true, Classical.not_not, nar_b0, nar_b1, rz_0, rz_1, rz_i, ite01, Nat.add_zero, Nat.zero_add, Nat.one_mul, mul12, reduceIte, ra_z0, Nat.reduceEqDiff, Nat.reduceLT, Nat.reduceLeDiff, Nat.reduceAdd, Nat.reduceMul, Nat.reduceSub, Nat.reduceDiv, Nat.reduceMod, Bool.false_eq_true, false_and, and_false, reduceCtorEq, c, c']
      (repeat' split) <;> first | rfl | contradiction) (by
    intro m k
    rw [nX5_gapOf_16]
    simp (maxSteps := 400000) (disch := omega) only [n3_l, n3_add, n3_mul, n3_sub, n3_subn, n3_lt, n3_le, n3_eq, n3_eqn, n3_neq, n3_and, n3_or, n3_shl, n3_i, n3_cl, ↓hbd_0, ↓hbd_1, ↓hbd_2, hk_ob_0, hk_rd_0, hk_rd_1, hk_rd_2, hk_al_0, hk_al_1, h3r_0, h3r_1, hk_wi_0, hk_wj_0, h3w_0, h3w_1, h3v_0, hk_kI, hk_kJ, hk_kA, hk_kB, A_eq, A_ne, A_row, B_eq, B_ne, B_row, I_eq, I_ne, J_eq, J_ne, Option.bind_some, Option.some.injEq, if_true, if_false, eq_self, true_or, or_true, true_and, and_true, false_or, or_false, not_true_eq_false, not_false_eq_true, Classical.not_not, nar_b0, nar_b1, rz_0, rz_1, rz_i, ite01, Nat.add_zero, Nat.zero_add, Nat.one_mul, mul12, reduceIte, ra_z0, Nat.reduceEqDiff, Nat.reduceLT, Nat.reduceLeDiff, Nat.reduceAdd, Nat.reduceMul, Nat.reduceSub, Nat.reduceDiv, Nat.reduceMod, Bool.false_eq_true, false_and, and_false, reduceCtorEq, Nat.lt_irrefl]) sz 0 0 N (by omega) (by omega) (by omega)
  refine Eq.trans this ?_
  by_cases c : (fo (stI i (fun k => bhG pl k < pl k) (gapV pl w)) 0 sz (n3 0, -n3 1)).2 = -n3 1
  · rw [if_neg (fun z => z.2 c), c]
  · rw [if_pos ⟨rfl, c⟩]
theorem r_gapL {sz : Nat} {g : Nat → Nat} {pl : Nat → Nat} {i w : Int32} (hw : vIn 0 1 w = true) (h43 : hk_I κ 69 43 = n3 sz) (hs : sz ≤ 40) (hg : ∀ i, i < sz → hk_A κ 89 i = n3 (g i) ∧ g i < 40 ∧ ∃ s, hk_A κ 88 (g i) = n3 (rnum s) ∧ s < 5346 ∧ pl i = s % 99 + 1) (hpl : ∀ i, pl i ≤ 99) (hN : 1000 < N) : nX12_gap_58 N N 69 i w (n3 0) (n3 0) (-n3 1) (n3 1) (n3 0) (hp κ) = some (gapG pl sz i w, hp κ) := by
  have b0 : ∀ i, bhG pl i ≤ 100 := fun i => by have := hpl (i - 1); unfold bhG; split <;> omega
  have := lp (fun m k (s : Nat × Nat × Int32) => nX12_gap_58 N m 69 i w (n3 s.1) (n3 s.2.1) s.2.2 (n3 (bhG pl k)) (n3 k) (hp κ)) sz (fun k s => ((gpS pl k (s.1, s.2.1)).1, (gpS pl k (s.1, s.2.1)).2, (stI i (fun k => bhG pl k < pl k) (gapV pl w) k (n3 s.1, s.2.2)).2)) (fun s => some (if i = -n3 1 then (if w = n3 0 then n3 s.1 else n3 s.2.1) else s.2.2, hp κ)) (fun k s => s.1 ≤ k ∧ s.2.1 ≤ 99 * k) (by
    intro m k s hk hI
    have h1 := hpl k
    have h2 := b0 k
    have e1 : bhG pl (k + 1) = pl k + 1 := by unfold bhG; rw [if_neg (by omega), Nat.add_sub_cancel]
    obtain ⟨g1, g2, s', g3, g4, g5⟩ := hg k hk
    have hrl := rnum_lt g4
    have hrm : rnum s' % 100 = pl k := by rw [g5]; unfold rnum; omega
    constructor
    · rw [nX12_gap_58]
      simp (maxSteps := 400000) (disch := omega) only [n3_l, n3_add, n3_mul, n3_sub, n3_subn, n3_lt, n3_le, n3_eq, n3_eqn, n3_neq, n3_and, n3_or, n3_shl, n3_i, n3_cl, ↓hbd_0, ↓hbd_1, ↓hbd_2, hk_ob_0, hk_rd_0, hk_rd_1, hk_rd_2, hk_al_0, hk_al_1, h3r_0, h3r_1, hk_wi_0, hk_wj_0, h3w_0, h3w_1, h3v_0, hk_kI, hk_kJ, hk_kA, hk_kB, A_eq, A_ne, A_row, B_eq, B_ne, B_row, I_eq, I_ne, J_eq, J_ne, Option.bind_some, Option.some.injEq, if_true, if_false, eq_self, true_or, or_true, true_and, and_true, false_or, or_false, not_true_eq_false, not_false_eq_true, Classical.not_not, nar_b0, nar_b1, rz_0, rz_1, rz_i, ite01, Nat.add_zero, Nat.zero_add, Nat.one_mul, mul12, reduceIte, ra_z0, Nat.reduceEqDiff, Nat.reduceLT, Nat.reduceLeDiff, Nat.reduceAdd, Nat.reduceMul, Nat.reduceSub, Nat.reduceDiv, Nat.reduceMod, Bool.false_eq_true, false_and, and_false, reduceCtorEq, h43, hk, g1, g3, n3_rem, hrm, nX12_gap_117, nX12_gap_132, e1, gpS, stI, gapV]
      by_cases c : pl k ≤ bhG pl k
      · have c' : ¬ bhG pl k < pl k := by omega
        simp (maxSteps := 400000) (disch := omega) only [n3_l, n3_add, n3_mul, n3_sub, n3_subn, n3_lt, n3_le, n3_eq, n3_eqn, n3_neq, n3_and, n3_or, n3_shl, n3_i, n3_cl, ↓hbd_0, ↓hbd_1, ↓hbd_2, hk_ob_0, hk_rd_0, hk_rd_1, hk_rd_2, hk_al_0, hk_al_1, h3r_0, h3r_1, hk_wi_0, hk_wj_0, h3w_0, h3w_1, h3v_0, hk_kI, hk_kJ, hk_kA, hk_kB, A_eq, A_ne, A_row, B_eq, B_ne, B_row, I_eq, I_ne, J_eq, J_ne, Option.bind_some, Option.some.injEq, if_true, if_false, eq_self, true_or, or_true, true_and, and_true, false_or, or_false, not_true_eq_false, not_false_eq_true, Classical.not_not, nar_b0, nar_b1, rz_0, rz_1, rz_i, ite01, Nat.add_zero, Nat.zero_add, Nat.one_mul, mul12, reduceIte, ra_z0, Nat.reduceEqDiff, Nat.reduceLT, Nat.reduceLeDiff, Nat.reduceAdd, Nat.reduceMul, Nat.reduceSub, Nat.reduceDiv, Nat.reduceMod, Bool.false_eq_true, false_and, and_false, reduceCtorEq, c, c']
      · have c' : bhG pl k < pl k := by omega
        simp (maxSteps := 400000) (disch := omega) only [n3_l, n3_add, n3_mul, n3_sub, n3_subn, n3_lt, n3_le, n3_eq, n3_eqn, n3_neq, n3_and, n3_or, n3_shl, n3_i, n3_cl, ↓hbd_0, ↓hbd_1, ↓hbd_2, hk_ob_0, hk_rd_0, hk_rd_1, hk_rd_2, hk_al_0, hk_al_1, h3r_0, h3r_1, hk_wi_0, hk_wj_0, h3w_0, h3w_1, h3v_0, hk_kI, hk_kJ, hk_kA, hk_kB, A_eq, A_ne, A_row, B_eq, B_ne, B_row, I_eq, I_ne, J_eq, J_ne, Option.bind_some, Option.some.injEq, if_true, if_false, eq_self, true_or, or_true, true_and, and_true, false_or, or_false, not_true_eq_false, not_false_eq_true, Classical.not_not, nar_b0, nar_b1, rz_0, rz_1, rz_i, ite01, Nat.add_zero, Nat.zero_add, Nat.one_mul, mul12, reduceIte, ra_z0, Nat.reduceEqDiff, Nat.reduceLT, Nat.reduceLeDiff, Nat.reduceAdd, Nat.reduceMul, Nat.reduceSub, Nat.reduceDiv, Nat.reduceMod, Bool.false_eq_true, false_and, and_false, reduceCtorEq, c, c']
        (repeat' split) <;> first | rfl | contradiction
    · unfold gpS
      split <;> first | (dsimp only; omega) | omega) (by
    intro m s hI
    rw [nX12_gap_58]
    simp (maxSteps := 400000) (disch := omega) only [n3_l, n3_add, n3_mul, n3_sub, n3_subn, n3_lt, n3_le, n3_eq, n3_eqn, n3_neq, n3_and, n3_or, n3_shl, n3_i, n3_cl, ↓hbd_0, ↓hbd_1, ↓hbd_2, hk_ob_0, hk_rd_0, hk_rd_1, hk_rd_2, hk_al_0, hk_al_1, h3r_0, h3r_1, hk_wi_0, hk_wj_0, h3w_0, h3w_1, h3v_0, hk_kI, hk_kJ, hk_kA, hk_kB, A_eq, A_ne, A_row, B_eq, B_ne, B_row, I_eq, I_ne, J_eq, J_ne, Option.bind_some, Option.some.injEq, if_true, if_false, eq_self, true_or, or_true, true_and, and_true, false_or, or_false, not_true_eq_false, not_false_eq_true, Classical.not_not, nar_b0, nar_b1, rz_0, rz_1, rz_i, ite01, Nat.add_zero, Nat.zero_add, Nat.one_mul, mul12, reduceIte, ra_z0, Nat.reduceEqDiff, Nat.reduceLT, Nat.reduceLeDiff, Nat.reduceAdd, Nat.reduceMul, Nat.reduceSub, Nat.reduceDiv, Nat.reduceMod, Bool.false_eq_true, false_and, and_false, reduceCtorEq, h43, Nat.lt_irrefl, nX12_gap_166]
    (repeat' split) <;> first | rfl | contradiction) sz 0 N (0, 0, -n3 1) (by omega) (by omega) ⟨Nat.le_refl _, Nat.le_refl _⟩
  have e := this.1
  have tri : ∀ n, fo (fun k (s : Nat × Nat × Int32) => ((gpS pl k (s.1, s.2.1)).1, (gpS pl k (s.1, s.2.1)).2, (stI i (fun k => bhG pl k < pl k) (gapV pl w) k (n3 s.1, s.2.2)).2)) 0 n (0, 0, -n3 1) = ((fo (gpS pl) 0 n (0, 0)).1, (fo (gpS pl) 0 n (0, 0)).2, (fo (stI i (fun k => bhG pl k < pl k) (gapV pl w)) 0 n (n3 0, -n3 1)).2) ∧ (fo (stI i (fun k => bhG pl k < pl k) (gapV pl w)) 0 n (n3 0, -n3 1)).1 = n3 (fo (gpS pl) 0 n (0, 0)).1 := by
    intro n
    induction n with
    | zero => exact ⟨rfl, rfl⟩
    | succ n ih =>
      rw [fo_last, fo_last, fo_last, ih.1, Nat.zero_add]
      obtain ⟨-, ih2⟩ := ih
      generalize fo (gpS pl) 0 n (0, 0) = a at ih2 ⊢
      generalize fo (stI i (fun k => bhG pl k < pl k) (gapV pl w)) 0 n (n3 0, -n3 1) = b at ih2 ⊢
      obtain ⟨b1, b2⟩ := b
      dsimp only at ih2 ⊢
      subst ih2
      refine ⟨rfl, ?_⟩
      unfold stI gpS
      split
      · dsimp only; rw [n3_add]
      · rfl
  rw [(tri sz).1] at e
  exact e
end
