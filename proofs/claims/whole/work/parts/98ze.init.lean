/-! the start: what both constructors leave -/
def k0I (k j : Nat) : Int32 := if (k = 1 ∧ (j = 17 ∨ j = 18)) ∨ (k = 0 ∧ j = 12) ∨ (k = 69 ∧ (j = 13 ∨ j = 56)) then -n3 1 else n3 0
def k0A (k : Nat) : Nat → Int32 := if k = 67 then (fun j => if j < 40 then (-1 : Int32) else (fun _ => 0) j) else if 2 ≤ k ∧ k ≤ 14 ∧ k ≠ 6 then hoR (k - 2) else fun _ => 0
def k0B (k : Nat) : Nat → Int64 := if k = 80 then vp_updL (vp_updL (vp_updL (vp_updL (vp_updL (vp_updL (vp_updL (vp_updL (vp_updL (vp_updL (vp_updL (vp_updL (fun _ => 0) 0 (408572082 : Int64)) 1 (492210354 : Int64)) 2 (99749 : Int64)) 3 (21242987 : Int64)) 4 (656780 : Int64)) 5 (277893 : Int64)) 6 (273980692 : Int64)) 7 (643122 : Int64)) 8 (132528 : Int64)) 9 (769604 : Int64)) 10 (21108167796 : Int64)) 11 (8902245 : Int64) else if k = 81 then vp_updL (vp_updL (vp_updL (vp_updL (vp_updL (fun _ => 0) 0 (2105 : Int64)) 1 (20190598 : Int64)) 2 (17171557 : Int64)) 3 (513619 : Int64)) 4 (6337125 : Int64) else fun _ => 0
def k0 (L : Nat) (xs : Nat → Int32) : hk_T := hk_of k0I (fun _ => 0) k0A k0B (fun _ _ => none) (fun j => 47 + j) (fun _ => ra_junk) 101 (13 + 14806 + 58 + 222053) (ra_ex0 L xs)
def k0H (L : Nat) (xs : Nat → Int32) : ra_H := ch (ch (ra_h0 L xs) 0 11 (oX11 0) (rX11 0) (13 + 14806)) 69 12 (oX12 69) (rX12 69) (13 + 14806 + 58 + 222053)
def k0C (k : Nat) : ra_C := if k = 0 then .inr (11, oX11 0) else if k < 69 then ((rX11 0)[k - 1]?).getD ra_junk else if k = 69 then .inr (12, oX12 69) else ((rX12 69)[k - 70]?).getD ra_junk
theorem k0H_at (L : Nat) (xs : Nat → Int32) (k : Nat) (hk : k < 101) : (k0H L xs).1 k = k0C k := by
  show (if k < 69 then (if k < 0 then ra_junk else if k = 0 then .inr (11, oX11 0) else ((rX11 0)[k - 0 - 1]?).getD ra_junk) else if k = 69 then .inr (12, oX12 69) else ((rX12 69)[k - 69 - 1]?).getD (if k < 0 then ra_junk else if k = 0 then .inr (11, oX11 0) else ((rX11 0)[k - 0 - 1]?).getD ra_junk)) = _
  unfold k0C
  by_cases c0 : k = 0
  · rw [if_pos (by omega), if_neg (by omega), if_pos c0, if_pos c0]
  · by_cases c1 : k < 69
    · rw [if_pos c1, if_neg (by omega), if_neg c0, if_neg c0, if_pos c1, Nat.sub_zero]
    · by_cases c2 : k = 69
      · rw [if_neg c1, if_pos c2, if_neg c0, if_neg c1, if_pos c2]
      · have e : ∃ d, (rX12 69)[k - 70]? = some d := ⟨_, List.getElem?_eq_getElem (show k - 70 < (rX12 69).length by show k - 70 < 31; omega)⟩
        obtain ⟨d, e⟩ := e
        rw [if_neg c1, if_neg c2, show k - 69 - 1 = k - 70 by omega, e]
        show d = _
        rw [if_neg c0, if_neg c1, if_neg c2]
        rfl
set_option maxRecDepth 100000 in
theorem k0_cell (L : Nat) (xs : Nat → Int32) : ∀ k, k < 101 → hk_c (k0 L xs) k = k0C k := by
  intro k hk
  match k, hk with
  | 0, _ => rfl
  | 1, _ => rfl
  | 2, _ => rfl
  | 3, _ => rfl
  | 4, _ => rfl
  | 5, _ => rfl
  | 6, _ => rfl
  | 7, _ => rfl
  | 8, _ => rfl
  | 9, _ => rfl
  | 10, _ => rfl
  | 11, _ => rfl
  | 12, _ => rfl
  | 13, _ => rfl
  | 14, _ => rfl
  | 15, _ => rfl
  | 16, _ => rfl
  | 17, _ => rfl
  | 18, _ => rfl
  | 19, _ => rfl
  | 20, _ => rfl
  | 21, _ => rfl
  | 22, _ => rfl
  | 23, _ => rfl
  | 24, _ => rfl
  | 25, _ => rfl
  | 26, _ => rfl
  | 27, _ => rfl
  | 28, _ => rfl
  | 29, _ => rfl
  | 30, _ => rfl
  | 31, _ => rfl
  | 32, _ => rfl
  | 33, _ => rfl
  | 34, _ => rfl
  | 35, _ => rfl
  | 36, _ => rfl
  | 37, _ => rfl
  | 38, _ => rfl
  | 39, _ => rfl
  | 40, _ => rfl
  | 41, _ => rfl
  | 42, _ => rfl
  | 43, _ => rfl
  | 44, _ => rfl
  | 45, _ => rfl
  | 46, _ => rfl
  | 47, _ => rfl
  | 48, _ => rfl
  | 49, _ => rfl
  | 50, _ => rfl
  | 51, _ => rfl
  | 52, _ => rfl
  | 53, _ => rfl
  | 54, _ => rfl
  | 55, _ => rfl
  | 56, _ => rfl
  | 57, _ => rfl
  | 58, _ => rfl
  | 59, _ => rfl
  | 60, _ => rfl
  | 61, _ => rfl
  | 62, _ => rfl
  | 63, _ => rfl
  | 64, _ => rfl
  | 65, _ => rfl
  | 66, _ => rfl
  | 67, _ => rfl
  | 68, _ => rfl
  | 69, _ => rfl
  | 70, _ => rfl
  | 71, _ => rfl
  | 72, _ => rfl
  | 73, _ => rfl
  | 74, _ => rfl
  | 75, _ => rfl
  | 76, _ => rfl
  | 77, _ => rfl
  | 78, _ => rfl
  | 79, _ => rfl
  | 80, _ => rfl
  | 81, _ => rfl
  | 82, _ => rfl
  | 83, _ => rfl
  | 84, _ => rfl
  | 85, _ => rfl
  | 86, _ => rfl
  | 87, _ => rfl
  | 88, _ => rfl
  | 89, _ => rfl
  | 90, _ => rfl
  | 91, _ => rfl
  | 92, _ => rfl
  | 93, _ => rfl
  | 94, _ => rfl
  | 95, _ => rfl
  | 96, _ => rfl
  | 97, _ => rfl
  | 98, _ => rfl
  | 99, _ => rfl
  | 100, _ => rfl
  | k + 101, hk => omega
theorem hk_sh_len : hk_sh.length = 101 := rfl
theorem k0_hp (L : Nat) (xs : Nat → Int32) : hp (k0 L xs) = k0H L xs := by
  refine Prod.ext ?_ rfl
  funext k
  show hk_c (k0 L xs) k = (k0H L xs).1 k
  by_cases c : k < 101
  · rw [k0_cell L xs k c, k0H_at L xs k c]
  · have e : hk_sh[k]? = none := List.getElem?_eq_none (by rw [hk_sh_len]; omega)
    unfold hk_c
    rw [e]
    show ra_junk = (if k < 69 then (if k < 0 then ra_junk else if k = 0 then .inr (11, oX11 0) else ((rX11 0)[k - 0 - 1]?).getD ra_junk) else if k = 69 then .inr (12, oX12 69) else ((rX12 69)[k - 69 - 1]?).getD (if k < 0 then ra_junk else if k = 0 then .inr (11, oX11 0) else ((rX11 0)[k - 0 - 1]?).getD ra_junk))
    rw [if_neg (by omega), if_neg (by omega), List.getElem?_eq_none (show (rX12 69).length ≤ _ by show 31 ≤ _; omega), if_neg (by omega), if_neg (by omega), List.getElem?_eq_none (show (rX11 0).length ≤ _ by show 68 ≤ _; omega)]
    rfl
/-- both objects made, the reference's rows not yet filled -/
theorem k0_made (N : Nat) (hN : 100000 < N) (L : Nat) (xs : Nat → Int32) : nL_law_0 N 0 (ra_h0 L xs) = (kX12 N 69 (hp (k0 L xs))).bind fun h4 => nL_law_18 N N 0 0 69 ((0 : Int32)) h4 := by
  have e1 : ra_mk (ra_h0 L xs) (.inr (11, ra_df 11)) 13 = ch (ra_h0 L xs) 0 11 (ra_df 11) [] (0 + 13) := ch_0 rfl
  have e2 := i_X11 N hN (ra_h0 L xs) 0 (0 + 13)
  obtain ⟨h2, eh⟩ : ∃ h2, h2 = ch (ra_h0 L xs) 0 11 (oX11 0) (rX11 0) (13 + 14806) := ⟨_, rfl⟩
  have n2 : h2.2.1 = 69 := by rw [eh]; rfl
  have s2 : h2.2.2.1 = 13 + 14806 := by rw [eh]; rfl
  have e3 : ra_mk h2 (.inr (12, ra_df 12)) 58 = ch h2 69 12 (ra_df 12) [] (13 + 14806 + 58) := by
    rw [ch_0 n2, s2]
  have e4 := i_X12 N h2 69 (13 + 14806 + 58)
  have e2' : fX11_init N 0 (ra_mk (ra_h0 L xs) (.inr (11, ra_df 11)) 13) = some h2 := by
    rw [e1, e2, eh]
  show (fX11_init N 0 (ra_mk (ra_h0 L xs) (.inr (11, ra_df 11)) 13)).bind (fun h2 => (fX12_init N h2.2.1 (ra_mk h2 (.inr (12, ra_df 12)) 58)).bind fun h4 => nL_law_18 N N 0 0 h2.2.1 ((0 : Int32)) h4) = _
  rw [e2', Option.bind_some, n2, e3, e4, k0_hp]
  unfold k0H
  rw [eh]
/-! the reference's rows are filled -/
section
variable (N : Nat) (κ : hk_T)
theorem r_fillS (hN : 1000 < N) (out : hk_T → Option ra_H) (ho : ∀ κ, nX12_init_440 N N 69 (n3 0) (hp κ) = out κ) : ∃ κ', nX12_init_396 N N 69 (n3 0) (hp κ) = out κ' ∧ same [71] [] κ κ' ∧ ∀ x, hk_A κ' 71 x = if 500 ≤ x ∧ x < 608 then (if x % 2 = 0 then n3 100 else n3 40) else hk_A κ 71 x := by
  obtain ⟨m', s', e, i1, i2⟩ := lpx (fun m i (r : hk_T) => nX12_init_396 N m 69 (n3 i) (hp r)) 54 (fun i r => same [71] [] κ r ∧ ∀ x, hk_A r 71 x = if 500 ≤ x ∧ x < 500 + 2 * i then (if x % 2 = 0 then n3 100 else n3 40) else hk_A κ 71 x) (by
    rintro m i r hi ⟨h1, h2⟩
    refine ⟨hk_wA (hk_wA r 71 (500 + 2 * i) (n3 100)) 71 (500 + 2 * i + 1) (n3 40), ?_, (h1.wA (by decide)).wA (by decide), fun x => ?_⟩
    · rw [nX12_init_396]
      simp (maxSteps := 400000) (disch := omega) only [n3_l, n3_add, n3_mul, n3_sub, n3_subn, n3_lt, n3_le, n3_eq, n3_eqn, n3_neq, n3_and, n3_or, n3_shl, n3_i, n3_cl, ↓hbd_0, ↓hbd_1, ↓hbd_2, hk_ob_0, hk_rd_0, hk_rd_1, hk_rd_2, hk_al_0, hk_al_1, h3r_0, h3r_1, hk_wi_0, hk_wj_0, h3w_0, h3w_1, h3v_0, hk_kI, hk_kJ, hk_kA, hk_kB, A_eq, A_ne, A_row, B_eq, B_ne, B_row, I_eq, I_ne, J_eq, J_ne, Option.bind_some, Option.some.injEq, if_true, if_false, eq_self, true_or, or_true, true_and, and_true, false_or, or_false, not_true_eq_false, not_false_eq_true, Classical.not_not, nar_b0, nar_b1, rz_0, rz_1, rz_i, ite01, Nat.add_zero, Nat.zero_add, Nat.one_mul, mul12, reduceIte, ra_z0, Nat.reduceEqDiff, Nat.reduceLT, Nat.reduceLeDiff, Nat.reduceAdd, Nat.reduceMul, Nat.reduceSub, Nat.reduceDiv, Nat.reduceMod, Bool.false_eq_true, false_and, and_false, reduceCtorEq, hi]
    · rw [A_at, A_at, h2]
      by_cases c1 : x = 500 + 2 * i + 1
      · rw [if_pos c1, if_pos (by omega), if_neg (by omega)]
      · by_cases c2 : x = 500 + 2 * i
        · rw [if_neg c1, if_pos c2, if_pos (by omega), if_pos (by omega)]
        · rw [if_neg c1, if_neg c2]
          by_cases c3 : 500 ≤ x ∧ x < 500 + 2 * i
          · rw [if_pos c3, if_pos (show 500 ≤ x ∧ x < 500 + 2 * (i + 1) by omega)]
          · rw [if_neg c3, if_neg (by omega)]) 54 0 N κ (by omega) (by omega) ⟨same.refl _ _ _, fun x => by rw [if_neg (by omega)]⟩
  (try dsimp only at e)
  refine ⟨s', ?_, i1, i2⟩
  rw [e, nX12_init_396]
  simp (maxSteps := 400000) (disch := omega) only [n3_l, n3_add, n3_mul, n3_sub, n3_subn, n3_lt, n3_le, n3_eq, n3_eqn, n3_neq, n3_and, n3_or, n3_shl, n3_i, n3_cl, ↓hbd_0, ↓hbd_1, ↓hbd_2, hk_ob_0, hk_rd_0, hk_rd_1, hk_rd_2, hk_al_0, hk_al_1, h3r_0, h3r_1, hk_wi_0, hk_wj_0, h3w_0, h3w_1, h3v_0, hk_kI, hk_kJ, hk_kA, hk_kB, A_eq, A_ne, A_row, B_eq, B_ne, B_row, I_eq, I_ne, J_eq, J_ne, Option.bind_some, Option.some.injEq, if_true, if_false, eq_self, true_or, or_true, true_and, and_true, false_or, or_false, not_true_eq_false, not_false_eq_true, Classical.not_not, nar_b0, nar_b1, rz_0, rz_1, rz_i, ite01, Nat.add_zero, Nat.zero_add, Nat.one_mul, mul12, reduceIte, ra_z0, Nat.reduceEqDiff, Nat.reduceLT, Nat.reduceLeDiff, Nat.reduceAdd, Nat.reduceMul, Nat.reduceSub, Nat.reduceDiv, Nat.reduceMod, Bool.false_eq_true, false_and, and_false, reduceCtorEq, Nat.lt_irrefl]
  exact ho s'
theorem r_fillH (hN : 1000 < N) (out : hk_T → Option ra_H) (ho : ∀ κ, nX12_init_469 N N 69 (n3 0) (hp κ) = out κ) : ∃ κ', nX12_init_440 N N 69 (n3 0) (hp κ) = out κ' ∧ same [71] [] κ κ' ∧ ∀ x, hk_A κ' 71 x = if 610 ≤ x ∧ x < 646 ∧ (x - 610) % 3 = 2 then n3 1 else hk_A κ 71 x := by
  obtain ⟨m', s', e, i1, i2⟩ := lpx (fun m i (r : hk_T) => nX12_init_440 N m 69 (n3 i) (hp r)) 12 (fun i r => same [71] [] κ r ∧ ∀ x, hk_A r 71 x = if 610 ≤ x ∧ x < 610 + 3 * i ∧ (x - 610) % 3 = 2 then n3 1 else hk_A κ 71 x) (by
    rintro m i r hi ⟨h1, h2⟩
    refine ⟨hk_wA r 71 (610 + 3 * i + 2) (n3 1), ?_, h1.wA (by decide), fun x => ?_⟩
    · rw [nX12_init_440]
      simp (maxSteps := 400000) (disch := omega) only [n3_l, n3_add, n3_mul, n3_sub, n3_subn, n3_lt, n3_le, n3_eq, n3_eqn, n3_neq, n3_and, n3_or, n3_shl, n3_i, n3_cl, ↓hbd_0, ↓hbd_1, ↓hbd_2, hk_ob_0, hk_rd_0, hk_rd_1, hk_rd_2, hk_al_0, hk_al_1, h3r_0, h3r_1, hk_wi_0, hk_wj_0, h3w_0, h3w_1, h3v_0, hk_kI, hk_kJ, hk_kA, hk_kB, A_eq, A_ne, A_row, B_eq, B_ne, B_row, I_eq, I_ne, J_eq, J_ne, Option.bind_some, Option.some.injEq, if_true, if_false, eq_self, true_or, or_true, true_and, and_true, false_or, or_false, not_true_eq_false, not_false_eq_true, Classical.not_not, nar_b0, nar_b1, rz_0, rz_1, rz_i, ite01, Nat.add_zero, Nat.zero_add, Nat.one_mul, mul12, reduceIte, ra_z0, Nat.reduceEqDiff, Nat.reduceLT, Nat.reduceLeDiff, Nat.reduceAdd, Nat.reduceMul, Nat.reduceSub, Nat.reduceDiv, Nat.reduceMod, Bool.false_eq_true, false_and, and_false, reduceCtorEq, hi]
    · rw [A_at, h2]
      by_cases c1 : x = 610 + 3 * i + 2
      · rw [if_pos c1, if_pos (by omega)]
      · rw [if_neg c1]
        by_cases c3 : 610 ≤ x ∧ x < 610 + 3 * i ∧ (x - 610) % 3 = 2
        · rw [if_pos c3, if_pos (by omega)]
        · rw [if_neg c3, if_neg (by omega)]) 12 0 N κ (by omega) (by omega) ⟨same.refl _ _ _, fun x => by rw [if_neg (by omega)]⟩
  (try dsimp only at e)
  refine ⟨s', ?_, i1, i2⟩
  rw [e, nX12_init_440]
  simp (maxSteps := 400000) (disch := omega) only [n3_l, n3_add, n3_mul, n3_sub, n3_subn, n3_lt, n3_le, n3_eq, n3_eqn, n3_neq, n3_and, n3_or, n3_shl, n3_i, n3_cl, ↓hbd_0, ↓hbd_1, ↓hbd_2, hk_ob_0, hk_rd_0, hk_rd_1, hk_rd_2, hk_al_0, hk_al_1, h3r_0, h3r_1, hk_wi_0, hk_wj_0, h3w_0, h3w_1, h3v_0, hk_kI, hk_kJ, hk_kA, hk_kB, A_eq, A_ne, A_row, B_eq, B_ne, B_row, I_eq, I_ne, J_eq, J_ne, Option.bind_some, Option.some.injEq, if_true, if_false, eq_self, true_or, or_true, true_and, and_true, false_or, or_false, not_true_eq_false, not_false_eq_true, Classical.not_not, nar_b0, nar_b1, rz_0, rz_1, rz_i, ite01, Nat.add_zero, Nat.zero_add, Nat.one_mul, mul12, reduceIte, ra_z0, Nat.reduceEqDiff, Nat.reduceLT, Nat.reduceLeDiff, Nat.reduceAdd, Nat.reduceMul, Nat.reduceSub, Nat.reduceDiv, Nat.reduceMod, Bool.false_eq_true, false_and, and_false, reduceCtorEq, Nat.lt_irrefl]
  exact ho s'
theorem r_fillB (hN : 1000 < N) : ∃ κ', nX12_init_469 N N 69 (n3 0) (hp κ) = some (hp κ') ∧ same [71] [] κ κ' ∧ ∀ x, hk_A κ' 71 x = if 735 ≤ x ∧ x < 755 ∧ (x - 735) % 2 = 1 then n3 199 else hk_A κ 71 x := by
  obtain ⟨m', s', e, i1, i2⟩ := lpx (fun m i (r : hk_T) => nX12_init_469 N m 69 (n3 i) (hp r)) 10 (fun i r => same [71] [] κ r ∧ ∀ x, hk_A r 71 x = if 735 ≤ x ∧ x < 735 + 2 * i ∧ (x - 735) % 2 = 1 then n3 199 else hk_A κ 71 x) (by
    rintro m i r hi ⟨h1, h2⟩
    refine ⟨hk_wA r 71 (735 + 2 * i + 1) (n3 199), ?_, h1.wA (by decide), fun x => ?_⟩
    · rw [nX12_init_469]
      simp (maxSteps := 400000) (disch := omega) only [n3_l, n3_add, n3_mul, n3_sub, n3_subn, n3_lt, n3_le, n3_eq, n3_eqn, n3_neq, n3_and, n3_or, n3_shl, n3_i, n3_cl, ↓hbd_0, ↓hbd_1, ↓hbd_2, hk_ob_0, hk_rd_0, hk_rd_1, hk_rd_2, hk_al_0, hk_al_1, h3r_0, h3r_1, hk_wi_0, hk_wj_0, h3w_0, h3w_1, h3v_0, hk_kI, hk_kJ, hk_kA, hk_kB, A_eq, A_ne, A_row, B_eq, B_ne, B_row, I_eq, I_ne, J_eq, J_ne, Option.bind_some, Option.some.injEq, if_true, if_false, eq_self, true_or, or_true, true_and, and_true, false_or, or_false, not_true_eq_false, not_false_eq_true, Classical.not_not, nar_b0, nar_b1, rz_0, rz_1, rz_i, ite01, Nat.add_zero, Nat.zero_add, Nat.one_mul, mul12, reduceIte, ra_z0, Nat.reduceEqDiff, Nat.reduceLT, Nat.reduceLeDiff, Nat.reduceAdd, Nat.reduceMul, Nat.reduceSub, Nat.reduceDiv, Nat.reduceMod, Bool.false_eq_true, false_and, and_false, reduceCtorEq, hi]
    · rw [A_at, h2]
      by_cases c1 : x = 735 + 2 * i + 1
      · rw [if_pos c1, if_pos (by omega)]
      · rw [if_neg c1]
        by_cases c3 : 735 ≤ x ∧ x < 735 + 2 * i ∧ (x - 735) % 2 = 1
        · rw [if_pos c3, if_pos (by omega)]
        · rw [if_neg c3, if_neg (by omega)]) 10 0 N κ (by omega) (by omega) ⟨same.refl _ _ _, fun x => by rw [if_neg (by omega)]⟩
  (try dsimp only at e)
  refine ⟨s', ?_, i1, i2⟩
  rw [e, nX12_init_469]
  simp (maxSteps := 400000) (disch := omega) only [n3_l, n3_add, n3_mul, n3_sub, n3_subn, n3_lt, n3_le, n3_eq, n3_eqn, n3_neq, n3_and, n3_or, n3_shl, n3_i, n3_cl, ↓hbd_0, ↓hbd_1, ↓hbd_2, hk_ob_0, hk_rd_0, hk_rd_1, hk_rd_2, hk_al_0, hk_al_1, h3r_0, h3r_1, hk_wi_0, hk_wj_0, h3w_0, h3w_1, h3v_0, hk_kI, hk_kJ, hk_kA, hk_kB, A_eq, A_ne, A_row, B_eq, B_ne, B_row, I_eq, I_ne, J_eq, J_ne, Option.bind_some, Option.some.injEq, if_true, if_false, eq_self, true_or, or_true, true_and, and_true, false_or, or_false, not_true_eq_false, not_false_eq_true, Classical.not_not, nar_b0, nar_b1, rz_0, rz_1, rz_i, ite01, Nat.add_zero, Nat.zero_add, Nat.one_mul, mul12, reduceIte, ra_z0, Nat.reduceEqDiff, Nat.reduceLT, Nat.reduceLeDiff, Nat.reduceAdd, Nat.reduceMul, Nat.reduceSub, Nat.reduceDiv, Nat.reduceMod, Bool.false_eq_true, false_and, and_false, reduceCtorEq, Nat.lt_irrefl]
theorem r_filled (hN : 1000 < N) : ∃ κ', kX12 N 69 (hp κ) = some (hp κ') ∧ same [71] [] κ κ' ∧ ∀ x, hk_A κ' 71 x = if 735 ≤ x ∧ x < 755 ∧ (x - 735) % 2 = 1 then n3 199 else if 610 ≤ x ∧ x < 646 ∧ (x - 610) % 3 = 2 then n3 1 else if 500 ≤ x ∧ x < 608 then (if x % 2 = 0 then n3 100 else n3 40) else if x = 484 then -n3 1 else hk_A κ 71 x := by
  obtain ⟨κ1, e1, s1, v1⟩ := r_fillS N (hk_wA κ 71 484 (-n3 1)) hN (fun κ => nX12_init_440 N N 69 (n3 0) (hp κ)) (fun _ => rfl)
  obtain ⟨κ2, e2, s2, v2⟩ := r_fillH N κ1 hN (fun κ => nX12_init_469 N N 69 (n3 0) (hp κ)) (fun _ => rfl)
  obtain ⟨κ3, e3, s3, v3⟩ := r_fillB N κ2 hN
  refine ⟨κ3, ?_, ((((same.refl [71] [] κ).wA (by decide)).trans s1).trans s2).trans s3, fun x => ?_⟩
  · have e0 : kX12 N 69 (hp κ) = nX12_init_396 N N 69 (n3 0) (hp (hk_wA κ 71 484 (-n3 1))) := by
      unfold kX12
      simp (maxSteps := 400000) (disch := omega) only [n3_l, n3_add, n3_mul, n3_sub, n3_subn, n3_lt, n3_le, n3_eq, n3_eqn, n3_neq, n3_and, n3_or, n3_shl, n3_i, n3_cl, ↓hbd_0, ↓hbd_1, ↓hbd_2, hk_ob_0, hk_rd_0, hk_rd_1, hk_rd_2, hk_al_0, hk_al_1, h3r_0, h3r_1, hk_wi_0, hk_wj_0, h3w_0, h3w_1, h3v_0, hk_kI, hk_kJ, hk_kA, hk_kB, A_eq, A_ne, A_row, B_eq, B_ne, B_row, I_eq, I_ne, J_eq, J_ne, Option.bind_some, Option.some.injEq, if_true, if_false, eq_self, true_or, or_true, true_and, and_true, false_or, or_false, not_true_eq_false, not_false_eq_true, Classical.not_not, nar_b0, nar_b1, rz_0, rz_1, rz_i, ite01, Nat.add_zero, Nat.zero_add, Nat.one_mul, mul12, reduceIte, ra_z0, Nat.reduceEqDiff, Nat.reduceLT, Nat.reduceLeDiff, Nat.reduceAdd, Nat.reduceMul, Nat.reduceSub, Nat.reduceDiv, Nat.reduceMod, Bool.false_eq_true, false_and, and_false, reduceCtorEq]
    rw [e0, e1, e2, e3]
  · rw [v3, v2, v1, A_at]
end
/-- the invariant at the start -/
theorem Inv.zero (L : Nat) (xs : Nat → Int32) {κ : hk_T} (s : same [71] [] (k0 L xs) κ) (v : ∀ x, hk_A κ 71 x = if 735 ≤ x ∧ x < 755 ∧ (x - 735) % 2 = 1 then n3 199 else if 610 ≤ x ∧ x < 646 ∧ (x - 610) % 3 = 2 then n3 1 else if 500 ≤ x ∧ x < 608 then (if x % 2 = 0 then n3 100 else n3 40) else if x = 484 then -n3 1 else n3 0) : Inv L xs 0 κ := by
  have I : ∀ k j, hk_I κ k j = k0I k j := fun k j => s.2.2.1 k j (by simp)
  have A : ∀ k, k ≠ 71 → hk_A κ k = k0A k := fun k hk => s.1 k (by simpa using hk)
  have B : ∀ k, k ≠ 71 → hk_B κ k = k0B k := fun k hk => s.2.1 k (by simpa using hk)
  have Q : ∀ k i, hk_Q κ k i = none := fun k i => by rw [s.2.2.2.1]; rfl
  have I0 : ∀ k j, ¬ ((k = 1 ∧ (j = 17 ∨ j = 18)) ∨ (k = 0 ∧ j = 12) ∨ (k = 69 ∧ (j = 13 ∨ j = 56))) → hk_I κ k j = n3 0 := fun k j h => by rw [I]; exact if_neg h
  have M0 : ∀ x, x < 484 ∨ (484 < x ∧ x < 500) ∨ (608 ≤ x ∧ x < 610) ∨ (646 ≤ x ∧ x < 735) → hk_A κ 71 x = n3 0 := fun x hx => by
    rw [v, if_neg (by omega), if_neg (by omega), if_neg (by omega), if_neg (by omega)]
  have A0 : ∀ k, k ≠ 71 → k ≠ 67 → ¬ (2 ≤ k ∧ k ≤ 14 ∧ k ≠ 6) → ∀ i, hk_A κ k i = n3 0 := fun k h1 h2 h3 i => by
    rw [A k h1]
    unfold k0A
    rw [if_neg h2, if_neg h3]
    rfl
  have AV : ∀ k, k ≠ 67 → 2 ≤ k ∧ k ≤ 14 ∧ k ≠ 6 → ∀ x, x < hoL (k - 2) → hk_A κ k x = hoV (k - 2) := fun k h1 h2 x hx => by
    rw [A k (by omega)]
    unfold k0A
    rw [if_neg h1, if_pos h2]
    exact if_pos hx
  have r2 : ∀ x, x < 480 → hk_A κ 2 x = n3 0 := fun x hx => AV 2 (by omega) (by omega) x hx
  have r3 : ∀ x, x < 9 → hk_A κ 3 x = n3 0 := fun x hx => AV 3 (by omega) (by omega) x hx
  have r4 : ∀ x, x < 54 → hk_A κ 4 x = n3 100 := fun x hx => AV 4 (by omega) (by omega) x hx
  have r5 : ∀ x, x < 54 → hk_A κ 5 x = n3 40 := fun x hx => AV 5 (by omega) (by omega) x hx
  have r8 : ∀ x, x < 12 → hk_A κ 8 x = n3 0 := fun x hx => AV 8 (by omega) (by omega) x hx
  have r9 : ∀ x, x < 10 → hk_A κ 9 x = n3 0 := fun x hx => AV 9 (by omega) (by omega) x hx
  have r10 : ∀ x, x < 10 → hk_A κ 10 x = n3 199 := fun x hx => AV 10 (by omega) (by omega) x hx
  have r12 : ∀ x, x < 12 → hk_A κ 12 x = n3 0 := fun x hx => AV 12 (by omega) (by omega) x hx
  have r13 : ∀ x, x < 12 → hk_A κ 13 x = n3 0 := fun x hx => AV 13 (by omega) (by omega) x hx
  have r14 : ∀ x, x < 12 → hk_A κ 14 x = n3 1 := fun x hx => AV 14 (by omega) (by omega) x hx
  have hN0 : hk_n κ = 101 := s.2.2.2.2.2.2.1
  have hS0 : hk_s κ = hk_s (k0 L xs) := s.2.2.2.2.2.2.2.1
  have hS1 : hk_s κ ≤ 400000 + 86 * 0 + 900 * 0 := by
    rw [hS0]
    exact Nat.le_of_ble_eq_true rfl
  have hP0 : ∀ j, hk_P κ j = 47 + j := fun j => by rw [s.2.2.2.2.1]; rfl
  have R80 : rWd κ := by
    refine ⟨fun g hg => ?_, fun g hg => ?_⟩
    · rw [B 80 (by omega)]
      have c : g = 0 ∨ g = 1 ∨ g = 2 ∨ g = 3 ∨ g = 4 ∨ g = 5 ∨ g = 6 ∨ g = 7 ∨ g = 8 ∨ g = 9 ∨ g = 10 ∨ g = 11 := by omega
      rcases c with rfl | rfl | rfl | rfl | rfl | rfl | rfl | rfl | rfl | rfl | rfl | rfl <;> decide +kernel
    · rw [B 81 (by omega)]
      have c : g = 0 ∨ g = 1 ∨ g = 2 ∨ g = 3 ∨ g = 4 := by omega
      rcases c with rfl | rfl | rfl | rfl | rfl <;> decide +kernel
  have hK : HK κ 0 0 0 0 := by
    refine ⟨⟨⟨I0 _ _ (by omega), by omega, M0 _ (by omega)⟩, ⟨I0 _ _ (by omega), by omega, M0 _ (by omega)⟩, ⟨I0 _ _ (by omega), by omega, M0 _ (by omega)⟩, ⟨I0 _ _ (by omega), by omega, M0 _ (by omega)⟩⟩, Or.inl ⟨?_, ?_⟩, ⟨fun i hi => by omega, fun i _ hi => ?_, fun b hb => by omega⟩, ⟨fun b hb => ?_, fun x hx => ?_⟩, fun x hx => ⟨0, 0, 1, ?_, ?_, ?_, ?_, ?_, ?_, by omega, by omega, by omega, by omega⟩, ⟨fun l hl => by omega, fun l _ hl => ?_⟩, ⟨fun i hi => by omega, fun i j _ hj => by omega⟩, fun x hx => ⟨?_, ?_⟩⟩
    · rw [I]; rfl
    · rw [v, if_neg (by omega), if_neg (by omega), if_neg (by omega), if_pos rfl]
    · exact r2 i hi
    · rw [r3 b hb, M0 _ (by omega)]
      exact ⟨rfl, by decide⟩
    · rw [r4 x hx, r5 x hx, v (500 + 2 * x), if_neg (by omega), if_neg (by omega), if_pos (by omega), if_pos (by omega), v (500 + 2 * x + 1), if_neg (by omega), if_neg (by omega), if_pos (by omega), if_neg (by omega)]
      exact ⟨rfl, rfl, by decide, by decide⟩
    · exact r12 x hx
    · exact r13 x hx
    · exact r14 x hx
    · rw [v, if_neg (by omega), if_neg (by omega), if_neg (by omega), if_neg (by omega)]
    · rw [v, if_neg (by omega), if_neg (by omega), if_neg (by omega), if_neg (by omega)]
    · rw [v, if_neg (by omega), if_pos (by omega)]
    · exact r8 l (by omega)
    · rw [r9 x hx, v, if_neg (by omega), if_neg (by omega), if_neg (by omega), if_neg (by omega)]
    · rw [r10 x hx, v, if_pos (by omega)]
  refine InvC.inv (n := 0) (nT := 0) (nL := 0) (nS := 0) (T := fun _ _ _ => none) ⟨s.2.2.2.2.2.2.2.2, ⟨by omega, by omega, 0, ⟨Or.inl ⟨hP0 8, rfl⟩, fun k hk => ?_⟩, hS1⟩, hK.hr, ⟨fun t ht => by omega, fun t q _ e => ?_⟩, ⟨Or.inl ⟨Q _ _, A0 _ (by omega) (by omega) (by omega) _⟩, Or.inl ⟨Q _ _, A0 _ (by omega) (by omega) (by omega) _⟩, fun a b e _ => ?_⟩, ⟨?_, ?_, ?_, fun k hk => ?_⟩, ⟨fun _ => 0, 0, ⟨by omega, I0 _ _ (by omega), fun i hi => by omega⟩, ⟨by omega, I0 _ _ (by omega), fun i hi => by omega⟩⟩, Or.inl ⟨I0 _ _ (by omega), ?_, fun b hb => ?_⟩, ⟨R80, 0, by omega, I0 _ _ (by omega), fun s' hs => ⟨0, by omega, A0 _ (by omega) (by omega) (by omega) _⟩⟩, ⟨fun t b ht => by omega, fun s' hs => A0 _ (by omega) (by omega) (by omega) _, Or.inl (I0 _ _ (by omega)), Or.inl (I0 _ _ (by omega)), Or.inl (I0 _ _ (by omega)), Or.inl (I0 _ _ (by omega))⟩⟩
  · have e : k = hk_P κ 8 ∨ k = hk_P κ 9 ∨ k = hk_P κ 10 ∨ k = hk_P κ 11 := by simpa [pL] using hk
    rw [hP0, hP0, hP0, hP0] at e
    omega
  · rw [Q] at e; cases e
  · rw [Q] at e; cases e
  · rw [I0 0 10 (by omega), I0 69 1 (by omega)]
  · rw [I0 0 11 (by omega), I0 69 6 (by omega)]
  · rw [I, I]; rfl
  · rw [A0 68 (by omega) (by omega) (by omega), A0 70 (by omega) (by omega) (by omega)]
  · rw [I]; rfl
  · rw [A 67 (by omega)]
    unfold k0A
    rw [if_pos rfl]
    exact if_pos hb
/-- what is left of the claim -/
theorem law_pure {L : Nat} (hL : L ≤ 3072) (xs : Nat → Int32) : ∃ N h', nL_law_0 N 0 (ra_h0 L xs) = some (1, h') ∧ h'.2.1 ≤ 600000 ∧ h'.2.2.1 ≤ 7302250 := by
  obtain ⟨κ0, e0, s0, v0⟩ := r_filled 1000000 (k0 L xs) (by omega)
  have z71 : ∀ x, hk_A (k0 L xs) 71 x = n3 0 := fun _ => rfl
  have h0 : Inv L xs 0 κ0 := Inv.zero L xs s0 (fun x => by rw [v0, z71])
  obtain ⟨κ', c', e, g, hc⟩ := lw_all 1000000 hL (by omega) L 0 1000000 κ0 h0 (by omega) (by omega) (by omega)
  obtain ⟨n, nT, nL, nS, T, h1, ⟨b1, b2, z, ⟨b3, b5⟩, b4⟩, -⟩ := g
  refine ⟨1000000, hp κ', ?_, ?_, ?_⟩
  · rw [k0_made 1000000 (by omega), e0, Option.bind_some]
    exact e
  · show hk_n κ' ≤ 600000
    omega
  · show hk_s κ' ≤ 7302250
    have z4 : z ≤ 4096 := by
      rcases b3 with ⟨-, b3⟩ | ⟨q, S, W, R, C, ⟨-, q12', -⟩, b3⟩
      · omega
      · rw [b3]; exact q12 q12'
    omega
