/-! the reference's table and its way through it -/
section
variable (N : Nat) (κ : hk_T)
/-- what the table's loops read: g the sorted ones -/
def rTb (κ : hk_T) (n : Nat) (g : Nat → Nat) (st : Nat → Nat → Nat) : Prop := (∀ i, i < n → hk_A κ 99 i = n3 (g i)) ∧ ∀ N i j, i < n → j < n → fX12_apart N 69 (n3 (g i)) (n3 (g j)) (hp κ) = some (n3 (st i j), hp κ)
theorem r_cell {st : Nat → Nat → Nat} {n s l : Nat} {g : Nat → Nat} {M : Nat} (c81 : Nat → Int32 → Int32 → ra_H → Option ra_H) (c87 : Nat → Int32 → Int32 → Int32 → ra_H → Option ra_H) (hn : n ≤ 9) (hs : s < 2 ^ n) (hl : l < n) (hg : rTb κ n g st) (h20 : ∀ i j, st i j ≤ 20) (hr : ∀ k, k < n → ¬ s.testBit k = true → hk_A κ 98 (9 * (s ||| 2 ^ k) + k) = n3 (rsT n st (s ||| 2 ^ k) k)) (hM : M ≤ 1000000) (hN : 1000 < N) :
    nX12_rowAll_113 N c81 c87 N 69 (n3 n) (n3 s) (n3 l) (n3 M) (n3 0) (hp κ) = c87 69 (n3 n) (n3 s) (n3 (l + 1)) (hp (hk_wA κ 98 (9 * s + l) (n3 (fo (mnS (fun k => st l k + rsT n st (s ||| 2 ^ k) k) (fun k => ¬ s.testBit k = true)) 0 n M)))) := by
  have h2 : 2 ^ n ≤ 2 ^ 9 := Nat.pow_le_pow_right (by omega) hn
  have h10 := rsT_le n st h20 hn
  obtain ⟨hg1, hg2⟩ := hg
  have := lp (fun m k (y : Nat) => nX12_rowAll_113 N c81 c87 m 69 (n3 n) (n3 s) (n3 l) (n3 y) (n3 k) (hp κ)) n (mnS (fun k => st l k + rsT n st (s ||| 2 ^ k) k) (fun k => ¬ s.testBit k = true)) (fun y => c87 69 (n3 n) (n3 s) (n3 (l + 1)) (hp (hk_wA κ 98 (9 * s + l) (n3 y)))) (fun _ y => y ≤ 1000000) (by
    intro m k y hk hI
    have u1 := h20 l k
    have u2 := h10 (s ||| 2 ^ k) k
    constructor
    · by_cases c : s.testBit k = true
      · have hq : mnS (fun k => st l k + rsT n st (s ||| 2 ^ k) k) (fun k => ¬ s.testBit k = true) k y = y := by unfold mnS; exact if_neg (fun z => z c)
        rw [hq, nX12_rowAll_113]
        simp (maxSteps := 400000) (disch := omega) only [n3_l, n3_add, n3_mul, n3_sub, n3_subn, n3_lt, n3_le, n3_eq, n3_eqn, n3_neq, n3_and, n3_or, n3_shl, n3_i, n3_cl, ↓hbd_0, ↓hbd_1, ↓hbd_2, hk_ob_0, hk_rd_0, hk_rd_1, hk_rd_2, hk_al_0, hk_al_1, h3r_0, h3r_1, hk_wi_0, hk_wj_0, h3w_0, h3w_1, h3v_0, hk_kI, hk_kJ, hk_kA, hk_kB, A_eq, A_ne, A_row, B_eq, B_ne, B_row, I_eq, I_ne, J_eq, J_ne, Option.bind_some, Option.some.injEq, if_true, if_false, eq_self, true_or, or_true, true_and, and_true, false_or, or_false, not_true_eq_false, not_false_eq_true, Classical.not_not, nar_b0, nar_b1, rz_0, rz_1, rz_i, ite01, Nat.add_zero, Nat.zero_add, Nat.one_mul, mul12, reduceIte, ra_z0, Nat.reduceEqDiff, Nat.reduceLT, Nat.reduceLeDiff, Nat.reduceAdd, Nat.reduceMul, Nat.reduceSub, Nat.reduceDiv, Nat.reduceMod, Bool.false_eq_true, false_and, and_false, reduceCtorEq, hk, n3_shr, bit_shr, c, nX12_rowAll_61, nX12_rowAll_181, nX12_rowAll_179, nX12_rowAll_108, nX12_rowAll_0]
      · have hlt := or_lt hs hk
        have v1 := hg1 l hl
        have v2 := hg1 k hk
        have v3 := hg2 N l k hl hk
        have v4 := hr k hk c
        have hq : mnS (fun k => st l k + rsT n st (s ||| 2 ^ k) k) (fun k => ¬ s.testBit k = true) k y = if st l k + rsT n st (s ||| 2 ^ k) k < y then st l k + rsT n st (s ||| 2 ^ k) k else y := by unfold mnS; exact if_pos c
        rw [hq, nX12_rowAll_113]
        by_cases z : st l k + rsT n st (s ||| 2 ^ k) k < y <;> simp (maxSteps := 400000) (disch := omega) only [n3_l, n3_add, n3_mul, n3_sub, n3_subn, n3_lt, n3_le, n3_eq, n3_eqn, n3_neq, n3_and, n3_or, n3_shl, n3_i, n3_cl, ↓hbd_0, ↓hbd_1, ↓hbd_2, hk_ob_0, hk_rd_0, hk_rd_1, hk_rd_2, hk_al_0, hk_al_1, h3r_0, h3r_1, hk_wi_0, hk_wj_0, h3w_0, h3w_1, h3v_0, hk_kI, hk_kJ, hk_kA, hk_kB, A_eq, A_ne, A_row, B_eq, B_ne, B_row, I_eq, I_ne, J_eq, J_ne, Option.bind_some, Option.some.injEq, if_true, if_false, eq_self, true_or, or_true, true_and, and_true, false_or, or_false, not_true_eq_false, not_false_eq_true, Classical.not_not, nar_b0, nar_b1, rz_0, rz_1, rz_i, ite01, Nat.add_zero, Nat.zero_add, Nat.one_mul, mul12, reduceIte, ra_z0, Nat.reduceEqDiff, Nat.reduceLT, Nat.reduceLeDiff, Nat.reduceAdd, Nat.reduceMul, Nat.reduceSub, Nat.reduceDiv, Nat.reduceMod, Bool.false_eq_true, false_and, and_false, reduceCtorEq, hk, n3_shr, n3_shl, bit_shr, c, v1, v2, v3, v4, z, nX12_rowAll_61, nX12_rowAll_181, nX12_rowAll_179, nX12_rowAll_108, nX12_rowAll_0]
    · unfold mnS
      split
      · split
        · dsimp only; omega
        · exact hI
      · exact hI) (by
    intro m y hI
    rw [nX12_rowAll_113]
    simp (maxSteps := 400000) (disch := omega) only [n3_l, n3_add, n3_mul, n3_sub, n3_subn, n3_lt, n3_le, n3_eq, n3_eqn, n3_neq, n3_and, n3_or, n3_shl, n3_i, n3_cl, ↓hbd_0, ↓hbd_1, ↓hbd_2, hk_ob_0, hk_rd_0, hk_rd_1, hk_rd_2, hk_al_0, hk_al_1, h3r_0, h3r_1, hk_wi_0, hk_wj_0, h3w_0, h3w_1, h3v_0, hk_kI, hk_kJ, hk_kA, hk_kB, A_eq, A_ne, A_row, B_eq, B_ne, B_row, I_eq, I_ne, J_eq, J_ne, Option.bind_some, Option.some.injEq, if_true, if_false, eq_self, true_or, or_true, true_and, and_true, false_or, or_false, not_true_eq_false, not_false_eq_true, Classical.not_not, nar_b0, nar_b1, rz_0, rz_1, rz_i, ite01, Nat.add_zero, Nat.zero_add, Nat.one_mul, mul12, reduceIte, ra_z0, Nat.reduceEqDiff, Nat.reduceLT, Nat.reduceLeDiff, Nat.reduceAdd, Nat.reduceMul, Nat.reduceSub, Nat.reduceDiv, Nat.reduceMod, Bool.false_eq_true, false_and, and_false, reduceCtorEq, Nat.lt_irrefl]) n 0 N M (by omega) (by omega) hM
  exact this.1
theorem rTb_same {κ κ' : hk_T} {n nB : Nat} {g : Nat → Nat} {st : Nat → Nat → Nat} {dm : Nat → Nat} (h99 : ∀ i, i < n → hk_A κ' 99 i = n3 (g i)) (hB : nB ≤ 40) (hgB : ∀ i, i < n → g i < nB) (hdm : ∀ b, b < nB → hk_A κ' 71 (12 * b + 8) = n3 (dm b)) (h9 : ∀ b, dm b ≤ 9) (hst : ∀ i j, i < n → j < n → st i j = stp dm (hk_A κ' 71) (g i) (g j)) : rTb κ' n g st :=
  ⟨h99, fun N i j hi hj => by rw [hst i j hi hj]; exact r_apart N κ' hB (hgB i hi) (hgB j hj) hdm h9⟩
theorem r_table {st : Nat → Nat → Nat} {n : Nat} {g : Nat → Nat} (h0 : 0 < n) (hn : n ≤ 9) (hg : ∀ r, same [98] [] κ r → rTb r n g st) (h20 : ∀ i j, st i j ≤ 20) (hN : 1000 < N) :
    ∃ κ', nX12_rowAll_81 N N 69 (n3 n) (n3 (2 ^ n - 1)) (hp κ) = some (hp κ') ∧ same [98] [] κ κ' ∧ ∀ s l, 0 < s → s < 2 ^ n → l < n → hk_A κ' 98 (9 * s + l) = n3 (rsT n st s l) := by
  have h2 : 2 ^ n ≤ 2 ^ 9 := Nat.pow_le_pow_right (by omega) hn
  have hp0 := Nat.two_pow_pos n
  have h10 := rsT_le n st h20 hn
  obtain ⟨m', s', e, i1, i2⟩ := lpx (fun m i (s : hk_T) => nX12_rowAll_81 N m 69 (n3 n) (n3 (2 ^ n - 1 - i)) (hp s)) (2 ^ n - 1) (fun i r => same [98] [] κ r ∧ ∀ s l, 2 ^ n - 1 - i < s → s < 2 ^ n → l < n → hk_A r 98 (9 * s + l) = n3 (rsT n st s l)) (by
    rintro m i r hi ⟨i1, i2⟩
    obtain ⟨s, hs⟩ : ∃ s, s = 2 ^ n - 1 - i := ⟨_, rfl⟩
    have hs1 : 0 < s := by omega
    have hs2 : s < 2 ^ n := by omega
    have hs3 : 2 ^ n - 1 - (i + 1) = s - 1 := by omega
    rw [hs3, ← hs]
    rw [← hs] at i2
    obtain ⟨m'', s'', e', k1, k2⟩ := lpx (fun m' l (r' : hk_T) => nX12_rowAll_87 N (nX12_rowAll_81 N m) m' 69 (n3 n) (n3 s) (n3 l) (hp r')) n (fun l r' => same [98] [] κ r' ∧ ∀ s' l', s < s' ∨ s = s' ∧ l' < l → s' < 2 ^ n → l' < n → hk_A r' 98 (9 * s' + l') = n3 (rsT n st s' l')) (by
      rintro m' l r' hl ⟨k1, k2⟩
      have hr : ∀ k, k < n → ¬ s.testBit k = true → hk_A r' 98 (9 * (s ||| 2 ^ k) + k) = n3 (rsT n st (s ||| 2 ^ k) k) := fun k hk hc => k2 _ _ (Or.inl (or_gt hc)) (or_lt hs2 hk) hk
      have er := rsT_eq n st (l := l) hs2
      unfold chF at er
      refine ⟨hk_wA r' 98 (9 * s + l) (n3 (rsT n st s l)), ?_, k1.wA (by decide), ?_⟩
      · rw [nX12_rowAll_87]
        by_cases cf : s = 2 ^ n - 1
        · have rc := r_cell N r' (M := 0) (nX12_rowAll_81 N m) (nX12_rowAll_87 N (nX12_rowAll_81 N m) m') hn hs2 hl (hg r' k1) h20 hr (by omega) hN
          have nk : ∀ k, k < n → ¬ ¬ s.testBit k = true := fun k hk z => z (by rw [cf]; exact full_bit hk)
          have e0 : fo (mnS (fun k => st l k + rsT n st (s ||| 2 ^ k) k) (fun k => ¬ s.testBit k = true)) 0 n 0 = rsT n st s l := by
            have ek : ∀ j, j ≤ n → fo (mnS (fun k => st l k + rsT n st (s ||| 2 ^ k) k) (fun k => ¬ s.testBit k = true)) 0 j 0 = 0 := by
              intro j
              induction j with
              | zero => intro _; rfl
              | succ j ih =>
                intro hj
                rw [fo_last, ih (by omega), Nat.zero_add]
                unfold mnS
                exact if_neg (nk j (by omega))
            rw [ek n (Nat.le_refl _), er]
            rcases nr_min (fun k => st l k + rsT n st (s ||| 2 ^ k) k) (fun k => ¬ s.testBit k = true) n (by omega) with ⟨e1, -⟩ | ⟨b, hb, hc, e1, -⟩
            · rw [e1]
            · exact absurd hc (nk b hb)
          rw [e0] at rc
          simp (maxSteps := 400000) (disch := omega) only [n3_l, n3_add, n3_mul, n3_sub, n3_subn, n3_lt, n3_le, n3_eq, n3_eqn, n3_neq, n3_and, n3_or, n3_shl, n3_i, n3_cl, ↓hbd_0, ↓hbd_1, ↓hbd_2, hk_ob_0, hk_rd_0, hk_rd_1, hk_rd_2, hk_al_0, hk_al_1, h3r_0, h3r_1, hk_wi_0, hk_wj_0, h3w_0, h3w_1, h3v_0, hk_kI, hk_kJ, hk_kA, hk_kB, A_eq, A_ne, A_row, B_eq, B_ne, B_row, I_eq, I_ne, J_eq, J_ne, Option.bind_some, Option.some.injEq, if_true, if_false, eq_self, true_or, or_true, true_and, and_true, false_or, or_false, not_true_eq_false, not_false_eq_true, Classical.not_not, nar_b0, nar_b1, rz_0, rz_1, rz_i, ite01, Nat.add_zero, Nat.zero_add, Nat.one_mul, mul12, reduceIte, ra_z0, Nat.reduceEqDiff, Nat.reduceLT, Nat.reduceLeDiff, Nat.reduceAdd, Nat.reduceMul, Nat.reduceSub, Nat.reduceDiv, Nat.reduceMod, Bool.false_eq_true, false_and, and_false, reduceCtorEq, hl, n3_shl, cf, nX12_rowAll_61, nX12_rowAll_181, nX12_rowAll_179, nX12_rowAll_108, nX12_rowAll_0]
          rw [← cf]
          exact rc
        · have rc := r_cell N r' (M := 1000000) (nX12_rowAll_81 N m) (nX12_rowAll_87 N (nX12_rowAll_81 N m) m') hn hs2 hl (hg r' k1) h20 hr (by omega) hN
          have e0 : fo (mnS (fun k => st l k + rsT n st (s ||| 2 ^ k) k) (fun k => ¬ s.testBit k = true)) 0 n 1000000 = rsT n st s l := by
            rw [mn_nr _ _ _ (fun k => by have := h20 l k; have := h10 (s ||| 2 ^ k) k; omega) n (by omega), er]
            rcases nr_min (fun k => st l k + rsT n st (s ||| 2 ^ k) k) (fun k => ¬ s.testBit k = true) n (by omega) with ⟨-, e1⟩ | ⟨b, hb, hc, e1, -⟩
            · obtain ⟨k, k1, k2⟩ := not_full hs2 cf
              exact absurd k2 (e1 k k1)
            · have nb : ¬ n3 b = -n3 1 := fun z => (n3_eqn (by omega) (by omega) (by omega)).mp z
              rw [e1]
              exact if_neg nb
          rw [e0] at rc
          simp (maxSteps := 400000) (disch := omega) only [n3_l, n3_add, n3_mul, n3_sub, n3_subn, n3_lt, n3_le, n3_eq, n3_eqn, n3_neq, n3_and, n3_or, n3_shl, n3_i, n3_cl, ↓hbd_0, ↓hbd_1, ↓hbd_2, hk_ob_0, hk_rd_0, hk_rd_1, hk_rd_2, hk_al_0, hk_al_1, h3r_0, h3r_1, hk_wi_0, hk_wj_0, h3w_0, h3w_1, h3v_0, hk_kI, hk_kJ, hk_kA, hk_kB, A_eq, A_ne, A_row, B_eq, B_ne, B_row, I_eq, I_ne, J_eq, J_ne, Option.bind_some, Option.some.injEq, if_true, if_false, eq_self, true_or, or_true, true_and, and_true, false_or, or_false, not_true_eq_false, not_false_eq_true, Classical.not_not, nar_b0, nar_b1, rz_0, rz_1, rz_i, ite01, Nat.add_zero, Nat.zero_add, Nat.one_mul, mul12, reduceIte, ra_z0, Nat.reduceEqDiff, Nat.reduceLT, Nat.reduceLeDiff, Nat.reduceAdd, Nat.reduceMul, Nat.reduceSub, Nat.reduceDiv, Nat.reduceMod, Bool.false_eq_true, false_and, and_false, reduceCtorEq, hl, n3_shl, cf, nX12_rowAll_61, nX12_rowAll_181, nX12_rowAll_179, nX12_rowAll_108, nX12_rowAll_0]
          exact rc
      · intro s' l' h a1 a2
        by_cases q : 9 * s' + l' = 9 * s + l
        · have : s' = s ∧ l' = l := by omega
          rw [this.1, this.2, A_eq rfl]
        · rw [A_ne (Or.inr q)]
          exact k2 s' l' (by omega) a1 a2) n 0 N r (by omega) (by omega) ⟨i1, fun s' l' h a1 a2 => i2 s' l' (by omega) a1 a2⟩
    refine ⟨s'', ?_, k1, fun s' l' h a1 a2 => k2 s' l' (by omega) a1 a2⟩
    have hs0 : ¬ s ≤ 0 := by omega
    rw [nX12_rowAll_81]
    simp (maxSteps := 400000) (disch := omega) only [n3_l, n3_add, n3_mul, n3_sub, n3_subn, n3_lt, n3_le, n3_eq, n3_eqn, n3_neq, n3_and, n3_or, n3_shl, n3_i, n3_cl, ↓hbd_0, ↓hbd_1, ↓hbd_2, hk_ob_0, hk_rd_0, hk_rd_1, hk_rd_2, hk_al_0, hk_al_1, h3r_0, h3r_1, hk_wi_0, hk_wj_0, h3w_0, h3w_1, h3v_0, hk_kI, hk_kJ, hk_kA, hk_kB, A_eq, A_ne, A_row, B_eq, B_ne, B_row, I_eq, I_ne, J_eq, J_ne, Option.bind_some, Option.some.injEq, if_true, if_false, eq_self, true_or, or_true, true_and, and_true, false_or, or_false, not_true_eq_false, not_false_eq_true, Classical.not_not, nar_b0, nar_b1, rz_0, rz_1, rz_i, ite01, Nat.add_zero, Nat.zero_add, Nat.one_mul, mul12, reduceIte, ra_z0, Nat.reduceEqDiff, Nat.reduceLT, Nat.reduceLeDiff, Nat.reduceAdd, Nat.reduceMul, Nat.reduceSub, Nat.reduceDiv, Nat.reduceMod, Bool.false_eq_true, false_and, and_false, reduceCtorEq, hs0]
    rw [e', nX12_rowAll_87]
    simp (maxSteps := 400000) (disch := omega) only [n3_l, n3_add, n3_mul, n3_sub, n3_subn, n3_lt, n3_le, n3_eq, n3_eqn, n3_neq, n3_and, n3_or, n3_shl, n3_i, n3_cl, ↓hbd_0, ↓hbd_1, ↓hbd_2, hk_ob_0, hk_rd_0, hk_rd_1, hk_rd_2, hk_al_0, hk_al_1, h3r_0, h3r_1, hk_wi_0, hk_wj_0, h3w_0, h3w_1, h3v_0, hk_kI, hk_kJ, hk_kA, hk_kB, A_eq, A_ne, A_row, B_eq, B_ne, B_row, I_eq, I_ne, J_eq, J_ne, Option.bind_some, Option.some.injEq, if_true, if_false, eq_self, true_or, or_true, true_and, and_true, false_or, or_false, not_true_eq_false, not_false_eq_true, Classical.not_not, nar_b0, nar_b1, rz_0, rz_1, rz_i, ite01, Nat.add_zero, Nat.zero_add, Nat.one_mul, mul12, reduceIte, ra_z0, Nat.reduceEqDiff, Nat.reduceLT, Nat.reduceLeDiff, Nat.reduceAdd, Nat.reduceMul, Nat.reduceSub, Nat.reduceDiv, Nat.reduceMod, Bool.false_eq_true, false_and, and_false, reduceCtorEq, Nat.lt_irrefl]) (2 ^ n - 1) 0 N κ (by omega) (by omega) ⟨same.refl _ _ _, fun s l h => by omega⟩
  rw [Nat.sub_zero, Nat.sub_self] at e
  refine ⟨s', ?_, i1, fun s l h a1 a2 => i2 s l (by omega) a1 a2⟩
  rw [e, nX12_rowAll_81]
  simp (maxSteps := 400000) (disch := omega) only [n3_l, n3_add, n3_mul, n3_sub, n3_subn, n3_lt, n3_le, n3_eq, n3_eqn, n3_neq, n3_and, n3_or, n3_shl, n3_i, n3_cl, ↓hbd_0, ↓hbd_1, ↓hbd_2, hk_ob_0, hk_rd_0, hk_rd_1, hk_rd_2, hk_al_0, hk_al_1, h3r_0, h3r_1, hk_wi_0, hk_wj_0, h3w_0, h3w_1, h3v_0, hk_kI, hk_kJ, hk_kA, hk_kB, A_eq, A_ne, A_row, B_eq, B_ne, B_row, I_eq, I_ne, J_eq, J_ne, Option.bind_some, Option.some.injEq, if_true, if_false, eq_self, true_or, or_true, true_and, and_true, false_or, or_false, not_true_eq_false, not_false_eq_true, Classical.not_not, nar_b0, nar_b1, rz_0, rz_1, rz_i, ite01, Nat.add_zero, Nat.zero_add, Nat.one_mul, mul12, reduceIte, ra_z0, Nat.reduceEqDiff, Nat.reduceLT, Nat.reduceLeDiff, Nat.reduceAdd, Nat.reduceMul, Nat.reduceSub, Nat.reduceDiv, Nat.reduceMod, Bool.false_eq_true, false_and, and_false, reduceCtorEq, Nat.le_refl]
end
