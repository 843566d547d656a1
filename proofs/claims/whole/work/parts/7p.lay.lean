/-! the row is laid out -/
theorem and_bit {s k : Nat} : s &&& 2 ^ k = 0 ↔ ¬ s.testBit k = true := by
  constructor
  · intro h z
    have h1 : (s &&& 2 ^ k).testBit k = true := by rw [Nat.testBit_and, Nat.testBit_two_pow, z, decide_eq_true rfl]; rfl
    rw [h, Nat.zero_testBit] at h1
    cases h1
  · intro h
    apply Nat.eq_of_testBit_eq
    intro j
    rw [Nat.testBit_and, Nat.testBit_two_pow, Nat.zero_testBit]
    by_cases e : k = j
    · subst e; simp at h; rw [h]; rfl
    · rw [decide_eq_false e, Bool.and_false]
theorem bit_and {s k : Nat} (hs : s < 2147483648) : n3 (s &&& 2 ^ k) = n3 0 ↔ ¬ s.testBit k = true := by
  have h1 : s &&& 2 ^ k ≤ s := Nat.and_le_left
  rw [n3_eq (by omega) (by omega)]
  exact and_bit
theorem n3_shr {s k : Nat} (hs : s < 2147483648) (hk : k < 31) : n3 s >>> n3 (k &&& 31) = n3 (s >>> k) := by
  have h : ∀ k, k < 31 → (n3 (k &&& 31)).toBitVec.smod 32 = BitVec.ofNat 32 k := by decide
  have e1 : (BitVec.ofNat 32 k).toNat = k := by rw [BitVec.toNat_ofNat]; omega
  have hle : s >>> k ≤ s := by rw [Nat.shiftRight_eq_div_pow]; exact Nat.div_le_self _ _
  apply Int32.toBitVec_inj.mp
  rw [Int32.toBitVec_shiftRight, h k hk, BitVec.sshiftRight_eq', e1]
  show (BitVec.ofNat 32 s).sshiftRight k = BitVec.ofNat 32 (s >>> k)
  have e2 : (BitVec.ofNat 32 s).msb = false := by
    rw [BitVec.msb_eq_false_iff_two_mul_lt, BitVec.toNat_ofNat]; omega
  rw [BitVec.sshiftRight_eq_of_msb_false e2]
  apply BitVec.eq_of_toNat_eq
  rw [BitVec.toNat_ushiftRight, BitVec.toNat_ofNat, BitVec.toNat_ofNat, Nat.mod_eq_of_lt (by omega), Nat.mod_eq_of_lt (by omega)]
theorem bit_shr {s k : Nat} (hs : s < 2147483648) : n3 (s >>> k &&& 1) = n3 0 ↔ ¬ s.testBit k = true := by
  have h1 : s >>> k &&& 1 ≤ 1 := Nat.and_le_right
  rw [n3_eq (by omega) (by omega)]
  unfold Nat.testBit
  rw [Nat.and_comm]
  simp
section
variable (N : Nat) (κ : hk_T)
theorem c_cheapestAfter {st t : Nat → Nat → Nat} {n s l : Nat} (hS : hk_I κ 1 16 = n3 n) (hn : n ≤ 9) (hs : s < 2 ^ n) (hl : l < n) (hst : ∀ i j, i < n → j < n → hk_A κ 63 (9 * i + j) = n3 (st i j)) (ht : ∀ k, k < n → ¬ s.testBit k = true → hk_A κ 64 (9 * (s ||| 2 ^ k) + k) = n3 (t (s ||| 2 ^ k) k)) (h20 : ∀ i j, st i j ≤ 20) (h10 : ∀ s k, t s k ≤ 10240) (hN : 1000 < N) : fX6_cheapestAfter N 61 (n3 s) (n3 l) (hp κ) = some ((chF n st t s l).1, hp κ) := by
  unfold fX6_cheapestAfter nX6_cheapestAfter_0
  simp (maxSteps := 400000) (disch := omega) only [n3_l, n3_add, n3_mul, n3_sub, n3_subn, n3_lt, n3_le, n3_eq, n3_eqn, n3_neq, n3_and, n3_or, n3_shl, n3_i, n3_cl, ↓hbd_0, ↓hbd_1, ↓hbd_2, hk_ob_0, hk_rd_0, hk_rd_1, hk_rd_2, hk_al_0, hk_al_1, h3r_0, h3r_1, hk_wi_0, hk_wj_0, h3w_0, h3w_1, h3v_0, hk_kI, hk_kJ, hk_kA, hk_kB, A_eq, A_ne, A_row, B_eq, B_ne, B_row, I_eq, I_ne, J_eq, J_ne, Option.bind_some, Option.some.injEq, if_true, if_false, eq_self, true_or, or_true, true_and, and_true, false_or, or_false, not_true_eq_false, not_false_eq_true, Classical.not_not, nar_b0, nar_b1, rz_0, rz_1, rz_i, ite01, Nat.add_zero, Nat.zero_add, Nat.one_mul, mul12, reduceIte, ra_z0, Nat.reduceEqDiff, Nat.reduceLT, Nat.reduceLeDiff, Nat.reduceAdd, Nat.reduceMul, Nat.reduceSub, Nat.reduceDiv, Nat.reduceMod, Bool.false_eq_true, false_and, and_false, reduceCtorEq]
  have h2 : 2 ^ n ≤ 2 ^ 9 := Nat.pow_le_pow_right (by omega) hn
  have := lp (fun m k (q : Int32 × Nat) => nX6_cheapestAfter_8 N m 61 (n3 s) (n3 l) q.1 (n3 q.2) (n3 k) (hp κ)) n (nrS (fun k => st l k + t (s ||| 2 ^ k) k) (fun k => ¬ s.testBit k = true)) (fun q => some (q.1, hp κ)) (fun _ q => q.2 ≤ 20000) (by
    intro m k q hk hI
    have u1 := h20 l k
    have u2 := h10 (s ||| 2 ^ k) k
    constructor
    · by_cases c : s.testBit k = true
      · have hq : nrS (fun k => st l k + t (s ||| 2 ^ k) k) (fun k => ¬ s.testBit k = true) k q = q := by unfold nrS; exact if_neg (fun z => z c)
        rw [hq, nX6_cheapestAfter_8]
        simp (maxSteps := 400000) (disch := omega) only [n3_l, n3_add, n3_mul, n3_sub, n3_subn, n3_lt, n3_le, n3_eq, n3_eqn, n3_neq, n3_and, n3_or, n3_shl, n3_i, n3_cl, ↓hbd_0, ↓hbd_1, ↓hbd_2, hk_ob_0, hk_rd_0, hk_rd_1, hk_rd_2, hk_al_0, hk_al_1, h3r_0, h3r_1, hk_wi_0, hk_wj_0, h3w_0, h3w_1, h3v_0, hk_kI, hk_kJ, hk_kA, hk_kB, A_eq, A_ne, A_row, B_eq, B_ne, B_row, I_eq, I_ne, J_eq, J_ne, Option.bind_some, Option.some.injEq, if_true, if_false, eq_self, true_or, or_true, true_and, and_true, false_or, or_false, not_true_eq_false, not_false_eq_true, Classical.not_not, nar_b0, nar_b1, rz_0, rz_1, rz_i, ite01, Nat.add_zero, Nat.zero_add, Nat.one_mul, mul12, reduceIte, ra_z0, Nat.reduceEqDiff, Nat.reduceLT, Nat.reduceLeDiff, Nat.reduceAdd, Nat.reduceMul, Nat.reduceSub, Nat.reduceDiv, Nat.reduceMod, Bool.false_eq_true, false_and, and_false, reduceCtorEq, hS, hk, n3_shl, bit_and, c, nX6_cheapestAfter_58]
      · have hlt := or_lt hs hk
        have v1 := hst l k hl hk
        have v2 := ht k hk c
        have i1 : l * 9 + k = 9 * l + k := by omega
        have i2 : (s ||| 2 ^ k) * 9 + k = 9 * (s ||| 2 ^ k) + k := by omega
        have hq : nrS (fun k => st l k + t (s ||| 2 ^ k) k) (fun k => ¬ s.testBit k = true) k q = if q.1 = -n3 1 ∨ st l k + t (s ||| 2 ^ k) k < q.2 then (n3 k, st l k + t (s ||| 2 ^ k) k) else q := by unfold nrS; exact if_pos c
        rw [hq, nX6_cheapestAfter_8]
        simp (maxSteps := 400000) (disch := omega) only [n3_l, n3_add, n3_mul, n3_sub, n3_subn, n3_lt, n3_le, n3_eq, n3_eqn, n3_neq, n3_and, n3_or, n3_shl, n3_i, n3_cl, ↓hbd_0, ↓hbd_1, ↓hbd_2, hk_ob_0, hk_rd_0, hk_rd_1, hk_rd_2, hk_al_0, hk_al_1, h3r_0, h3r_1, hk_wi_0, hk_wj_0, h3w_0, h3w_1, h3v_0, hk_kI, hk_kJ, hk_kA, hk_kB, A_eq, A_ne, A_row, B_eq, B_ne, B_row, I_eq, I_ne, J_eq, J_ne, Option.bind_some, Option.some.injEq, if_true, if_false, eq_self, true_or, or_true, true_and, and_true, false_or, or_false, not_true_eq_false, not_false_eq_true, Classical.not_not, nar_b0, nar_b1, rz_0, rz_1, rz_i, ite01, Nat.add_zero, Nat.zero_add, Nat.one_mul, mul12, reduceIte, ra_z0, Nat.reduceEqDiff, Nat.reduceLT, Nat.reduceLeDiff, Nat.reduceAdd, Nat.reduceMul, Nat.reduceSub, Nat.reduceDiv, Nat.reduceMod, Bool.false_eq_true, false_and, and_false, reduceCtorEq, hS, hk, n3_shl, bit_and, c, fX6_costOf, nX6_costOf_0, i1, i2, v1, v2, nX6_cheapestAfter_58, nX6_cheapestAfter_51, nX6_cheapestAfter_0]
        by_cases z : q.1 = -n3 1 <;> by_cases y : st l k + t (s ||| 2 ^ k) k < q.2 <;> simp (maxSteps := 400000) (disch := omega) only [n3_l, n3_add, n3_mul, n3_sub, n3_subn, n3_lt, n3_le, n3_eq, n3_eqn, n3_neq, n3_and, n3_or, n3_shl, n3_i, n3_cl, ↓hbd_0, ↓hbd_1, ↓hbd_2, hk_ob_0, hk_rd_0, hk_rd_1, hk_rd_2, hk_al_0, hk_al_1, h3r_0, h3r_1, hk_wi_0, hk_wj_0, h3w_0, h3w_1, h3v_0, hk_kI, hk_kJ, hk_kA, hk_kB, A_eq, A_ne, A_row, B_eq, B_ne, B_row, I_eq, I_ne, J_eq, J_ne, Option.bind_some, Option.some.injEq, if_true, if_false, eq_self, true_or, or_true, true_and, and_true, false_or, or_false, not_true_eq_false, not_false_eq_true, Classical.not_not, nar_b0, nar_b1, rz_0, rz_1, rz_i, ite01, Nat.add_zero, Nat.zero_add, Nat.one_mul, mul12, reduceIte, ra_z0, Nat.reduceEqDiff, Nat.reduceLT, Nat.reduceLeDiff, Nat.reduceAdd, Nat.reduceMul, Nat.reduceSub, Nat.reduceDiv, Nat.reduceMod, Bool.false_eq_true, false_and, and_false, reduceCtorEq, z, y]
    · unfold nrS
      split
      · split
        · dsimp only; omega
        · exact hI
      · exact hI) (by
    intro m q hI
    rw [nX6_cheapestAfter_8]
    simp (maxSteps := 400000) (disch := omega) only [n3_l, n3_add, n3_mul, n3_sub, n3_subn, n3_lt, n3_le, n3_eq, n3_eqn, n3_neq, n3_and, n3_or, n3_shl, n3_i, n3_cl, ↓hbd_0, ↓hbd_1, ↓hbd_2, hk_ob_0, hk_rd_0, hk_rd_1, hk_rd_2, hk_al_0, hk_al_1, h3r_0, h3r_1, hk_wi_0, hk_wj_0, h3w_0, h3w_1, h3v_0, hk_kI, hk_kJ, hk_kA, hk_kB, A_eq, A_ne, A_row, B_eq, B_ne, B_row, I_eq, I_ne, J_eq, J_ne, Option.bind_some, Option.some.injEq, if_true, if_false, eq_self, true_or, or_true, true_and, and_true, false_or, or_false, not_true_eq_false, not_false_eq_true, Classical.not_not, nar_b0, nar_b1, rz_0, rz_1, rz_i, ite01, Nat.add_zero, Nat.zero_add, Nat.one_mul, mul12, reduceIte, ra_z0, Nat.reduceEqDiff, Nat.reduceLT, Nat.reduceLeDiff, Nat.reduceAdd, Nat.reduceMul, Nat.reduceSub, Nat.reduceDiv, Nat.reduceMod, Bool.false_eq_true, false_and, and_false, reduceCtorEq, hS, Nat.lt_irrefl]) n 0 N (-n3 1, 0) (by omega) (by omega) (by dsimp only; omega)
  exact this.1
theorem c_rests {st : Nat → Nat → Nat} {n : Nat} (hS : hk_I κ 1 16 = n3 n) (hn : n ≤ 9) (hst : ∀ i j, i < n → j < n → hk_A κ 63 (9 * i + j) = n3 (st i j)) (h20 : ∀ i j, st i j ≤ 20) (hN : 1000 < N) :
    ∃ κ', nX6_layOut_33 N N 61 (n3 (2 ^ n - 1)) (hp κ) = (fX6_takeFirstRow N 61 (hp κ')).bind some ∧ same [64] [] κ κ' ∧ ∀ s l, 0 < s → s < 2 ^ n → l < n → s.testBit l = true → hk_A κ' 64 (9 * s + l) = n3 (rsT n st s l) := by
  have h2 : 2 ^ n ≤ 2 ^ 9 := Nat.pow_le_pow_right (by omega) hn
  have h0 := Nat.two_pow_pos n
  have h10 := rsT_le n st h20 hn
  obtain ⟨m', s', e, i1, i2⟩ := lpx (fun m i (s : hk_T) => nX6_layOut_33 N m 61 (n3 (2 ^ n - 1 - i)) (hp s)) (2 ^ n - 1) (fun i r => same [64] [] κ r ∧ ∀ s l, 2 ^ n - 1 - i < s → s < 2 ^ n → l < n → s.testBit l = true → hk_A r 64 (9 * s + l) = n3 (rsT n st s l)) (by
    rintro m i r hi ⟨i1, i2⟩
    obtain ⟨s, hs⟩ : ∃ s, s = 2 ^ n - 1 - i := ⟨_, rfl⟩
    have hs1 : 0 < s := by omega
    have hs2 : s < 2 ^ n := by omega
    have hs3 : 2 ^ n - 1 - (i + 1) = s - 1 := by omega
    rw [hs3, ← hs]
    rw [← hs] at i2
    obtain ⟨m'', s'', e', k1, k2⟩ := lpx (fun m' l (r' : hk_T) => nX6_layOut_39 N (nX6_layOut_33 N m) m' 61 (n3 s) (n3 l) (hp r')) n (fun l r' => same [64] [] κ r' ∧ ∀ s' l', s < s' ∨ s = s' ∧ l' < l → s' < 2 ^ n → l' < n → s'.testBit l' = true → hk_A r' 64 (9 * s' + l') = n3 (rsT n st s' l')) (by
      rintro m' l r' hl ⟨k1, k2⟩
      have hS' : hk_I r' 1 16 = n3 n := by rw [k1.2.2.1 1 16 (by decide)]; exact hS
      by_cases c : s.testBit l = true
      · have ca := c_cheapestAfter N r' (st := st) (t := rsT n st) (s := s) (l := l) hS' hn hs2 hl (by rw [k1.1 63 (by decide)]; exact hst) (fun k hk hc => by
          have g1 := or_gt hc
          have g2 := or_lt hs2 hk
          exact k2 _ _ (Or.inl g1) g2 hk (by rw [tb_or, decide_eq_true rfl, Bool.or_true])) h20 h10 hN
        have er := rsT_eq n st (l := l) hs2
        have hv := h10 s l
        refine ⟨hk_wA r' 64 (9 * s + l) (n3 (rsT n st s l)), ?_, k1.wA (by decide), ?_⟩
        · rw [nX6_layOut_39]
          have i3 : s * 9 + l = 9 * s + l := by omega
          rcases nr_min (fun k => st l k + rsT n st (s ||| 2 ^ k) k) (fun k => ¬ s.testBit k = true) n (by omega) with ⟨e1, -⟩ | ⟨b, hb, hc, e1, -⟩
          · unfold chF at ca er
            rw [e1] at ca er
            dsimp only at ca er
            simp (maxSteps := 400000) (disch := omega) only [n3_l, n3_add, n3_mul, n3_sub, n3_subn, n3_lt, n3_le, n3_eq, n3_eqn, n3_neq, n3_and, n3_or, n3_shl, n3_i, n3_cl, ↓hbd_0, ↓hbd_1, ↓hbd_2, hk_ob_0, hk_rd_0, hk_rd_1, hk_rd_2, hk_al_0, hk_al_1, h3r_0, h3r_1, hk_wi_0, hk_wj_0, h3w_0, h3w_1, h3v_0, hk_kI, hk_kJ, hk_kA, hk_kB, A_eq, A_ne, A_row, B_eq, B_ne, B_row, I_eq, I_ne, J_eq, J_ne, Option.bind_some, Option.some.injEq, if_true, if_false, eq_self, true_or, or_true, true_and, and_true, false_or, or_false, not_true_eq_false, not_false_eq_true, Classical.not_not, nar_b0, nar_b1, rz_0, rz_1, rz_i, ite01, Nat.add_zero, Nat.zero_add, Nat.one_mul, mul12, reduceIte, ra_z0, Nat.reduceEqDiff, Nat.reduceLT, Nat.reduceLeDiff, Nat.reduceAdd, Nat.reduceMul, Nat.reduceSub, Nat.reduceDiv, Nat.reduceMod, Bool.false_eq_true, false_and, and_false, reduceCtorEq, hS', hl, n3_shl, bit_and, c, ca, i3, nX6_layOut_92, nX6_layOut_91, nX6_layOut_0, er]
          · have g1 := or_gt hc
            have g2 := or_lt hs2 hb
            have w1 : hk_A r' 63 (9 * l + b) = n3 (st l b) := by rw [k1.1 63 (by decide)]; exact hst l b hl hb
            have w2 : hk_A r' 64 (9 * (s ||| 2 ^ b) + b) = n3 (rsT n st (s ||| 2 ^ b) b) := k2 _ _ (Or.inl g1) g2 hb (by rw [tb_or, decide_eq_true rfl, Bool.or_true])
            have j1 : l * 9 + b = 9 * l + b := by omega
            have j2 : (s ||| 2 ^ b) * 9 + b = 9 * (s ||| 2 ^ b) + b := by omega
            unfold chF at ca er
            rw [e1] at ca er
            dsimp only at ca er
            simp (maxSteps := 400000) (disch := omega) only [n3_l, n3_add, n3_mul, n3_sub, n3_subn, n3_lt, n3_le, n3_eq, n3_eqn, n3_neq, n3_and, n3_or, n3_shl, n3_i, n3_cl, ↓hbd_0, ↓hbd_1, ↓hbd_2, hk_ob_0, hk_rd_0, hk_rd_1, hk_rd_2, hk_al_0, hk_al_1, h3r_0, h3r_1, hk_wi_0, hk_wj_0, h3w_0, h3w_1, h3v_0, hk_kI, hk_kJ, hk_kA, hk_kB, A_eq, A_ne, A_row, B_eq, B_ne, B_row, I_eq, I_ne, J_eq, J_ne, Option.bind_some, Option.some.injEq, if_true, if_false, eq_self, true_or, or_true, true_and, and_true, false_or, or_false, not_true_eq_false, not_false_eq_true, Classical.not_not, nar_b0, nar_b1, rz_0, rz_1, rz_i, ite01, Nat.add_zero, Nat.zero_add, Nat.one_mul, mul12, reduceIte, ra_z0, Nat.reduceEqDiff, Nat.reduceLT, Nat.reduceLeDiff, Nat.reduceAdd, Nat.reduceMul, Nat.reduceSub, Nat.reduceDiv, Nat.reduceMod, Bool.false_eq_true, false_and, and_false, reduceCtorEq, hS', hl, n3_shl, bit_and, c, ca, i3, nX6_layOut_92, nX6_layOut_91, nX6_layOut_0, fX6_costOf, nX6_costOf_0, j1, j2, w1, w2, er]
        · intro s' l' h a1 a2 a3
          by_cases q : 9 * s' + l' = 9 * s + l
          · have : s' = s ∧ l' = l := by omega
            rw [this.1, this.2, A_eq rfl]
          · rw [A_ne (Or.inr q)]
            exact k2 s' l' (by omega) a1 a2 a3
      · refine ⟨r', ?_, k1, ?_⟩
        · rw [nX6_layOut_39]
          simp (maxSteps := 400000) (disch := omega) only [n3_l, n3_add, n3_mul, n3_sub, n3_subn, n3_lt, n3_le, n3_eq, n3_eqn, n3_neq, n3_and, n3_or, n3_shl, n3_i, n3_cl, ↓hbd_0, ↓hbd_1, ↓hbd_2, hk_ob_0, hk_rd_0, hk_rd_1, hk_rd_2, hk_al_0, hk_al_1, h3r_0, h3r_1, hk_wi_0, hk_wj_0, h3w_0, h3w_1, h3v_0, hk_kI, hk_kJ, hk_kA, hk_kB, A_eq, A_ne, A_row, B_eq, B_ne, B_row, I_eq, I_ne, J_eq, J_ne, Option.bind_some, Option.some.injEq, if_true, if_false, eq_self, true_or, or_true, true_and, and_true, false_or, or_false, not_true_eq_false, not_false_eq_true, Classical.not_not, nar_b0, nar_b1, rz_0, rz_1, rz_i, ite01, Nat.add_zero, Nat.zero_add, Nat.one_mul, mul12, reduceIte, ra_z0, Nat.reduceEqDiff, Nat.reduceLT, Nat.reduceLeDiff, Nat.reduceAdd, Nat.reduceMul, Nat.reduceSub, Nat.reduceDiv, Nat.reduceMod, Bool.false_eq_true, false_and, and_false, reduceCtorEq, hS', hl, n3_shl, bit_and, c, nX6_layOut_92, nX6_layOut_91, nX6_layOut_0]
        · intro s' l' h a1 a2 a3
          by_cases q : s = s' ∧ l' = l
          · rw [q.1.symm, q.2] at a3; exact absurd a3 c
          · exact k2 s' l' (by omega) a1 a2 a3) n 0 N r (by omega) (by omega) ⟨i1, fun s' l' h a1 a2 a3 => i2 s' l' (by omega) a1 a2 a3⟩
    refine ⟨s'', ?_, k1, fun s' l' h a1 a2 a3 => k2 s' l' (by omega) a1 a2 a3⟩
    have hs0 : ¬ s ≤ 0 := by omega
    rw [nX6_layOut_33]
    simp (maxSteps := 400000) (disch := omega) only [n3_l, n3_add, n3_mul, n3_sub, n3_subn, n3_lt, n3_le, n3_eq, n3_eqn, n3_neq, n3_and, n3_or, n3_shl, n3_i, n3_cl, ↓hbd_0, ↓hbd_1, ↓hbd_2, hk_ob_0, hk_rd_0, hk_rd_1, hk_rd_2, hk_al_0, hk_al_1, h3r_0, h3r_1, hk_wi_0, hk_wj_0, h3w_0, h3w_1, h3v_0, hk_kI, hk_kJ, hk_kA, hk_kB, A_eq, A_ne, A_row, B_eq, B_ne, B_row, I_eq, I_ne, J_eq, J_ne, Option.bind_some, Option.some.injEq, if_true, if_false, eq_self, true_or, or_true, true_and, and_true, false_or, or_false, not_true_eq_false, not_false_eq_true, Classical.not_not, nar_b0, nar_b1, rz_0, rz_1, rz_i, ite01, Nat.add_zero, Nat.zero_add, Nat.one_mul, mul12, reduceIte, ra_z0, Nat.reduceEqDiff, Nat.reduceLT, Nat.reduceLeDiff, Nat.reduceAdd, Nat.reduceMul, Nat.reduceSub, Nat.reduceDiv, Nat.reduceMod, Bool.false_eq_true, false_and, and_false, reduceCtorEq, hs0]
    rw [e', nX6_layOut_39]
    simp (maxSteps := 400000) (disch := omega) only [n3_l, n3_add, n3_mul, n3_sub, n3_subn, n3_lt, n3_le, n3_eq, n3_eqn, n3_neq, n3_and, n3_or, n3_shl, n3_i, n3_cl, ↓hbd_0, ↓hbd_1, ↓hbd_2, hk_ob_0, hk_rd_0, hk_rd_1, hk_rd_2, hk_al_0, hk_al_1, h3r_0, h3r_1, hk_wi_0, hk_wj_0, h3w_0, h3w_1, h3v_0, hk_kI, hk_kJ, hk_kA, hk_kB, A_eq, A_ne, A_row, B_eq, B_ne, B_row, I_eq, I_ne, J_eq, J_ne, Option.bind_some, Option.some.injEq, if_true, if_false, eq_self, true_or, or_true, true_and, and_true, false_or, or_false, not_true_eq_false, not_false_eq_true, Classical.not_not, nar_b0, nar_b1, rz_0, rz_1, rz_i, ite01, Nat.add_zero, Nat.zero_add, Nat.one_mul, mul12, reduceIte, ra_z0, Nat.reduceEqDiff, Nat.reduceLT, Nat.reduceLeDiff, Nat.reduceAdd, Nat.reduceMul, Nat.reduceSub, Nat.reduceDiv, Nat.reduceMod, Bool.false_eq_true, false_and, and_false, reduceCtorEq, k1.2.2.1 1 16 (by decide), hS, Nat.lt_irrefl]) (2 ^ n - 1) 0 N κ (by omega) (by omega) ⟨same.refl _ _ _, fun s l h => by omega⟩
  rw [Nat.sub_zero, Nat.sub_self] at e
  refine ⟨s', ?_, i1, fun s l h a1 a2 a3 => i2 s l (by omega) a1 a2 a3⟩
  rw [e, nX6_layOut_33]
  simp (maxSteps := 400000) (disch := omega) only [n3_l, n3_add, n3_mul, n3_sub, n3_subn, n3_lt, n3_le, n3_eq, n3_eqn, n3_neq, n3_and, n3_or, n3_shl, n3_i, n3_cl, ↓hbd_0, ↓hbd_1, ↓hbd_2, hk_ob_0, hk_rd_0, hk_rd_1, hk_rd_2, hk_al_0, hk_al_1, h3r_0, h3r_1, hk_wi_0, hk_wj_0, h3w_0, h3w_1, h3v_0, hk_kI, hk_kJ, hk_kA, hk_kB, A_eq, A_ne, A_row, B_eq, B_ne, B_row, I_eq, I_ne, J_eq, J_ne, Option.bind_some, Option.some.injEq, if_true, if_false, eq_self, true_or, or_true, true_and, and_true, false_or, or_false, not_true_eq_false, not_false_eq_true, Classical.not_not, nar_b0, nar_b1, rz_0, rz_1, rz_i, ite01, Nat.add_zero, Nat.zero_add, Nat.one_mul, mul12, reduceIte, ra_z0, Nat.reduceEqDiff, Nat.reduceLT, Nat.reduceLeDiff, Nat.reduceAdd, Nat.reduceMul, Nat.reduceSub, Nat.reduceDiv, Nat.reduceMod, Bool.false_eq_true, false_and, and_false, reduceCtorEq, Nat.le_refl]
/-- the first is found: loop from 1 -/
theorem fo_first {σ : Type} (st : Nat → σ → σ) (s : σ) : ∀ n, fo st 0 (n + 1) s = fo st 1 n (st 0 s) := by
  intro n; rfl
/-- who comes as the i-th -/
def paN (n : Nat) (st : Nat → Nat → Nat) (i : Nat) : Nat := (paT n st i).2.toInt.toNat
theorem paT_paN {n : Nat} {st : Nat → Nat → Nat} (hn : n ≤ 9) {i : Nat} (hi : i < n) : paN n st i < n ∧ (paT n st i).2 = n3 (paN n st i) ∧ (paT n st i).1 < 2 ^ n ∧ ¬ (paT n st i).1.testBit (paN n st i) = true := by
  obtain ⟨b, h1, h2, h3, h4, -⟩ := paT_ok (st := st) hn i hi
  have eb : paN n st i = b := by unfold paN; rw [h2, n3_toInt (by omega)]; rfl
  rw [eb]
  exact ⟨h1, h2, h3, h4⟩
theorem paT_succ (n : Nat) (st : Nat → Nat → Nat) (i : Nat) : paT n st (i + 1) = ((paT n st i).1 ||| 2 ^ paN n st i, (chF n st (rsT n st) ((paT n st i).1 ||| 2 ^ paN n st i) (paN n st i)).1) := rfl
def lay (κ : hk_T) (n : Nat) (st : Nat → Nat → Nat) (g : Nat → Nat) : Prop := hk_I κ 61 6 = n3 (fsT n st).2 ∧ ∀ i, i < n → hk_A κ 65 i = n3 (g (paN n st i))
theorem tb_self (k : Nat) : (2 ^ k).testBit k = true := by rw [Nat.testBit_two_pow, decide_eq_true rfl]
theorem c_takeFirstRow {st : Nat → Nat → Nat} {n : Nat} {g : Nat → Nat} (hS : hk_I κ 1 16 = n3 n) (h0 : 0 < n) (hn : n ≤ 9) (hg : ∀ i, i < n → hk_A κ 62 i = n3 (g i)) (hst : ∀ i j, i < n → j < n → hk_A κ 63 (9 * i + j) = n3 (st i j)) (hr : ∀ s l, 0 < s → s < 2 ^ n → l < n → s.testBit l = true → hk_A κ 64 (9 * s + l) = n3 (rsT n st s l)) (h20 : ∀ i j, st i j ≤ 20) (hN : 1000 < N) :
    ∃ κ', fX6_takeFirstRow N 61 (hp κ) = some (hp κ') ∧ same [65] [(61, 6)] κ κ' ∧ lay κ' n st g := by
  have h10 := rsT_le n st h20 hn
  unfold fX6_takeFirstRow nX6_takeFirstRow_0
  simp (maxSteps := 400000) (disch := omega) only [n3_l, n3_add, n3_mul, n3_sub, n3_subn, n3_lt, n3_le, n3_eq, n3_eqn, n3_neq, n3_and, n3_or, n3_shl, n3_i, n3_cl, ↓hbd_0, ↓hbd_1, ↓hbd_2, hk_ob_0, hk_rd_0, hk_rd_1, hk_rd_2, hk_al_0, hk_al_1, h3r_0, h3r_1, hk_wi_0, hk_wj_0, h3w_0, h3w_1, h3v_0, hk_kI, hk_kJ, hk_kA, hk_kB, A_eq, A_ne, A_row, B_eq, B_ne, B_row, I_eq, I_ne, J_eq, J_ne, Option.bind_some, Option.some.injEq, if_true, if_false, eq_self, true_or, or_true, true_and, and_true, false_or, or_false, not_true_eq_false, not_false_eq_true, Classical.not_not, nar_b0, nar_b1, rz_0, rz_1, rz_i, ite01, Nat.add_zero, Nat.zero_add, Nat.one_mul, mul12, reduceIte, ra_z0, Nat.reduceEqDiff, Nat.reduceLT, Nat.reduceLeDiff, Nat.reduceAdd, Nat.reduceMul, Nat.reduceSub, Nat.reduceDiv, Nat.reduceMod, Bool.false_eq_true, false_and, and_false, reduceCtorEq]
  have hv : ∀ k, k < n → hk_A κ 64 (9 * 2 ^ k + k) = n3 (rsT n st (2 ^ k) k) := fun k hk => hr _ _ (Nat.two_pow_pos k) (Nat.pow_lt_pow_right (by omega) hk) hk (tb_self k)
  have p2 : ∀ k, k < n → 2 ^ k < 512 := fun k hk => by
    have : 2 ^ k < 2 ^ 9 := Nat.pow_lt_pow_right (by omega) (by omega)
    exact this
  obtain ⟨n, rfl⟩ : ∃ q, n = q + 1 := ⟨n - 1, by omega⟩
  have e1 : fsT (n + 1) st = fo (nrS (fun k => rsT (n + 1) st (2 ^ k) k) (fun _ => True)) 1 n (n3 0, rsT (n + 1) st 1 0) := by
    unfold fsT
    rw [fo_first]
    congr 1
  have L1 := lp (fun m k (q : Int32 × Nat) => nX6_takeFirstRow_4 N m 61 q.1 (n3 k) (hp κ)) (n + 1) (nrS (fun k => rsT (n + 1) st (2 ^ k) k) (fun _ => True)) (fun q => nX6_takeFirstRow_73 N N 61 q.1 (n3 0) (n3 0) (hp (hk_wI κ 61 6 (n3 q.2)))) (fun _ q => ∃ b, b < n + 1 ∧ q = (n3 b, rsT (n + 1) st (2 ^ b) b)) (by
    rintro m k q hk ⟨b, hb, rfl⟩
    have u1 := hv k hk
    have u2 := hv b hb
    have u3 := h10 (2 ^ k) k
    have u4 := h10 (2 ^ b) b
    have u5 := p2 k hk
    have u6 := p2 b hb
    have i1 : 2 ^ k * 9 + k = 9 * 2 ^ k + k := by omega
    have i2 : 2 ^ b * 9 + b = 9 * 2 ^ b + b := by omega
    have nb : ¬ n3 b = -n3 1 := fun z => (n3_eqn (by omega) (by omega) (by omega)).mp z
    by_cases c : rsT (n + 1) st (2 ^ k) k < rsT (n + 1) st (2 ^ b) b
    · have hq : nrS (fun k => rsT (n + 1) st (2 ^ k) k) (fun _ => True) k (n3 b, rsT (n + 1) st (2 ^ b) b) = (n3 k, rsT (n + 1) st (2 ^ k) k) := by
        unfold nrS; rw [if_pos trivial]; exact if_pos (Or.inr c)
      rw [hq]
      refine ⟨?_, k, hk, rfl⟩
      rw [nX6_takeFirstRow_4]
      simp (maxSteps := 400000) (disch := omega) only [n3_l, n3_add, n3_mul, n3_sub, n3_subn, n3_lt, n3_le, n3_eq, n3_eqn, n3_neq, n3_and, n3_or, n3_shl, n3_i, n3_cl, ↓hbd_0, ↓hbd_1, ↓hbd_2, hk_ob_0, hk_rd_0, hk_rd_1, hk_rd_2, hk_al_0, hk_al_1, h3r_0, h3r_1, hk_wi_0, hk_wj_0, h3w_0, h3w_1, h3v_0, hk_kI, hk_kJ, hk_kA, hk_kB, A_eq, A_ne, A_row, B_eq, B_ne, B_row, I_eq, I_ne, J_eq, J_ne, Option.bind_some, Option.some.injEq, if_true, if_false, eq_self, true_or, or_true, true_and, and_true, false_or, or_false, not_true_eq_false, not_false_eq_true, Classical.not_not, nar_b0, nar_b1, rz_0, rz_1, rz_i, ite01, Nat.add_zero, Nat.zero_add, Nat.one_mul, mul12, reduceIte, ra_z0, Nat.reduceEqDiff, Nat.reduceLT, Nat.reduceLeDiff, Nat.reduceAdd, Nat.reduceMul, Nat.reduceSub, Nat.reduceDiv, Nat.reduceMod, Bool.false_eq_true, false_and, and_false, reduceCtorEq, hS, hk, n3_shl, i1, i2, u1, u2, c, nX6_takeFirstRow_46, nX6_takeFirstRow_120, nX6_takeFirstRow_0]
    · have hq : nrS (fun k => rsT (n + 1) st (2 ^ k) k) (fun _ => True) k (n3 b, rsT (n + 1) st (2 ^ b) b) = (n3 b, rsT (n + 1) st (2 ^ b) b) := by
        unfold nrS; rw [if_pos trivial]; exact if_neg (by rintro (z | z); exact nb z; exact c z)
      rw [hq]
      refine ⟨?_, b, hb, rfl⟩
      rw [nX6_takeFirstRow_4]
      simp (maxSteps := 400000) (disch := omega) only [n3_l, n3_add, n3_mul, n3_sub, n3_subn, n3_lt, n3_le, n3_eq, n3_eqn, n3_neq, n3_and, n3_or, n3_shl, n3_i, n3_cl, ↓hbd_0, ↓hbd_1, ↓hbd_2, hk_ob_0, hk_rd_0, hk_rd_1, hk_rd_2, hk_al_0, hk_al_1, h3r_0, h3r_1, hk_wi_0, hk_wj_0, h3w_0, h3w_1, h3v_0, hk_kI, hk_kJ, hk_kA, hk_kB, A_eq, A_ne, A_row, B_eq, B_ne, B_row, I_eq, I_ne, J_eq, J_ne, Option.bind_some, Option.some.injEq, if_true, if_false, eq_self, true_or, or_true, true_and, and_true, false_or, or_false, not_true_eq_false, not_false_eq_true, Classical.not_not, nar_b0, nar_b1, rz_0, rz_1, rz_i, ite01, Nat.add_zero, Nat.zero_add, Nat.one_mul, mul12, reduceIte, ra_z0, Nat.reduceEqDiff, Nat.reduceLT, Nat.reduceLeDiff, Nat.reduceAdd, Nat.reduceMul, Nat.reduceSub, Nat.reduceDiv, Nat.reduceMod, Bool.false_eq_true, false_and, and_false, reduceCtorEq, hS, hk, n3_shl, i1, i2, u1, u2, c, nX6_takeFirstRow_46, nX6_takeFirstRow_120, nX6_takeFirstRow_0]) (by
    rintro m q ⟨b, hb, rfl⟩
    have u2 := hv b hb
    have u4 := h10 (2 ^ b) b
    have u6 := p2 b hb
    have i2 : 2 ^ b * 9 + b = 9 * 2 ^ b + b := by omega
    rw [nX6_takeFirstRow_4]
    simp (maxSteps := 400000) (disch := omega) only [n3_l, n3_add, n3_mul, n3_sub, n3_subn, n3_lt, n3_le, n3_eq, n3_eqn, n3_neq, n3_and, n3_or, n3_shl, n3_i, n3_cl, ↓hbd_0, ↓hbd_1, ↓hbd_2, hk_ob_0, hk_rd_0, hk_rd_1, hk_rd_2, hk_al_0, hk_al_1, h3r_0, h3r_1, hk_wi_0, hk_wj_0, h3w_0, h3w_1, h3v_0, hk_kI, hk_kJ, hk_kA, hk_kB, A_eq, A_ne, A_row, B_eq, B_ne, B_row, I_eq, I_ne, J_eq, J_ne, Option.bind_some, Option.some.injEq, if_true, if_false, eq_self, true_or, or_true, true_and, and_true, false_or, or_false, not_true_eq_false, not_false_eq_true, Classical.not_not, nar_b0, nar_b1, rz_0, rz_1, rz_i, ite01, Nat.add_zero, Nat.zero_add, Nat.one_mul, mul12, reduceIte, ra_z0, Nat.reduceEqDiff, Nat.reduceLT, Nat.reduceLeDiff, Nat.reduceAdd, Nat.reduceMul, Nat.reduceSub, Nat.reduceDiv, Nat.reduceMod, Bool.false_eq_true, false_and, and_false, reduceCtorEq, hS, Nat.lt_irrefl, n3_shl, i2, u2]) n 1 N (n3 0, rsT (n + 1) st 1 0) (by omega) (by omega) ⟨0, by omega, rfl⟩
  rw [← e1] at L1
  rw [L1.1]
  obtain ⟨κ1, hκ1⟩ : ∃ κ1, κ1 = hk_wI κ 61 6 (n3 (fsT (n + 1) st).2) := ⟨_, rfl⟩
  have s1 : same [] [(61, 6)] κ κ1 := by rw [hκ1]; exact (same.refl _ _ _).wI (by decide)
  have f6 : hk_I κ1 61 6 = n3 (fsT (n + 1) st).2 := by rw [hκ1]; exact I_eq
  rw [← hκ1]
  obtain ⟨m', s', e, i1, i2⟩ := lpx (fun m i (r : hk_T) => nX6_takeFirstRow_73 N m 61 (paT (n + 1) st i).2 (n3 (paT (n + 1) st i).1) (n3 i) (hp r)) (n + 1) (fun i r => same [65] [] κ1 r ∧ ∀ i', i' < i → hk_A r 65 i' = n3 (g (paN (n + 1) st i'))) (by
    rintro m i r hi ⟨k1, k2⟩
    obtain ⟨a1, a2, a3, a4⟩ := paT_paN (st := st) hn hi
    have sr : same [65] [(61, 6)] κ r := (s1.weak (by decide) (by decide)).trans (k1.weak (by decide) (by decide))
    have hS' : hk_I r 1 16 = n3 (n + 1) := by rw [sr.2.2.1 1 16 (by decide)]; exact hS
    have w1 : hk_A r 62 (paN (n + 1) st i) = n3 (g (paN (n + 1) st i)) := by rw [sr.1 62 (by decide)]; exact hg _ a1
    have g2 := or_lt a3 a1
    have h2 : 2 ^ (n + 1) ≤ 2 ^ 9 := Nat.pow_le_pow_right (by omega) hn
    have sr' : same [65] [(61, 6)] κ (hk_wA r 65 i (n3 (g (paN (n + 1) st i)))) := sr.wA (by decide)
    have ca := c_cheapestAfter N (hk_wA r 65 i (n3 (g (paN (n + 1) st i)))) (st := st) (t := rsT (n + 1) st) (s := (paT (n + 1) st i).1 ||| 2 ^ paN (n + 1) st i) (l := paN (n + 1) st i) (n := n + 1) (by rw [sr'.2.2.1 1 16 (by decide)]; exact hS) hn g2 a1 (by rw [sr'.1 63 (by decide)]; exact hst) (fun k hk hc => by
      have g1 := or_gt hc
      have g3 := or_lt g2 hk
      rw [sr'.1 64 (by decide)]
      exact hr _ _ (by omega) g3 hk (by rw [tb_or, decide_eq_true rfl, Bool.or_true])) h20 h10 hN
    refine ⟨hk_wA r 65 i (n3 (g (paN (n + 1) st i))), ?_, k1.wA (by decide), ?_⟩
    · rw [nX6_takeFirstRow_73, paT_succ, a2]
      simp (maxSteps := 400000) (disch := omega) only [n3_l, n3_add, n3_mul, n3_sub, n3_subn, n3_lt, n3_le, n3_eq, n3_eqn, n3_neq, n3_and, n3_or, n3_shl, n3_i, n3_cl, ↓hbd_0, ↓hbd_1, ↓hbd_2, hk_ob_0, hk_rd_0, hk_rd_1, hk_rd_2, hk_al_0, hk_al_1, h3r_0, h3r_1, hk_wi_0, hk_wj_0, h3w_0, h3w_1, h3v_0, hk_kI, hk_kJ, hk_kA, hk_kB, A_eq, A_ne, A_row, B_eq, B_ne, B_row, I_eq, I_ne, J_eq, J_ne, Option.bind_some, Option.some.injEq, if_true, if_false, eq_self, true_or, or_true, true_and, and_true, false_or, or_false, not_true_eq_false, not_false_eq_true, Classical.not_not, nar_b0, nar_b1, rz_0, rz_1, rz_i, ite01, Nat.add_zero, Nat.zero_add, Nat.one_mul, mul12, reduceIte, ra_z0, Nat.reduceEqDiff, Nat.reduceLT, Nat.reduceLeDiff, Nat.reduceAdd, Nat.reduceMul, Nat.reduceSub, Nat.reduceDiv, Nat.reduceMod, Bool.false_eq_true, false_and, and_false, reduceCtorEq, hS', hi, w1, n3_shl, ca]
    · intro i' h
      by_cases q : i' = i
      · rw [q, A_eq rfl]
      · rw [A_ne (Or.inr q)]; exact k2 i' (by omega)) (n + 1) 0 N κ1 (by omega) (by omega) ⟨same.refl _ _ _, fun i' h => by omega⟩
  refine ⟨s', ?_, (s1.weak (by decide) (by decide)).trans (i1.weak (by decide) (by decide)), by rw [i1.2.2.1 61 6 (by decide)]; exact f6, i2⟩
  have e0 : paT (n + 1) st 0 = (0, (fsT (n + 1) st).1) := rfl
  rw [e0] at e
  rw [e, nX6_takeFirstRow_73]
  simp (maxSteps := 400000) (disch := omega) only [n3_l, n3_add, n3_mul, n3_sub, n3_subn, n3_lt, n3_le, n3_eq, n3_eqn, n3_neq, n3_and, n3_or, n3_shl, n3_i, n3_cl, ↓hbd_0, ↓hbd_1, ↓hbd_2, hk_ob_0, hk_rd_0, hk_rd_1, hk_rd_2, hk_al_0, hk_al_1, h3r_0, h3r_1, hk_wi_0, hk_wj_0, h3w_0, h3w_1, h3v_0, hk_kI, hk_kJ, hk_kA, hk_kB, A_eq, A_ne, A_row, B_eq, B_ne, B_row, I_eq, I_ne, J_eq, J_ne, Option.bind_some, Option.some.injEq, if_true, if_false, eq_self, true_or, or_true, true_and, and_true, false_or, or_false, not_true_eq_false, not_false_eq_true, Classical.not_not, nar_b0, nar_b1, rz_0, rz_1, rz_i, ite01, Nat.add_zero, Nat.zero_add, Nat.one_mul, mul12, reduceIte, ra_z0, Nat.reduceEqDiff, Nat.reduceLT, Nat.reduceLeDiff, Nat.reduceAdd, Nat.reduceMul, Nat.reduceSub, Nat.reduceDiv, Nat.reduceMod, Bool.false_eq_true, false_and, and_false, reduceCtorEq, i1.2.2.1 1 16 (by decide), s1.2.2.1 1 16 (by decide), hS, Nat.lt_irrefl, nX6_takeFirstRow_120]
end
