/-! beside in the reference: the same row -/
def sumI (n : Nat) (st : Nat → Nat → Nat) : Nat → Nat
  | 0 => (fsT n st).2
  | i + 1 => rsT n st (paT n st (i + 1)).1 (paN n st i)
def lasI (n : Nat) (st : Nat → Nat → Nat) : Nat → Int32
  | 0 => -n3 1
  | i + 1 => n3 (paN n st i)
def vI (n : Nat) (st : Nat → Nat → Nat) (i k : Nat) : Nat := rsT n st ((paT n st i).1 ||| 2 ^ k) k + match i with
  | 0 => 0
  | j + 1 => st (paN n st j) k
theorem pick_i {n : Nat} {st : Nat → Nat → Nat} (hn : n ≤ 9) {i : Nat} (hi : i < n) : vI n st i (paN n st i) = sumI n st i ∧ ∀ k, k < n → ¬ (paT n st i).1.testBit k = true → vI n st i k = sumI n st i → paN n st i ≤ k := by
  have toN : ∀ b, b < n → (n3 b).toInt.toNat = b := fun b hb => by rw [n3_toInt (by omega)]; rfl
  cases i with
  | zero =>
    have e0 : (paT n st 0).1 = 0 := rfl
    have e1 : paN n st 0 = (fsT n st).1.toInt.toNat := rfl
    unfold vI sumI
    rw [e0, e1]
    unfold fsT
    rcases nr_min (fun k => rsT n st (2 ^ k) k) (fun _ => True) n (by omega) with ⟨-, h⟩ | ⟨b, hb, -, e, h3, h4⟩
    · exact absurd trivial (h 0 hi)
    · rw [e]
      dsimp only
      rw [toN b hb, Nat.zero_or]
      refine ⟨rfl, fun k hk _ hv => ?_⟩
      rw [Nat.zero_or] at hv
      rcases Nat.lt_or_ge k b with c | c
      · have := h4 k c trivial
        omega
      · exact c
  | succ j =>
    obtain ⟨q1, q2, q3, q4⟩ := paT_paN (st := st) hn (i := j) (by omega)
    have hl := or_lt q3 q1
    have eS : (paT n st (j + 1)).1 = (paT n st j).1 ||| 2 ^ paN n st j := rfl
    have eN : paN n st (j + 1) = (chF n st (rsT n st) ((paT n st j).1 ||| 2 ^ paN n st j) (paN n st j)).1.toInt.toNat := rfl
    obtain ⟨b', hb', -⟩ := paT_ok (st := st) hn (j + 1) hi
    show rsT n st ((paT n st (j + 1)).1 ||| 2 ^ paN n st (j + 1)) (paN n st (j + 1)) + st (paN n st j) (paN n st (j + 1)) = rsT n st (paT n st (j + 1)).1 (paN n st j) ∧ ∀ k, k < n → ¬ (paT n st (j + 1)).1.testBit k = true → rsT n st ((paT n st (j + 1)).1 ||| 2 ^ k) k + st (paN n st j) k = rsT n st (paT n st (j + 1)).1 (paN n st j) → paN n st (j + 1) ≤ k
    rw [eN, eS, rsT_eq n st (l := paN n st j) hl]
    unfold chF
    rcases nr_min (fun k => st (paN n st j) k + rsT n st ((paT n st j).1 ||| 2 ^ paN n st j ||| 2 ^ k) k) (fun k => ¬ ((paT n st j).1 ||| 2 ^ paN n st j).testBit k = true) n (by omega) with ⟨-, h⟩ | ⟨b, hb, hc, e, h3, h4⟩
    · exfalso
      obtain ⟨a1, a2, a3, a4⟩ := paT_paN (st := st) hn hi
      exact h _ a1 a4
    · rw [e]
      dsimp only
      rw [toN b hb]
      refine ⟨by omega, fun k hk hck hv => ?_⟩
      rcases Nat.lt_or_ge k b with c | c
      · have := h4 k c hck
        omega
      · exact c
def dn (k : Nat) : Int32 := if k = 0 then -n3 1 else n3 (k - 1)
theorem dn_succ (k : Nat) : dn (k + 1) = n3 k := by unfold dn; rw [if_neg (by omega)]; rfl
theorem dn_next (k : Nat) : n3 k + -n3 1 = dn k := by
  unfold dn
  by_cases h : k = 0
  · subst h; rw [if_pos rfl]; rfl
  · rw [if_neg h, ← Int32.sub_eq_add_neg, n3_sub (by omega)]
section
variable (N : Nat) (κ : hk_T)
theorem r_pick {st : Nat → Nat → Nat} {n i : Nat} {g : Nat → Nat} {a : Int32} (c105 : Nat → Int32 → Int32 → Int32 → Int32 → Int32 → Int32 → ra_H → Option (Int32 × ra_H)) (hn : n ≤ 9) (hi : i < n) (hg : rTb κ n g st) (h20 : ∀ i j, st i j ≤ 20) (hr : ∀ s l, 0 < s → s < 2 ^ n → l < n → hk_A κ 98 (9 * s + l) = n3 (rsT n st s l)) :
    ∀ k m a7, k ≤ n → k < m → nX12_beside_119 N c105 m 69 a (n3 n) (n3 (sumI n st i)) (n3 (paT n st i).1) (lasI n st i) (n3 i) a7 (dn k) (hp κ) = nX12_beside_119 N c105 1 69 a (n3 n) (n3 (sumI n st i)) (n3 (paT n st i).1) (lasI n st i) (n3 i) (if paN n st i < k then n3 (paN n st i) else a7) (-n3 1) (hp κ) := by
  have h2 : 2 ^ n ≤ 2 ^ 9 := Nat.pow_le_pow_right (by omega) hn
  have h10 := rsT_le n st h20 hn
  obtain ⟨q1, q2, q3, q4⟩ := paT_paN (st := st) hn hi
  obtain ⟨p1, p2⟩ := pick_i (st := st) hn hi
  have hsum : sumI n st i ≤ 20000 := by
    rw [← p1]
    unfold vI
    have := h10 ((paT n st i).1 ||| 2 ^ paN n st i) (paN n st i)
    cases i with
    | zero => dsimp only; omega
    | succ j => have := h20 (paN n st j) (paN n st (j + 1)); dsimp only; omega
  intro k
  induction k with
  | zero =>
    intro m a7 _ hm
    obtain ⟨m, rfl⟩ : ∃ j, m = j + 1 := ⟨m - 1, by omega⟩
    rw [if_neg (by omega), nX12_beside_119, nX12_beside_119]
    unfold dn
    rw [if_pos rfl, if_pos (by decide), if_pos (by decide)]
  | succ k ih =>
    intro m a7 hk hm
    obtain ⟨m, rfl⟩ : ∃ j, m = j + 1 := ⟨m - 1, by omega⟩
    have hkn : k < n := by omega
    have k0 : ¬ k < 0 := by omega
    rw [dn_succ, nX12_beside_119]
    by_cases c : (paT n st i).1.testBit k = true
    · simp (maxSteps := 400000) (disch := omega) only [n3_l, n3_add, n3_mul, n3_sub, n3_subn, n3_lt, n3_le, n3_eq, n3_eqn, n3_neq, n3_and, n3_or, n3_shl, n3_i, n3_cl, ↓hbd_0, ↓hbd_1, ↓hbd_2, hk_ob_0, hk_rd_0, hk_rd_1, hk_rd_2, hk_al_0, hk_al_1, h3r_0, h3r_1, hk_wi_0, hk_wj_0, h3w_0, h3w_1, h3v_0, hk_kI, hk_kJ, hk_kA, hk_kB, A_eq, A_ne, A_row, B_eq, B_ne, B_row, I_eq, I_ne, J_eq, J_ne, Option.bind_some, Option.some.injEq, if_true, if_false, eq_self, true_or, or_true, true_and, and_true, false_or, or_false, not_true_eq_false, not_false_eq_true, Classical.not_not, nar_b0, nar_b1, rz_0, rz_1, rz_i, ite01, Nat.add_zero, Nat.zero_add, Nat.one_mul, mul12, reduceIte, ra_z0, Nat.reduceEqDiff, Nat.reduceLT, Nat.reduceLeDiff, Nat.reduceAdd, Nat.reduceMul, Nat.reduceSub, Nat.reduceDiv, Nat.reduceMod, Bool.false_eq_true, false_and, and_false, reduceCtorEq, k0, n3_shr, bit_shr, c, nX12_beside_33, nX12_beside_82, nX12_beside_207, nX12_beside_205, nX12_beside_189, nX12_beside_178, nX12_beside_0]
      rw [dn_next, ih m a7 (by omega) (by omega)]
      have ne : paN n st i ≠ k := fun z => q4 (by rw [z]; exact c)
      by_cases c1 : paN n st i < k
      · rw [if_pos c1, if_pos (by omega)]
      · rw [if_neg c1, if_neg (by omega)]
    · have hlt := or_lt q3 hkn
      have hgt := or_gt c
      have v1 := hr ((paT n st i).1 ||| 2 ^ k) k (by omega) hlt hkn
      have v2 := h10 ((paT n st i).1 ||| 2 ^ k) k
      have key : nX12_beside_119 N c105 (m + 1) 69 a (n3 n) (n3 (sumI n st i)) (n3 (paT n st i).1) (lasI n st i) (n3 i) a7 (n3 k) (hp κ) = nX12_beside_119 N c105 m 69 a (n3 n) (n3 (sumI n st i)) (n3 (paT n st i).1) (lasI n st i) (n3 i) (if vI n st i k = sumI n st i then n3 k else a7) (dn k) (hp κ) := by
        rw [nX12_beside_119]
        cases i with
        | zero =>
          have ev : vI n st 0 k = rsT n st ((paT n st 0).1 ||| 2 ^ k) k := rfl
          have el : lasI n st 0 = -n3 1 := rfl
          rw [el, ev]
          by_cases z : rsT n st ((paT n st 0).1 ||| 2 ^ k) k = sumI n st 0 <;> simp (maxSteps := 400000) (disch := omega) only [n3_l, n3_add, n3_mul, n3_sub, n3_subn, n3_lt, n3_le, n3_eq, n3_eqn, n3_neq, n3_and, n3_or, n3_shl, n3_i, n3_cl, ↓hbd_0, ↓hbd_1, ↓hbd_2, hk_ob_0, hk_rd_0, hk_rd_1, hk_rd_2, hk_al_0, hk_al_1, h3r_0, h3r_1, hk_wi_0, hk_wj_0, h3w_0, h3w_1, h3v_0, hk_kI, hk_kJ, hk_kA, hk_kB, A_eq, A_ne, A_row, B_eq, B_ne, B_row, I_eq, I_ne, J_eq, J_ne, Option.bind_some, Option.some.injEq, if_true, if_false, eq_self, true_or, or_true, true_and, and_true, false_or, or_false, not_true_eq_false, not_false_eq_true, Classical.not_not, nar_b0, nar_b1, rz_0, rz_1, rz_i, ite01, Nat.add_zero, Nat.zero_add, Nat.one_mul, mul12, reduceIte, ra_z0, Nat.reduceEqDiff, Nat.reduceLT, Nat.reduceLeDiff, Nat.reduceAdd, Nat.reduceMul, Nat.reduceSub, Nat.reduceDiv, Nat.reduceMod, Bool.false_eq_true, false_and, and_false, reduceCtorEq, k0, n3_shr, n3_shl, bit_shr, c, v1, z, nX12_beside_33, nX12_beside_82, nX12_beside_207, nX12_beside_205, nX12_beside_189, nX12_beside_178, nX12_beside_0, dn_next]
        | succ j =>
          have ev : vI n st (j + 1) k = rsT n st ((paT n st (j + 1)).1 ||| 2 ^ k) k + st (paN n st j) k := rfl
          have el : lasI n st (j + 1) = n3 (paN n st j) := rfl
          have hj := (paT_paN (st := st) hn (i := j) (by omega)).1
          have w1 := hg.1 (paN n st j) hj
          have w2 := hg.1 k hkn
          have w3 := hg.2 N (paN n st j) k hj hkn
          have w4 := h20 (paN n st j) k
          have nb : ¬ paN n st j < 0 := by omega
          rw [el, ev]
          by_cases z : rsT n st ((paT n st (j + 1)).1 ||| 2 ^ k) k + st (paN n st j) k = sumI n st (j + 1) <;> simp (maxSteps := 400000) (disch := omega) only [n3_l, n3_add, n3_mul, n3_sub, n3_subn, n3_lt, n3_le, n3_eq, n3_eqn, n3_neq, n3_and, n3_or, n3_shl, n3_i, n3_cl, ↓hbd_0, ↓hbd_1, ↓hbd_2, hk_ob_0, hk_rd_0, hk_rd_1, hk_rd_2, hk_al_0, hk_al_1, h3r_0, h3r_1, hk_wi_0, hk_wj_0, h3w_0, h3w_1, h3v_0, hk_kI, hk_kJ, hk_kA, hk_kB, A_eq, A_ne, A_row, B_eq, B_ne, B_row, I_eq, I_ne, J_eq, J_ne, Option.bind_some, Option.some.injEq, if_true, if_false, eq_self, true_or, or_true, true_and, and_true, false_or, or_false, not_true_eq_false, not_false_eq_true, Classical.not_not, nar_b0, nar_b1, rz_0, rz_1, rz_i, ite01, Nat.add_zero, Nat.zero_add, Nat.one_mul, mul12, reduceIte, ra_z0, Nat.reduceEqDiff, Nat.reduceLT, Nat.reduceLeDiff, Nat.reduceAdd, Nat.reduceMul, Nat.reduceSub, Nat.reduceDiv, Nat.reduceMod, Bool.false_eq_true, false_and, and_false, reduceCtorEq, k0, n3_shr, n3_shl, bit_shr, c, v1, nb, w1, w2, w3, z, nX12_beside_33, nX12_beside_82, nX12_beside_207, nX12_beside_205, nX12_beside_189, nX12_beside_178, nX12_beside_0, dn_next]
      rw [← nX12_beside_119, key, ih m _ (by omega) (by omega)]
      congr 1
      by_cases c1 : paN n st i < k
      · rw [if_pos c1, if_pos (by omega)]
      · by_cases c2 : paN n st i = k
        · have d1 : vI n st i k = sumI n st i := by rw [← c2]; exact p1
          have d2 : paN n st i < k + 1 := by omega
          rw [if_neg c1, if_pos d1, if_pos d2, c2]
        · have d1 : ¬ vI n st i k = sumI n st i := fun z => by have := p2 k hkn c z; omega
          have d2 : ¬ paN n st i < k + 1 := by omega
          rw [if_neg c1, if_neg d1, if_neg d2]
end
