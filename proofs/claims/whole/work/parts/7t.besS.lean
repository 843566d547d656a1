/-! beside, both -/
section
variable (N : Nat) (κ : hk_T)
theorem r_walk {st : Nat → Nat → Nat} {n x : Nat} {g : Nat → Nat} (hn : n ≤ 9) (hx : x < n) (hg : rTb κ n g st) (h20 : ∀ i j, st i j ≤ 20) (hr : ∀ s l, 0 < s → s < 2 ^ n → l < n → hk_A κ 98 (9 * s + l) = n3 (rsT n st s l)) (hN : 1000 < N) :
    nX12_beside_105 N N 69 (n3 x) (n3 n) (n3 (fsT n st).2) (n3 0) (-n3 1) (n3 0) (hp κ) = some (n3 (g (paN n st x)), hp κ) := by
  have h2 : 2 ^ n ≤ 2 ^ 9 := Nat.pow_le_pow_right (by omega) hn
  obtain ⟨m', ⟨⟩, e, -⟩ := lpx (fun m i (_ : Unit) => nX12_beside_105 N m 69 (n3 x) (n3 n) (n3 (sumI n st i)) (n3 (paT n st i).1) (lasI n st i) (n3 i) (hp κ)) (x + 1) (fun _ _ => True) (by
    rintro m i - hi -
    have hin : i < n := by omega
    have hix : i ≤ x := by omega
    obtain ⟨q1, q2, q3, q4⟩ := paT_paN (st := st) hn hin
    have pk := r_pick N κ (a := n3 x) (nX12_beside_105 N m) hn hin hg h20 hr n N (-n3 1) (Nat.le_refl _) (by omega)
    rw [if_pos q1] at pk
    have hlt := or_lt q3 q1
    have hgt := or_gt q4
    have v1 := hr ((paT n st i).1 ||| 2 ^ paN n st i) (paN n st i) (by omega) hlt q1
    have hd : dn n = n3 (n - 1) := by unfold dn; rw [if_neg (by omega)]
    have hm : (-n3 1 : Int32) < n3 0 := by decide
    refine ⟨(), ?_, trivial⟩
    rw [nX12_beside_105]
    simp (maxSteps := 400000) (disch := omega) only [n3_l, n3_add, n3_mul, n3_sub, n3_subn, n3_lt, n3_le, n3_eq, n3_eqn, n3_neq, n3_and, n3_or, n3_shl, n3_i, n3_cl, ↓hbd_0, ↓hbd_1, ↓hbd_2, hk_ob_0, hk_rd_0, hk_rd_1, hk_rd_2, hk_al_0, hk_al_1, h3r_0, h3r_1, hk_wi_0, hk_wj_0, h3w_0, h3w_1, h3v_0, hk_kI, hk_kJ, hk_kA, hk_kB, A_eq, A_ne, A_row, B_eq, B_ne, B_row, I_eq, I_ne, J_eq, J_ne, Option.bind_some, Option.some.injEq, if_true, if_false, eq_self, true_or, or_true, true_and, and_true, false_or, or_false, not_true_eq_false, not_false_eq_true, Classical.not_not, nar_b0, nar_b1, rz_0, rz_1, rz_i, ite01, Nat.add_zero, Nat.zero_add, Nat.one_mul, mul12, reduceIte, ra_z0, Nat.reduceEqDiff, Nat.reduceLT, Nat.reduceLeDiff, Nat.reduceAdd, Nat.reduceMul, Nat.reduceSub, Nat.reduceDiv, Nat.reduceMod, Bool.false_eq_true, false_and, and_false, reduceCtorEq, hix]
    rw [hd] at pk
    rw [pk, nX12_beside_119]
    simp (maxSteps := 400000) (disch := omega) only [n3_l, n3_add, n3_mul, n3_sub, n3_subn, n3_lt, n3_le, n3_eq, n3_eqn, n3_neq, n3_and, n3_or, n3_shl, n3_i, n3_cl, ↓hbd_0, ↓hbd_1, ↓hbd_2, hk_ob_0, hk_rd_0, hk_rd_1, hk_rd_2, hk_al_0, hk_al_1, h3r_0, h3r_1, hk_wi_0, hk_wj_0, h3w_0, h3w_1, h3v_0, hk_kI, hk_kJ, hk_kA, hk_kB, A_eq, A_ne, A_row, B_eq, B_ne, B_row, I_eq, I_ne, J_eq, J_ne, Option.bind_some, Option.some.injEq, if_true, if_false, eq_self, true_or, or_true, true_and, and_true, false_or, or_false, not_true_eq_false, not_false_eq_true, Classical.not_not, nar_b0, nar_b1, rz_0, rz_1, rz_i, ite01, Nat.add_zero, Nat.zero_add, Nat.one_mul, mul12, reduceIte, ra_z0, Nat.reduceEqDiff, Nat.reduceLT, Nat.reduceLeDiff, Nat.reduceAdd, Nat.reduceMul, Nat.reduceSub, Nat.reduceDiv, Nat.reduceMod, Bool.false_eq_true, false_and, and_false, reduceCtorEq, hm, n3_shl, v1]
    rfl) (x + 1) 0 N () (by omega) (by omega) trivial
  have e0 : nX12_beside_105 N N 69 (n3 x) (n3 n) (n3 (fsT n st).2) (n3 0) (-n3 1) (n3 0) (hp κ) = nX12_beside_105 N (m' + 1) 69 (n3 x) (n3 n) (n3 (sumI n st (x + 1))) (n3 (paT n st (x + 1)).1) (lasI n st (x + 1)) (n3 (x + 1)) (hp κ) := e
  have el : lasI n st (x + 1) = n3 (paN n st x) := rfl
  have hxx : ¬ x + 1 ≤ x := by omega
  have hp := (paT_paN (st := st) hn hx).1
  have w := hg.1 (paN n st x) hp
  rw [e0, nX12_beside_105, el]
  simp (maxSteps := 400000) (disch := omega) only [n3_l, n3_add, n3_mul, n3_sub, n3_subn, n3_lt, n3_le, n3_eq, n3_eqn, n3_neq, n3_and, n3_or, n3_shl, n3_i, n3_cl, ↓hbd_0, ↓hbd_1, ↓hbd_2, hk_ob_0, hk_rd_0, hk_rd_1, hk_rd_2, hk_al_0, hk_al_1, h3r_0, h3r_1, hk_wi_0, hk_wj_0, h3w_0, h3w_1, h3v_0, hk_kI, hk_kJ, hk_kA, hk_kB, A_eq, A_ne, A_row, B_eq, B_ne, B_row, I_eq, I_ne, J_eq, J_ne, Option.bind_some, Option.some.injEq, if_true, if_false, eq_self, true_or, or_true, true_and, and_true, false_or, or_false, not_true_eq_false, not_false_eq_true, Classical.not_not, nar_b0, nar_b1, rz_0, rz_1, rz_i, ite01, Nat.add_zero, Nat.zero_add, Nat.one_mul, mul12, reduceIte, ra_z0, Nat.reduceEqDiff, Nat.reduceLT, Nat.reduceLeDiff, Nat.reduceAdd, Nat.reduceMul, Nat.reduceSub, Nat.reduceDiv, Nat.reduceMod, Bool.false_eq_true, false_and, and_false, reduceCtorEq, hxx, w]
theorem r_least {st : Nat → Nat → Nat} {n : Nat} {a : Int32} (h0 : 0 < n) (hn : n ≤ 9) (h20 : ∀ i j, st i j ≤ 20) (hr : ∀ s l, 0 < s → s < 2 ^ n → l < n → hk_A κ 98 (9 * s + l) = n3 (rsT n st s l)) (hN : 1000 < N) :
    nX12_beside_47 N N 69 a (n3 n) (n3 1000000) (n3 0) (hp κ) = if a = -n3 1 then some (n3 (fsT n st).2, hp κ) else nX12_beside_105 N N 69 a (n3 n) (n3 (fsT n st).2) (n3 0) (-n3 1) (n3 0) (hp κ) := by
  have h10 := rsT_le n st h20 hn
  have := lp (fun m k (y : Nat) => nX12_beside_47 N m 69 a (n3 n) (n3 y) (n3 k) (hp κ)) n (mnS (fun k => rsT n st (2 ^ k) k) (fun _ => True)) (fun y => if a = -n3 1 then some (n3 y, hp κ) else nX12_beside_105 N N 69 a (n3 n) (n3 y) (n3 0) (-n3 1) (n3 0) (hp κ)) (fun _ y => y ≤ 1000000) (by
    intro m k y hk hI
    have p2 : 2 ^ k < 2 ^ 9 := Nat.pow_lt_pow_right (by omega) (by omega)
    have v1 := hr (2 ^ k) k (Nat.two_pow_pos k) (Nat.pow_lt_pow_right (by omega) hk) hk
    have u2 := h10 (2 ^ k) k
    have hq : mnS (fun k => rsT n st (2 ^ k) k) (fun _ => True) k y = if rsT n st (2 ^ k) k < y then rsT n st (2 ^ k) k else y := by unfold mnS; exact if_pos trivial
    rw [hq]
    constructor
    · rw [nX12_beside_47]
      by_cases c : rsT n st (2 ^ k) k < y <;> simp (maxSteps := 400000) (disch := omega) only [n3_l, n3_add, n3_mul, n3_sub, n3_subn, n3_lt, n3_le, n3_eq, n3_eqn, n3_neq, n3_and, n3_or, n3_shl, n3_i, n3_cl, ↓hbd_0, ↓hbd_1, ↓hbd_2, hk_ob_0, hk_rd_0, hk_rd_1, hk_rd_2, hk_al_0, hk_al_1, h3r_0, h3r_1, hk_wi_0, hk_wj_0, h3w_0, h3w_1, h3v_0, hk_kI, hk_kJ, hk_kA, hk_kB, A_eq, A_ne, A_row, B_eq, B_ne, B_row, I_eq, I_ne, J_eq, J_ne, Option.bind_some, Option.some.injEq, if_true, if_false, eq_self, true_or, or_true, true_and, and_true, false_or, or_false, not_true_eq_false, not_false_eq_true, Classical.not_not, nar_b0, nar_b1, rz_0, rz_1, rz_i, ite01, Nat.add_zero, Nat.zero_add, Nat.one_mul, mul12, reduceIte, ra_z0, Nat.reduceEqDiff, Nat.reduceLT, Nat.reduceLeDiff, Nat.reduceAdd, Nat.reduceMul, Nat.reduceSub, Nat.reduceDiv, Nat.reduceMod, Bool.false_eq_true, false_and, and_false, reduceCtorEq, hk, n3_shl, v1, c, nX12_beside_33, nX12_beside_82, nX12_beside_207, nX12_beside_205, nX12_beside_189, nX12_beside_178, nX12_beside_0]
    · split
      · omega
      · exact hI) (by
    intro m y hI
    rw [nX12_beside_47]
    simp (maxSteps := 400000) (disch := omega) only [n3_l, n3_add, n3_mul, n3_sub, n3_subn, n3_lt, n3_le, n3_eq, n3_eqn, n3_neq, n3_and, n3_or, n3_shl, n3_i, n3_cl, ↓hbd_0, ↓hbd_1, ↓hbd_2, hk_ob_0, hk_rd_0, hk_rd_1, hk_rd_2, hk_al_0, hk_al_1, h3r_0, h3r_1, hk_wi_0, hk_wj_0, h3w_0, h3w_1, h3v_0, hk_kI, hk_kJ, hk_kA, hk_kB, A_eq, A_ne, A_row, B_eq, B_ne, B_row, I_eq, I_ne, J_eq, J_ne, Option.bind_some, Option.some.injEq, if_true, if_false, eq_self, true_or, or_true, true_and, and_true, false_or, or_false, not_true_eq_false, not_false_eq_true, Classical.not_not, nar_b0, nar_b1, rz_0, rz_1, rz_i, ite01, Nat.add_zero, Nat.zero_add, Nat.one_mul, mul12, reduceIte, ra_z0, Nat.reduceEqDiff, Nat.reduceLT, Nat.reduceLeDiff, Nat.reduceAdd, Nat.reduceMul, Nat.reduceSub, Nat.reduceDiv, Nat.reduceMod, Bool.false_eq_true, false_and, and_false, reduceCtorEq, Nat.lt_irrefl]) n 0 N 1000000 (by omega) (by omega) (Nat.le_refl _)
  have e := this.1
  rw [mn_nr _ _ _ (fun k => by have := h10 (2 ^ k) k; omega) n (by omega)] at e
  have e1 : (if (fo (nrS (fun k => rsT n st (2 ^ k) k) (fun _ => True)) 0 n (-n3 1, 0)).1 = -n3 1 then 1000000 else (fo (nrS (fun k => rsT n st (2 ^ k) k) (fun _ => True)) 0 n (-n3 1, 0)).2) = (fsT n st).2 := by
    unfold fsT
    rcases nr_min (fun k => rsT n st (2 ^ k) k) (fun _ => True) n (by omega) with ⟨-, h⟩ | ⟨b, hb, -, e, -⟩
    · exact absurd trivial (h 0 h0)
    · have nb : ¬ n3 b = -n3 1 := fun z => (n3_eqn (by omega) (by omega) (by omega)).mp z
      rw [e]
      exact if_neg nb
  rw [e1] at e
  exact e
theorem r_beside {n nB : Nat} {z dm g : Nat → Nat} {F : Nat → Int32} {st : Nat → Nat → Nat} {a : Int32} (ha : vIn (-1) (n - 1) a = true) (hS : hk_A κ 71 483 = n3 n) (h0 : 0 < n) (hn : n ≤ 9) (hz : ∀ i, i < n → hk_A κ 71 (725 + i) = n3 (z i)) (hB : nB ≤ 40) (h40 : ∀ i, i < n → z i < nB) (hd : ∀ i j, i < j → j < n → z i ≠ z j) (hF : ∀ b, b < nB → hk_A κ 71 (12 * b + 7) = F (12 * b + 7)) (hdm : ∀ b, b < nB → hk_A κ 71 (12 * b + 8) = n3 (dm b)) (h9 : ∀ b, dm b ≤ 9) (hN : 1000 < N)
    (hl : LL (srP n z) (fun b => b) n g) (hst : ∀ i j, i < n → j < n → st i j = stp dm F (g i) (g j)) (h20 : ∀ i j, st i j ≤ 20) :
    ∃ κ', fX12_beside N 69 a (hp κ) = some (if a = -n3 1 then n3 (fsT n st).2 else n3 (g (paN n st a.toInt.toNat)), hp κ') ∧ same [98, 99] [(69, 0)] κ κ' := by
  have s0 : same [] [(69, 0)] κ (hk_wI κ 69 0 (n3 0)) := (same.refl _ _ _).wI (by decide)
  obtain ⟨κ1, g', e1, s1, g1, l1⟩ := r_sortRow N (hk_wI κ 69 0 (n3 0)) (n := n) (z := z) hn (by rw [s0.1 71 (by decide)]; exact hz) (fun i hi => by have := h40 i hi; omega) hd hN
  have eg := (LL_uniq l1 hl).2
  have g2 : ∀ i, i < n → hk_A κ1 99 i = n3 (g i) := fun i hi => by rw [g1 i hi, eg i hi]
  have gB : ∀ i, i < n → g i < nB := by
    intro i hi
    obtain ⟨j, hj, e⟩ := hl.1 i hi
    rw [← e]
    exact h40 j hj
  have s01 : same [99] [(69, 0)] κ κ1 := (s0.weak (by decide) (by decide)).trans (s1.weak (by decide) (by decide))
  have tb : ∀ r, same [98] [] κ1 r → rTb r n g st := by
    intro r hr
    have e71 : hk_A r 71 = hk_A κ 71 := by rw [hr.1 71 (by decide), s01.1 71 (by decide)]
    refine rTb_same (κ := κ) (dm := dm) (nB := nB) (by rw [hr.1 99 (by decide)]; exact g2) hB gB (by rw [e71]; exact hdm) h9 ?_
    intro i j hi hj
    rw [hst i j hi hj, e71]
    unfold stp
    rw [hF _ (gB i hi), hF _ (gB j hj)]
  obtain ⟨κ2, e2, s2, t2⟩ := r_table N κ1 (st := st) (g := g) h0 hn tb h20 hN
  refine ⟨κ2, ?_, (s01.weak (by decide) (by decide)).trans (s2.weak (by decide) (by decide))⟩
  rw [r_besideL N κ hS hn h0, if_pos ha]
  unfold fX12_rowAll nX12_rowAll_0
  simp (maxSteps := 400000) (disch := omega) only [n3_l, n3_add, n3_mul, n3_sub, n3_subn, n3_lt, n3_le, n3_eq, n3_eqn, n3_neq, n3_and, n3_or, n3_shl, n3_i, n3_cl, ↓hbd_0, ↓hbd_1, ↓hbd_2, hk_ob_0, hk_rd_0, hk_rd_1, hk_rd_2, hk_al_0, hk_al_1, h3r_0, h3r_1, hk_wi_0, hk_wj_0, h3w_0, h3w_1, h3v_0, hk_kI, hk_kJ, hk_kA, hk_kB, A_eq, A_ne, A_row, B_eq, B_ne, B_row, I_eq, I_ne, J_eq, J_ne, Option.bind_some, Option.some.injEq, if_true, if_false, eq_self, true_or, or_true, true_and, and_true, false_or, or_false, not_true_eq_false, not_false_eq_true, Classical.not_not, nar_b0, nar_b1, rz_0, rz_1, rz_i, ite01, Nat.add_zero, Nat.zero_add, Nat.one_mul, mul12, reduceIte, ra_z0, Nat.reduceEqDiff, Nat.reduceLT, Nat.reduceLeDiff, Nat.reduceAdd, Nat.reduceMul, Nat.reduceSub, Nat.reduceDiv, Nat.reduceMod, Bool.false_eq_true, false_and, and_false, reduceCtorEq]
  rw [e1, e2]
  show nX12_beside_47 N N 69 a (n3 n) (n3 1000000) (n3 0) (hp κ2) = _
  rw [r_least N κ2 h0 hn h20 t2 hN]
  by_cases c : a = -n3 1
  · rw [if_pos c, if_pos c]
  · rw [vIn_iff] at ha
    have c1 : ¬ a.toInt = -1 := fun z => c (by rw [i_eq]; exact z)
    obtain ⟨i, hi, rfl⟩ := n3_ex (x := a) (n := n) (by omega) (by omega)
    rw [if_neg c, if_neg c, r_walk N κ2 hn hi (tb κ2 s2) h20 t2 hN, n3_toInt (by omega)]
    rfl
/-- what the class answers, in the same words -/
theorem bes_eq {n : Nat} {g : Nat → Nat} {st : Nat → Nat → Nat} {a : Int32} (ha : vIn (-1) (n - 1) a = true) (hl : lay κ n st g) : besA κ a = if a = -n3 1 then n3 (fsT n st).2 else n3 (g (paN n st a.toInt.toNat)) := by
  unfold besA
  by_cases c : a = -n3 1
  · rw [if_pos c, if_pos c, hl.1]
  · rw [vIn_iff] at ha
    have c1 : ¬ a.toInt = -1 := fun z => c (by rw [i_eq]; exact z)
    rw [if_neg c, if_neg c, hl.2 _ (by omega)]
theorem r_beside_x {n : Nat} {a : Int32} (hS : hk_A κ 71 483 = n3 n) (hn : n ≤ 9) (ha : ¬ vIn (-1) (n - 1) a = true) : fX12_beside N 69 a (hp κ) = some (-n3 1, hp (hk_wI κ 69 0 (n3 0))) := by
  by_cases h0 : n = 0
  · subst h0; exact r_beside0 N κ hS
  · rw [r_besideL N κ hS hn (by omega), if_neg ha]
end
