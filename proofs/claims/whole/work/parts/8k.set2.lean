/-! weighSet -/
section
variable (N : Nat) (κ : hk_T)
def wsR (S : Nat → Int) (W : Nat → Nat) (wg : Nat → Int) (g : Nat → Nat) (sz ms s : Nat) : Int × Nat × Nat := fo (fun i => st3 (fun l => ¬ (¬ s.testBit l = true ∧ (s ||| 2 ^ l) &&& ms = ms)) (fun l => wg l + S (s ||| 2 ^ l)) (fun l => W (s ||| 2 ^ l)) 1000000000 (g i)) 0 sz (if s &&& ms = ms then (S s, W s, 4096) else (-1000000, 0, 0))
theorem c_weighSet {L n s ms sz d8 d9 : Nat} {g : Nat → Nat} {S : Nat → Int} {W : Nat → Nat} {wg : Nat → Int}
    (h8 : hk_P κ 8 = d8) (h9 : hk_P κ 9 = d9) (k8 : 101 ≤ d8) (k9 : 101 ≤ d9) (hne : d9 ≠ d8) (c8 : hk_D κ d8 = dC 0 n (fun x => z3 (S x))) (c9 : hk_D κ d9 = dC 0 n (fun x => n3 (W x))) (hL : L ≤ 12) (hn : 2 ^ L ≤ n) (hn2 : n ≤ 4096) (hs : s < 2 ^ L) (hms : ms < 2 ^ L) (hsz : sz ≤ L) (hg : ∀ i, i < sz → g i < L ∧ hk_A κ 52 i = n3 (2 ^ g i) ∧ hk_A κ 53 i = z3 (wg (g i)))
    (hS : ∀ x, -2000000 ≤ S x ∧ S x ≤ 2000000) (hW : ∀ x, W x ≤ 1000000000) (hwg : ∀ l, -2000 ≤ wg l ∧ wg l ≤ 2000) (hN : 1000 < N) :
    fX3_weighSet N 40 (n3 s) (n3 sz) (n3 ms) (hp κ) = some (n3 (wsR S W wg g sz ms s).2.2, hp (hk_wD (hk_wD κ d8 (dC 0 n (fun j => if j = s then z3 (wsR S W wg g sz ms s).1 else z3 (S j)))) d9 (dC 0 n (fun j => if j = s then n3 (wsR S W wg g sz ms s).2.1 else n3 (W j))))) := by
  have h12 : 2 ^ L ≤ 2 ^ 12 := Nat.pow_le_pow_right (by omega) hL
  have q1 := hS s
  have q2 := hW s
  have ma : s &&& ms ≤ ms := Nat.and_le_right
  have e8 := d_r κ (i := s) k8 c8 (by omega) (by omega)
  have e9 := d_r κ (i := s) k9 c9 (by omega) (by omega)
  have last : ∀ r : Int × Nat × Nat, nX3_weighSet_66 N 1 40 (n3 s) (n3 sz) (n3 ms) (z3 r.1) (n3 r.2.1) (n3 r.2.2) (n3 sz) (hp κ) = some (n3 r.2.2, hp (hk_wD (hk_wD κ d8 (dC 0 n (fun j => if j = s then z3 r.1 else z3 (S j)))) d9 (dC 0 n (fun j => if j = s then n3 r.2.1 else n3 (W j))))) := by
    intro r
    have w8 := d_w κ (i := s) (v := z3 r.1) k8 c8 (by omega) (by omega)
    have w9 := d_w (hk_wD κ d8 (dC 0 n (fun j => if j = s then z3 r.1 else z3 (S j)))) (i := s) (v := n3 r.2.1) (f := fun x => n3 (W x)) k9 (by rw [D_ne κ hne]; exact c9) (by omega) (by omega)
    have p9 : hk_P (hk_wD κ d8 (dC 0 n (fun j => if j = s then z3 r.1 else z3 (S j)))) 9 = d9 := h9
    rw [nX3_weighSet_66]
    simp (maxSteps := 400000) (disch := omega) only [n3_l, n3_add, n3_mul, n3_sub, n3_subn, n3_lt, n3_le, n3_eq, n3_eqn, n3_neq, n3_and, n3_or, n3_shl, n3_i, n3_cl, ↓hbd_0, ↓hbd_1, ↓hbd_2, hk_ob_0, hk_rd_0, hk_rd_1, hk_rd_2, hk_al_0, hk_al_1, h3r_0, h3r_1, hk_wi_0, hk_wj_0, h3w_0, h3w_1, h3v_0, hk_kI, hk_kJ, hk_kA, hk_kB, A_eq, A_ne, A_row, B_eq, B_ne, B_row, I_eq, I_ne, J_eq, J_ne, Option.bind_some, Option.some.injEq, if_true, if_false, eq_self, true_or, or_true, true_and, and_true, false_or, or_false, not_true_eq_false, not_false_eq_true, Classical.not_not, nar_b0, nar_b1, rz_0, rz_1, rz_i, ite01, Nat.add_zero, Nat.zero_add, Nat.one_mul, mul12, reduceIte, ra_z0, Nat.reduceEqDiff, Nat.reduceLT, Nat.reduceLeDiff, Nat.reduceAdd, Nat.reduceMul, Nat.reduceSub, Nat.reduceDiv, Nat.reduceMod, Bool.false_eq_true, false_and, and_false, reduceCtorEq, Nat.lt_irrefl, h8, w8, p9, w9]
  unfold wsR
  unfold fX3_weighSet nX3_weighSet_0
  by_cases c : s &&& ms = ms
  · have wl := c_weighLoop N κ (m := N) (r0 := (S s, W s, 4096)) h8 h9 k8 k9 c8 c9 hL hn hn2 hs hms hsz hg hS hW hwg ⟨by dsimp only; omega, by dsimp only; omega, by dsimp only; omega⟩ (by omega)
    rw [if_pos c]
    simp (maxSteps := 400000) (disch := omega) only [n3_l, n3_add, n3_mul, n3_sub, n3_subn, n3_lt, n3_le, n3_eq, n3_eqn, n3_neq, n3_and, n3_or, n3_shl, n3_i, n3_cl, ↓hbd_0, ↓hbd_1, ↓hbd_2, hk_ob_0, hk_rd_0, hk_rd_1, hk_rd_2, hk_al_0, hk_al_1, h3r_0, h3r_1, hk_wi_0, hk_wj_0, h3w_0, h3w_1, h3v_0, hk_kI, hk_kJ, hk_kA, hk_kB, A_eq, A_ne, A_row, B_eq, B_ne, B_row, I_eq, I_ne, J_eq, J_ne, Option.bind_some, Option.some.injEq, if_true, if_false, eq_self, true_or, or_true, true_and, and_true, false_or, or_false, not_true_eq_false, not_false_eq_true, Classical.not_not, nar_b0, nar_b1, rz_0, rz_1, rz_i, ite01, Nat.add_zero, Nat.zero_add, Nat.one_mul, mul12, reduceIte, ra_z0, Nat.reduceEqDiff, Nat.reduceLT, Nat.reduceLeDiff, Nat.reduceAdd, Nat.reduceMul, Nat.reduceSub, Nat.reduceDiv, Nat.reduceMod, Bool.false_eq_true, false_and, and_false, reduceCtorEq, c, nX3_weighSet_12, nX3_weighSet_30, nX3_weighSet_47, nX3_weighSet_61, h8, h9, e8, e9]
    rw [wl]
    exact last _
  · have wl := c_weighLoop N κ (m := N) (r0 := (-1000000, 0, 0)) h8 h9 k8 k9 c8 c9 hL hn hn2 hs hms hsz hg hS hW hwg ⟨by decide, by decide, by decide⟩ (by omega)
    rw [if_neg c]
    have e5 : z3 (-1000000) = -n3 1000000 := by decide
    dsimp only at wl
    rw [e5] at wl
    simp (maxSteps := 400000) (disch := omega) only [n3_l, n3_add, n3_mul, n3_sub, n3_subn, n3_lt, n3_le, n3_eq, n3_eqn, n3_neq, n3_and, n3_or, n3_shl, n3_i, n3_cl, ↓hbd_0, ↓hbd_1, ↓hbd_2, hk_ob_0, hk_rd_0, hk_rd_1, hk_rd_2, hk_al_0, hk_al_1, h3r_0, h3r_1, hk_wi_0, hk_wj_0, h3w_0, h3w_1, h3v_0, hk_kI, hk_kJ, hk_kA, hk_kB, A_eq, A_ne, A_row, B_eq, B_ne, B_row, I_eq, I_ne, J_eq, J_ne, Option.bind_some, Option.some.injEq, if_true, if_false, eq_self, true_or, or_true, true_and, and_true, false_or, or_false, not_true_eq_false, not_false_eq_true, Classical.not_not, nar_b0, nar_b1, rz_0, rz_1, rz_i, ite01, Nat.add_zero, Nat.zero_add, Nat.one_mul, mul12, reduceIte, ra_z0, Nat.reduceEqDiff, Nat.reduceLT, Nat.reduceLeDiff, Nat.reduceAdd, Nat.reduceMul, Nat.reduceSub, Nat.reduceDiv, Nat.reduceMod, Bool.false_eq_true, false_and, and_false, reduceCtorEq, c, nX3_weighSet_12, nX3_weighSet_30, nX3_weighSet_47, nX3_weighSet_61, h8, h9, e8, e9]
    rw [wl]
    exact last _
end
