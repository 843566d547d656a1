/-! the reference's reader on the heap: a clause -/
def rSc (κ κ' : hk_T) : Prop := same [75, 76, 77, 78, 79] [(69, 9), (69, 10), (69, 11), (69, 15), (69, 17), (69, 20), (69, 23), (69, 24)] κ κ'
def rSd (κ κ' : hk_T) : Prop := same [75, 76, 77, 78, 79] [(69, 9), (69, 10), (69, 11), (69, 13), (69, 14), (69, 15), (69, 17), (69, 20), (69, 23), (69, 24)] κ κ'
theorem rSc.refl (κ : hk_T) : rSc κ κ := same.refl _ _ _
theorem rSc.trans {κ κ' κ'' : hk_T} (h : rSc κ κ') (g : rSc κ' κ'') : rSc κ κ'' := same.trans h g
theorem rSd.trans {κ κ' κ'' : hk_T} (h : rSd κ κ') (g : rSd κ' κ'') : rSd κ κ'' := same.trans h g
theorem rSc.d {κ κ' : hk_T} (h : rSc κ κ') : rSd κ κ' := same.weak h (by decide) (by decide)
theorem rSg.c {κ κ' : hk_T} (h : rSg κ κ') : rSc κ κ' := same.weak h (by decide) (by decide)
theorem rSb.d {κ κ' : hk_T} (h : rSb κ κ') : rSd κ κ' := same.weak h (by decide) (by decide)
theorem rQ.keep {κ κ' : hk_T} {B : Nat → Nat} {n j k f : Nat} {O G : Nat → Nat} (h : rQ κ B n j k f O G) (s : samJ [75] [(69, 15)] κ κ') : rQ κ' B n j k f O G := by
  obtain ⟨h1, h2, h3, h4, h5, h6, h7, h8, h9⟩ := h
  exact ⟨h1.same s.1 (by decide) (by decide), h2.same s (by decide) (by decide) (by decide), by rw [s.1.2.2.1 69 14 (by decide)]; exact h3, by rw [s.1.2.2.1 69 20 (by decide)]; exact h4, h5, by rw [s.1.2.2.1 69 17 (by decide)]; exact h6, by rw [s.1.1 76 (by decide), s.1.1 77 (by decide)]; exact h7, h8, h9.same s.1 (by decide) (by decide)⟩
theorem rQ.go {κ κ' : hk_T} {B : Nat → Nat} {n j j' k f : Nat} {O G : Nat → Nat} (h : rQ κ B n j k f O G) (s : same [] [(69, 9), (69, 10), (69, 11)] κ κ') (t : rTok κ' B n j') (hj : j ≤ j') : rQ κ' B n j' k f O G := by
  obtain ⟨h1, h2, h3, h4, h5, h6, h7, h8, h9⟩ := h
  exact ⟨h1.same s (by decide) (by decide), t, by rw [s.2.2.1 69 14 (by decide)]; exact h3, by rw [s.2.2.1 69 20 (by decide)]; exact h4, h5, by rw [s.2.2.1 69 17 (by decide)]; exact h6, by rw [s.1 76 (by decide), s.1 77 (by decide)]; exact h7, by omega, h9.same s (by decide) (by decide)⟩
section
variable (N : Nat) (κ : hk_T)
theorem r_cl161 {i : Nat} {x : Int32} (hi : i < 12) (h17 : hk_I κ 69 17 = x) : nX12_readClause_161 N 69 (n3 (8 * i)) (hp κ) = some (hp (hk_wA κ 75 (8 * i + 6) x)) := by
  unfold nX12_readClause_161
  simp (maxSteps := 400000) (disch := omega) only [n3_l, n3_add, n3_mul, n3_sub, n3_subn, n3_lt, n3_le, n3_eq, n3_eqn, n3_neq, n3_and, n3_or, n3_shl, n3_i, n3_cl, ↓hbd_0, ↓hbd_1, ↓hbd_2, hk_ob_0, hk_rd_0, hk_rd_1, hk_rd_2, hk_al_0, hk_al_1, h3r_0, h3r_1, hk_wi_0, hk_wj_0, h3w_0, h3w_1, h3v_0, hk_kI, hk_kJ, hk_kA, hk_kB, A_eq, A_ne, A_row, B_eq, B_ne, B_row, I_eq, I_ne, J_eq, J_ne, Option.bind_some, Option.some.injEq, if_true, if_false, eq_self, true_or, or_true, true_and, and_true, false_or, or_false, not_true_eq_false, not_false_eq_true, Classical.not_not, nar_b0, nar_b1, rz_0, rz_1, rz_i, ite01, Nat.add_zero, Nat.zero_add, Nat.one_mul, mul12, reduceIte, ra_z0, Nat.reduceEqDiff, Nat.reduceLT, Nat.reduceLeDiff, Nat.reduceAdd, Nat.reduceMul, Nat.reduceSub, Nat.reduceDiv, Nat.reduceMod, Bool.false_eq_true, false_and, and_false, reduceCtorEq, h17]
theorem r_cl111 {i : Nat} {x y : Int32} (hi : i < 12) (h17 : hk_I κ 69 17 = x) (h14 : hk_I κ 69 14 = y) : nX12_readClause_111 N 69 (n3 (8 * i)) (hp κ) = if y = 0 then ((fX12_isWord N 69 ((294 : Int64)) (hp (hk_wA (hk_wA κ 75 (8 * i + 4) x) 75 (8 * i + 5) x))).bind fun q8 => if q8.1 = 0 then nX12_readClause_161 N 69 (n3 (8 * i)) q8.2 else (fX12_goOn N 69 q8.2).bind fun h9 => (fX12_readExpression N 69 ((1 : Int32)) h9).bind fun h10 => nX12_readClause_161 N 69 (n3 (8 * i)) h10) else nX12_readClause_161 N 69 (n3 (8 * i)) (hp (hk_wA (hk_wA κ 75 (8 * i + 4) x) 75 (8 * i + 5) x)) := by
  have a1 : ∀ κ, ra_fR (hp κ) 12 69 16 = some 75 := fun κ => rfl
  have a2 : ra_fI (hp κ) 12 69 17 = some x := by rw [← h17]; rfl
  have w1 : ra_aW (hp κ) 0 75 (n3 (8 * i) + (4 : Int32)) x = some (hp (hk_wA κ 75 (8 * i + 4) x)) := by simp (maxSteps := 400000) (disch := omega) only [n3_l, n3_add, n3_mul, n3_sub, n3_subn, n3_lt, n3_le, n3_eq, n3_eqn, n3_neq, n3_and, n3_or, n3_shl, n3_i, n3_cl, ↓hbd_0, ↓hbd_1, ↓hbd_2, hk_ob_0, hk_rd_0, hk_rd_1, hk_rd_2, hk_al_0, hk_al_1, h3r_0, h3r_1, hk_wi_0, hk_wj_0, h3w_0, h3w_1, h3v_0, hk_kI, hk_kJ, hk_kA, hk_kB, A_eq, A_ne, A_row, B_eq, B_ne, B_row, I_eq, I_ne, J_eq, J_ne, Option.bind_some, Option.some.injEq, if_true, if_false, eq_self, true_or, or_true, true_and, and_true, false_or, or_false, not_true_eq_false, not_false_eq_true, Classical.not_not, nar_b0, nar_b1, rz_0, rz_1, rz_i, ite01, Nat.add_zero, Nat.zero_add, Nat.one_mul, mul12, reduceIte, ra_z0, Nat.reduceEqDiff, Nat.reduceLT, Nat.reduceLeDiff, Nat.reduceAdd, Nat.reduceMul, Nat.reduceSub, Nat.reduceDiv, Nat.reduceMod, Bool.false_eq_true, false_and, and_false, reduceCtorEq]
  have a3 : ra_fI (hp (hk_wA κ 75 (8 * i + 4) x)) 12 69 17 = some x := by rw [← h17]; rfl
  have w2 : ra_aW (hp (hk_wA κ 75 (8 * i + 4) x)) 0 75 (n3 (8 * i) + (5 : Int32)) x = some (hp (hk_wA (hk_wA κ 75 (8 * i + 4) x) 75 (8 * i + 5) x)) := by simp (maxSteps := 400000) (disch := omega) only [n3_l, n3_add, n3_mul, n3_sub, n3_subn, n3_lt, n3_le, n3_eq, n3_eqn, n3_neq, n3_and, n3_or, n3_shl, n3_i, n3_cl, ↓hbd_0, ↓hbd_1, ↓hbd_2, hk_ob_0, hk_rd_0, hk_rd_1, hk_rd_2, hk_al_0, hk_al_1, h3r_0, h3r_1, hk_wi_0, hk_wj_0, h3w_0, h3w_1, h3v_0, hk_kI, hk_kJ, hk_kA, hk_kB, A_eq, A_ne, A_row, B_eq, B_ne, B_row, I_eq, I_ne, J_eq, J_ne, Option.bind_some, Option.some.injEq, if_true, if_false, eq_self, true_or, or_true, true_and, and_true, false_or, or_false, not_true_eq_false, not_false_eq_true, Classical.not_not, nar_b0, nar_b1, rz_0, rz_1, rz_i, ite01, Nat.add_zero, Nat.zero_add, Nat.one_mul, mul12, reduceIte, ra_z0, Nat.reduceEqDiff, Nat.reduceLT, Nat.reduceLeDiff, Nat.reduceAdd, Nat.reduceMul, Nat.reduceSub, Nat.reduceDiv, Nat.reduceMod, Bool.false_eq_true, false_and, and_false, reduceCtorEq]
  have a4 : ra_fI (hp (hk_wA (hk_wA κ 75 (8 * i + 4) x) 75 (8 * i + 5) x)) 12 69 14 = some y := by rw [← h14]; rfl
  unfold nX12_readClause_111
  rw [a1, Option.bind_some, a2, Option.bind_some, w1, Option.bind_some, a1, Option.bind_some, a3, Option.bind_some, w2, Option.bind_some, a4, Option.bind_some]
/-- cleared cells -/
theorem r_cl51 {i : Nat} {x : Int32} (hi : i < 12) : ∀ r s q κ, r + s = 8 → ∃ κ', nX12_readClause_51 N (r + q + 1) 69 x (n3 (8 * i)) (n3 s) (hp κ) = nX12_readClause_51 N (q + 1) 69 x (n3 (8 * i)) (n3 8) (hp κ') ∧ samJ [75] [] κ κ' ∧ ∀ y, y < 8 * i → hk_A κ' 75 y = hk_A κ 75 y := by
  intro r
  induction r with
  | zero =>
    intro s q κ h
    have e : s = 8 := by omega
    subst e
    rw [Nat.zero_add]
    exact ⟨κ, rfl, samJ.refl _ _ _, fun _ _ => rfl⟩
  | succ r ih =>
    intro s q κ h
    obtain ⟨κ', e, s1, s2⟩ := ih (s + 1) q (hk_wA κ 75 (8 * i + s) (n3 0)) (by omega)
    have c : s < 8 := by omega
    refine ⟨κ', ?_, ((samJ.refl _ _ _).wA (by decide)).trans s1, fun y hy => by rw [s2 y hy, A_ne (Or.inr (by omega))]⟩
    rw [← e, show r + 1 + q + 1 = (r + q + 1) + 1 by omega, nX12_readClause_51]
    simp (maxSteps := 400000) (disch := omega) only [n3_l, n3_add, n3_mul, n3_sub, n3_subn, n3_lt, n3_le, n3_eq, n3_eqn, n3_neq, n3_and, n3_or, n3_shl, n3_i, n3_cl, ↓hbd_0, ↓hbd_1, ↓hbd_2, hk_ob_0, hk_rd_0, hk_rd_1, hk_rd_2, hk_al_0, hk_al_1, h3r_0, h3r_1, hk_wi_0, hk_wj_0, h3w_0, h3w_1, h3v_0, hk_kI, hk_kJ, hk_kA, hk_kB, A_eq, A_ne, A_row, B_eq, B_ne, B_row, I_eq, I_ne, J_eq, J_ne, Option.bind_some, Option.some.injEq, if_true, if_false, eq_self, true_or, or_true, true_and, and_true, false_or, or_false, not_true_eq_false, not_false_eq_true, Classical.not_not, nar_b0, nar_b1, rz_0, rz_1, rz_i, ite01, Nat.add_zero, Nat.zero_add, Nat.one_mul, mul12, reduceIte, ra_z0, Nat.reduceEqDiff, Nat.reduceLT, Nat.reduceLeDiff, Nat.reduceAdd, Nat.reduceMul, Nat.reduceSub, Nat.reduceDiv, Nat.reduceMod, Bool.false_eq_true, false_and, and_false, reduceCtorEq, c]
/-- a clause begun: head x, at cell 8 i -/
theorem r_cl8 {i f q : Nat} {x : Int32} (hi : i < 12) (h15 : hk_I κ 69 15 = n3 i) (h17 : hk_I κ 69 17 = n3 f) : ∃ κ', nX12_readClause_51 N (q + 1) 69 x (n3 (8 * i)) (n3 8) (hp κ) = (if x = (4 : Int32) then nX12_readClause_111 N 69 (n3 (8 * i)) (hp κ') else (fX12_readExpression N 69 ((0 : Int32)) (hp κ')).bind fun h8 => nX12_readClause_111 N 69 (n3 (8 * i)) h8) ∧ samJ [75] [(69, 15)] κ κ' ∧ hk_I κ' 69 15 = n3 (i + 1) ∧ hk_A κ' 75 (8 * i) = x ∧ hk_A κ' 75 (8 * i + 3) = n3 f ∧ ∀ y, y < 8 * i → hk_A κ' 75 y = hk_A κ 75 y := by
  obtain ⟨κa, ea⟩ : ∃ κa, κa = hk_wA κ 75 (8 * i) x := ⟨_, rfl⟩
  obtain ⟨κb, eb⟩ : ∃ κb, κb = hk_wI κa 69 15 (n3 (i + 1)) := ⟨_, rfl⟩
  obtain ⟨κc, ec⟩ : ∃ κc, κc = hk_wA κb 75 (8 * i + 3) (n3 f) := ⟨_, rfl⟩
  have a1 : ∀ κ, ra_fR (hp κ) 12 69 16 = some 75 := fun κ => rfl
  have w1 : ra_aW (hp κ) 0 75 (n3 (8 * i)) x = some (hp κa) := by
    rw [ea]
    simp (maxSteps := 400000) (disch := omega) only [n3_l, n3_add, n3_mul, n3_sub, n3_subn, n3_lt, n3_le, n3_eq, n3_eqn, n3_neq, n3_and, n3_or, n3_shl, n3_i, n3_cl, ↓hbd_0, ↓hbd_1, ↓hbd_2, hk_ob_0, hk_rd_0, hk_rd_1, hk_rd_2, hk_al_0, hk_al_1, h3r_0, h3r_1, hk_wi_0, hk_wj_0, h3w_0, h3w_1, h3v_0, hk_kI, hk_kJ, hk_kA, hk_kB, A_eq, A_ne, A_row, B_eq, B_ne, B_row, I_eq, I_ne, J_eq, J_ne, Option.bind_some, Option.some.injEq, if_true, if_false, eq_self, true_or, or_true, true_and, and_true, false_or, or_false, not_true_eq_false, not_false_eq_true, Classical.not_not, nar_b0, nar_b1, rz_0, rz_1, rz_i, ite01, Nat.add_zero, Nat.zero_add, Nat.one_mul, mul12, reduceIte, ra_z0, Nat.reduceEqDiff, Nat.reduceLT, Nat.reduceLeDiff, Nat.reduceAdd, Nat.reduceMul, Nat.reduceSub, Nat.reduceDiv, Nat.reduceMod, Bool.false_eq_true, false_and, and_false, reduceCtorEq]
  have a2 : ra_fI (hp κa) 12 69 15 = some (n3 i) := by rw [ea, ← h15]; rfl
  have w2 : ra_fW (hp κa) 12 69 15 (.int (n3 i + (1 : Int32))) = some (hp κb) := by
    rw [eb]
    simp (maxSteps := 400000) (disch := omega) only [n3_l, n3_add, n3_mul, n3_sub, n3_subn, n3_lt, n3_le, n3_eq, n3_eqn, n3_neq, n3_and, n3_or, n3_shl, n3_i, n3_cl, ↓hbd_0, ↓hbd_1, ↓hbd_2, hk_ob_0, hk_rd_0, hk_rd_1, hk_rd_2, hk_al_0, hk_al_1, h3r_0, h3r_1, hk_wi_0, hk_wj_0, h3w_0, h3w_1, h3v_0, hk_kI, hk_kJ, hk_kA, hk_kB, A_eq, A_ne, A_row, B_eq, B_ne, B_row, I_eq, I_ne, J_eq, J_ne, Option.bind_some, Option.some.injEq, if_true, if_false, eq_self, true_or, or_true, true_and, and_true, false_or, or_false, not_true_eq_false, not_false_eq_true, Classical.not_not, nar_b0, nar_b1, rz_0, rz_1, rz_i, ite01, Nat.add_zero, Nat.zero_add, Nat.one_mul, mul12, reduceIte, ra_z0, Nat.reduceEqDiff, Nat.reduceLT, Nat.reduceLeDiff, Nat.reduceAdd, Nat.reduceMul, Nat.reduceSub, Nat.reduceDiv, Nat.reduceMod, Bool.false_eq_true, false_and, and_false, reduceCtorEq]
  have a3 : ra_fI (hp κb) 12 69 17 = some (n3 f) := by rw [eb, ea, ← h17]; rfl
  have w3 : ra_aW (hp κb) 0 75 (n3 (8 * i) + (3 : Int32)) (n3 f) = some (hp κc) := by
    rw [ec]
    simp (maxSteps := 400000) (disch := omega) only [n3_l, n3_add, n3_mul, n3_sub, n3_subn, n3_lt, n3_le, n3_eq, n3_eqn, n3_neq, n3_and, n3_or, n3_shl, n3_i, n3_cl, ↓hbd_0, ↓hbd_1, ↓hbd_2, hk_ob_0, hk_rd_0, hk_rd_1, hk_rd_2, hk_al_0, hk_al_1, h3r_0, h3r_1, hk_wi_0, hk_wj_0, h3w_0, h3w_1, h3v_0, hk_kI, hk_kJ, hk_kA, hk_kB, A_eq, A_ne, A_row, B_eq, B_ne, B_row, I_eq, I_ne, J_eq, J_ne, Option.bind_some, Option.some.injEq, if_true, if_false, eq_self, true_or, or_true, true_and, and_true, false_or, or_false, not_true_eq_false, not_false_eq_true, Classical.not_not, nar_b0, nar_b1, rz_0, rz_1, rz_i, ite01, Nat.add_zero, Nat.zero_add, Nat.one_mul, mul12, reduceIte, ra_z0, Nat.reduceEqDiff, Nat.reduceLT, Nat.reduceLeDiff, Nat.reduceAdd, Nat.reduceMul, Nat.reduceSub, Nat.reduceDiv, Nat.reduceMod, Bool.false_eq_true, false_and, and_false, reduceCtorEq]
  have n8 : ¬ n3 8 < (8 : Int32) := by decide
  refine ⟨κc, ?_, ?_, ?_, ?_, ?_, fun y hy => ?_⟩
  · rw [nX12_readClause_51, if_neg n8, a1, Option.bind_some, w1, Option.bind_some, a2, Option.bind_some, w2, Option.bind_some, a1, Option.bind_some, a3, Option.bind_some, w3, Option.bind_some]
  · rw [ec, eb, ea]
    exact (((samJ.refl _ _ _).wA (by decide)).wI (by decide)).wA (by decide)
  · rw [ec, eb]
    show hk_I (hk_wI κa 69 15 (n3 (i + 1))) 69 15 = _
    exact I_eq
  · rw [ec, A_ne (Or.inr (by omega)), eb]
    show hk_A κa 75 (8 * i) = x
    rw [ea, A_eq rfl]
  · rw [ec, A_eq rfl]
  · rw [ec, A_ne (Or.inr (by omega)), eb]
    show hk_A κa 75 y = _
    rw [ea, A_ne (Or.inr (by omega))]
/-- what a clause comes to -/
def rCl (κ : hk_T) (B : Nat → Nat) (n f i : Nat) (O G : Nat → Nat) (r : Sum Nat (Nat × Nat × Nat × valT × valT)) (run : Option ra_H) : Prop := match r with
  | .inl e => ∃ κ', run = some (hp κ') ∧ rSd κ κ' ∧ hk_I κ' 69 14 = n3 1 ∧ hk_I κ' 69 13 = n3 e
  | .inr (j', k', hh, v, w) => ∃ κ' se f' O' G', run = some (hp κ') ∧ rSc κ κ' ∧ rQ κ' B n j' k' f' O' G' ∧ (∀ x, x < f → O' x = O x ∧ G' x = G x) ∧ f ≤ se ∧ se ≤ f' ∧ hh ≤ 4 ∧ ((hh < 4 ∧ ∃ d, d ≤ 50 ∧ rFr O' G' f se d v) ∨ (hh = 4 ∧ f = se ∧ v = vOne)) ∧ rPc O' G' se f' w ∧ vT w ∧ hk_I κ' 69 15 = n3 (i + 1) ∧ hk_A κ' 75 (8 * i) = n3 hh ∧ hk_A κ' 75 (8 * i + 3) = n3 f ∧ hk_A κ' 75 (8 * i + 4) = n3 se ∧ hk_A κ' 75 (8 * i + 5) = n3 se ∧ hk_A κ' 75 (8 * i + 6) = n3 f' ∧ ∀ y, y < 8 * i → hk_A κ' 75 y = hk_A κ 75 y
/-- the part behind the sum -/
theorem r_clIf {B : Nat → Nat} {n j k f i : Nat} {O G : Nat → Nat} (h : rQ κ B n j k f O G) (hi : i < 12) (hN : 1000 < N) : match pIf B n j k with
  | .inl e => ∃ κ', nX12_readClause_111 N 69 (n3 (8 * i)) (hp κ) = some (hp κ') ∧ rSd κ κ' ∧ hk_I κ' 69 14 = n3 1 ∧ hk_I κ' 69 13 = n3 e
  | .inr (j', k', w) => ∃ κ' f' O' G', nX12_readClause_111 N 69 (n3 (8 * i)) (hp κ) = some (hp κ') ∧ rSc κ κ' ∧ rQ κ' B n j' k' f' O' G' ∧ (∀ x, x < f → O' x = O x ∧ G' x = G x) ∧ f ≤ f' ∧ rPc O' G' f f' w ∧ vT w ∧ hk_I κ' 69 15 = hk_I κ 69 15 ∧ hk_A κ' 75 (8 * i + 4) = n3 f ∧ hk_A κ' 75 (8 * i + 5) = n3 f ∧ hk_A κ' 75 (8 * i + 6) = n3 f' ∧ ∀ y, y < 8 * i + 4 → hk_A κ' 75 y = hk_A κ 75 y := by
  have h17 := h.2.2.2.2.2.1
  have h14 := h.2.2.1
  have st := r_cl111 N κ hi h17 h14
  rw [if_pos (show n3 0 = (0 : Int32) from rfl)] at st
  obtain ⟨κ1, e1⟩ : ∃ κ1, κ1 = hk_wA (hk_wA κ 75 (8 * i + 4) (n3 f)) 75 (8 * i + 5) (n3 f) := ⟨_, rfl⟩
  rw [← e1] at st
  have s1 : samJ [75] [(69, 15)] κ κ1 := by rw [e1]; exact ((samJ.refl _ _ _).wA (by decide)).wA (by decide)
  have s1c : rSc κ κ1 := s1.1.weak (by decide) (by decide)
  have p1 := h.keep s1
  have i17 := p1.2.2.2.2.2.1
  have f15 : hk_I κ1 69 15 = hk_I κ 69 15 := by rw [e1]; rfl
  have b4 : hk_A κ1 75 (8 * i + 4) = n3 f := by rw [e1, A_ne (Or.inr (by omega)), A_eq rfl]
  have b5 : hk_A κ1 75 (8 * i + 5) = n3 f := by rw [e1, A_eq rfl]
  have by' : ∀ y, y < 8 * i + 4 → hk_A κ1 75 y = hk_A κ 75 y := fun y hy => by rw [e1, A_ne (Or.inr (by omega)), A_ne (Or.inr (by omega))]
  have w : fX12_isWord N 69 (294 : Int64) (hp κ1) = _ := r_isWord N κ1 (k := 17) (w := (294 : Int64)) p1.2.1 (by omega) (by rw [enW_at.2.2.2.2.2.2.2.2.2.2.2.2.2.2.2.2.2.1]; rfl)
  have z0 : n3 0 = (0 : Int32) := rfl
  have z1 : ¬ n3 1 = (0 : Int32) := by decide
  rw [w, Option.bind_some] at st
  unfold pIf
  by_cases cw : isW B n 17 j
  · rw [if_pos cw] at st ⊢
    rw [if_neg z1] at st
    obtain ⟨κ2, e2, s2, t2⟩ := r_goP N κ1 p1.1 p1.2.1 hN
    have nx := (nxt_le (B := B) p1.2.1.1).2 (isW_lt cw)
    have p2 := p1.go s2 t2 (by omega)
    have s2c : rSc κ1 κ2 := s2.weak (by decide) (by decide)
    have r := r_expr N κ2 (tst := true) (r := pTest B n 9 0 (nxt B n j) k) p2 (fun m hm => rp_exT p2.1.1 p2.2.1.1 hm) hN
    rw [if_pos rfl] at r
    rw [e2, Option.bind_some] at st
    cases hq : pTest B n 9 0 (nxt B n j) k with
    | inl e =>
      rw [hq] at r
      obtain ⟨κ3, e3, s3, b1, b2⟩ := r
      have e3' : fX12_readExpression N 69 (1 : Int32) (hp κ2) = some (hp κ3) := e3
      rw [e3', Option.bind_some, r_cl161 N κ3 hi rfl] at st
      refine ⟨_, st, (s1c.trans s2c).d.trans (s3.d.trans (same.wA (same.refl _ _ _) (by decide))), b1, b2⟩
    | inr t =>
      obtain ⟨j2, k2, v⟩ := t
      rw [hq] at r
      obtain ⟨κ3, f3, O3, G3, e3, s3, p3, a1, a2, a3, a4, a5, a6, a7⟩ := r
      have e3' : fX12_readExpression N 69 (1 : Int32) (hp κ2) = some (hp κ3) := e3
      rw [e3', Option.bind_some, r_cl161 N κ3 hi p3.2.2.2.2.2.1] at st
      have s4 : samJ [75] [(69, 15)] κ3 (hk_wA κ3 75 (8 * i + 6) (n3 f3)) := (samJ.refl _ _ _).wA (by decide)
      have k50 := p3.2.2.2.2.1
      have r75 : hk_A κ3 75 = hk_A κ1 75 := by rw [s3.1 75 (by decide), s2.1 75 (by decide)]
      refine ⟨_, f3, O3, G3, st, (s1c.trans s2c).trans (s3.c.trans (same.wA (same.refl _ _ _) (by decide))), p3.keep s4, a1, by omega, Or.inl ⟨k2 - k, by omega, a3⟩, a7 rfl, ?_, ?_, ?_, A_eq rfl, fun y hy => ?_⟩
      · show hk_I κ3 69 15 = _
        rw [s3.2.2.1 69 15 (by decide), s2.2.2.1 69 15 (by decide)]
        exact f15
      · rw [A_ne (Or.inr (by omega)), r75]; exact b4
      · rw [A_ne (Or.inr (by omega)), r75]; exact b5
      · rw [A_ne (Or.inr (by omega)), r75]; exact by' y hy
  · rw [if_neg cw] at st ⊢
    rw [if_pos z0, r_cl161 N κ1 hi i17] at st
    have s4 : samJ [75] [(69, 15)] κ1 (hk_wA κ1 75 (8 * i + 6) (n3 f)) := (samJ.refl _ _ _).wA (by decide)
    refine ⟨_, f, O, G, st, s1c.trans (same.wA (same.refl _ _ _) (by decide)), p1.keep s4, fun _ _ => ⟨rfl, rfl⟩, Nat.le_refl _, Or.inr ⟨rfl, rfl⟩, vOne_t, f15, ?_, ?_, A_eq rfl, fun y hy => ?_⟩
    · rw [A_ne (Or.inr (by omega))]; exact b4
    · rw [A_ne (Or.inr (by omega))]; exact b5
    · rw [A_ne (Or.inr (by omega))]; exact by' y hy
end
