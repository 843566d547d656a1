/-! ask: the reference -/
def rPc (O G : Nat → Nat) (f t : Nat) (v : valT) : Prop := (∃ d, d ≤ 50 ∧ rFr O G f t d v) ∨ (f = t ∧ v = vOne)
section
variable (N : Nat) (κ : hk_T)
theorem r_piece {O G : Nat → Nat} {t0 f t d : Nat} {v : valT} {X : Nat → Int32} (hE : rEnv κ O G t t0 f t X) (hd : d ≤ 50) (hF : rFr O G f t d v) (hN : 1000 < N) :
    ∃ κ', fX12_reckonAll N 69 (n3 f) (n3 t) (hp κ) = some (hp κ') ∧ same [83] [(69, 30)] κ κ' ∧ (∀ j, j ≠ 31 → hk_J κ' j = hk_J κ j) ∧ (∀ a, v X = some a → hk_I κ' 69 30 = n3 0 ∧ hk_J κ' 31 = Int64.ofInt a) ∧ (v X = none → hk_I κ' 69 30 = n3 1) := by
  have t4 := hE.1
  have hE0 : rEnv (hk_wI κ 69 30 (n3 0)) O G t t0 f t X := hE.same ((samJ.refl _ _ _).wI (by decide))
  obtain ⟨κ1, r1, r2, r3, r4⟩ := hF.2.2 N N (hk_wI κ 69 30 (n3 0)) t t0 0 X hE0 I_eq (by omega) (by omega)
  have st : fX12_reckonAll N 69 (n3 f) (n3 t) (hp κ) = rLo N N t 0 f (hk_wI κ 69 30 (n3 0)) := by
    unfold rLo fX12_reckonAll nX12_reckonAll_0
    simp (maxSteps := 400000) (disch := omega) only [n3_l, n3_add, n3_mul, n3_sub, n3_subn, n3_lt, n3_le, n3_eq, n3_eqn, n3_neq, n3_and, n3_or, n3_shl, n3_i, n3_cl, ↓hbd_0, ↓hbd_1, ↓hbd_2, hk_ob_0, hk_rd_0, hk_rd_1, hk_rd_2, hk_al_0, hk_al_1, h3r_0, h3r_1, hk_wi_0, hk_wj_0, h3w_0, h3w_1, h3v_0, hk_kI, hk_kJ, hk_kA, hk_kB, A_eq, A_ne, A_row, B_eq, B_ne, B_row, I_eq, I_ne, J_eq, J_ne, Option.bind_some, Option.some.injEq, if_true, if_false, eq_self, true_or, or_true, true_and, and_true, false_or, or_false, not_true_eq_false, not_false_eq_true, Classical.not_not, nar_b0, nar_b1, rz_0, rz_1, rz_i, ite01, Nat.add_zero, Nat.zero_add, Nat.one_mul, mul12, reduceIte, ra_z0, Nat.reduceEqDiff, Nat.reduceLT, Nat.reduceLeDiff, Nat.reduceAdd, Nat.reduceMul, Nat.reduceSub, Nat.reduceDiv, Nat.reduceMod, Bool.false_eq_true, false_and, and_false, reduceCtorEq]
  have s1 : same [83] [(69, 30)] κ κ1 := ((same.refl _ _ _).wI (by decide)).trans r1.1
  have J1 : hk_J κ1 = hk_J κ := r1.2
  have wJ : ∀ x, same [83] [(69, 30)] κ (hk_wJ κ1 31 x) := fun x => s1
  have keepJ : ∀ x j, j ≠ 31 → hk_J (hk_wJ κ1 31 x) j = hk_J κ j := fun x j hj => by rw [J_ne hj, J1]
  cases hv : v X with
  | some a =>
    obtain ⟨r5, rz, m', r6, r7⟩ := r3 a hv
    obtain ⟨m', rfl⟩ : ∃ j, m' = j + 1 := ⟨m' - 1, by have := hF.1; omega⟩
    refine ⟨hk_wJ κ1 31 (Int64.ofInt a), ?_, wJ _, keepJ _, ?_, fun z => by cases z⟩
    · rw [st, r7]
      unfold rLo
      rw [nX12_reckonAll_10]
      simp (maxSteps := 400000) (disch := omega) only [n3_l, n3_add, n3_mul, n3_sub, n3_subn, n3_lt, n3_le, n3_eq, n3_eqn, n3_neq, n3_and, n3_or, n3_shl, n3_i, n3_cl, ↓hbd_0, ↓hbd_1, ↓hbd_2, hk_ob_0, hk_rd_0, hk_rd_1, hk_rd_2, hk_al_0, hk_al_1, h3r_0, h3r_1, hk_wi_0, hk_wj_0, h3w_0, h3w_1, h3v_0, hk_kI, hk_kJ, hk_kA, hk_kB, A_eq, A_ne, A_row, B_eq, B_ne, B_row, I_eq, I_ne, J_eq, J_ne, Option.bind_some, Option.some.injEq, if_true, if_false, eq_self, true_or, or_true, true_and, and_true, false_or, or_false, not_true_eq_false, not_false_eq_true, Classical.not_not, nar_b0, nar_b1, rz_0, rz_1, rz_i, ite01, Nat.add_zero, Nat.zero_add, Nat.one_mul, mul12, reduceIte, ra_z0, Nat.reduceEqDiff, Nat.reduceLT, Nat.reduceLeDiff, Nat.reduceAdd, Nat.reduceMul, Nat.reduceSub, Nat.reduceDiv, Nat.reduceMod, Bool.false_eq_true, false_and, and_false, reduceCtorEq, Nat.lt_irrefl, nX12_reckonAll_245, r5, nX12_reckonAll_260]
    · intro b hb
      have := Option.some.inj hb
      exact ⟨rz, by rw [J_eq, this]⟩
  | none =>
    obtain ⟨z1, m', n', at', z2, z3, z4, z5⟩ := r4 hv
    obtain ⟨m', rfl⟩ : ∃ j, m' = j + 1 := ⟨m' - 1, by have := hF.1; omega⟩
    have fin : ∃ x, nX12_reckonAll_245 N 69 (n3 n') (hp κ1) = some (hp (hk_wJ κ1 31 x)) := by
      by_cases c : n' ≤ 0
      · refine ⟨(0 : Int64), ?_⟩
        simp (maxSteps := 400000) (disch := omega) only [n3_l, n3_add, n3_mul, n3_sub, n3_subn, n3_lt, n3_le, n3_eq, n3_eqn, n3_neq, n3_and, n3_or, n3_shl, n3_i, n3_cl, ↓hbd_0, ↓hbd_1, ↓hbd_2, hk_ob_0, hk_rd_0, hk_rd_1, hk_rd_2, hk_al_0, hk_al_1, h3r_0, h3r_1, hk_wi_0, hk_wj_0, h3w_0, h3w_1, h3v_0, hk_kI, hk_kJ, hk_kA, hk_kB, A_eq, A_ne, A_row, B_eq, B_ne, B_row, I_eq, I_ne, J_eq, J_ne, Option.bind_some, Option.some.injEq, if_true, if_false, eq_self, true_or, or_true, true_and, and_true, false_or, or_false, not_true_eq_false, not_false_eq_true, Classical.not_not, nar_b0, nar_b1, rz_0, rz_1, rz_i, ite01, Nat.add_zero, Nat.zero_add, Nat.one_mul, mul12, reduceIte, ra_z0, Nat.reduceEqDiff, Nat.reduceLT, Nat.reduceLeDiff, Nat.reduceAdd, Nat.reduceMul, Nat.reduceSub, Nat.reduceDiv, Nat.reduceMod, Bool.false_eq_true, false_and, and_false, reduceCtorEq, nX12_reckonAll_245, c, nX12_reckonAll_260]
      · refine ⟨hk_B κ1 83 0, ?_⟩
        simp (maxSteps := 400000) (disch := omega) only [n3_l, n3_add, n3_mul, n3_sub, n3_subn, n3_lt, n3_le, n3_eq, n3_eqn, n3_neq, n3_and, n3_or, n3_shl, n3_i, n3_cl, ↓hbd_0, ↓hbd_1, ↓hbd_2, hk_ob_0, hk_rd_0, hk_rd_1, hk_rd_2, hk_al_0, hk_al_1, h3r_0, h3r_1, hk_wi_0, hk_wj_0, h3w_0, h3w_1, h3v_0, hk_kI, hk_kJ, hk_kA, hk_kB, A_eq, A_ne, A_row, B_eq, B_ne, B_row, I_eq, I_ne, J_eq, J_ne, Option.bind_some, Option.some.injEq, if_true, if_false, eq_self, true_or, or_true, true_and, and_true, false_or, or_false, not_true_eq_false, not_false_eq_true, Classical.not_not, nar_b0, nar_b1, rz_0, rz_1, rz_i, ite01, Nat.add_zero, Nat.zero_add, Nat.one_mul, mul12, reduceIte, ra_z0, Nat.reduceEqDiff, Nat.reduceLT, Nat.reduceLeDiff, Nat.reduceAdd, Nat.reduceMul, Nat.reduceSub, Nat.reduceDiv, Nat.reduceMod, Bool.false_eq_true, false_and, and_false, reduceCtorEq, nX12_reckonAll_245, c, nX12_reckonAll_260]
    obtain ⟨x, fin⟩ := fin
    refine ⟨hk_wJ κ1 31 x, ?_, wJ _, keepJ _, fun a z => (by cases z), fun _ => z1⟩
    rw [st, z5]
    unfold rLo
    rw [nX12_reckonAll_10]
    by_cases c : at' < t
    · simp (maxSteps := 400000) (disch := omega) only [n3_l, n3_add, n3_mul, n3_sub, n3_subn, n3_lt, n3_le, n3_eq, n3_eqn, n3_neq, n3_and, n3_or, n3_shl, n3_i, n3_cl, ↓hbd_0, ↓hbd_1, ↓hbd_2, hk_ob_0, hk_rd_0, hk_rd_1, hk_rd_2, hk_al_0, hk_al_1, h3r_0, h3r_1, hk_wi_0, hk_wj_0, h3w_0, h3w_1, h3v_0, hk_kI, hk_kJ, hk_kA, hk_kB, A_eq, A_ne, A_row, B_eq, B_ne, B_row, I_eq, I_ne, J_eq, J_ne, Option.bind_some, Option.some.injEq, if_true, if_false, eq_self, true_or, or_true, true_and, and_true, false_or, or_false, not_true_eq_false, not_false_eq_true, Classical.not_not, nar_b0, nar_b1, rz_0, rz_1, rz_i, ite01, Nat.add_zero, Nat.zero_add, Nat.one_mul, mul12, reduceIte, ra_z0, Nat.reduceEqDiff, Nat.reduceLT, Nat.reduceLeDiff, Nat.reduceAdd, Nat.reduceMul, Nat.reduceSub, Nat.reduceDiv, Nat.reduceMod, Bool.false_eq_true, false_and, and_false, reduceCtorEq, c, z1, fin]
    · simp (maxSteps := 400000) (disch := omega) only [n3_l, n3_add, n3_mul, n3_sub, n3_subn, n3_lt, n3_le, n3_eq, n3_eqn, n3_neq, n3_and, n3_or, n3_shl, n3_i, n3_cl, ↓hbd_0, ↓hbd_1, ↓hbd_2, hk_ob_0, hk_rd_0, hk_rd_1, hk_rd_2, hk_al_0, hk_al_1, h3r_0, h3r_1, hk_wi_0, hk_wj_0, h3w_0, h3w_1, h3v_0, hk_kI, hk_kJ, hk_kA, hk_kB, A_eq, A_ne, A_row, B_eq, B_ne, B_row, I_eq, I_ne, J_eq, J_ne, Option.bind_some, Option.some.injEq, if_true, if_false, eq_self, true_or, or_true, true_and, and_true, false_or, or_false, not_true_eq_false, not_false_eq_true, Classical.not_not, nar_b0, nar_b1, rz_0, rz_1, rz_i, ite01, Nat.add_zero, Nat.zero_add, Nat.one_mul, mul12, reduceIte, ra_z0, Nat.reduceEqDiff, Nat.reduceLT, Nat.reduceLeDiff, Nat.reduceAdd, Nat.reduceMul, Nat.reduceSub, Nat.reduceDiv, Nat.reduceMod, Bool.false_eq_true, false_and, and_false, reduceCtorEq, c, fin]
/-- a clause of a text: k where it lies -/
theorem r_isSo {O G : Nat → Nat} {t0 k sf se te d1 d2 : Nat} {sv tv : valT} {X : Nat → Int32} (hk : k + 6 < 7960) (hE : ∀ f t, t ≤ te → rEnv κ O G t t0 f t X) (k3 : hk_A κ 71 (k + 3) = n3 sf) (k4 : hk_A κ 71 (k + 4) = n3 se) (k5 : hk_A κ 71 (k + 5) = n3 se) (k6 : hk_A κ 71 (k + 6) = n3 te) (hs : (d1 ≤ 50 ∧ rFr O G sf se d1 sv) ∨ (sf = se ∧ sv = vOne)) (ht : (d2 ≤ 50 ∧ rFr O G se te d2 tv) ∨ (se = te ∧ tv = vOne)) (hte : te ≤ 400) (hse : se ≤ te) (hT : vT tv) (hN : 1000 < N) :
    ∃ κ', fX12_isSo N 69 (n3 k) (hp κ) = some (if tv X = some 1 ∧ sv X ≠ none then n3 1 else n3 0, hp κ') ∧ same [83] [(69, 30)] κ κ' ∧ (∀ j, j ≠ 31 → j ≠ 32 → hk_J κ' j = hk_J κ j) ∧ (tv X = some 1 → ∀ a, sv X = some a → sf < se → hk_J κ' 32 = Int64.ofInt a) := by
  -- the sum
  have sum : ∀ κ1, same [83] [(69, 30)] κ κ1 → (∀ j, j ≠ 31 → hk_J κ1 j = hk_J κ j) → ∃ κ', nX12_isSo_59 N 69 (n3 k) (hp κ1) = some (if sv X ≠ none then n3 1 else n3 0, hp κ') ∧ same [83] [(69, 30)] κ κ' ∧ (∀ j, j ≠ 31 → j ≠ 32 → hk_J κ' j = hk_J κ j) ∧ (∀ a, sv X = some a → sf < se → hk_J κ' 32 = Int64.ofInt a) := by
    intro κ1 s1 j1
    have q3 : hk_A κ1 71 (k + 3) = n3 sf := by rw [s1.1 71 (by decide)]; exact k3
    have q4 : hk_A κ1 71 (k + 4) = n3 se := by rw [s1.1 71 (by decide)]; exact k4
    rcases hs with ⟨hd, hF⟩ | ⟨e1, e2⟩
    · have lt := hF.1
      have hE1 : rEnv (hk_wJ κ1 32 (0 : Int64)) O G se t0 sf se X := by
        obtain ⟨a, b, c, d, e, g, i⟩ := hE sf se (by omega)
        exact ⟨a, b, c, by show hk_I κ1 69 27 = _; rw [s1.2.2.1 69 27 (by decide)]; exact d, by show ∀ i, _ → _ → hk_A κ1 71 _ = _ ∧ hk_A κ1 71 _ = _; rw [s1.1 71 (by decide)]; exact e, by show ∀ g, _ → hk_B κ1 82 _ = _; rw [s1.2.1 82 (by decide)]; exact g, i⟩
      obtain ⟨κ2, p1, p2, p3, p4, p5⟩ := r_piece N (hk_wJ κ1 32 (0 : Int64)) hE1 hd hF hN
      have ne : ¬ sf = se := by omega
      have s2 : same [83] [(69, 30)] κ κ2 := s1.trans p2
      cases hv : sv X with
      | none =>
        have z1 := p5 hv
        have z2 : hk_I (hk_wJ κ2 32 (hk_J κ2 31)) 69 30 = n3 1 := z1
        refine ⟨hk_wJ κ2 32 (hk_J κ2 31), ?_, s2, ?_, fun a z => by cases z⟩
        · simp (maxSteps := 400000) (disch := omega) only [n3_l, n3_add, n3_mul, n3_sub, n3_subn, n3_lt, n3_le, n3_eq, n3_eqn, n3_neq, n3_and, n3_or, n3_shl, n3_i, n3_cl, ↓hbd_0, ↓hbd_1, ↓hbd_2, hk_ob_0, hk_rd_0, hk_rd_1, hk_rd_2, hk_al_0, hk_al_1, h3r_0, h3r_1, hk_wi_0, hk_wj_0, h3w_0, h3w_1, h3v_0, hk_kI, hk_kJ, hk_kA, hk_kB, A_eq, A_ne, A_row, B_eq, B_ne, B_row, I_eq, I_ne, J_eq, J_ne, Option.bind_some, Option.some.injEq, if_true, if_false, eq_self, true_or, or_true, true_and, and_true, false_or, or_false, not_true_eq_false, not_false_eq_true, Classical.not_not, nar_b0, nar_b1, rz_0, rz_1, rz_i, ite01, Nat.add_zero, Nat.zero_add, Nat.one_mul, mul12, reduceIte, ra_z0, Nat.reduceEqDiff, Nat.reduceLT, Nat.reduceLeDiff, Nat.reduceAdd, Nat.reduceMul, Nat.reduceSub, Nat.reduceDiv, Nat.reduceMod, Bool.false_eq_true, false_and, and_false, reduceCtorEq, nX12_isSo_59, q3, q4, ne, p1, z2, z1, nX12_isSo_125]
          rfl
        · intro j h1 h2
          rw [J_ne h2, p3 j h1, J_ne h2, j1 j h1]
      | some a =>
        obtain ⟨z1, z3⟩ := p4 a hv
        have z2 : hk_I (hk_wJ κ2 32 (Int64.ofInt a)) 69 30 = n3 0 := z1
        refine ⟨hk_wJ κ2 32 (Int64.ofInt a), ?_, s2, ?_, ?_⟩
        · simp (maxSteps := 400000) (disch := omega) only [n3_l, n3_add, n3_mul, n3_sub, n3_subn, n3_lt, n3_le, n3_eq, n3_eqn, n3_neq, n3_and, n3_or, n3_shl, n3_i, n3_cl, ↓hbd_0, ↓hbd_1, ↓hbd_2, hk_ob_0, hk_rd_0, hk_rd_1, hk_rd_2, hk_al_0, hk_al_1, h3r_0, h3r_1, hk_wi_0, hk_wj_0, h3w_0, h3w_1, h3v_0, hk_kI, hk_kJ, hk_kA, hk_kB, A_eq, A_ne, A_row, B_eq, B_ne, B_row, I_eq, I_ne, J_eq, J_ne, Option.bind_some, Option.some.injEq, if_true, if_false, eq_self, true_or, or_true, true_and, and_true, false_or, or_false, not_true_eq_false, not_false_eq_true, Classical.not_not, nar_b0, nar_b1, rz_0, rz_1, rz_i, ite01, Nat.add_zero, Nat.zero_add, Nat.one_mul, mul12, reduceIte, ra_z0, Nat.reduceEqDiff, Nat.reduceLT, Nat.reduceLeDiff, Nat.reduceAdd, Nat.reduceMul, Nat.reduceSub, Nat.reduceDiv, Nat.reduceMod, Bool.false_eq_true, false_and, and_false, reduceCtorEq, nX12_isSo_59, q3, q4, ne, p1, z3, z2, z1, nX12_isSo_125]
          rfl
        · intro j h1 h2
          rw [J_ne h2, p3 j h1, J_ne h2, j1 j h1]
        · intro b hb _
          have := Option.some.inj hb
          rw [J_eq, this]
    · refine ⟨hk_wJ κ1 32 (0 : Int64), ?_, s1, ?_, fun a _ h => by omega⟩
      · rw [e1] at q3
        have e3 : sv X ≠ none := by rw [e2]; intro z; cases z
        simp (maxSteps := 400000) (disch := omega) only [n3_l, n3_add, n3_mul, n3_sub, n3_subn, n3_lt, n3_le, n3_eq, n3_eqn, n3_neq, n3_and, n3_or, n3_shl, n3_i, n3_cl, ↓hbd_0, ↓hbd_1, ↓hbd_2, hk_ob_0, hk_rd_0, hk_rd_1, hk_rd_2, hk_al_0, hk_al_1, h3r_0, h3r_1, hk_wi_0, hk_wj_0, h3w_0, h3w_1, h3v_0, hk_kI, hk_kJ, hk_kA, hk_kB, A_eq, A_ne, A_row, B_eq, B_ne, B_row, I_eq, I_ne, J_eq, J_ne, Option.bind_some, Option.some.injEq, if_true, if_false, eq_self, true_or, or_true, true_and, and_true, false_or, or_false, not_true_eq_false, not_false_eq_true, Classical.not_not, nar_b0, nar_b1, rz_0, rz_1, rz_i, ite01, Nat.add_zero, Nat.zero_add, Nat.one_mul, mul12, reduceIte, ra_z0, Nat.reduceEqDiff, Nat.reduceLT, Nat.reduceLeDiff, Nat.reduceAdd, Nat.reduceMul, Nat.reduceSub, Nat.reduceDiv, Nat.reduceMod, Bool.false_eq_true, false_and, and_false, reduceCtorEq, nX12_isSo_59, q3, q4, e3, ne_eq]
      · intro j h1 h2
        rw [J_ne h2, j1 j h1]
  unfold fX12_isSo nX12_isSo_0
  rcases ht with ⟨hd, hF⟩ | ⟨e1, e2⟩
  · have lt := hF.1
    obtain ⟨κ1, p1, p2, p3, p4, p5⟩ := r_piece N κ (hE se te (Nat.le_refl _)) hd hF hN
    cases hv : tv X with
    | none =>
      have z1 := p5 hv
      refine ⟨κ1, ?_, p2, fun j h1 _ => p3 j h1, fun z => by cases z⟩
      have e4 : ¬ ((none : Option Int) = some 1 ∧ sv X ≠ none) := fun z => by cases z.1
      rw [if_neg e4]
      simp (maxSteps := 400000) (disch := omega) only [n3_l, n3_add, n3_mul, n3_sub, n3_subn, n3_lt, n3_le, n3_eq, n3_eqn, n3_neq, n3_and, n3_or, n3_shl, n3_i, n3_cl, ↓hbd_0, ↓hbd_1, ↓hbd_2, hk_ob_0, hk_rd_0, hk_rd_1, hk_rd_2, hk_al_0, hk_al_1, h3r_0, h3r_1, hk_wi_0, hk_wj_0, h3w_0, h3w_1, h3v_0, hk_kI, hk_kJ, hk_kA, hk_kB, A_eq, A_ne, A_row, B_eq, B_ne, B_row, I_eq, I_ne, J_eq, J_ne, Option.bind_some, Option.some.injEq, if_true, if_false, eq_self, true_or, or_true, true_and, and_true, false_or, or_false, not_true_eq_false, not_false_eq_true, Classical.not_not, nar_b0, nar_b1, rz_0, rz_1, rz_i, ite01, Nat.add_zero, Nat.zero_add, Nat.one_mul, mul12, reduceIte, ra_z0, Nat.reduceEqDiff, Nat.reduceLT, Nat.reduceLeDiff, Nat.reduceAdd, Nat.reduceMul, Nat.reduceSub, Nat.reduceDiv, Nat.reduceMod, Bool.false_eq_true, false_and, and_false, reduceCtorEq, k5, k6, lt, p1, z1, nX12_isSo_57]
    | some a =>
      obtain ⟨z1, z2⟩ := p4 a hv
      rcases hT X a hv with c | c
      · subst c
        have l0 : lg_cmp (Int64.ofInt 0) (0 : Int64) = n3 0 := by rw [lg3_eq]; rfl
        refine ⟨κ1, ?_, p2, fun j h1 _ => p3 j h1, fun z => by cases z⟩
        have e4 : ¬ (some (0 : Int) = some 1 ∧ sv X ≠ none) := fun z => by cases z.1
        rw [if_neg e4]
        simp (maxSteps := 400000) (disch := omega) only [n3_l, n3_add, n3_mul, n3_sub, n3_subn, n3_lt, n3_le, n3_eq, n3_eqn, n3_neq, n3_and, n3_or, n3_shl, n3_i, n3_cl, ↓hbd_0, ↓hbd_1, ↓hbd_2, hk_ob_0, hk_rd_0, hk_rd_1, hk_rd_2, hk_al_0, hk_al_1, h3r_0, h3r_1, hk_wi_0, hk_wj_0, h3w_0, h3w_1, h3v_0, hk_kI, hk_kJ, hk_kA, hk_kB, A_eq, A_ne, A_row, B_eq, B_ne, B_row, I_eq, I_ne, J_eq, J_ne, Option.bind_some, Option.some.injEq, if_true, if_false, eq_self, true_or, or_true, true_and, and_true, false_or, or_false, not_true_eq_false, not_false_eq_true, Classical.not_not, nar_b0, nar_b1, rz_0, rz_1, rz_i, ite01, Nat.add_zero, Nat.zero_add, Nat.one_mul, mul12, reduceIte, ra_z0, Nat.reduceEqDiff, Nat.reduceLT, Nat.reduceLeDiff, Nat.reduceAdd, Nat.reduceMul, Nat.reduceSub, Nat.reduceDiv, Nat.reduceMod, Bool.false_eq_true, false_and, and_false, reduceCtorEq, k5, k6, lt, p1, z1, z2, l0, nX12_isSo_57]
      · subst c
        have l1 : ¬ lg_cmp (Int64.ofInt 1) (0 : Int64) = n3 0 := by rw [lg3_eq]; decide
        obtain ⟨κ', u1, u2, u3, u4⟩ := sum κ1 p2 p3
        refine ⟨κ', ?_, u2, u3, fun _ => u4⟩
        have e5 : (some (1 : Int) = some 1 ∧ sv X ≠ none) ↔ sv X ≠ none := ⟨fun z => z.2, fun z => ⟨rfl, z⟩⟩
        by_cases cs : sv X ≠ none
        · rw [if_pos (e5.mpr cs)]
          rw [if_pos cs] at u1
          simp (maxSteps := 400000) (disch := omega) only [n3_l, n3_add, n3_mul, n3_sub, n3_subn, n3_lt, n3_le, n3_eq, n3_eqn, n3_neq, n3_and, n3_or, n3_shl, n3_i, n3_cl, ↓hbd_0, ↓hbd_1, ↓hbd_2, hk_ob_0, hk_rd_0, hk_rd_1, hk_rd_2, hk_al_0, hk_al_1, h3r_0, h3r_1, hk_wi_0, hk_wj_0, h3w_0, h3w_1, h3v_0, hk_kI, hk_kJ, hk_kA, hk_kB, A_eq, A_ne, A_row, B_eq, B_ne, B_row, I_eq, I_ne, J_eq, J_ne, Option.bind_some, Option.some.injEq, if_true, if_false, eq_self, true_or, or_true, true_and, and_true, false_or, or_false, not_true_eq_false, not_false_eq_true, Classical.not_not, nar_b0, nar_b1, rz_0, rz_1, rz_i, ite01, Nat.add_zero, Nat.zero_add, Nat.one_mul, mul12, reduceIte, ra_z0, Nat.reduceEqDiff, Nat.reduceLT, Nat.reduceLeDiff, Nat.reduceAdd, Nat.reduceMul, Nat.reduceSub, Nat.reduceDiv, Nat.reduceMod, Bool.false_eq_true, false_and, and_false, reduceCtorEq, k5, k6, lt, p1, z1, z2, l1, u1]
        · rw [if_neg (fun z => cs (e5.mp z))]
          rw [if_neg cs] at u1
          simp (maxSteps := 400000) (disch := omega) only [n3_l, n3_add, n3_mul, n3_sub, n3_subn, n3_lt, n3_le, n3_eq, n3_eqn, n3_neq, n3_and, n3_or, n3_shl, n3_i, n3_cl, ↓hbd_0, ↓hbd_1, ↓hbd_2, hk_ob_0, hk_rd_0, hk_rd_1, hk_rd_2, hk_al_0, hk_al_1, h3r_0, h3r_1, hk_wi_0, hk_wj_0, h3w_0, h3w_1, h3v_0, hk_kI, hk_kJ, hk_kA, hk_kB, A_eq, A_ne, A_row, B_eq, B_ne, B_row, I_eq, I_ne, J_eq, J_ne, Option.bind_some, Option.some.injEq, if_true, if_false, eq_self, true_or, or_true, true_and, and_true, false_or, or_false, not_true_eq_false, not_false_eq_true, Classical.not_not, nar_b0, nar_b1, rz_0, rz_1, rz_i, ite01, Nat.add_zero, Nat.zero_add, Nat.one_mul, mul12, reduceIte, ra_z0, Nat.reduceEqDiff, Nat.reduceLT, Nat.reduceLeDiff, Nat.reduceAdd, Nat.reduceMul, Nat.reduceSub, Nat.reduceDiv, Nat.reduceMod, Bool.false_eq_true, false_and, and_false, reduceCtorEq, k5, k6, lt, p1, z1, z2, l1, u1]
  · obtain ⟨κ', u1, u2, u3, u4⟩ := sum κ (same.refl _ _ _) (fun j _ => rfl)
    refine ⟨κ', ?_, u2, u3, fun _ => u4⟩
    rw [e1] at k5
    have e3 : tv X = some 1 := by rw [e2]; rfl
    by_cases cs : sv X ≠ none
    · rw [if_pos ⟨e3, cs⟩]
      rw [if_pos cs] at u1
      simp (maxSteps := 400000) (disch := omega) only [n3_l, n3_add, n3_mul, n3_sub, n3_subn, n3_lt, n3_le, n3_eq, n3_eqn, n3_neq, n3_and, n3_or, n3_shl, n3_i, n3_cl, ↓hbd_0, ↓hbd_1, ↓hbd_2, hk_ob_0, hk_rd_0, hk_rd_1, hk_rd_2, hk_al_0, hk_al_1, h3r_0, h3r_1, hk_wi_0, hk_wj_0, h3w_0, h3w_1, h3v_0, hk_kI, hk_kJ, hk_kA, hk_kB, A_eq, A_ne, A_row, B_eq, B_ne, B_row, I_eq, I_ne, J_eq, J_ne, Option.bind_some, Option.some.injEq, if_true, if_false, eq_self, true_or, or_true, true_and, and_true, false_or, or_false, not_true_eq_false, not_false_eq_true, Classical.not_not, nar_b0, nar_b1, rz_0, rz_1, rz_i, ite01, Nat.add_zero, Nat.zero_add, Nat.one_mul, mul12, reduceIte, ra_z0, Nat.reduceEqDiff, Nat.reduceLT, Nat.reduceLeDiff, Nat.reduceAdd, Nat.reduceMul, Nat.reduceSub, Nat.reduceDiv, Nat.reduceMod, Bool.false_eq_true, false_and, and_false, reduceCtorEq, k5, k6, Nat.lt_irrefl, u1]
    · rw [if_neg (fun z => cs z.2)]
      rw [if_neg cs] at u1
      simp (maxSteps := 400000) (disch := omega) only [n3_l, n3_add, n3_mul, n3_sub, n3_subn, n3_lt, n3_le, n3_eq, n3_eqn, n3_neq, n3_and, n3_or, n3_shl, n3_i, n3_cl, ↓hbd_0, ↓hbd_1, ↓hbd_2, hk_ob_0, hk_rd_0, hk_rd_1, hk_rd_2, hk_al_0, hk_al_1, h3r_0, h3r_1, hk_wi_0, hk_wj_0, h3w_0, h3w_1, h3v_0, hk_kI, hk_kJ, hk_kA, hk_kB, A_eq, A_ne, A_row, B_eq, B_ne, B_row, I_eq, I_ne, J_eq, J_ne, Option.bind_some, Option.some.injEq, if_true, if_false, eq_self, true_or, or_true, true_and, and_true, false_or, or_false, not_true_eq_false, not_false_eq_true, Classical.not_not, nar_b0, nar_b1, rz_0, rz_1, rz_i, ite01, Nat.add_zero, Nat.zero_add, Nat.one_mul, mul12, reduceIte, ra_z0, Nat.reduceEqDiff, Nat.reduceLT, Nat.reduceLeDiff, Nat.reduceAdd, Nat.reduceMul, Nat.reduceSub, Nat.reduceDiv, Nat.reduceMod, Bool.false_eq_true, false_and, and_false, reduceCtorEq, k5, k6, Nat.lt_irrefl, u1]
end

section
variable (N : Nat) (κ : hk_T)
/-- a text as it lies in the row: W its 900 numbers -/
def rSch (W : Nat → Int32) (nC len : Nat) (O G hd sf se te : Nat → Nat) : Prop := nC ≤ 12 ∧ len ≤ 400 ∧ W 1 = n3 nC ∧ (∀ c, c < nC → W (2 + 8 * c) = n3 (hd c) ∧ W (2 + 8 * c + 3) = n3 (sf c) ∧ W (2 + 8 * c + 4) = n3 (se c) ∧ W (2 + 8 * c + 5) = n3 (se c) ∧ W (2 + 8 * c + 6) = n3 (te c) ∧ se c ≤ te c ∧ te c ≤ len ∧ hd c ≤ 4) ∧ ∀ i, i < len → W (98 + 2 * i) = n3 (O i) ∧ W (98 + 2 * i + 1) = n3 (G i)
theorem r_tx {W : Nat → Int32} {nC len : Nat} {O G hd sf se te : Nat → Nat} {sv tv : Nat → valT} (hS : rSch W nC len O G hd sf se te) (hs : ∀ c, c < nC → (hd c < 4 ∧ ∃ d, d ≤ 50 ∧ rFr O G (sf c) (se c) d (sv c)) ∨ (hd c = 4 ∧ sf c = se c ∧ sv c = vOne)) (ht : ∀ c, c < nC → rPc O G (se c) (te c) (tv c)) (hot : ∀ c, c < nC → vT (tv c)) : rTx W (tauC hd sv tv nC) := by
  intro N κ t bk hh hN ht8 hb hh5 hX hW
  obtain ⟨n12, l4, W1, WC, WO⟩ := hS
  obtain ⟨X, hXX⟩ : ∃ X, X = fx (hk_A κ 71) bk := ⟨_, rfl⟩
  rw [← hXX] at hX ⊢
  -- the facts are set out
  obtain ⟨m0, s0, e0, i1, i2⟩ := lpx (fun m f (r : hk_T) => nX12_ask_3 N m 69 (n3 t) (n3 bk) (n3 hh) (n3 f) (hp r)) 12 (fun f r => same [82] [] κ r ∧ ∀ g, g < f → hk_B r 82 (g + 1) = (X g).toInt64) (by
    rintro m f r hf ⟨i1, i2⟩
    refine ⟨hk_wB r 82 (f + 1) (X f).toInt64, ?_, i1.wB (by decide), ?_⟩
    · have e : hk_A r 71 (12 * bk + f) = X f := by rw [i1.1 71 (by decide), hXX]; exact (if_pos hf).symm
      rw [nX12_ask_3]
      simp (maxSteps := 400000) (disch := omega) only [n3_l, n3_add, n3_mul, n3_sub, n3_subn, n3_lt, n3_le, n3_eq, n3_eqn, n3_neq, n3_and, n3_or, n3_shl, n3_i, n3_cl, ↓hbd_0, ↓hbd_1, ↓hbd_2, hk_ob_0, hk_rd_0, hk_rd_1, hk_rd_2, hk_al_0, hk_al_1, h3r_0, h3r_1, hk_wi_0, hk_wj_0, h3w_0, h3w_1, h3v_0, hk_kI, hk_kJ, hk_kA, hk_kB, A_eq, A_ne, A_row, B_eq, B_ne, B_row, I_eq, I_ne, J_eq, J_ne, Option.bind_some, Option.some.injEq, if_true, if_false, eq_self, true_or, or_true, true_and, and_true, false_or, or_false, not_true_eq_false, not_false_eq_true, Classical.not_not, nar_b0, nar_b1, rz_0, rz_1, rz_i, ite01, Nat.add_zero, Nat.zero_add, Nat.one_mul, mul12, reduceIte, ra_z0, Nat.reduceEqDiff, Nat.reduceLT, Nat.reduceLeDiff, Nat.reduceAdd, Nat.reduceMul, Nat.reduceSub, Nat.reduceDiv, Nat.reduceMod, Bool.false_eq_true, false_and, and_false, reduceCtorEq, hf, e]
    · intro g hg
      by_cases eg : g = f
      · rw [eg, B_eq rfl]
      · rw [B_ne (Or.inr (by omega))]; exact i2 g (by omega)) 12 0 N κ (by omega) (by omega) ⟨same.refl _ _ _, fun g h => by omega⟩
  have e1 : nX12_ask_3 N N 69 (n3 t) (n3 bk) (n3 hh) (n3 0) (hp κ) = nX12_ask_3 N (m0 + 1) 69 (n3 t) (n3 bk) (n3 hh) (n3 12) (hp s0) := e0
  obtain ⟨κ1, hκ1⟩ : ∃ κ1, κ1 = hk_wJ (hk_wI (hk_wI s0 69 27 (n3 (760 + 900 * t))) 69 33 (n3 0)) 34 (0 : Int64) := ⟨_, rfl⟩
  have s1 : same [82, 83] [(69, 27), (69, 30), (69, 33)] κ κ1 := by
    rw [hκ1]
    exact (((i1.weak (by decide) (by decide) : same [82, 83] [(69, 27), (69, 30), (69, 33)] κ s0).wI (by decide)).wI (by decide)).wJ
  have v27 : hk_I κ1 69 27 = n3 (760 + 900 * t) := by rw [hκ1]; rfl
  have v33 : hk_I κ1 69 33 = n3 0 := by rw [hκ1]; rfl
  have v34 : hk_J κ1 34 = Int64.ofInt 0 := by rw [hκ1]; rfl
  have v82 : ∀ g, g < 12 → hk_B κ1 82 (g + 1) = (X g).toInt64 := by rw [hκ1]; exact i2
  obtain ⟨m', s', e, j1, j2, j3'⟩ := lpx (fun m c (r : hk_T) => nX12_ask_64 N m 69 (n3 hh) (n3 c) (hp r)) nC (fun c r => same [83] [(69, 30), (69, 33)] κ1 r ∧ hk_I r 69 33 = (if tauC hd sv tv c hh X = none then n3 0 else n3 1) ∧ (hh < 4 → hk_J r 34 = Int64.ofInt ((tauC hd sv tv c hh X).getD 0))) (by
    rintro m c r hc ⟨j1, j2, j3'⟩
    have r71 : hk_A r 71 = hk_A κ 71 := by rw [j1.1 71 (by decide), s1.1 71 (by decide)]
    have r27 : hk_I r 69 27 = n3 (760 + 900 * t) := by rw [j1.2.2.1 69 27 (by decide)]; exact v27
    have rW : ∀ i, i < 900 → hk_A r 71 (760 + 900 * t + i) = W i := by rw [r71]; exact hW
    obtain ⟨w0, w3, w4, w5, w6, w7, w8, w9⟩ := WC c hc
    have a1 : hk_A r 71 (760 + 900 * t + 1) = n3 nC := by rw [rW 1 (by omega), W1]
    have a0 : hk_A r 71 (760 + 900 * t + 2 + 8 * c) = n3 (hd c) := by rw [show 760 + 900 * t + 2 + 8 * c = 760 + 900 * t + (2 + 8 * c) by omega, rW _ (by omega), w0]
    by_cases ch : hd c = hh
    · have a3 : hk_A r 71 (760 + 900 * t + 2 + 8 * c + 3) = n3 (sf c) := by rw [show 760 + 900 * t + 2 + 8 * c + 3 = 760 + 900 * t + (2 + 8 * c + 3) by omega, rW _ (by omega), w3]
      have a4 : hk_A r 71 (760 + 900 * t + 2 + 8 * c + 4) = n3 (se c) := by rw [show 760 + 900 * t + 2 + 8 * c + 4 = 760 + 900 * t + (2 + 8 * c + 4) by omega, rW _ (by omega), w4]
      have a5 : hk_A r 71 (760 + 900 * t + 2 + 8 * c + 5) = n3 (se c) := by rw [show 760 + 900 * t + 2 + 8 * c + 5 = 760 + 900 * t + (2 + 8 * c + 5) by omega, rW _ (by omega), w5]
      have a6 : hk_A r 71 (760 + 900 * t + 2 + 8 * c + 6) = n3 (te c) := by rw [show 760 + 900 * t + 2 + 8 * c + 6 = 760 + 900 * t + (2 + 8 * c + 6) by omega, rW _ (by omega), w6]
      have hE : ∀ f t', t' ≤ te c → rEnv r O G t' t f t' X := by
        intro f t' htt
        refine ⟨by omega, Nat.le_refl _, ht8, r27, ?_, by rw [j1.2.1 82 (by decide)]; exact v82, hX⟩
        intro i _ h2
        obtain ⟨o1, o2⟩ := WO i (by omega)
        rw [show 760 + 900 * t + 98 + 2 * i = 760 + 900 * t + (98 + 2 * i) by omega, rW _ (by omega), show 760 + 900 * t + (98 + 2 * i) + 1 = 760 + 900 * t + (98 + 2 * i + 1) by omega, rW _ (by omega)]
        exact ⟨o1, o2⟩
      obtain ⟨d1, hs1⟩ : ∃ d1, (d1 ≤ 50 ∧ rFr O G (sf c) (se c) d1 (sv c)) ∨ (sf c = se c ∧ sv c = vOne) := by
        rcases hs c hc with ⟨-, d, g1, g2⟩ | ⟨-, g1, g2⟩
        · exact ⟨d, Or.inl ⟨g1, g2⟩⟩
        · exact ⟨0, Or.inr ⟨g1, g2⟩⟩
      obtain ⟨d2, ht1⟩ : ∃ d2, (d2 ≤ 50 ∧ rFr O G (se c) (te c) d2 (tv c)) ∨ (se c = te c ∧ tv c = vOne) := by
        rcases ht c hc with ⟨d, g1, g2⟩ | ⟨g1, g2⟩
        · exact ⟨d, Or.inl ⟨g1, g2⟩⟩
        · exact ⟨0, Or.inr ⟨g1, g2⟩⟩
      obtain ⟨r1, u1, u2, u3, u4⟩ := r_isSo N r (by omega) hE a3 a4 a5 a6 hs1 ht1 (by omega) w7 (hot c hc) (by omega)
      have tc : tauC hd sv tv (c + 1) hh X = if hd c = hh ∧ tv c X = some 1 then (match sv c X with | some a => some a | none => tauC hd sv tv c hh X) else tauC hd sv tv c hh X := rfl
      by_cases so : tv c X = some 1 ∧ sv c X ≠ none
      · rw [if_pos so] at u1
        obtain ⟨a, ha⟩ : ∃ a, sv c X = some a := by
          cases hq : sv c X with
          | none => exact absurd hq so.2
          | some a => exact ⟨a, rfl⟩
        rw [if_pos ⟨ch, so.1⟩, ha] at tc
        dsimp only at tc
        refine ⟨hk_wJ (hk_wI r1 69 33 (n3 1)) 34 (hk_J r1 32), ?_, ?_, ?_, ?_⟩
        · rw [nX12_ask_64]
          simp (maxSteps := 400000) (disch := omega) only [n3_l, n3_add, n3_mul, n3_sub, n3_subn, n3_lt, n3_le, n3_eq, n3_eqn, n3_neq, n3_and, n3_or, n3_shl, n3_i, n3_cl, ↓hbd_0, ↓hbd_1, ↓hbd_2, hk_ob_0, hk_rd_0, hk_rd_1, hk_rd_2, hk_al_0, hk_al_1, h3r_0, h3r_1, hk_wi_0, hk_wj_0, h3w_0, h3w_1, h3v_0, hk_kI, hk_kJ, hk_kA, hk_kB, A_eq, A_ne, A_row, B_eq, B_ne, B_row, I_eq, I_ne, J_eq, J_ne, Option.bind_some, Option.some.injEq, if_true, if_false, eq_self, true_or, or_true, true_and, and_true, false_or, or_false, not_true_eq_false, not_false_eq_true, Classical.not_not, nar_b0, nar_b1, rz_0, rz_1, rz_i, ite01, Nat.add_zero, Nat.zero_add, Nat.one_mul, mul12, reduceIte, ra_z0, Nat.reduceEqDiff, Nat.reduceLT, Nat.reduceLeDiff, Nat.reduceAdd, Nat.reduceMul, Nat.reduceSub, Nat.reduceDiv, Nat.reduceMod, Bool.false_eq_true, false_and, and_false, reduceCtorEq, r27, a1, hc, a0, ch, u1, nX12_ask_127]
        · exact ((j1.trans (u2.weak (by decide) (by decide))).wI (by decide)).wJ
        · rw [tc]
          show hk_I (hk_wI r1 69 33 (n3 1)) 69 33 = _
          rw [I_eq, if_neg (by intro z; cases z)]
        · intro h4
          rw [tc, J_eq]
          have lt : sf c < se c := by
            rcases hs c hc with ⟨-, d, g1, g2⟩ | ⟨g1, -⟩
            · exact g2.1
            · omega
          exact u4 so.1 a ha lt
      · rw [if_neg so] at u1
        have te' : tauC hd sv tv (c + 1) hh X = tauC hd sv tv c hh X := by
          rw [tc]
          by_cases c1 : hd c = hh ∧ tv c X = some 1
          · rw [if_pos c1]
            have : sv c X = none := by
              cases hq : sv c X with
              | none => rfl
              | some a => exact absurd ⟨c1.2, by rw [hq]; intro z; cases z⟩ so
            rw [this]
          · rw [if_neg c1]
        rw [te']
        refine ⟨r1, ?_, j1.trans (u2.weak (by decide) (by decide)), by rw [u2.2.2.1 69 33 (by decide)]; exact j2, fun h4 => by rw [u3 34 (by decide) (by decide)]; exact j3' h4⟩
        rw [nX12_ask_64]
        simp (maxSteps := 400000) (disch := omega) only [n3_l, n3_add, n3_mul, n3_sub, n3_subn, n3_lt, n3_le, n3_eq, n3_eqn, n3_neq, n3_and, n3_or, n3_shl, n3_i, n3_cl, ↓hbd_0, ↓hbd_1, ↓hbd_2, hk_ob_0, hk_rd_0, hk_rd_1, hk_rd_2, hk_al_0, hk_al_1, h3r_0, h3r_1, hk_wi_0, hk_wj_0, h3w_0, h3w_1, h3v_0, hk_kI, hk_kJ, hk_kA, hk_kB, A_eq, A_ne, A_row, B_eq, B_ne, B_row, I_eq, I_ne, J_eq, J_ne, Option.bind_some, Option.some.injEq, if_true, if_false, eq_self, true_or, or_true, true_and, and_true, false_or, or_false, not_true_eq_false, not_false_eq_true, Classical.not_not, nar_b0, nar_b1, rz_0, rz_1, rz_i, ite01, Nat.add_zero, Nat.zero_add, Nat.one_mul, mul12, reduceIte, ra_z0, Nat.reduceEqDiff, Nat.reduceLT, Nat.reduceLeDiff, Nat.reduceAdd, Nat.reduceMul, Nat.reduceSub, Nat.reduceDiv, Nat.reduceMod, Bool.false_eq_true, false_and, and_false, reduceCtorEq, r27, a1, hc, a0, ch, u1, nX12_ask_127]
    · have te' : tauC hd sv tv (c + 1) hh X = tauC hd sv tv c hh X := by
        rw [tauC, if_neg (fun z => ch z.1)]
      rw [te']
      refine ⟨r, ?_, j1, j2, j3'⟩
      rw [nX12_ask_64]
      simp (maxSteps := 400000) (disch := omega) only [n3_l, n3_add, n3_mul, n3_sub, n3_subn, n3_lt, n3_le, n3_eq, n3_eqn, n3_neq, n3_and, n3_or, n3_shl, n3_i, n3_cl, ↓hbd_0, ↓hbd_1, ↓hbd_2, hk_ob_0, hk_rd_0, hk_rd_1, hk_rd_2, hk_al_0, hk_al_1, h3r_0, h3r_1, hk_wi_0, hk_wj_0, h3w_0, h3w_1, h3v_0, hk_kI, hk_kJ, hk_kA, hk_kB, A_eq, A_ne, A_row, B_eq, B_ne, B_row, I_eq, I_ne, J_eq, J_ne, Option.bind_some, Option.some.injEq, if_true, if_false, eq_self, true_or, or_true, true_and, and_true, false_or, or_false, not_true_eq_false, not_false_eq_true, Classical.not_not, nar_b0, nar_b1, rz_0, rz_1, rz_i, ite01, Nat.add_zero, Nat.zero_add, Nat.one_mul, mul12, reduceIte, ra_z0, Nat.reduceEqDiff, Nat.reduceLT, Nat.reduceLeDiff, Nat.reduceAdd, Nat.reduceMul, Nat.reduceSub, Nat.reduceDiv, Nat.reduceMod, Bool.false_eq_true, false_and, and_false, reduceCtorEq, r27, a1, hc, a0, ch, nX12_ask_127]) nC 0 N κ1 (by omega) (by omega) ⟨same.refl _ _ _, v33, fun _ => v34⟩
  have e2 : nX12_ask_64 N N 69 (n3 hh) (n3 0) (hp κ1) = nX12_ask_64 N (m' + 1) 69 (n3 hh) (n3 nC) (hp s') := e
  refine ⟨s', ?_, s1.trans (j1.weak (by decide) (by decide)), j2, j3'⟩
  have a1 : hk_A s' 71 (760 + 900 * t + 1) = n3 nC := by rw [j1.1 71 (by decide), s1.1 71 (by decide), hW 1 (by omega), W1]
  have r27 : hk_I s' 69 27 = n3 (760 + 900 * t) := by rw [j1.2.2.1 69 27 (by decide)]; exact v27
  unfold fX12_ask nX12_ask_0
  simp (maxSteps := 400000) (disch := omega) only [n3_l, n3_add, n3_mul, n3_sub, n3_subn, n3_lt, n3_le, n3_eq, n3_eqn, n3_neq, n3_and, n3_or, n3_shl, n3_i, n3_cl, ↓hbd_0, ↓hbd_1, ↓hbd_2, hk_ob_0, hk_rd_0, hk_rd_1, hk_rd_2, hk_al_0, hk_al_1, h3r_0, h3r_1, hk_wi_0, hk_wj_0, h3w_0, h3w_1, h3v_0, hk_kI, hk_kJ, hk_kA, hk_kB, A_eq, A_ne, A_row, B_eq, B_ne, B_row, I_eq, I_ne, J_eq, J_ne, Option.bind_some, Option.some.injEq, if_true, if_false, eq_self, true_or, or_true, true_and, and_true, false_or, or_false, not_true_eq_false, not_false_eq_true, Classical.not_not, nar_b0, nar_b1, rz_0, rz_1, rz_i, ite01, Nat.add_zero, Nat.zero_add, Nat.one_mul, mul12, reduceIte, ra_z0, Nat.reduceEqDiff, Nat.reduceLT, Nat.reduceLeDiff, Nat.reduceAdd, Nat.reduceMul, Nat.reduceSub, Nat.reduceDiv, Nat.reduceMod, Bool.false_eq_true, false_and, and_false, reduceCtorEq]
  rw [e1, nX12_ask_3]
  rw [hκ1] at e2
  simp (maxSteps := 400000) (disch := omega) only [n3_l, n3_add, n3_mul, n3_sub, n3_subn, n3_lt, n3_le, n3_eq, n3_eqn, n3_neq, n3_and, n3_or, n3_shl, n3_i, n3_cl, ↓hbd_0, ↓hbd_1, ↓hbd_2, hk_ob_0, hk_rd_0, hk_rd_1, hk_rd_2, hk_al_0, hk_al_1, h3r_0, h3r_1, hk_wi_0, hk_wj_0, h3w_0, h3w_1, h3v_0, hk_kI, hk_kJ, hk_kA, hk_kB, A_eq, A_ne, A_row, B_eq, B_ne, B_row, I_eq, I_ne, J_eq, J_ne, Option.bind_some, Option.some.injEq, if_true, if_false, eq_self, true_or, or_true, true_and, and_true, false_or, or_false, not_true_eq_false, not_false_eq_true, Classical.not_not, nar_b0, nar_b1, rz_0, rz_1, rz_i, ite01, Nat.add_zero, Nat.zero_add, Nat.one_mul, mul12, reduceIte, ra_z0, Nat.reduceEqDiff, Nat.reduceLT, Nat.reduceLeDiff, Nat.reduceAdd, Nat.reduceMul, Nat.reduceSub, Nat.reduceDiv, Nat.reduceMod, Bool.false_eq_true, false_and, and_false, reduceCtorEq, Nat.lt_irrefl]
  rw [e2, nX12_ask_64]
  simp (maxSteps := 400000) (disch := omega) only [n3_l, n3_add, n3_mul, n3_sub, n3_subn, n3_lt, n3_le, n3_eq, n3_eqn, n3_neq, n3_and, n3_or, n3_shl, n3_i, n3_cl, ↓hbd_0, ↓hbd_1, ↓hbd_2, hk_ob_0, hk_rd_0, hk_rd_1, hk_rd_2, hk_al_0, hk_al_1, h3r_0, h3r_1, hk_wi_0, hk_wj_0, h3w_0, h3w_1, h3v_0, hk_kI, hk_kJ, hk_kA, hk_kB, A_eq, A_ne, A_row, B_eq, B_ne, B_row, I_eq, I_ne, J_eq, J_ne, Option.bind_some, Option.some.injEq, if_true, if_false, eq_self, true_or, or_true, true_and, and_true, false_or, or_false, not_true_eq_false, not_false_eq_true, Classical.not_not, nar_b0, nar_b1, rz_0, rz_1, rz_i, ite01, Nat.add_zero, Nat.zero_add, Nat.one_mul, mul12, reduceIte, ra_z0, Nat.reduceEqDiff, Nat.reduceLT, Nat.reduceLeDiff, Nat.reduceAdd, Nat.reduceMul, Nat.reduceSub, Nat.reduceDiv, Nat.reduceMod, Bool.false_eq_true, false_and, and_false, reduceCtorEq, r27, a1, Nat.lt_irrefl]
end
