/-! best: the class -/
def bR (κ : hk_T) (o : bsT) : Prop := match o with
  | none => ∀ j, j < 5 → hk_A κ 29 j = -n3 1
  | some (m, f, s, y, k) => hk_A κ 29 0 = n3 m ∧ hk_A κ 29 1 = n3 f ∧ hk_A κ 29 2 = n3 s ∧ hk_A κ 29 3 = n3 y ∧ hk_A κ 29 4 = n3 k
theorem bR.keep {κ κ' : hk_T} {o : bsT} (h : bR κ o) (e : hk_A κ' 29 = hk_A κ 29) : bR κ' o := by
  unfold bR at h ⊢
  rw [e]
  exact h
section
variable (N : Nat) (κ : hk_T)
theorem c_weighYears {fi sc y d n : Nat} {o : bsT} (h : bR κ o) (ho : oOk o) (hn : n ≤ 5346) : ∃ κ', fX1_weighYears N 23 (n3 fi) (n3 sc) (n3 y) (n3 d) (n3 n) (hp κ) = some (hp κ') ∧ same [29] [] κ κ' ∧ bR κ' (stD fi sc y d n o) := by
  have all : ∀ r : hk_T, bR (hk_wA (hk_wA (hk_wA (hk_wA (hk_wA r 29 0 (n3 n)) 29 1 (n3 fi)) 29 2 (n3 sc)) 29 3 (n3 y)) 29 4 (n3 d)) (some (n, fi, sc, y, d)) := by
    intro r
    refine ⟨?_, ?_, ?_, ?_, ?_⟩
    · rw [A_ne (Or.inr (by decide)), A_ne (Or.inr (by decide)), A_ne (Or.inr (by decide)), A_ne (Or.inr (by decide)), A_eq rfl]
    · rw [A_ne (Or.inr (by decide)), A_ne (Or.inr (by decide)), A_ne (Or.inr (by decide)), A_eq rfl]
    · rw [A_ne (Or.inr (by decide)), A_ne (Or.inr (by decide)), A_eq rfl]
    · rw [A_ne (Or.inr (by decide)), A_eq rfl]
    · rw [A_eq rfl]
  have sall : same [29] [] κ (hk_wA (hk_wA (hk_wA (hk_wA (hk_wA κ 29 0 (n3 n)) 29 1 (n3 fi)) 29 2 (n3 sc)) 29 3 (n3 y)) 29 4 (n3 d)) := (((((same.refl _ _ _).wA (by decide)).wA (by decide)).wA (by decide)).wA (by decide)).wA (by decide)
  cases o with
  | none =>
    have h0 := h 0 (by omega)
    have c : ¬ n3 n ≤ -n3 1 := by rw [i_le, n3_toInt (by omega), n3_ntoInt (by omega)]; omega
    refine ⟨_, ?_, sall, all κ⟩
    simp (maxSteps := 400000) (disch := omega) only [n3_l, n3_add, n3_mul, n3_sub, n3_subn, n3_lt, n3_le, n3_eq, n3_eqn, n3_neq, n3_and, n3_or, n3_shl, n3_i, n3_cl, ↓hbd_0, ↓hbd_1, ↓hbd_2, hk_ob_0, hk_rd_0, hk_rd_1, hk_rd_2, hk_al_0, hk_al_1, h3r_0, h3r_1, hk_wi_0, hk_wj_0, h3w_0, h3w_1, h3v_0, hk_kI, hk_kJ, hk_kA, hk_kB, A_eq, A_ne, A_row, B_eq, B_ne, B_row, I_eq, I_ne, J_eq, J_ne, Option.bind_some, Option.some.injEq, if_true, if_false, eq_self, true_or, or_true, true_and, and_true, false_or, or_false, not_true_eq_false, not_false_eq_true, Classical.not_not, nar_b0, nar_b1, rz_0, rz_1, rz_i, ite01, Nat.add_zero, Nat.zero_add, Nat.one_mul, mul12, reduceIte, ra_z0, Nat.reduceEqDiff, Nat.reduceLT, Nat.reduceLeDiff, Nat.reduceAdd, Nat.reduceMul, Nat.reduceSub, Nat.reduceDiv, Nat.reduceMod, Bool.false_eq_true, false_and, and_false, reduceCtorEq, fX1_weighYears, nX1_weighYears_73, nX1_weighYears_0, h0, c]
  | some t =>
    obtain ⟨m, f, s, yr, k⟩ := t
    obtain ⟨h0, h1, h2, h3, h4⟩ := h
    have hm := ho m (f, s, yr, k) rfl
    unfold stD
    dsimp only
    by_cases c : n ≤ m
    · rw [if_pos c]
      by_cases c2 : n = m
      · rw [if_pos c2]
        subst c2
        refine ⟨hk_wA κ 29 4 (n3 (k + d)), ?_, (same.refl _ _ _).wA (by decide), ?_, ?_, ?_, ?_, ?_⟩
        · simp (maxSteps := 400000) (disch := omega) only [n3_l, n3_add, n3_mul, n3_sub, n3_subn, n3_lt, n3_le, n3_eq, n3_eqn, n3_neq, n3_and, n3_or, n3_shl, n3_i, n3_cl, ↓hbd_0, ↓hbd_1, ↓hbd_2, hk_ob_0, hk_rd_0, hk_rd_1, hk_rd_2, hk_al_0, hk_al_1, h3r_0, h3r_1, hk_wi_0, hk_wj_0, h3w_0, h3w_1, h3v_0, hk_kI, hk_kJ, hk_kA, hk_kB, A_eq, A_ne, A_row, B_eq, B_ne, B_row, I_eq, I_ne, J_eq, J_ne, Option.bind_some, Option.some.injEq, if_true, if_false, eq_self, true_or, or_true, true_and, and_true, false_or, or_false, not_true_eq_false, not_false_eq_true, Classical.not_not, nar_b0, nar_b1, rz_0, rz_1, rz_i, ite01, Nat.add_zero, Nat.zero_add, Nat.one_mul, mul12, reduceIte, ra_z0, Nat.reduceEqDiff, Nat.reduceLT, Nat.reduceLeDiff, Nat.reduceAdd, Nat.reduceMul, Nat.reduceSub, Nat.reduceDiv, Nat.reduceMod, Bool.false_eq_true, false_and, and_false, reduceCtorEq, fX1_weighYears, nX1_weighYears_73, nX1_weighYears_0, h0, h4, Nat.le_refl]
        · rw [A_ne (Or.inr (by decide))]; exact h0
        · rw [A_ne (Or.inr (by decide))]; exact h1
        · rw [A_ne (Or.inr (by decide))]; exact h2
        · rw [A_ne (Or.inr (by decide))]; exact h3
        · rw [A_eq rfl]
      · rw [if_neg c2]
        refine ⟨κ, ?_, same.refl _ _ _, h0, h1, h2, h3, h4⟩
        simp (maxSteps := 400000) (disch := omega) only [n3_l, n3_add, n3_mul, n3_sub, n3_subn, n3_lt, n3_le, n3_eq, n3_eqn, n3_neq, n3_and, n3_or, n3_shl, n3_i, n3_cl, ↓hbd_0, ↓hbd_1, ↓hbd_2, hk_ob_0, hk_rd_0, hk_rd_1, hk_rd_2, hk_al_0, hk_al_1, h3r_0, h3r_1, hk_wi_0, hk_wj_0, h3w_0, h3w_1, h3v_0, hk_kI, hk_kJ, hk_kA, hk_kB, A_eq, A_ne, A_row, B_eq, B_ne, B_row, I_eq, I_ne, J_eq, J_ne, Option.bind_some, Option.some.injEq, if_true, if_false, eq_self, true_or, or_true, true_and, and_true, false_or, or_false, not_true_eq_false, not_false_eq_true, Classical.not_not, nar_b0, nar_b1, rz_0, rz_1, rz_i, ite01, Nat.add_zero, Nat.zero_add, Nat.one_mul, mul12, reduceIte, ra_z0, Nat.reduceEqDiff, Nat.reduceLT, Nat.reduceLeDiff, Nat.reduceAdd, Nat.reduceMul, Nat.reduceSub, Nat.reduceDiv, Nat.reduceMod, Bool.false_eq_true, false_and, and_false, reduceCtorEq, fX1_weighYears, nX1_weighYears_73, nX1_weighYears_0, h0, c, c2]
    · rw [if_neg c]
      refine ⟨_, ?_, sall, all κ⟩
      simp (maxSteps := 400000) (disch := omega) only [n3_l, n3_add, n3_mul, n3_sub, n3_subn, n3_lt, n3_le, n3_eq, n3_eqn, n3_neq, n3_and, n3_or, n3_shl, n3_i, n3_cl, ↓hbd_0, ↓hbd_1, ↓hbd_2, hk_ob_0, hk_rd_0, hk_rd_1, hk_rd_2, hk_al_0, hk_al_1, h3r_0, h3r_1, hk_wi_0, hk_wj_0, h3w_0, h3w_1, h3v_0, hk_kI, hk_kJ, hk_kA, hk_kB, A_eq, A_ne, A_row, B_eq, B_ne, B_row, I_eq, I_ne, J_eq, J_ne, Option.bind_some, Option.some.injEq, if_true, if_false, eq_self, true_or, or_true, true_and, and_true, false_or, or_false, not_true_eq_false, not_false_eq_true, Classical.not_not, nar_b0, nar_b1, rz_0, rz_1, rz_i, ite01, Nat.add_zero, Nat.zero_add, Nat.one_mul, mul12, reduceIte, ra_z0, Nat.reduceEqDiff, Nat.reduceLT, Nat.reduceLeDiff, Nat.reduceAdd, Nat.reduceMul, Nat.reduceSub, Nat.reduceDiv, Nat.reduceMod, Bool.false_eq_true, false_and, and_false, reduceCtorEq, fX1_weighYears, nX1_weighYears_73, nX1_weighYears_0, h0, c]
theorem c_enter {o : Option Nat} {h : Nat → Nat} (hs : ∀ s, o = some s → s < 5346) (hr : ∀ s, s < 5346 → hk_A κ 27 s = n3 (h s)) (hb : ∀ s, h s ≤ 1000) : ∃ κ', fX1_enter N 23 (seatI o) (hp κ) = some (n3 (enR o h), hp κ') ∧ same [27] [] κ κ' ∧ ∀ s, s < 5346 → hk_A κ' 27 s = n3 (enH o h s) := by
  cases o with
  | none =>
    refine ⟨κ, ?_, same.refl _ _ _, fun s hs => by unfold enH; rw [if_neg (by intro z; cases z)]; exact hr s hs⟩
    have e : seatI none = -n3 1 := rfl
    have e2 : enR none h = 0 := rfl
    rw [e, e2]
    simp (maxSteps := 400000) (disch := omega) only [n3_l, n3_add, n3_mul, n3_sub, n3_subn, n3_lt, n3_le, n3_eq, n3_eqn, n3_neq, n3_and, n3_or, n3_shl, n3_i, n3_cl, ↓hbd_0, ↓hbd_1, ↓hbd_2, hk_ob_0, hk_rd_0, hk_rd_1, hk_rd_2, hk_al_0, hk_al_1, h3r_0, h3r_1, hk_wi_0, hk_wj_0, h3w_0, h3w_1, h3v_0, hk_kI, hk_kJ, hk_kA, hk_kB, A_eq, A_ne, A_row, B_eq, B_ne, B_row, I_eq, I_ne, J_eq, J_ne, Option.bind_some, Option.some.injEq, if_true, if_false, eq_self, true_or, or_true, true_and, and_true, false_or, or_false, not_true_eq_false, not_false_eq_true, Classical.not_not, nar_b0, nar_b1, rz_0, rz_1, rz_i, ite01, Nat.add_zero, Nat.zero_add, Nat.one_mul, mul12, reduceIte, ra_z0, Nat.reduceEqDiff, Nat.reduceLT, Nat.reduceLeDiff, Nat.reduceAdd, Nat.reduceMul, Nat.reduceSub, Nat.reduceDiv, Nat.reduceMod, Bool.false_eq_true, false_and, and_false, reduceCtorEq, fX1_enter, nX1_enter_32, nX1_enter_0]
  | some s =>
    have h5 := hs s rfl
    have b := hb s
    have v := hr s h5
    have e : seatI (some s) = n3 s := rfl
    have hn1 : ¬ n3 s = -n3 1 := fun z => (n3_eqn (by omega) (by omega) (by omega)).mp z
    refine ⟨hk_wA κ 27 s (n3 (h s + 1)), ?_, (same.refl _ _ _).wA (by decide), ?_⟩
    · rw [e]
      unfold enR
      dsimp only
      by_cases c : h s = 0
      · rw [if_pos c]
        rw [c] at v
        simp (maxSteps := 400000) (disch := omega) only [n3_l, n3_add, n3_mul, n3_sub, n3_subn, n3_lt, n3_le, n3_eq, n3_eqn, n3_neq, n3_and, n3_or, n3_shl, n3_i, n3_cl, ↓hbd_0, ↓hbd_1, ↓hbd_2, hk_ob_0, hk_rd_0, hk_rd_1, hk_rd_2, hk_al_0, hk_al_1, h3r_0, h3r_1, hk_wi_0, hk_wj_0, h3w_0, h3w_1, h3v_0, hk_kI, hk_kJ, hk_kA, hk_kB, A_eq, A_ne, A_row, B_eq, B_ne, B_row, I_eq, I_ne, J_eq, J_ne, Option.bind_some, Option.some.injEq, if_true, if_false, eq_self, true_or, or_true, true_and, and_true, false_or, or_false, not_true_eq_false, not_false_eq_true, Classical.not_not, nar_b0, nar_b1, rz_0, rz_1, rz_i, ite01, Nat.add_zero, Nat.zero_add, Nat.one_mul, mul12, reduceIte, ra_z0, Nat.reduceEqDiff, Nat.reduceLT, Nat.reduceLeDiff, Nat.reduceAdd, Nat.reduceMul, Nat.reduceSub, Nat.reduceDiv, Nat.reduceMod, Bool.false_eq_true, false_and, and_false, reduceCtorEq, fX1_enter, nX1_enter_32, nX1_enter_0, hn1, v, c]
      · rw [if_neg c]
        have c2 : ¬ h s + 1 = 1 := by omega
        simp (maxSteps := 400000) (disch := omega) only [n3_l, n3_add, n3_mul, n3_sub, n3_subn, n3_lt, n3_le, n3_eq, n3_eqn, n3_neq, n3_and, n3_or, n3_shl, n3_i, n3_cl, ↓hbd_0, ↓hbd_1, ↓hbd_2, hk_ob_0, hk_rd_0, hk_rd_1, hk_rd_2, hk_al_0, hk_al_1, h3r_0, h3r_1, hk_wi_0, hk_wj_0, h3w_0, h3w_1, h3v_0, hk_kI, hk_kJ, hk_kA, hk_kB, A_eq, A_ne, A_row, B_eq, B_ne, B_row, I_eq, I_ne, J_eq, J_ne, Option.bind_some, Option.some.injEq, if_true, if_false, eq_self, true_or, or_true, true_and, and_true, false_or, or_false, not_true_eq_false, not_false_eq_true, Classical.not_not, nar_b0, nar_b1, rz_0, rz_1, rz_i, ite01, Nat.add_zero, Nat.zero_add, Nat.one_mul, mul12, reduceIte, ra_z0, Nat.reduceEqDiff, Nat.reduceLT, Nat.reduceLeDiff, Nat.reduceAdd, Nat.reduceMul, Nat.reduceSub, Nat.reduceDiv, Nat.reduceMod, Bool.false_eq_true, false_and, and_false, reduceCtorEq, fX1_enter, nX1_enter_32, nX1_enter_0, hn1, v, c2]
    · intro i hi
      unfold enH
      by_cases ei : i = s
      · rw [ei, A_eq rfl, if_pos rfl]
      · rw [A_ne (Or.inr ei), if_neg (fun z => ei (Option.some.inj z).symm)]; exact hr i hi
theorem c_leave {o : Option Nat} {h : Nat → Nat} (hs : ∀ s, o = some s → s < 5346) (hr : ∀ s, s < 5346 → hk_A κ 27 s = n3 (h s)) (hb : ∀ s, h s ≤ 1000) (h1 : ∀ s, o = some s → 1 ≤ h s) : ∃ κ', fX1_leave N 23 (seatI o) (hp κ) = some (n3 (lvR o h), hp κ') ∧ same [27] [] κ κ' ∧ ∀ s, s < 5346 → hk_A κ' 27 s = n3 (lvH o h s) := by
  cases o with
  | none =>
    refine ⟨κ, ?_, same.refl _ _ _, fun s hs => by unfold lvH; rw [if_neg (by intro z; cases z)]; exact hr s hs⟩
    have e : seatI none = -n3 1 := rfl
    have e2 : lvR none h = 0 := rfl
    rw [e, e2]
    simp (maxSteps := 400000) (disch := omega) only [n3_l, n3_add, n3_mul, n3_sub, n3_subn, n3_lt, n3_le, n3_eq, n3_eqn, n3_neq, n3_and, n3_or, n3_shl, n3_i, n3_cl, ↓hbd_0, ↓hbd_1, ↓hbd_2, hk_ob_0, hk_rd_0, hk_rd_1, hk_rd_2, hk_al_0, hk_al_1, h3r_0, h3r_1, hk_wi_0, hk_wj_0, h3w_0, h3w_1, h3v_0, hk_kI, hk_kJ, hk_kA, hk_kB, A_eq, A_ne, A_row, B_eq, B_ne, B_row, I_eq, I_ne, J_eq, J_ne, Option.bind_some, Option.some.injEq, if_true, if_false, eq_self, true_or, or_true, true_and, and_true, false_or, or_false, not_true_eq_false, not_false_eq_true, Classical.not_not, nar_b0, nar_b1, rz_0, rz_1, rz_i, ite01, Nat.add_zero, Nat.zero_add, Nat.one_mul, mul12, reduceIte, ra_z0, Nat.reduceEqDiff, Nat.reduceLT, Nat.reduceLeDiff, Nat.reduceAdd, Nat.reduceMul, Nat.reduceSub, Nat.reduceDiv, Nat.reduceMod, Bool.false_eq_true, false_and, and_false, reduceCtorEq, fX1_leave, nX1_leave_31, nX1_leave_0]
  | some s =>
    have h5 := hs s rfl
    have b := hb s
    have hs1 := h1 s rfl
    have v := hr s h5
    have e : seatI (some s) = n3 s := rfl
    have hn1 : ¬ n3 s = -n3 1 := fun z => (n3_eqn (by omega) (by omega) (by omega)).mp z
    refine ⟨hk_wA κ 27 s (n3 (h s - 1)), ?_, (same.refl _ _ _).wA (by decide), ?_⟩
    · rw [e]
      unfold lvR
      dsimp only
      by_cases c : h s = 1
      · rw [if_pos c]
        rw [c] at v
        simp (maxSteps := 400000) (disch := omega) only [n3_l, n3_add, n3_mul, n3_sub, n3_subn, n3_lt, n3_le, n3_eq, n3_eqn, n3_neq, n3_and, n3_or, n3_shl, n3_i, n3_cl, ↓hbd_0, ↓hbd_1, ↓hbd_2, hk_ob_0, hk_rd_0, hk_rd_1, hk_rd_2, hk_al_0, hk_al_1, h3r_0, h3r_1, hk_wi_0, hk_wj_0, h3w_0, h3w_1, h3v_0, hk_kI, hk_kJ, hk_kA, hk_kB, A_eq, A_ne, A_row, B_eq, B_ne, B_row, I_eq, I_ne, J_eq, J_ne, Option.bind_some, Option.some.injEq, if_true, if_false, eq_self, true_or, or_true, true_and, and_true, false_or, or_false, not_true_eq_false, not_false_eq_true, Classical.not_not, nar_b0, nar_b1, rz_0, rz_1, rz_i, ite01, Nat.add_zero, Nat.zero_add, Nat.one_mul, mul12, reduceIte, ra_z0, Nat.reduceEqDiff, Nat.reduceLT, Nat.reduceLeDiff, Nat.reduceAdd, Nat.reduceMul, Nat.reduceSub, Nat.reduceDiv, Nat.reduceMod, Bool.false_eq_true, false_and, and_false, reduceCtorEq, fX1_leave, nX1_leave_31, nX1_leave_0, hn1, v, c]
      · rw [if_neg c]
        have c2 : ¬ h s - 1 = 0 := by omega
        simp (maxSteps := 400000) (disch := omega) only [n3_l, n3_add, n3_mul, n3_sub, n3_subn, n3_lt, n3_le, n3_eq, n3_eqn, n3_neq, n3_and, n3_or, n3_shl, n3_i, n3_cl, ↓hbd_0, ↓hbd_1, ↓hbd_2, hk_ob_0, hk_rd_0, hk_rd_1, hk_rd_2, hk_al_0, hk_al_1, h3r_0, h3r_1, hk_wi_0, hk_wj_0, h3w_0, h3w_1, h3v_0, hk_kI, hk_kJ, hk_kA, hk_kB, A_eq, A_ne, A_row, B_eq, B_ne, B_row, I_eq, I_ne, J_eq, J_ne, Option.bind_some, Option.some.injEq, if_true, if_false, eq_self, true_or, or_true, true_and, and_true, false_or, or_false, not_true_eq_false, not_false_eq_true, Classical.not_not, nar_b0, nar_b1, rz_0, rz_1, rz_i, ite01, Nat.add_zero, Nat.zero_add, Nat.one_mul, mul12, reduceIte, ra_z0, Nat.reduceEqDiff, Nat.reduceLT, Nat.reduceLeDiff, Nat.reduceAdd, Nat.reduceMul, Nat.reduceSub, Nat.reduceDiv, Nat.reduceMod, Bool.false_eq_true, false_and, and_false, reduceCtorEq, fX1_leave, nX1_leave_31, nX1_leave_0, hn1, v, c2]
    · intro i hi
      unfold lvH
      by_cases ei : i = s
      · rw [ei, A_eq rfl, if_pos rfl]
      · rw [A_ne (Or.inr ei), if_neg (fun z => ei (Option.some.inj z).symm)]; exact hr i hi
theorem c_sortByYears {n : Nat} {c : Nat → Nat} (hB : hk_I κ 1 13 = n3 n) (hn : n ≤ 40) (hc : ∀ b, b < n → hk_A κ 2 (12 * b + 2) = n3 (c b)) (hc2 : ∀ b, c b ≤ 199) (hN : 1000 < N) :
    ∃ κ' g, fX1_sortByYears N 23 (hp κ) = some (hp κ') ∧ same [28] [] κ κ' ∧ (∀ i, i < n → hk_A κ' 28 i = n3 (g i)) ∧ LL (fun b => b < n) (fun b => c b * 64 + b) n g := by
  unfold fX1_sortByYears nX1_sortByYears_0
  simp (maxSteps := 400000) (disch := omega) only [n3_l, n3_add, n3_mul, n3_sub, n3_subn, n3_lt, n3_le, n3_eq, n3_eqn, n3_neq, n3_and, n3_or, n3_shl, n3_i, n3_cl, ↓hbd_0, ↓hbd_1, ↓hbd_2, hk_ob_0, hk_rd_0, hk_rd_1, hk_rd_2, hk_al_0, hk_al_1, h3r_0, h3r_1, hk_wi_0, hk_wj_0, h3w_0, h3w_1, h3v_0, hk_kI, hk_kJ, hk_kA, hk_kB, A_eq, A_ne, A_row, B_eq, B_ne, B_row, I_eq, I_ne, J_eq, J_ne, Option.bind_some, Option.some.injEq, if_true, if_false, eq_self, true_or, or_true, true_and, and_true, false_or, or_false, not_true_eq_false, not_false_eq_true, Classical.not_not, nar_b0, nar_b1, rz_0, rz_1, rz_i, ite01, Nat.add_zero, Nat.zero_add, Nat.one_mul, mul12, reduceIte, ra_z0, Nat.reduceEqDiff, Nat.reduceLT, Nat.reduceLeDiff, Nat.reduceAdd, Nat.reduceMul, Nat.reduceSub, Nat.reduceDiv, Nat.reduceMod, Bool.false_eq_true, false_and, and_false, reduceCtorEq]
  obtain ⟨m', ⟨s', g⟩, e, i1, i3, i4⟩ := lpx (fun m b (s : hk_T × (Nat → Nat)) => nX1_sortByYears_2 N m 23 (n3 b) (hp s.1)) n (fun b r => same [28] [] κ r.1 ∧ (∀ i, i < b → hk_A r.1 28 i = n3 (r.2 i)) ∧ LL (fun x => x < b) (fun b => c b * 64 + b) b r.2) (by
    rintro m b ⟨r, g⟩ hb ⟨i1, i3, i4⟩
    dsimp only at i1 i3 i4 ⊢
    have hB' : hk_I r 1 13 = n3 n := by rw [i1.2.2.1 1 13 (by decide)]; exact hB
    have gs : ∀ i, i < b → g i < b := fun i hi => i4.1 i hi
    have cb := hc2 b
    obtain ⟨q, r', a1, a2, a3, a4, a5, a6, a7⟩ := ins_loop (fun m' p r' => nX1_sortByYears_15 N (nX1_sortByYears_2 N m) m' 23 (n3 b) (n3 p) (hp r')) 28 (fun p r' => nX1_sortByYears_67 N (nX1_sortByYears_2 N m) 23 (n3 b) (n3 p) (hp r')) r b g (fun x => c b < c x) i3 (by
      intro m' r' hs'
      rw [nX1_sortByYears_15]
      simp (maxSteps := 400000) (disch := omega) only [n3_l, n3_add, n3_mul, n3_sub, n3_subn, n3_lt, n3_le, n3_eq, n3_eqn, n3_neq, n3_and, n3_or, n3_shl, n3_i, n3_cl, ↓hbd_0, ↓hbd_1, ↓hbd_2, hk_ob_0, hk_rd_0, hk_rd_1, hk_rd_2, hk_al_0, hk_al_1, h3r_0, h3r_1, hk_wi_0, hk_wj_0, h3w_0, h3w_1, h3v_0, hk_kI, hk_kJ, hk_kA, hk_kB, A_eq, A_ne, A_row, B_eq, B_ne, B_row, I_eq, I_ne, J_eq, J_ne, Option.bind_some, Option.some.injEq, if_true, if_false, eq_self, true_or, or_true, true_and, and_true, false_or, or_false, not_true_eq_false, not_false_eq_true, Classical.not_not, nar_b0, nar_b1, rz_0, rz_1, rz_i, ite01, Nat.add_zero, Nat.zero_add, Nat.one_mul, mul12, reduceIte, ra_z0, Nat.reduceEqDiff, Nat.reduceLT, Nat.reduceLeDiff, Nat.reduceAdd, Nat.reduceMul, Nat.reduceSub, Nat.reduceDiv, Nat.reduceMod, Bool.false_eq_true, false_and, and_false, reduceCtorEq, Nat.le_refl]) (by
      intro m' p r' hs' hp0 hpz hv
      have w4 := gs (p - 1) (by omega)
      have hp' : ¬ p ≤ 0 := by omega
      have cg := hc2 (g (p - 1))
      have f1 : hk_A r' 2 (12 * g (p - 1) + 2) = n3 (c (g (p - 1))) := by rw [hs'.1 2 (by decide), i1.1 2 (by decide)]; exact hc _ (by omega)
      have f2 : hk_A r' 2 (12 * b + 2) = n3 (c b) := by rw [hs'.1 2 (by decide), i1.1 2 (by decide)]; exact hc b hb
      have g1 := h_factOf N r' (b := g (p - 1)) (f := 2) (by omega) (by omega)
      have g2 := h_factOf N r' (b := b) (f := 2) (by omega) (by omega)
      rw [f1] at g1
      rw [f2] at g2
      rw [nX1_sortByYears_15]
      simp (maxSteps := 400000) (disch := omega) only [n3_l, n3_add, n3_mul, n3_sub, n3_subn, n3_lt, n3_le, n3_eq, n3_eqn, n3_neq, n3_and, n3_or, n3_shl, n3_i, n3_cl, ↓hbd_0, ↓hbd_1, ↓hbd_2, hk_ob_0, hk_rd_0, hk_rd_1, hk_rd_2, hk_al_0, hk_al_1, h3r_0, h3r_1, hk_wi_0, hk_wj_0, h3w_0, h3w_1, h3v_0, hk_kI, hk_kJ, hk_kA, hk_kB, A_eq, A_ne, A_row, B_eq, B_ne, B_row, I_eq, I_ne, J_eq, J_ne, Option.bind_some, Option.some.injEq, if_true, if_false, eq_self, true_or, or_true, true_and, and_true, false_or, or_false, not_true_eq_false, not_false_eq_true, Classical.not_not, nar_b0, nar_b1, rz_0, rz_1, rz_i, ite01, Nat.add_zero, Nat.zero_add, Nat.one_mul, mul12, reduceIte, ra_z0, Nat.reduceEqDiff, Nat.reduceLT, Nat.reduceLeDiff, Nat.reduceAdd, Nat.reduceMul, Nat.reduceSub, Nat.reduceDiv, Nat.reduceMod, Bool.false_eq_true, false_and, and_false, reduceCtorEq, hp', hv, g1, g2]
      by_cases c2 : c (g (p - 1)) ≤ c b
      · rw [if_pos c2, if_neg (by omega)]
      · rw [if_neg c2, if_pos (by omega)]) b N r (Nat.le_refl _) (by omega) (same.refl _ _ _) i3 (fun i h1 h2 => by omega) (fun i h1 h2 => by omega)
    refine ⟨(hk_wA r' 28 q (n3 b), insG g q b), ?_, ?_, ?_, ?_⟩
    · rw [nX1_sortByYears_2]
      simp (maxSteps := 400000) (disch := omega) only [n3_l, n3_add, n3_mul, n3_sub, n3_subn, n3_lt, n3_le, n3_eq, n3_eqn, n3_neq, n3_and, n3_or, n3_shl, n3_i, n3_cl, ↓hbd_0, ↓hbd_1, ↓hbd_2, hk_ob_0, hk_rd_0, hk_rd_1, hk_rd_2, hk_al_0, hk_al_1, h3r_0, h3r_1, hk_wi_0, hk_wj_0, h3w_0, h3w_1, h3v_0, hk_kI, hk_kJ, hk_kA, hk_kB, A_eq, A_ne, A_row, B_eq, B_ne, B_row, I_eq, I_ne, J_eq, J_ne, Option.bind_some, Option.some.injEq, if_true, if_false, eq_self, true_or, or_true, true_and, and_true, false_or, or_false, not_true_eq_false, not_false_eq_true, Classical.not_not, nar_b0, nar_b1, rz_0, rz_1, rz_i, ite01, Nat.add_zero, Nat.zero_add, Nat.one_mul, mul12, reduceIte, ra_z0, Nat.reduceEqDiff, Nat.reduceLT, Nat.reduceLeDiff, Nat.reduceAdd, Nat.reduceMul, Nat.reduceSub, Nat.reduceDiv, Nat.reduceMod, Bool.false_eq_true, false_and, and_false, reduceCtorEq, hB', hb]
      rw [a2]
      unfold nX1_sortByYears_67
      simp (maxSteps := 400000) (disch := omega) only [n3_l, n3_add, n3_mul, n3_sub, n3_subn, n3_lt, n3_le, n3_eq, n3_eqn, n3_neq, n3_and, n3_or, n3_shl, n3_i, n3_cl, ↓hbd_0, ↓hbd_1, ↓hbd_2, hk_ob_0, hk_rd_0, hk_rd_1, hk_rd_2, hk_al_0, hk_al_1, h3r_0, h3r_1, hk_wi_0, hk_wj_0, h3w_0, h3w_1, h3v_0, hk_kI, hk_kJ, hk_kA, hk_kB, A_eq, A_ne, A_row, B_eq, B_ne, B_row, I_eq, I_ne, J_eq, J_ne, Option.bind_some, Option.some.injEq, if_true, if_false, eq_self, true_or, or_true, true_and, and_true, false_or, or_false, not_true_eq_false, not_false_eq_true, Classical.not_not, nar_b0, nar_b1, rz_0, rz_1, rz_i, ite01, Nat.add_zero, Nat.zero_add, Nat.one_mul, mul12, reduceIte, ra_z0, Nat.reduceEqDiff, Nat.reduceLT, Nat.reduceLeDiff, Nat.reduceAdd, Nat.reduceMul, Nat.reduceSub, Nat.reduceDiv, Nat.reduceMod, Bool.false_eq_true, false_and, and_false, reduceCtorEq]
    · exact (i1.trans (a3.weak (by decide) (by decide))).wA (by decide)
    · intro i hi
      dsimp only
      unfold insG
      by_cases c1 : i < q
      · rw [if_pos c1, A_ne (Or.inr (by omega))]; exact a4 i c1
      · rw [if_neg c1]
        by_cases c2 : i = q
        · rw [if_pos c2, A_eq c2]
        · rw [if_neg c2, A_ne (Or.inr c2)]; exact a5 i (by omega) (by omega)
    · refine LL_cg (LL_ins (b := b) i4 a1 ?_ ?_) (fun x => ⟨fun z => by omega, fun z => by omega⟩)
      · intro i h1 h2
        have := a6 i h1 h2
        try dsimp only
        omega
      · intro i hi
        have h7 := a7 (by omega)
        have gq := gs (q - 1) (by omega)
        try dsimp only
        by_cases ei : i = q - 1
        · rw [ei]; omega
        · have := i4.2.2 i (q - 1) (by omega) (by omega)
          try dsimp only at this
          omega) n 0 N (κ, fun _ => 0) (by omega) (by omega) ⟨same.refl _ _ _, fun i hi => by omega, ⟨fun i hi => by omega, fun b hb => by omega, fun i j _ hj => by omega⟩⟩
  dsimp only at i1 i3 i4
  refine ⟨s', g, ?_, i1, i3, i4⟩
  have e0 : nX1_sortByYears_2 N N 23 (n3 0) (hp κ) = nX1_sortByYears_2 N (m' + 1) 23 (n3 n) (hp s') := e
  rw [e0, nX1_sortByYears_2]
  simp (maxSteps := 400000) (disch := omega) only [n3_l, n3_add, n3_mul, n3_sub, n3_subn, n3_lt, n3_le, n3_eq, n3_eqn, n3_neq, n3_and, n3_or, n3_shl, n3_i, n3_cl, ↓hbd_0, ↓hbd_1, ↓hbd_2, hk_ob_0, hk_rd_0, hk_rd_1, hk_rd_2, hk_al_0, hk_al_1, h3r_0, h3r_1, hk_wi_0, hk_wj_0, h3w_0, h3w_1, h3v_0, hk_kI, hk_kJ, hk_kA, hk_kB, A_eq, A_ne, A_row, B_eq, B_ne, B_row, I_eq, I_ne, J_eq, J_ne, Option.bind_some, Option.some.injEq, if_true, if_false, eq_self, true_or, or_true, true_and, and_true, false_or, or_false, not_true_eq_false, not_false_eq_true, Classical.not_not, nar_b0, nar_b1, rz_0, rz_1, rz_i, ite01, Nat.add_zero, Nat.zero_add, Nat.one_mul, mul12, reduceIte, ra_z0, Nat.reduceEqDiff, Nat.reduceLT, Nat.reduceLeDiff, Nat.reduceAdd, Nat.reduceMul, Nat.reduceSub, Nat.reduceDiv, Nat.reduceMod, Bool.false_eq_true, false_and, and_false, reduceCtorEq, i1.2.2.1 1 13 (by decide), hB, Nat.lt_irrefl]
end
