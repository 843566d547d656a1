/-! the lines that a book may have, listed -/
section
variable (N : Nat) (κ : hk_T)
theorem c_agreementOf {P nB L l b : Nat} {a : Nat → Nat → Int} {u v : Nat → Int} {t : Nat → Nat} (ok : aOk a P nB L) (hw : wR κ P L a u v t) (hl : l < L) (hb : b < nB) : fX10_agreementOf N 41 (n3 l) (n3 b) (hp κ) = some (z3 (sh2 a l b), hp κ) := by
  obtain ⟨o1, o2, o3, o4, o5⟩ := ok
  have r48 : hk_A κ 48 ((l + 1) * 54 + b + 1) = z3 (sh2 a l b) := hw.2.2.2.2 (l + 1) (b + 1) (by omega) (by omega) (by omega) (by omega)
  simp (maxSteps := 400000) (disch := omega) only [n3_l, n3_add, n3_mul, n3_sub, n3_subn, n3_lt, n3_le, n3_eq, n3_eqn, n3_neq, n3_and, n3_or, n3_shl, n3_i, n3_cl, ↓hbd_0, ↓hbd_1, ↓hbd_2, hk_ob_0, hk_rd_0, hk_rd_1, hk_rd_2, hk_al_0, hk_al_1, h3r_0, h3r_1, hk_wi_0, hk_wj_0, h3w_0, h3w_1, h3v_0, hk_kI, hk_kJ, hk_kA, hk_kB, A_eq, A_ne, A_row, B_eq, B_ne, B_row, I_eq, I_ne, J_eq, J_ne, Option.bind_some, Option.some.injEq, if_true, if_false, eq_self, true_or, or_true, true_and, and_true, false_or, or_false, not_true_eq_false, not_false_eq_true, Classical.not_not, nar_b0, nar_b1, rz_0, rz_1, rz_i, ite01, Nat.add_zero, Nat.zero_add, Nat.one_mul, mul12, reduceIte, ra_z0, Nat.reduceEqDiff, Nat.reduceLT, Nat.reduceLeDiff, Nat.reduceAdd, Nat.reduceMul, Nat.reduceSub, Nat.reduceDiv, Nat.reduceMod, Bool.false_eq_true, false_and, and_false, reduceCtorEq, fX10_agreementOf, nX10_agreementOf_0, r48]
theorem c_listUsable {P nB L b m0 : Nat} {a : Nat → Nat → Int} {u v : Nat → Int} {t : Nat → Nat} (hLi : hk_I κ 1 15 = n3 L) (h40 : nB ≤ 40) (ok : aOk a P nB L) (hw : wR κ P L a u v t) (hb : b < nB) (h49 : hk_A κ 49 b = n3 m0) (hm : m0 < 4096) (hN : 1000 < N) :
    ∃ κ' sz g, fX3_listUsable N 40 (n3 b) (hp κ) = some (n3 sz, hp κ') ∧ same [52, 53] [] κ κ' ∧ LL (fun l => l < L ∧ m0.testBit l = true) (fun l => l) sz g ∧ sz ≤ L ∧ ∀ i, i < sz → hk_A κ' 52 i = n3 (2 ^ g i) ∧ hk_A κ' 53 i = z3 (sh2 a (g i) b) := by
  have h12 := ok.2.1
  have keep : ∀ r, same [52, 53] [] κ r → wR r P L a u v t := by
    intro r hr
    obtain ⟨w1, w2, w3, w4, w5⟩ := hw
    exact ⟨by rw [hr.2.2.1 41 7 (by decide)]; exact w1, by rw [hr.1 42 (by decide)]; exact w2, by rw [hr.1 43 (by decide)]; exact w3, by rw [hr.1 44 (by decide)]; exact w4, by rw [hr.1 48 (by decide)]; exact w5⟩
  unfold fX3_listUsable nX3_listUsable_0
  simp (maxSteps := 400000) (disch := omega) only [n3_l, n3_add, n3_mul, n3_sub, n3_subn, n3_lt, n3_le, n3_eq, n3_eqn, n3_neq, n3_and, n3_or, n3_shl, n3_i, n3_cl, ↓hbd_0, ↓hbd_1, ↓hbd_2, hk_ob_0, hk_rd_0, hk_rd_1, hk_rd_2, hk_al_0, hk_al_1, h3r_0, h3r_1, hk_wi_0, hk_wj_0, h3w_0, h3w_1, h3v_0, hk_kI, hk_kJ, hk_kA, hk_kB, A_eq, A_ne, A_row, B_eq, B_ne, B_row, I_eq, I_ne, J_eq, J_ne, Option.bind_some, Option.some.injEq, if_true, if_false, eq_self, true_or, or_true, true_and, and_true, false_or, or_false, not_true_eq_false, not_false_eq_true, Classical.not_not, nar_b0, nar_b1, rz_0, rz_1, rz_i, ite01, Nat.add_zero, Nat.zero_add, Nat.one_mul, mul12, reduceIte, ra_z0, Nat.reduceEqDiff, Nat.reduceLT, Nat.reduceLeDiff, Nat.reduceAdd, Nat.reduceMul, Nat.reduceSub, Nat.reduceDiv, Nat.reduceMod, Bool.false_eq_true, false_and, and_false, reduceCtorEq]
  obtain ⟨m', ⟨s', sz, g⟩, e, i1, i2, i3, i4⟩ := lpx (fun m l (s : hk_T × Nat × (Nat → Nat)) => nX3_listUsable_4 N m 40 (n3 b) (n3 s.2.1) (n3 l) (hp s.1)) L (fun l s => same [52, 53] [] κ s.1 ∧ LL (fun l' => l' < l ∧ m0.testBit l' = true) (fun l => l) s.2.1 s.2.2 ∧ s.2.1 ≤ l ∧ ∀ i, i < s.2.1 → hk_A s.1 52 i = n3 (2 ^ s.2.2 i) ∧ hk_A s.1 53 i = z3 (sh2 a (s.2.2 i) b)) (by
    rintro m l ⟨r, sz, g⟩ hl ⟨i1, i2, i3, i4⟩
    dsimp only at i1 i2 i3 i4 ⊢
    have r15 : hk_I r 1 15 = n3 L := by rw [i1.2.2.1 1 15 (by decide)]; exact hLi
    have r49 : hk_A r 49 b = n3 m0 := by rw [i1.1 49 (by decide)]; exact h49
    by_cases c : m0.testBit l = true
    · have s1 : same [52, 53] [] κ (hk_wA r 52 sz (n3 (2 ^ l))) := i1.wA (by decide)
      have ag := c_agreementOf N (hk_wA r 52 sz (n3 (2 ^ l))) ok (keep _ s1) hl hb
      refine ⟨(hk_wA (hk_wA r 52 sz (n3 (2 ^ l))) 53 sz (z3 (sh2 a l b)), sz + 1, insG g sz l), ?_, s1.wA (by decide), ?_, ?_, ?_⟩
      · rw [nX3_listUsable_4]
        simp (maxSteps := 400000) (disch := omega) only [n3_l, n3_add, n3_mul, n3_sub, n3_subn, n3_lt, n3_le, n3_eq, n3_eqn, n3_neq, n3_and, n3_or, n3_shl, n3_i, n3_cl, ↓hbd_0, ↓hbd_1, ↓hbd_2, hk_ob_0, hk_rd_0, hk_rd_1, hk_rd_2, hk_al_0, hk_al_1, h3r_0, h3r_1, hk_wi_0, hk_wj_0, h3w_0, h3w_1, h3v_0, hk_kI, hk_kJ, hk_kA, hk_kB, A_eq, A_ne, A_row, B_eq, B_ne, B_row, I_eq, I_ne, J_eq, J_ne, Option.bind_some, Option.some.injEq, if_true, if_false, eq_self, true_or, or_true, true_and, and_true, false_or, or_false, not_true_eq_false, not_false_eq_true, Classical.not_not, nar_b0, nar_b1, rz_0, rz_1, rz_i, ite01, Nat.add_zero, Nat.zero_add, Nat.one_mul, mul12, reduceIte, ra_z0, Nat.reduceEqDiff, Nat.reduceLT, Nat.reduceLeDiff, Nat.reduceAdd, Nat.reduceMul, Nat.reduceSub, Nat.reduceDiv, Nat.reduceMod, Bool.false_eq_true, false_and, and_false, reduceCtorEq, r15, hl, r49, n3_shl, bit_and, c, ag, nX3_listUsable_55]
      · obtain ⟨l1, l2, l3⟩ := LL_ins (b := l) i2 (Nat.le_refl _) (fun i h1 h2 => by omega) (fun i hi => (i2.1 i hi).1)
        refine ⟨?_, ?_, l3⟩
        · intro i hi
          show insG g sz l i < l + 1 ∧ m0.testBit (insG g sz l i) = true
          rcases l1 i hi with h | h
          · exact ⟨by have := h.1; omega, h.2⟩
          · rw [h]; exact ⟨by omega, c⟩
        · rintro l' ⟨h1, h2⟩
          by_cases e : l' = l
          · exact l2 l' (Or.inr e)
          · exact l2 l' (Or.inl ⟨by omega, h2⟩)
      · dsimp only; omega
      · intro i hi
        dsimp only at hi ⊢
        unfold insG
        by_cases e : i = sz
        · rw [e, if_neg (by omega), if_pos rfl, A_eq rfl, A_ne (Or.inl (by decide)), A_eq rfl]; exact ⟨rfl, rfl⟩
        · have hi' : i < sz := by omega
          rw [if_pos hi', A_ne (Or.inl (by decide)), A_ne (Or.inr e), A_ne (Or.inr e), A_ne (Or.inl (by decide))]
          exact i4 i hi'
    · refine ⟨(r, sz, g), ?_, i1, ?_, ?_, i4⟩
      · rw [nX3_listUsable_4]
        simp (maxSteps := 400000) (disch := omega) only [n3_l, n3_add, n3_mul, n3_sub, n3_subn, n3_lt, n3_le, n3_eq, n3_eqn, n3_neq, n3_and, n3_or, n3_shl, n3_i, n3_cl, ↓hbd_0, ↓hbd_1, ↓hbd_2, hk_ob_0, hk_rd_0, hk_rd_1, hk_rd_2, hk_al_0, hk_al_1, h3r_0, h3r_1, hk_wi_0, hk_wj_0, h3w_0, h3w_1, h3v_0, hk_kI, hk_kJ, hk_kA, hk_kB, A_eq, A_ne, A_row, B_eq, B_ne, B_row, I_eq, I_ne, J_eq, J_ne, Option.bind_some, Option.some.injEq, if_true, if_false, eq_self, true_or, or_true, true_and, and_true, false_or, or_false, not_true_eq_false, not_false_eq_true, Classical.not_not, nar_b0, nar_b1, rz_0, rz_1, rz_i, ite01, Nat.add_zero, Nat.zero_add, Nat.one_mul, mul12, reduceIte, ra_z0, Nat.reduceEqDiff, Nat.reduceLT, Nat.reduceLeDiff, Nat.reduceAdd, Nat.reduceMul, Nat.reduceSub, Nat.reduceDiv, Nat.reduceMod, Bool.false_eq_true, false_and, and_false, reduceCtorEq, r15, hl, r49, n3_shl, bit_and, c, nX3_listUsable_55]
      · obtain ⟨l1, l2, l3⟩ := i2
        refine ⟨fun i hi => ⟨by have := (l1 i hi).1; show g i < l + 1; omega, (l1 i hi).2⟩, ?_, l3⟩
        rintro l' ⟨h1, h2⟩
        by_cases e : l' = l
        · rw [e] at h2; exact absurd h2 c
        · exact l2 l' ⟨by omega, h2⟩
      · dsimp only; omega) L 0 N (κ, 0, fun _ => 0) (by omega) (by omega) ⟨same.refl _ _ _, ⟨fun i hi => by dsimp only at hi; omega, fun l' h => by omega, fun i j _ hj => by dsimp only at hj; omega⟩, Nat.le_refl _, fun i hi => by dsimp only at hi; omega⟩
  dsimp only at i1 i2 i3 i4
  refine ⟨s', sz, g, ?_, i1, i2, i3, i4⟩
  have e0 : nX3_listUsable_4 N N 40 (n3 b) (n3 0) (n3 0) (hp κ) = nX3_listUsable_4 N (m' + 1) 40 (n3 b) (n3 sz) (n3 L) (hp s') := e
  rw [e0, nX3_listUsable_4]
  simp (maxSteps := 400000) (disch := omega) only [n3_l, n3_add, n3_mul, n3_sub, n3_subn, n3_lt, n3_le, n3_eq, n3_eqn, n3_neq, n3_and, n3_or, n3_shl, n3_i, n3_cl, ↓hbd_0, ↓hbd_1, ↓hbd_2, hk_ob_0, hk_rd_0, hk_rd_1, hk_rd_2, hk_al_0, hk_al_1, h3r_0, h3r_1, hk_wi_0, hk_wj_0, h3w_0, h3w_1, h3v_0, hk_kI, hk_kJ, hk_kA, hk_kB, A_eq, A_ne, A_row, B_eq, B_ne, B_row, I_eq, I_ne, J_eq, J_ne, Option.bind_some, Option.some.injEq, if_true, if_false, eq_self, true_or, or_true, true_and, and_true, false_or, or_false, not_true_eq_false, not_false_eq_true, Classical.not_not, nar_b0, nar_b1, rz_0, rz_1, rz_i, ite01, Nat.add_zero, Nat.zero_add, Nat.one_mul, mul12, reduceIte, ra_z0, Nat.reduceEqDiff, Nat.reduceLT, Nat.reduceLeDiff, Nat.reduceAdd, Nat.reduceMul, Nat.reduceSub, Nat.reduceDiv, Nat.reduceMod, Bool.false_eq_true, false_and, and_false, reduceCtorEq, i1.2.2.1 1 15 (by decide), hLi, Nat.lt_irrefl]
end
