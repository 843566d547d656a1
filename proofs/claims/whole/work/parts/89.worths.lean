/-! all worths -/
theorem sp_rg (F G : Nat → Int32) (l b : Nat) : -6 ≤ (sp_agree F G l b).toInt ∧ (sp_agree F G l b).toInt ≤ 17 := by
  unfold sp_agree sp_ag3 sp_ag2 sp_ag1 sp_ag0
  (repeat' split) <;> decide
/-- by how much line l and what stands at place p agree, from 1 on -/
def aW (F G : Nat → Int32) (nB l p : Nat) : Int := if p ≤ nB then (if (sp_agree F G (l - 1) (p - 1)).toInt < 0 then -1000 else (sp_agree F G (l - 1) (p - 1)).toInt) else 0
theorem aW_ok (F G : Nat → Int32) {nB L : Nat} (hB : nB ≤ 40) (hL : L ≤ 12) : aOk (aW F G nB) (nB + L + 1) nB L := by
  refine ⟨rfl, hL, by omega, ?_, ?_⟩
  · intro l p _ _
    have := sp_rg F G (l - 1) (p - 1)
    unfold aW
    split
    · split <;> omega
    · omega
  · intro l p h _
    unfold aW
    rw [if_neg (by omega)]
theorem z3_of (x : Int32) : x = z3 x.toInt := by unfold z3; rw [Int32.ofInt_toInt]
section
variable (N : Nat) (κ : hk_T)
theorem c_weigh48 {nB L : Nat} (hB : hk_I κ 1 13 = n3 nB) (hLi : hk_I κ 1 15 = n3 L) (h40 : nB ≤ 40) (h12 : L ≤ 12) (hP : hk_I κ 41 7 = n3 (nB + L + 1)) (hN : 1000 < N) :
    ∃ κ', nX10_weighWorths_41 N N 41 1 (n3 1) (hp κ) = nX10_weighWorths_128 N N 41 1 (n3 1) (hp κ') ∧ same [48] [] κ κ' ∧ ∀ l p, 1 ≤ l → l ≤ L → 1 ≤ p → p ≤ nB + L + 1 → hk_A κ' 48 (l * 54 + p) = z3 (aW (hk_A κ 2) (hk_A κ 7) nB l p) := by
  obtain ⟨m', s', e, -, i1, i2⟩ := lpx (fun m l (s : hk_T) => nX10_weighWorths_41 N m 41 1 (n3 l) (hp s)) (L + 1) (fun l s => 1 ≤ l ∧ same [48] [] κ s ∧ ∀ l' p, 1 ≤ l' → l' < l → 1 ≤ p → p ≤ nB + L + 1 → hk_A s 48 (l' * 54 + p) = z3 (aW (hk_A κ 2) (hk_A κ 7) nB l' p)) (by
    rintro m l r hl ⟨hl1, i1, i2⟩
    have hlL : l ≤ L := by omega
    have r15 : hk_I r 1 15 = n3 L := by rw [i1.2.2.1 1 15 (by decide)]; exact hLi
    obtain ⟨m'', s'', e', -, k1, k2, k3⟩ := lpx (fun m' p (s : hk_T) => nX10_weighWorths_57 N (nX10_weighWorths_41 N m) m' 41 1 (n3 l) (n3 (l * 54)) (n3 p) (hp s)) (nB + L + 2) (fun p s => 1 ≤ p ∧ same [48] [] κ s ∧ (∀ l' p', 1 ≤ l' → l' < l → 1 ≤ p' → p' ≤ nB + L + 1 → hk_A s 48 (l' * 54 + p') = z3 (aW (hk_A κ 2) (hk_A κ 7) nB l' p')) ∧ ∀ p', 1 ≤ p' → p' < p → hk_A s 48 (l * 54 + p') = z3 (aW (hk_A κ 2) (hk_A κ 7) nB l p')) (by
      rintro m' p r' hpp ⟨hp1, k1, k2, k3⟩
      have hpP : p ≤ nB + L + 1 := by omega
      have r13 : hk_I r' 1 13 = n3 nB := by rw [k1.2.2.1 1 13 (by decide)]; exact hB
      have r7 : hk_I r' 41 7 = n3 (nB + L + 1) := by rw [k1.2.2.1 41 7 (by decide)]; exact hP
      refine ⟨hk_wA r' 48 (l * 54 + p) (z3 (aW (hk_A κ 2) (hk_A κ 7) nB l p)), ?_, by omega, k1.wA (by decide), ?_, ?_⟩
      · rw [nX10_weighWorths_57]
        by_cases c : p ≤ nB
        · have ag := h_agreement N r' (l := l - 1) (b := p - 1) (by omega) (by omega)
          rw [k1.1 2 (by decide), k1.1 7 (by decide)] at ag
          by_cases c2 : (sp_agree (hk_A κ 2) (hk_A κ 7) (l - 1) (p - 1)).toInt < 0
          · have eA : aW (hk_A κ 2) (hk_A κ 7) nB l p = -1000 := by unfold aW; rw [if_pos c, if_pos c2]
            have e5 : z3 (-1000) = -n3 1000 := by decide
            rw [eA, e5]
            simp (maxSteps := 400000) (disch := omega) only [n3_l, n3_add, n3_mul, n3_sub, n3_subn, n3_lt, n3_le, n3_eq, n3_eqn, n3_neq, n3_and, n3_or, n3_shl, n3_i, n3_cl, ↓hbd_0, ↓hbd_1, ↓hbd_2, hk_ob_0, hk_rd_0, hk_rd_1, hk_rd_2, hk_al_0, hk_al_1, h3r_0, h3r_1, hk_wi_0, hk_wj_0, h3w_0, h3w_1, h3v_0, hk_kI, hk_kJ, hk_kA, hk_kB, A_eq, A_ne, A_row, B_eq, B_ne, B_row, I_eq, I_ne, J_eq, J_ne, Option.bind_some, Option.some.injEq, if_true, if_false, eq_self, true_or, or_true, true_and, and_true, false_or, or_false, not_true_eq_false, not_false_eq_true, Classical.not_not, nar_b0, nar_b1, rz_0, rz_1, rz_i, ite01, Nat.add_zero, Nat.zero_add, Nat.one_mul, mul12, reduceIte, ra_z0, Nat.reduceEqDiff, Nat.reduceLT, Nat.reduceLeDiff, Nat.reduceAdd, Nat.reduceMul, Nat.reduceSub, Nat.reduceDiv, Nat.reduceMod, Bool.false_eq_true, false_and, and_false, reduceCtorEq, r7, hpP, r13, c, ag, nX10_weighWorths_113, nX10_weighWorths_90, nX10_weighWorths_0, lt3, Int.ofNat_zero, c2]
          · have eA : aW (hk_A κ 2) (hk_A κ 7) nB l p = (sp_agree (hk_A κ 2) (hk_A κ 7) (l - 1) (p - 1)).toInt := by unfold aW; rw [if_pos c, if_neg c2]
            rw [eA, ← z3_of]
            simp (maxSteps := 400000) (disch := omega) only [n3_l, n3_add, n3_mul, n3_sub, n3_subn, n3_lt, n3_le, n3_eq, n3_eqn, n3_neq, n3_and, n3_or, n3_shl, n3_i, n3_cl, ↓hbd_0, ↓hbd_1, ↓hbd_2, hk_ob_0, hk_rd_0, hk_rd_1, hk_rd_2, hk_al_0, hk_al_1, h3r_0, h3r_1, hk_wi_0, hk_wj_0, h3w_0, h3w_1, h3v_0, hk_kI, hk_kJ, hk_kA, hk_kB, A_eq, A_ne, A_row, B_eq, B_ne, B_row, I_eq, I_ne, J_eq, J_ne, Option.bind_some, Option.some.injEq, if_true, if_false, eq_self, true_or, or_true, true_and, and_true, false_or, or_false, not_true_eq_false, not_false_eq_true, Classical.not_not, nar_b0, nar_b1, rz_0, rz_1, rz_i, ite01, Nat.add_zero, Nat.zero_add, Nat.one_mul, mul12, reduceIte, ra_z0, Nat.reduceEqDiff, Nat.reduceLT, Nat.reduceLeDiff, Nat.reduceAdd, Nat.reduceMul, Nat.reduceSub, Nat.reduceDiv, Nat.reduceMod, Bool.false_eq_true, false_and, and_false, reduceCtorEq, r7, hpP, r13, c, ag, nX10_weighWorths_113, nX10_weighWorths_90, nX10_weighWorths_0, lt3, Int.ofNat_zero, c2]
        · have eA : aW (hk_A κ 2) (hk_A κ 7) nB l p = 0 := by unfold aW; rw [if_neg c]
          have e5 : z3 0 = n3 0 := rfl
          rw [eA, e5]
          simp (maxSteps := 400000) (disch := omega) only [n3_l, n3_add, n3_mul, n3_sub, n3_subn, n3_lt, n3_le, n3_eq, n3_eqn, n3_neq, n3_and, n3_or, n3_shl, n3_i, n3_cl, ↓hbd_0, ↓hbd_1, ↓hbd_2, hk_ob_0, hk_rd_0, hk_rd_1, hk_rd_2, hk_al_0, hk_al_1, h3r_0, h3r_1, hk_wi_0, hk_wj_0, h3w_0, h3w_1, h3v_0, hk_kI, hk_kJ, hk_kA, hk_kB, A_eq, A_ne, A_row, B_eq, B_ne, B_row, I_eq, I_ne, J_eq, J_ne, Option.bind_some, Option.some.injEq, if_true, if_false, eq_self, true_or, or_true, true_and, and_true, false_or, or_false, not_true_eq_false, not_false_eq_true, Classical.not_not, nar_b0, nar_b1, rz_0, rz_1, rz_i, ite01, Nat.add_zero, Nat.zero_add, Nat.one_mul, mul12, reduceIte, ra_z0, Nat.reduceEqDiff, Nat.reduceLT, Nat.reduceLeDiff, Nat.reduceAdd, Nat.reduceMul, Nat.reduceSub, Nat.reduceDiv, Nat.reduceMod, Bool.false_eq_true, false_and, and_false, reduceCtorEq, r7, hpP, r13, c, nX10_weighWorths_113, nX10_weighWorths_90, nX10_weighWorths_0, Nat.lt_irrefl]
      · intro l' p' h1 h2 h3 h4
        rw [A_ne (Or.inr (by omega))]
        exact k2 l' p' h1 h2 h3 h4
      · intro p' h1 h2
        by_cases e : p' = p
        · rw [e, A_eq rfl]
        · rw [A_ne (Or.inr (by omega))]; exact k3 p' h1 (by omega)) (nB + L + 1) 1 N r (by omega) (by omega) ⟨Nat.le_refl _, i1, i2, fun p' h1 h2 => by omega⟩
    refine ⟨s'', ?_, by omega, k1, ?_⟩
    · have hPP : ¬ nB + L + 2 ≤ nB + L + 1 := by omega
      rw [nX10_weighWorths_41]
      simp (maxSteps := 400000) (disch := omega) only [n3_l, n3_add, n3_mul, n3_sub, n3_subn, n3_lt, n3_le, n3_eq, n3_eqn, n3_neq, n3_and, n3_or, n3_shl, n3_i, n3_cl, ↓hbd_0, ↓hbd_1, ↓hbd_2, hk_ob_0, hk_rd_0, hk_rd_1, hk_rd_2, hk_al_0, hk_al_1, h3r_0, h3r_1, hk_wi_0, hk_wj_0, h3w_0, h3w_1, h3v_0, hk_kI, hk_kJ, hk_kA, hk_kB, A_eq, A_ne, A_row, B_eq, B_ne, B_row, I_eq, I_ne, J_eq, J_ne, Option.bind_some, Option.some.injEq, if_true, if_false, eq_self, true_or, or_true, true_and, and_true, false_or, or_false, not_true_eq_false, not_false_eq_true, Classical.not_not, nar_b0, nar_b1, rz_0, rz_1, rz_i, ite01, Nat.add_zero, Nat.zero_add, Nat.one_mul, mul12, reduceIte, ra_z0, Nat.reduceEqDiff, Nat.reduceLT, Nat.reduceLeDiff, Nat.reduceAdd, Nat.reduceMul, Nat.reduceSub, Nat.reduceDiv, Nat.reduceMod, Bool.false_eq_true, false_and, and_false, reduceCtorEq, r15, hlL]
      rw [e', nX10_weighWorths_57]
      simp (maxSteps := 400000) (disch := omega) only [n3_l, n3_add, n3_mul, n3_sub, n3_subn, n3_lt, n3_le, n3_eq, n3_eqn, n3_neq, n3_and, n3_or, n3_shl, n3_i, n3_cl, ↓hbd_0, ↓hbd_1, ↓hbd_2, hk_ob_0, hk_rd_0, hk_rd_1, hk_rd_2, hk_al_0, hk_al_1, h3r_0, h3r_1, hk_wi_0, hk_wj_0, h3w_0, h3w_1, h3v_0, hk_kI, hk_kJ, hk_kA, hk_kB, A_eq, A_ne, A_row, B_eq, B_ne, B_row, I_eq, I_ne, J_eq, J_ne, Option.bind_some, Option.some.injEq, if_true, if_false, eq_self, true_or, or_true, true_and, and_true, false_or, or_false, not_true_eq_false, not_false_eq_true, Classical.not_not, nar_b0, nar_b1, rz_0, rz_1, rz_i, ite01, Nat.add_zero, Nat.zero_add, Nat.one_mul, mul12, reduceIte, ra_z0, Nat.reduceEqDiff, Nat.reduceLT, Nat.reduceLeDiff, Nat.reduceAdd, Nat.reduceMul, Nat.reduceSub, Nat.reduceDiv, Nat.reduceMod, Bool.false_eq_true, false_and, and_false, reduceCtorEq, k1.2.2.1 41 7 (by decide), hP, hPP]
    · intro l' p h1 h2 h3 h4
      by_cases e : l' = l
      · rw [e]; exact k3 p h3 (by omega)
      · exact k2 l' p h1 (by omega) h3 h4) L 1 N κ (by omega) (by omega) ⟨Nat.le_refl _, same.refl _ _ _, fun l' p h1 h2 => by omega⟩
  refine ⟨s', ?_, i1, fun l p h1 h2 h3 h4 => i2 l p h1 (by omega) h3 h4⟩
  have hLL : ¬ L + 1 ≤ L := by omega
  rw [e, nX10_weighWorths_41]
  simp (maxSteps := 400000) (disch := omega) only [n3_l, n3_add, n3_mul, n3_sub, n3_subn, n3_lt, n3_le, n3_eq, n3_eqn, n3_neq, n3_and, n3_or, n3_shl, n3_i, n3_cl, ↓hbd_0, ↓hbd_1, ↓hbd_2, hk_ob_0, hk_rd_0, hk_rd_1, hk_rd_2, hk_al_0, hk_al_1, h3r_0, h3r_1, hk_wi_0, hk_wj_0, h3w_0, h3w_1, h3v_0, hk_kI, hk_kJ, hk_kA, hk_kB, A_eq, A_ne, A_row, B_eq, B_ne, B_row, I_eq, I_ne, J_eq, J_ne, Option.bind_some, Option.some.injEq, if_true, if_false, eq_self, true_or, or_true, true_and, and_true, false_or, or_false, not_true_eq_false, not_false_eq_true, Classical.not_not, nar_b0, nar_b1, rz_0, rz_1, rz_i, ite01, Nat.add_zero, Nat.zero_add, Nat.one_mul, mul12, reduceIte, ra_z0, Nat.reduceEqDiff, Nat.reduceLT, Nat.reduceLeDiff, Nat.reduceAdd, Nat.reduceMul, Nat.reduceSub, Nat.reduceDiv, Nat.reduceMod, Bool.false_eq_true, false_and, and_false, reduceCtorEq, i1.2.2.1 1 15 (by decide), hLi, hLL]
theorem c_weighLines {nB L : Nat} {a : Nat → Nat → Int} {u v : Nat → Int} {t : Nat → Nat} (hLi : hk_I κ 1 15 = n3 L) (ok : aOk a (nB + L + 1) nB L) (hw : wR κ (nB + L + 1) L a u v t) (hH : HI a (nB + L + 1) 0 u v t) (hu : ∀ l, 0 < l → u l = 0) (hN : 1000 < N) :
    ∃ κ' u' v' t', nX10_weighWorths_128 N N 41 1 (n3 1) (hp κ) = some (hp κ') ∧ same [42, 43, 44, 45, 46, 47] [] κ κ' ∧ wR κ' (nB + L + 1) L a u' v' t' ∧ HI a (nB + L + 1) L u' v' t' := by
  have h12 := ok.2.1
  obtain ⟨m', ⟨s', u', v', t'⟩, e, i1, i2, i3, i4⟩ := lpx (fun m i (s : hk_T × (Nat → Int) × (Nat → Int) × (Nat → Nat)) => nX10_weighWorths_128 N m 41 1 (n3 (i + 1)) (hp s.1)) L (fun i s => same [42, 43, 44, 45, 46, 47] [] κ s.1 ∧ wR s.1 (nB + L + 1) L a s.2.1 s.2.2.1 s.2.2.2 ∧ HI a (nB + L + 1) i s.2.1 s.2.2.1 s.2.2.2 ∧ ∀ l, i < l → s.2.1 l = 0) (by
    rintro m i ⟨r, u, v, t⟩ hi ⟨i1, i2, i3, i4⟩
    obtain ⟨κ', u', v', t', e1, s1, w1, H1, z1⟩ := c_placeLine N r ok hi i2 i3 i4 hN
    have r15 : hk_I r 1 15 = n3 L := by rw [i1.2.2.1 1 15 (by decide)]; exact hLi
    have hiL : i + 1 ≤ L := by omega
    refine ⟨(κ', u', v', t'), ?_, i1.trans s1, w1, H1, z1⟩
    rw [nX10_weighWorths_128]
    simp (maxSteps := 400000) (disch := omega) only [n3_l, n3_add, n3_mul, n3_sub, n3_subn, n3_lt, n3_le, n3_eq, n3_eqn, n3_neq, n3_and, n3_or, n3_shl, n3_i, n3_cl, ↓hbd_0, ↓hbd_1, ↓hbd_2, hk_ob_0, hk_rd_0, hk_rd_1, hk_rd_2, hk_al_0, hk_al_1, h3r_0, h3r_1, hk_wi_0, hk_wj_0, h3w_0, h3w_1, h3v_0, hk_kI, hk_kJ, hk_kA, hk_kB, A_eq, A_ne, A_row, B_eq, B_ne, B_row, I_eq, I_ne, J_eq, J_ne, Option.bind_some, Option.some.injEq, if_true, if_false, eq_self, true_or, or_true, true_and, and_true, false_or, or_false, not_true_eq_false, not_false_eq_true, Classical.not_not, nar_b0, nar_b1, rz_0, rz_1, rz_i, ite01, Nat.add_zero, Nat.zero_add, Nat.one_mul, mul12, reduceIte, ra_z0, Nat.reduceEqDiff, Nat.reduceLT, Nat.reduceLeDiff, Nat.reduceAdd, Nat.reduceMul, Nat.reduceSub, Nat.reduceDiv, Nat.reduceMod, Bool.false_eq_true, false_and, and_false, reduceCtorEq, r15, hiL, e1]) L 0 N (κ, u, v, t) (by omega) (by omega) ⟨same.refl _ _ _, hw, hH, hu⟩
  dsimp only at i1 i2 i3 i4
  refine ⟨s', u', v', t', ?_, i1, i2, i3⟩
  have hLL : ¬ L + 1 ≤ L := by omega
  have e0 : nX10_weighWorths_128 N N 41 1 (n3 1) (hp κ) = nX10_weighWorths_128 N (m' + 1) 41 1 (n3 (L + 1)) (hp s') := e
  rw [e0, nX10_weighWorths_128]
  simp (maxSteps := 400000) (disch := omega) only [n3_l, n3_add, n3_mul, n3_sub, n3_subn, n3_lt, n3_le, n3_eq, n3_eqn, n3_neq, n3_and, n3_or, n3_shl, n3_i, n3_cl, ↓hbd_0, ↓hbd_1, ↓hbd_2, hk_ob_0, hk_rd_0, hk_rd_1, hk_rd_2, hk_al_0, hk_al_1, h3r_0, h3r_1, hk_wi_0, hk_wj_0, h3w_0, h3w_1, h3v_0, hk_kI, hk_kJ, hk_kA, hk_kB, A_eq, A_ne, A_row, B_eq, B_ne, B_row, I_eq, I_ne, J_eq, J_ne, Option.bind_some, Option.some.injEq, if_true, if_false, eq_self, true_or, or_true, true_and, and_true, false_or, or_false, not_true_eq_false, not_false_eq_true, Classical.not_not, nar_b0, nar_b1, rz_0, rz_1, rz_i, ite01, Nat.add_zero, Nat.zero_add, Nat.one_mul, mul12, reduceIte, ra_z0, Nat.reduceEqDiff, Nat.reduceLT, Nat.reduceLeDiff, Nat.reduceAdd, Nat.reduceMul, Nat.reduceSub, Nat.reduceDiv, Nat.reduceMod, Bool.false_eq_true, false_and, and_false, reduceCtorEq, i1.2.2.1 1 15 (by decide), hLi, hLL]
end
