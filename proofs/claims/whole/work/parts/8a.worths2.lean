/-! worths, the whole -/
theorem c_weighWorths (N : Nat) (κ : hk_T) {nB L : Nat} (hB : hk_I κ 1 13 = n3 nB) (hLi : hk_I κ 1 15 = n3 L) (h40 : nB ≤ 40) (h12 : L ≤ 12) (hN : 1000 < N) :
    ∃ κ' u v t, fX10_weighWorths N 41 1 (hp κ) = some (hp κ') ∧ same [42, 43, 44, 45, 46, 47, 48] [(41, 7)] κ κ' ∧ wR κ' (nB + L + 1) L (aW (hk_A κ 2) (hk_A κ 7) nB) u v t ∧ HI (aW (hk_A κ 2) (hk_A κ 7) nB) (nB + L + 1) L u v t := by
  have s0 : same [] [(41, 7)] κ (hk_wI κ 41 7 (n3 (nB + L + 1))) := (same.refl _ _ _).wI (by decide)
  obtain ⟨κ1, e1, s1, v1⟩ := f_fill3 N (hk_wI κ 41 7 (n3 (nB + L + 1))) (k := 42) (n := 13) rfl (by omega) (by omega) (n3 0)
  obtain ⟨κ2, e2, s2, v2⟩ := f_fill3 N κ1 (k := 43) (n := 54) rfl (by omega) (by omega) (n3 0)
  obtain ⟨κ3, e3, s3, v3⟩ := f_fill3 N κ2 (k := 44) (n := 54) rfl (by omega) (by omega) (n3 0)
  have s13 : same [42, 43, 44] [] (hk_wI κ 41 7 (n3 (nB + L + 1))) κ3 := ((s1.weak (by decide) (by decide)).trans (s2.weak (by decide) (by decide))).trans (s3.weak (by decide) (by decide))
  have s03 : same [42, 43, 44] [(41, 7)] κ κ3 := (s0.weak (by decide) (by decide)).trans (s13.weak (by decide) (by decide))
  have hP : hk_I κ3 41 7 = n3 (nB + L + 1) := by rw [s13.2.2.1 41 7 (by decide)]; exact I_eq
  obtain ⟨κ4, e4, s4, v4⟩ := c_weigh48 N κ3 (nB := nB) (L := L) (by rw [s03.2.2.1 1 13 (by decide)]; exact hB) (by rw [s03.2.2.1 1 15 (by decide)]; exact hLi) h40 h12 hP hN
  rw [s03.1 2 (by decide), s03.1 7 (by decide)] at v4
  have hw : wR κ4 (nB + L + 1) L (aW (hk_A κ 2) (hk_A κ 7) nB) (fun _ => 0) (fun _ => 0) (fun _ => 0) := by
    refine ⟨by rw [s4.2.2.1 41 7 (by decide)]; exact hP, ?_, ?_, ?_, v4⟩
    · intro l hl
      rw [s4.1 42 (by decide), s3.1 42 (by decide), s2.1 42 (by decide), v1, if_pos (by omega)]; rfl
    · intro p h
      rw [s4.1 43 (by decide), s3.1 43 (by decide), v2, if_pos (by omega)]; rfl
    · intro p h
      rw [s4.1 44 (by decide), v3, if_pos (by omega)]
  have hH : HI (aW (hk_A κ 2) (hk_A κ 7) nB) (nB + L + 1) 0 (fun _ => 0) (fun _ => 0) (fun _ => 0) := by
    refine ⟨fun l a1 a2 => by omega, fun p q _ _ _ _ _ z => absurd rfl z, fun p _ _ => Nat.le_refl _, fun p _ _ z => absurd rfl z, fun l p a1 a2 => by omega, fun p _ _ => ⟨Int.le_refl _, fun _ => rfl⟩⟩
  have s04 : same [42, 43, 44, 48] [(41, 7)] κ κ4 := (s03.weak (by decide) (by decide)).trans (s4.weak (by decide) (by decide))
  obtain ⟨κ5, u, v, t, e5, s5, w5, H5⟩ := c_weighLines N κ4 (by rw [s04.2.2.1 1 15 (by decide)]; exact hLi) (aW_ok _ _ h40 h12) hw hH (fun _ _ => rfl) hN
  refine ⟨κ5, u, v, t, ?_, (s04.weak (by decide) (by decide)).trans (s5.weak (by decide) (by decide)), w5, H5⟩
  unfold fX10_weighWorths nX10_weighWorths_0
  simp (maxSteps := 400000) (disch := omega) only [n3_l, n3_add, n3_mul, n3_sub, n3_subn, n3_lt, n3_le, n3_eq, n3_eqn, n3_neq, n3_and, n3_or, n3_shl, n3_i, n3_cl, ↓hbd_0, ↓hbd_1, ↓hbd_2, hk_ob_0, hk_rd_0, hk_rd_1, hk_rd_2, hk_al_0, hk_al_1, h3r_0, h3r_1, hk_wi_0, hk_wj_0, h3w_0, h3w_1, h3v_0, hk_kI, hk_kJ, hk_kA, hk_kB, A_eq, A_ne, A_row, B_eq, B_ne, B_row, I_eq, I_ne, J_eq, J_ne, Option.bind_some, Option.some.injEq, if_true, if_false, eq_self, true_or, or_true, true_and, and_true, false_or, or_false, not_true_eq_false, not_false_eq_true, Classical.not_not, nar_b0, nar_b1, rz_0, rz_1, rz_i, ite01, Nat.add_zero, Nat.zero_add, Nat.one_mul, mul12, reduceIte, ra_z0, Nat.reduceEqDiff, Nat.reduceLT, Nat.reduceLeDiff, Nat.reduceAdd, Nat.reduceMul, Nat.reduceSub, Nat.reduceDiv, Nat.reduceMod, Bool.false_eq_true, false_and, and_false, reduceCtorEq, hB, hLi, e1, e2, e3]
  rw [e4, e5]
