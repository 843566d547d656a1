/-! the weighing once more: the room behind it -/
section
variable (N : Nat) (κ : hk_T)
theorem c_weighAllM {nB L z : Nat} (hB : hk_I κ 1 13 = n3 nB) (hLi : hk_I κ 1 15 = n3 L) (h40 : nB ≤ 40) (h12 : L ≤ 12) (hk0 : hk_I κ 40 12 = n3 0) (hn : 101 ≤ hk_n κ) (hr : roomZ κ z) (hN : 10000 < N) :
    ∃ κ' z', fX3_weighAll N 40 (hp κ) = some (hp κ') ∧ sameM [42, 43, 44, 45, 46, 47, 48, 49, 50, 51, 52, 53, 59, 60] [(41, 7), (40, 12), (40, 15), (40, 16), (40, 17)] κ κ' ∧ mOut κ' (agC κ) nB L ∧ hk_I κ' 40 12 = n3 1 ∧ (∃ q S W R C, mC κ' q S W R C ∧ z' = 2 ^ q) ∧ hk_s κ' + 86 * z ≤ hk_s κ + 86 * z' ∧ hk_s κ ≤ hk_s κ' := by
  have q2 := q12 h12
  have r0 : roomI (hk_wI κ 40 12 (n3 1)) := by
    rcases hr with ⟨h, -⟩ | ⟨q, S, W, R, C, h, -⟩
    · exact Or.inl h
    · exact Or.inr ⟨q, S, W, R, C, h.keep rfl rfl rfl⟩
  obtain ⟨κ2, q, S, W, R, C, e2, g2, hq, hm⟩ := c_makeRoom N (hk_wI κ 40 12 (n3 1)) h12 hn r0
  have f2 : (∀ k, hk_A κ2 k = hk_A κ k) ∧ (∀ k, hk_B κ2 k = hk_B κ k) ∧ (∀ k j, (k, j) ∉ [(40, 12)] → hk_I κ2 k j = hk_I κ k j) ∧ hk_I κ2 40 12 = n3 1 ∧ hk_Q κ2 = hk_Q κ ∧ hk_x κ2 = hk_x κ := by
    have w : ∀ k j, (k, j) ∉ [(40, 12)] → hk_I (hk_wI κ 40 12 (n3 1)) k j = hk_I κ k j := fun k j hkj => ((same.refl [] [(40, 12)] κ).wI (v := n3 1) (by decide)).2.2.1 k j hkj
    rcases hm with e | ⟨-, e, -⟩
    · rw [e]
      exact ⟨fun k => rfl, fun k => rfl, w, I_eq, rfl, rfl⟩
    · rw [e]
      exact ⟨fun k => rfl, fun k => rfl, w, (show hk_I (hk_wI κ 40 12 (n3 1)) 40 12 = n3 1 from I_eq), rfl, rfl⟩
  obtain ⟨fA, fB, fI, fk, fQ, fx⟩ := f2
  have d2 : (∀ k, k < hk_n κ → k ∉ pL κ → hk_D κ2 k = hk_D κ k) ∧ hk_n κ ≤ hk_n κ2 ∧ hk_n κ2 ≤ hk_n κ + 4 ∧ (∀ k, k < hk_n κ → k ∈ pL κ2 → k ∈ pL κ) ∧ hk_s κ2 + 86 * z ≤ hk_s κ + 86 * 2 ^ q ∧ hk_s κ ≤ hk_s κ2 := by
    rcases hm with e | ⟨eq, e, hz⟩
    · rw [e]
      refine ⟨fun k _ _ => rfl, Nat.le_refl _, by show hk_n κ ≤ _; omega, fun k _ h => h, ?_, Nat.le_refl _⟩
      show hk_s κ + _ ≤ _
      rcases hr with ⟨-, h⟩ | ⟨q', S', W', R', C', h, hz⟩
      · omega
      · have : 2 ^ q' = 2 ^ q := by
          have h1 := h.2.2.1.1
          have h2 := g2.2.2.1.1
          rw [e] at h2
          have h3 : dC 0 (2 ^ q') (fun x => z3 (S' x)) = dC 0 (2 ^ q) (fun x => z3 (S x)) := h1.symm.trans h2
          unfold dC at h3
          exact congrArg (fun c : ra_C => match c with | .inl x => x.2.1 | _ => 0) h3
        omega
    · have n2 : hk_n κ2 = hk_n κ + 4 := by rw [e]; rfl
      have s2 : hk_s κ2 = hk_s κ + 2 ^ L + 2 ^ L + 2 ^ L + 2 ^ L * 40 := by rw [e]; rfl
      have p2 : pL κ2 = [hk_n κ, hk_n κ + 1, hk_n κ + 2, hk_n κ + 3] := by rw [e]; rfl
      refine ⟨?_, by omega, by omega, ?_, ?_, by omega⟩
      · intro k hk _
        rw [e]
        show (if k = hk_n κ + 3 then _ else if k = hk_n κ + 2 then _ else if k = hk_n κ + 1 then _ else if k = hk_n κ then _ else hk_D κ k) = _
        rw [if_neg (by omega), if_neg (by omega), if_neg (by omega), if_neg (by omega)]
      · intro k hk h
        rw [p2] at h
        simp only [List.mem_cons, List.not_mem_nil, or_false] at h
        omega
      · have hz2 : 2 * z ≤ 2 ^ L := by
          rcases hr with ⟨-, h⟩ | ⟨q', S', W', R', C', h, hzz⟩
          · omega
          · rcases hz with hz | ⟨q0, S0, W0, R0, C0, hlt, h0⟩
            · have := h.1
              have hz' : hk_P κ 8 = 55 := hz
              omega
            · have hh : 2 ^ q' = 2 ^ q0 := by
                have h1 := h.2.2.1.1
                have h2 : hk_D κ (hk_P κ 8) = _ := h0.2.2.1.1
                have h3 : dC 0 (2 ^ q') (fun x => z3 (S' x)) = dC 0 (2 ^ q0) (fun x => z3 (S0 x)) := h1.symm.trans h2
                unfold dC at h3
                exact congrArg (fun c : ra_C => match c with | .inl x => x.2.1 | _ => 0) h3
              have : 2 ^ (q0 + 1) ≤ 2 ^ L := Nat.pow_le_pow_right (by omega) hlt
              rw [Nat.pow_succ] at this
              omega
        rw [eq]
        omega
  have B2 : hk_I κ2 1 13 = n3 nB := by rw [fI 1 13 (by decide)]; exact hB
  have L2 : hk_I κ2 1 15 = n3 L := by rw [fI 1 15 (by decide)]; exact hLi
  obtain ⟨κ3, u, v, t, e3, s3, w3, H3⟩ := c_weighWorths N κ2 B2 L2 h40 h12 (by omega)
  rw [fA 2, fA 7] at w3 H3
  have ok := aW_ok (hk_A κ 2) (hk_A κ 7) h40 h12
  have hA : ∀ l b, -2000 ≤ sh2 (aW (hk_A κ 2) (hk_A κ 7) nB) l b ∧ sh2 (aW (hk_A κ 2) (hk_A κ 7) nB) l b ≤ 2000 := by
    intro l b
    unfold sh2 aW
    have := sp_rg (hk_A κ 2) (hk_A κ 7) (l + 1 - 1) (b + 1 - 1)
    split
    · split <;> omega
    · omega
  have ag : ∀ l b, l < L → b < nB → sh2 (aW (hk_A κ 2) (hk_A κ 7) nB) l b = agC κ l b ∨ (sh2 (aW (hk_A κ 2) (hk_A κ 7) nB) l b < 0 ∧ agC κ l b < 0) := by
    intro l b hl hb
    unfold sh2 aW agC
    rw [if_pos (by omega), Nat.add_sub_cancel, Nat.add_sub_cancel]
    split
    · right; omega
    · left; rfl
  obtain ⟨hd, hg⟩ := HI_good ok H3
  generalize aW (hk_A κ 2) (hk_A κ 7) nB = a at w3 H3 ok hA ag hd hg
  have B3 : hk_I κ3 1 13 = n3 nB := by rw [s3.2.2.1 1 13 (by decide)]; exact B2
  have L3 : hk_I κ3 1 15 = n3 L := by rw [s3.2.2.1 1 15 (by decide)]; exact L2
  obtain ⟨κ4, e4, s4, m49, m50⟩ := c_lookAhead N κ3 B3 L3 h40 ok w3 H3 (by omega)
  have w4 : wR κ4 (nB + L + 1) L a u v t := by
    obtain ⟨w1, w2, w3, w4, w5⟩ := w3
    exact ⟨by rw [s4.2.2.1 41 7 (by decide)]; exact w1, by rw [s4.1 42 (by decide)]; exact w2, by rw [s4.1 43 (by decide)]; exact w3, by rw [s4.1 44 (by decide)]; exact w4, by rw [s4.1 48 (by decide)]; exact w5⟩
  have B4 : hk_I κ4 1 13 = n3 nB := by rw [s4.2.2.1 1 13 (by decide)]; exact B3
  have L4 : hk_I κ4 1 15 = n3 L := by rw [s4.2.2.1 1 15 (by decide)]; exact L3
  obtain ⟨κ5, e5, s5, m51⟩ := c_lookBehind N κ4 B4 L4 h40 ok w4 H3 m49 (by omega)
  have w5 : wR κ5 (nB + L + 1) L a u v t := by
    obtain ⟨w1, w2, w3, w4, w5⟩ := w4
    exact ⟨by rw [s5.2.2.1 41 7 (by decide)]; exact w1, by rw [s5.1 42 (by decide)]; exact w2, by rw [s5.1 43 (by decide)]; exact w3, by rw [s5.1 44 (by decide)]; exact w4, by rw [s5.1 48 (by decide)]; exact w5⟩
  have B5 : hk_I κ5 1 13 = n3 nB := by rw [s5.2.2.1 1 13 (by decide)]; exact B4
  have L5 : hk_I κ5 1 15 = n3 L := by rw [s5.2.2.1 1 15 (by decide)]; exact L4
  have K5 : mK κ5 (sh2 a) (sh1 u) (sh1 v) nB L := by
    refine ⟨⟨B5, L5⟩, ?_, ?_, ?_⟩
    · rw [s5.1 49 (by decide)]; exact m49
    · rw [s5.1 50 (by decide)]; exact m50
    · intro b hb
      have := m51 (nB - b) (by omega)
      rw [show nB - (nB - b) = b by omega] at this
      exact this
  have g5 : mC κ5 q S W R C := ((g2.same s3).same s4).same s5
  obtain ⟨κ6, S6, W6, R6, e6, s6, g6, h6, -⟩ := c_begin N κ5 (A := sh2 a) (U := sh1 u) (V := sh1 v) B5 h40 hq g5 (K5.2.2.1 nB (Nat.le_refl _)) (K5.2.2.2 nB (Nat.le_refl _)) hN
  have K6 := K5.sameP s6 (by decide) (by decide) (by decide) (by decide) (by decide)
  have w6 : wR κ6 (nB + L + 1) L a u v t := by
    obtain ⟨w1, w2, w3, w4, w5⟩ := w5
    exact ⟨by rw [s6.2.2.1 41 7 (by decide)]; exact w1, by rw [s6.1 42 (by decide)]; exact w2, by rw [s6.1 43 (by decide)]; exact w3, by rw [s6.1 44 (by decide)]; exact w4, by rw [s6.1 48 (by decide)]; exact w5⟩
  obtain ⟨m', κ7, S7, W7, R7, C7, e7, s7, g7, t7, u7, v7⟩ := c_behind N κ6 K6 h40 ok w6 hq g6 hA h6 hN
  have lv0 : lev (sh2 a) (sh1 u) (sh1 v) L nB 0 0 := rc_lev hd hg (Nat.zero_le _) rfl
  obtain ⟨t1, t2⟩ := t7 0 lv0
  obtain ⟨c1, c2⟩ := cT_good (us := usB (sh2 a) (sh1 u) (sh1 v)) (mst := musM (sh2 a) (sh1 u) (sh1 v) L nB) h12 hd (fun l b _ _ => usB_iff) (fun b hb => musM_ok b hb) nB 0 (Nat.le_refl _) hg
  rw [c1] at t1
  rw [c2] at t2
  have q1 : 0 < 2 ^ q := Nat.two_pow_pos q
  have rS := g7.rS (i := 0) q1
  have rW : ra_aI (hp (hk_wI κ7 40 16 (z3 (S7 0)))) 0 (hk_P κ7 9) (n3 0) = some (n3 (W7 0)) := (g7.keep (κ' := hk_wI κ7 40 16 (z3 (S7 0))) rfl rfl rfl).rW (i := 0) q1
  rw [t1] at rS rW
  rw [t2] at rW
  have K7 := K6.sameP s7 (by decide) (by decide) (by decide) (by decide) (by decide)
  obtain ⟨κ8, hκ8⟩ : ∃ κ8, κ8 = hk_wI (hk_wI κ7 40 16 (z3 (mS (sh2 a) L nB nB 0))) 40 17 (n3 (mW (sh2 a) L nB nB 0)) := ⟨_, rfl⟩
  have s8 : same [] [(40, 16), (40, 17)] κ7 κ8 := by rw [hκ8]; exact ((same.refl _ _ _).wI (by decide)).wI (by decide)
  have K8 := K7.sameP s8.toP (by decide) (by decide) (by decide) (by decide) (by decide)
  obtain ⟨κ9, e9, s9, i9, l9⟩ := c_takeFirst N κ8 K8 h40 hq (g7.same s8) hd hg v7 hN
  have K9 := K8.sameP s9.toP (by decide) (by decide) (by decide) (by decide) (by decide)
  obtain ⟨κ', R', e10, s10, g10, i10⟩ := c_findSure N κ9 K9 h40 hq ((g7.same s8).same s9) hd hg v7 u7 hN
  have S10 : sameP [42, 43, 44, 45, 46, 47, 48, 49, 50, 51, 52, 53, 59, 60] [(41, 7), (40, 15), (40, 16), (40, 17)] κ2 κ' :=
    (s3.toP.weak (by decide) (by decide)).trans ((s4.toP.weak (by decide) (by decide)).trans ((s5.toP.weak (by decide) (by decide)).trans ((s6.weak (by decide) (by decide)).trans ((s7.weak (by decide) (by decide)).trans ((s8.toP.weak (by decide) (by decide)).trans ((s9.toP.weak (by decide) (by decide)).trans (s10.weak (by decide) (by decide))))))))
  obtain ⟨o1, o2, o3, o4, o5, o6, o7, o8, o9⟩ := S10
  refine ⟨κ', 2 ^ q, ?_, ⟨?_, ?_, ?_, ?_, ?_, ?_, ?_, ?_, ?_⟩, mOut_cg ag ⟨?_, ?_, ?_, ?_, ?_⟩, ?_, ⟨q, _, _, _, _, g10, rfl⟩, ?_, ?_⟩
  · have dl : dn 0 < n3 0 := by decide
    unfold fX3_weighAll nX3_weighAll_0
    simp (maxSteps := 400000) (disch := omega) only [n3_l, n3_add, n3_mul, n3_sub, n3_subn, n3_lt, n3_le, n3_eq, n3_eqn, n3_neq, n3_and, n3_or, n3_shl, n3_i, n3_cl, ↓hbd_0, ↓hbd_1, ↓hbd_2, hk_ob_0, hk_rd_0, hk_rd_1, hk_rd_2, hk_al_0, hk_al_1, h3r_0, h3r_1, hk_wi_0, hk_wj_0, h3w_0, h3w_1, h3v_0, hk_kI, hk_kJ, hk_kA, hk_kB, A_eq, A_ne, A_row, B_eq, B_ne, B_row, I_eq, I_ne, J_eq, J_ne, Option.bind_some, Option.some.injEq, if_true, if_false, eq_self, true_or, or_true, true_and, and_true, false_or, or_false, not_true_eq_false, not_false_eq_true, Classical.not_not, nar_b0, nar_b1, rz_0, rz_1, rz_i, ite01, Nat.add_zero, Nat.zero_add, Nat.one_mul, mul12, reduceIte, ra_z0, Nat.reduceEqDiff, Nat.reduceLT, Nat.reduceLeDiff, Nat.reduceAdd, Nat.reduceMul, Nat.reduceSub, Nat.reduceDiv, Nat.reduceMod, Bool.false_eq_true, false_and, and_false, reduceCtorEq, hk0, hLi, n3_shl, e2, e3, e4, e5, e6, K6.1.1, dn_sub]
    rw [e7, nX3_weighAll_59]
    rw [hκ8] at e9
    simp (maxSteps := 400000) (disch := omega) only [n3_l, n3_add, n3_mul, n3_sub, n3_subn, n3_lt, n3_le, n3_eq, n3_eqn, n3_neq, n3_and, n3_or, n3_shl, n3_i, n3_cl, ↓hbd_0, ↓hbd_1, ↓hbd_2, hk_ob_0, hk_rd_0, hk_rd_1, hk_rd_2, hk_al_0, hk_al_1, h3r_0, h3r_1, hk_wi_0, hk_wj_0, h3w_0, h3w_1, h3v_0, hk_kI, hk_kJ, hk_kA, hk_kB, A_eq, A_ne, A_row, B_eq, B_ne, B_row, I_eq, I_ne, J_eq, J_ne, Option.bind_some, Option.some.injEq, if_true, if_false, eq_self, true_or, or_true, true_and, and_true, false_or, or_false, not_true_eq_false, not_false_eq_true, Classical.not_not, nar_b0, nar_b1, rz_0, rz_1, rz_i, ite01, Nat.add_zero, Nat.zero_add, Nat.one_mul, mul12, reduceIte, ra_z0, Nat.reduceEqDiff, Nat.reduceLT, Nat.reduceLeDiff, Nat.reduceAdd, Nat.reduceMul, Nat.reduceSub, Nat.reduceDiv, Nat.reduceMod, Bool.false_eq_true, false_and, and_false, reduceCtorEq, dl, rS, rW, e9, e10]
  · intro k hk; rw [o1 k hk]; exact fA k
  · intro k hk; rw [o2 k hk]; exact fB k
  · intro k j hkj
    rw [o3 k j (fun z => hkj (by revert z; simp; intro z; rcases z with z | z | z | z <;> simp [z]))]
    exact fI k j (fun z => hkj (by revert z; simp; intro z1 z2; simp [z1, z2]))
  · rw [o4]; exact fQ
  · rw [o9]; exact fx
  · intro k hk hp
    have hp2 : k ∉ pL κ2 := fun z => hp (d2.2.2.2.1 k hk z)
    rw [o6 k hp2]
    exact d2.1 k hk hp
  · rw [o7]; exact d2.2.1
  · rw [o7]; exact d2.2.2.1
  · intro k hk h
    rw [pL_eq o5] at h
    exact d2.2.2.2.1 k hk h
  · rw [s10.2.2.1 40 16 (by decide), s9.2.2.1 40 16 (by decide), hκ8]
    rfl
  · rw [s10.2.2.1 40 17 (by decide), s9.2.2.1 40 17 (by decide), hκ8]
    rfl
  · rw [s10.2.2.1 40 15 (by decide)]; exact i9
  · intro b hb; rw [s10.1 59 (by decide)]; exact l9 b hb
  · exact i10
  · rw [o3 40 12 (by decide)]; exact fk
  · rw [o8]; exact d2.2.2.2.2.1
  · rw [o8]; exact d2.2.2.2.2.2
end
