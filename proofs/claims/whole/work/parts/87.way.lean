/-! the way to a free place, and back -/
theorem SI_t {a : Nat → Nat → Int} {P i : Nat} {u v : Nat → Int} {t : Nat → Nat} {ov : Nat → Int} {bf q : Nat → Nat} {n o : Nat} (h : SI a P i u v t ov bf q n o) : (∀ p, t p ≤ i + 1 ∨ P < p) ∧ ∀ p p', p ≤ P → p' ≤ P → t p = t p' → t p ≠ 0 → p = p' := by
  obtain ⟨⟨h0, h3, h1, h2⟩, -⟩ := h
  constructor
  · intro p
    rcases Nat.eq_zero_or_pos p with e | e
    · subst e; left; omega
    · by_cases c : p ≤ P
      · have := h3 p e c; left; omega
      · right; omega
  · intro p p' a1 a2 a3 a4
    rcases Nat.eq_zero_or_pos p with e | e
    · rcases Nat.eq_zero_or_pos p' with e' | e'
      · omega
      · have := h3 p' e' a2; subst e; omega
    · rcases Nat.eq_zero_or_pos p' with e' | e'
      · have := h3 p e a1; subst e'; omega
      · exact h2 p p' e a1 e' a2 a3 a4
theorem seen_iff {q : Nat → Nat} {n o p : Nat} : (∃ j, j < n + 1 ∧ (if j = n then o else q j) = p) ↔ p = o ∨ ∃ j, j < n ∧ q j = p := by
  constructor
  · rintro ⟨j, hj, e⟩
    by_cases c : j = n
    · rw [if_pos c] at e; exact Or.inl e.symm
    · rw [if_neg c] at e; exact Or.inr ⟨j, by omega, e⟩
  · rintro (e | ⟨j, hj, e⟩)
    · exact ⟨n, by omega, by rw [if_pos rfl]; exact e.symm⟩
    · exact ⟨j, by omega, by rw [if_neg (by omega)]; exact e⟩
theorem SI_o {a : Nat → Nat → Int} {P i : Nat} {u v : Nat → Int} {t : Nat → Nat} {ov : Nat → Int} {bf q : Nat → Nat} {n o : Nat} (h : SI a P i u v t ov bf q n o) : 1 ≤ o ∧ o ≤ P := by
  obtain ⟨-, -, -, -, -, ⟨o1, o2, -⟩, -⟩ := h
  exact ⟨o1, o2⟩
section
variable (N : Nat)
theorem c_way {P nB L i : Nat} {a : Nat → Nat → Int} {t : Nat → Nat} (ok : aOk a P nB L) (hi : i < L) (hN : 1000 < N) :
    ∀ d m n κ u v ov bf q o, n + d = i + 1 → d + 1 < m → wR κ P L a u v t → wS κ P ov bf → SI a P i u v t ov bf q n o → (∀ p, p ≤ P → hk_A κ 47 p = if ∃ j, j < n ∧ q j = p then n3 1 else n3 0) → (∀ l, i + 1 < l → u l = 0) →
    ∃ κ' u' v' ov' bf' q' n' o', nX10_placeLine_42 N m 41 (n3 o) (n3 n) (hp κ) = nX10_placeLine_71 N 41 (n3 o') (hp κ') ∧ same [42, 43, 45, 46, 47] [] κ κ' ∧ wR κ' P L a u' v' t ∧ wS κ' P ov' bf' ∧ SI a P i u' v' t ov' bf' q' n' o' ∧ t o' = 0 ∧ ∀ l, i + 1 < l → u' l = 0 := by
  have okk := ok
  obtain ⟨o1, o2, o3, o4, o5⟩ := okk
  intro d
  induction d with
  | zero =>
    intro m n κ u v ov bf q o hd hm hw hw2 hS h47 hu0
    obtain ⟨m, rfl⟩ : ∃ k, m = k + 1 := ⟨m - 1, by omega⟩
    obtain ⟨q1, q2⟩ := SI_o hS
    have hto : t o = 0 := by
      apply Classical.byContradiction
      intro z
      have s1 := SI_t hS
      obtain ⟨⟨h0, h3, h1, h2⟩, -, -, -, ⟨g1, g2, g3, g4⟩, ⟨-, -, g5⟩, -⟩ := hS
      have := pigeon (i + 1) (n + 1) (fun j => t (if j = n then o else q j) - 1) (by
        intro j hj
        by_cases c : j = n
        · simp only [if_pos c]
          have := h3 o q1 q2
          omega
        · simp only [if_neg c]
          have := (s1.1 (q j))
          have := (g3 j (by omega)).1
          omega) (by
        intro j k hj hk e
        by_cases c : j = n
        · by_cases c' : k = n
          · omega
          · simp only [if_pos c, if_neg c'] at e
            have b := g3 k (by omega)
            exact absurd (s1.2 (q k) o b.1 q2 (by omega) b.2.1) (g5 k (by omega))
        · by_cases c' : k = n
          · simp only [if_neg c, if_pos c'] at e
            have b := g3 j (by omega)
            exact absurd (s1.2 (q j) o b.1 q2 (by omega) b.2.1) (g5 j (by omega))
          · simp only [if_neg c, if_neg c'] at e
            have b := g3 j (by omega)
            have b' := g3 k (by omega)
            exact g4 j k (by omega) (by omega) (s1.2 (q j) (q k) b.1 b'.1 (by omega) b.2.1))
      omega
    refine ⟨κ, u, v, ov, bf, q, n, o, ?_, same.refl _ _ _, hw, hw2, hS, hto, hu0⟩
    have r44 := hw.2.2.2.1 o q2
    rw [hto] at r44
    have hnP : n ≤ P := by omega
    rw [nX10_placeLine_42]
    simp (maxSteps := 400000) (disch := omega) only [n3_l, n3_add, n3_mul, n3_sub, n3_subn, n3_lt, n3_le, n3_eq, n3_eqn, n3_neq, n3_and, n3_or, n3_shl, n3_i, n3_cl, ↓hbd_0, ↓hbd_1, ↓hbd_2, hk_ob_0, hk_rd_0, hk_rd_1, hk_rd_2, hk_al_0, hk_al_1, h3r_0, h3r_1, hk_wi_0, hk_wj_0, h3w_0, h3w_1, h3v_0, hk_kI, hk_kJ, hk_kA, hk_kB, A_eq, A_ne, A_row, B_eq, B_ne, B_row, I_eq, I_ne, J_eq, J_ne, Option.bind_some, Option.some.injEq, if_true, if_false, eq_self, true_or, or_true, true_and, and_true, false_or, or_false, not_true_eq_false, not_false_eq_true, Classical.not_not, nar_b0, nar_b1, rz_0, rz_1, rz_i, ite01, Nat.add_zero, Nat.zero_add, Nat.one_mul, mul12, reduceIte, ra_z0, Nat.reduceEqDiff, Nat.reduceLT, Nat.reduceLeDiff, Nat.reduceAdd, Nat.reduceMul, Nat.reduceSub, Nat.reduceDiv, Nat.reduceMod, Bool.false_eq_true, false_and, and_false, reduceCtorEq, hw.1, hnP, r44]
  | succ d ih =>
    intro m n κ u v ov bf q o hd hm hw hw2 hS h47 hu0
    obtain ⟨m, rfl⟩ : ∃ k, m = k + 1 := ⟨m - 1, by omega⟩
    obtain ⟨q1, q2⟩ := SI_o hS
    have s1 := SI_t hS
    have sb := SI_b ok hi hS
    have r44 := hw.2.2.2.1 o q2
    have hnP : n ≤ P := by omega
    have hto1 : t o ≤ i + 1 := by have := s1.1 o; omega
    by_cases hto : t o = 0
    · refine ⟨κ, u, v, ov, bf, q, n, o, ?_, same.refl _ _ _, hw, hw2, hS, hto, hu0⟩
      rw [hto] at r44
      rw [nX10_placeLine_42]
      simp (maxSteps := 400000) (disch := omega) only [n3_l, n3_add, n3_mul, n3_sub, n3_subn, n3_lt, n3_le, n3_eq, n3_eqn, n3_neq, n3_and, n3_or, n3_shl, n3_i, n3_cl, ↓hbd_0, ↓hbd_1, ↓hbd_2, hk_ob_0, hk_rd_0, hk_rd_1, hk_rd_2, hk_al_0, hk_al_1, h3r_0, h3r_1, hk_wi_0, hk_wj_0, h3w_0, h3w_1, h3v_0, hk_kI, hk_kJ, hk_kA, hk_kB, A_eq, A_ne, A_row, B_eq, B_ne, B_row, I_eq, I_ne, J_eq, J_ne, Option.bind_some, Option.some.injEq, if_true, if_false, eq_self, true_or, or_true, true_and, and_true, false_or, or_false, not_true_eq_false, not_false_eq_true, Classical.not_not, nar_b0, nar_b1, rz_0, rz_1, rz_i, ite01, Nat.add_zero, Nat.zero_add, Nat.one_mul, mul12, reduceIte, ra_z0, Nat.reduceEqDiff, Nat.reduceLT, Nat.reduceLeDiff, Nat.reduceAdd, Nat.reduceMul, Nat.reduceSub, Nat.reduceDiv, Nat.reduceMod, Bool.false_eq_true, false_and, and_false, reduceCtorEq, hw.1, hnP, r44]
    · have hSI := hS
      obtain ⟨⟨h0, h3, h1, h2⟩, -, -, -, ⟨g1, g2, g3, g4⟩, ⟨-, -, g5⟩, g6, -⟩ := hS
      have hsn : ∀ p, (∃ j, j < n + 1 ∧ (if j = n then o else q j) = p) → p ≤ P ∧ t p ≠ 0 := by
        intro p h
        rcases seen_iff.mp h with e | ⟨j, hj, e⟩
        · rw [e]; exact ⟨q2, hto⟩
        · rw [← e]; exact ⟨(g3 j hj).1, (g3 j hj).2.1⟩
      obtain ⟨κ', b, w, u', v', ov', bf', e1, s2, w1, w2, f47, gR⟩ := c_goOn N κ (P := P) (L := L) (o := o) (a := a) (u := u) (v := v) (ov := ov) (t := t) (bf := bf) (fun p => ∃ j, j < n + 1 ∧ (if j = n then o else q j) = p) o2 hw hw2 o3 q2 (by intro p h; have := s1.1 p; omega) (by omega) (seen_iff.mpr (Or.inl rfl)) (by
        intro p p' a1 a2 a3 a4 a5
        exact s1.2 p p' a1 a2 a5 (hsn p a3).2) (by
        intro p a1 a2
        rw [h47 p a1]
        by_cases c : ∃ j, j < n ∧ q j = p
        · rw [if_pos c, if_pos (seen_iff.mpr (Or.inr c))]
        · rw [if_neg c, if_neg (fun z => by
            rcases seen_iff.mp z with e | e
            · exact a2 e
            · exact c e)]) (by
        intro p a1 a2 a3
        have c1 := sb.1 (t o) (by omega) hto1
        have c2 := sb.2.1 p a1 a2
        have c3 := o4 (t o) p a1 a2
        omega) (by
        intro p a1 a2 a3
        obtain ⟨⟨j, hj, e2⟩, e3, -⟩ := g6 p a1 a2 (fun j hj z => a3 (seen_iff.mpr (Or.inr ⟨j, hj, z⟩)))
        have b2 := g3 j hj
        have b3 := s1.1 (q j)
        rw [e2] at e3
        have c1 := sb.1 (t (q j)) (by omega) (by omega)
        have c2 := sb.2.1 p a1 a2
        have c3 := o4 (t (q j)) p a1 a2
        omega) (by
        obtain ⟨p0, f1, f2, f3⟩ := sb.2.2
        exact ⟨p0, by omega, f2, fun z => (hsn p0 z).2 f3⟩) hN
      have hS' := SI_next hSI hto gR
      obtain ⟨κ2, u2, v2, ov2, bf2, qq, nn, oo, e2, s3, w3, w4, S2, z2, z3'⟩ := ih m (n + 1) κ' u' v' ov' bf' _ b (by omega) (by omega) w1 w2 hS' f47 (by
        intro l hl
        obtain ⟨-, -, -, -, -, g9, -⟩ := gR
        rw [g9 l (by
          rintro ⟨p, a1, a2, a3⟩
          have := s1.1 p
          omega)]
        exact hu0 l hl)
      refine ⟨κ2, u2, v2, ov2, bf2, qq, nn, oo, ?_, s2.trans s3, w3, w4, S2, z2, z3'⟩
      rw [nX10_placeLine_42]
      simp (maxSteps := 400000) (disch := omega) only [n3_l, n3_add, n3_mul, n3_sub, n3_subn, n3_lt, n3_le, n3_eq, n3_eqn, n3_neq, n3_and, n3_or, n3_shl, n3_i, n3_cl, ↓hbd_0, ↓hbd_1, ↓hbd_2, hk_ob_0, hk_rd_0, hk_rd_1, hk_rd_2, hk_al_0, hk_al_1, h3r_0, h3r_1, hk_wi_0, hk_wj_0, h3w_0, h3w_1, h3v_0, hk_kI, hk_kJ, hk_kA, hk_kB, A_eq, A_ne, A_row, B_eq, B_ne, B_row, I_eq, I_ne, J_eq, J_ne, Option.bind_some, Option.some.injEq, if_true, if_false, eq_self, true_or, or_true, true_and, and_true, false_or, or_false, not_true_eq_false, not_false_eq_true, Classical.not_not, nar_b0, nar_b1, rz_0, rz_1, rz_i, ite01, Nat.add_zero, Nat.zero_add, Nat.one_mul, mul12, reduceIte, ra_z0, Nat.reduceEqDiff, Nat.reduceLT, Nat.reduceLeDiff, Nat.reduceAdd, Nat.reduceMul, Nat.reduceSub, Nat.reduceDiv, Nat.reduceMod, Bool.false_eq_true, false_and, and_false, reduceCtorEq, hw.1, hnP, r44, hto, e1]
      exact e2
end
