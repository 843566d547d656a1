/-! worths on the heap: z3 x is the number x -/
def z3 (x : Int) : Int32 := Int32.ofInt x
theorem z3_add (a b : Int) : z3 a + z3 b = z3 (a + b) := (Int32.ofInt_add a b).symm
theorem z3_sub (a b : Int) : z3 a - z3 b = z3 (a - b) := (Int32.ofInt_sub a b).symm
theorem z3_n (k : Nat) : n3 k = z3 k := rfl
theorem z3_toInt {x : Int} (h : -100000000 ≤ x) (h' : x ≤ 100000000) : (z3 x).toInt = x := by
  exact toInt_ofI (by omega) (by omega)
theorem z3_lt {x y : Int} (h : -100000000 ≤ x) (h' : x ≤ 100000000) (g : -100000000 ≤ y) (g' : y ≤ 100000000) : z3 x < z3 y ↔ x < y := by
  rw [i_lt, z3_toInt h h', z3_toInt g g']
def ovA (sn : Nat → Prop) [DecidablePred sn] (ab ov : Nat → Int) (p : Nat) : Int := if ¬ sn p ∧ ab p < ov p then ab p else ov p
def bfA (sn : Nat → Prop) [DecidablePred sn] (ab ov : Nat → Int) (bf : Nat → Nat) (o p : Nat) : Nat := if ¬ sn p ∧ ab p < ov p then o else bf p
section
variable (N : Nat) (κ : hk_T)
theorem c_go1 {P o : Nat} {a : Nat → Nat → Int} {u v ov : Nat → Int} {t bf : Nat → Nat} (sn : Nat → Prop) [DecidablePred sn] (hP : hk_I κ 41 7 = n3 P) (hP5 : P ≤ 53) (ho : o ≤ P) (hto : t o ≤ 12)
    (hu : hk_A κ 42 (t o) = z3 (u (t o))) (hv : ∀ p, p ≤ P → hk_A κ 43 p = z3 (v p)) (ha : ∀ p, 1 ≤ p → p ≤ P → hk_A κ 48 (t o * 54 + p) = z3 (a (t o) p))
    (hb : ∀ p, p ≤ P → hk_A κ 45 p = n3 (bf p)) (hov : ∀ p, p ≤ P → hk_A κ 46 p = z3 (ov p)) (hs : ∀ p, p ≤ P → hk_A κ 47 p = if sn p then n3 1 else n3 0)
    (hab : ∀ p, 1 ≤ p → p ≤ P → ¬ sn p → -100000 ≤ u (t o) + v p - a (t o) p ∧ u (t o) + v p - a (t o) p ≤ 100000) (hovb : ∀ p, 1 ≤ p → p ≤ P → ¬ sn p → -100000 ≤ ov p ∧ ov p ≤ 1000000) (hex : ∃ p, 1 ≤ p ∧ p ≤ P ∧ ¬ sn p) (hN : 1000 < N) :
    ∃ κ' b, nX10_goOn_29 N N 41 (n3 o) (n3 (t o)) (n3 (t o * 54)) (n3 0) (n3 1000000) (n3 1) (hp κ) = nX10_goOn_137 N N 41 (n3 b) (z3 (ovA sn (fun p => u (t o) + v p - a (t o) p) ov b)) (n3 0) (hp κ') ∧ same [45, 46] [] κ κ' ∧
      (∀ p, 1 ≤ p → p ≤ P → hk_A κ' 45 p = n3 (bfA sn (fun p => u (t o) + v p - a (t o) p) ov bf o p)) ∧ (∀ p, 1 ≤ p → p ≤ P → hk_A κ' 46 p = z3 (ovA sn (fun p => u (t o) + v p - a (t o) p) ov p)) ∧ hk_A κ' 45 0 = hk_A κ 45 0 ∧ hk_A κ' 46 0 = hk_A κ 46 0 ∧
      1 ≤ b ∧ b ≤ P ∧ ¬ sn b ∧ ∀ p, 1 ≤ p → p ≤ P → ¬ sn p → ovA sn (fun p => u (t o) + v p - a (t o) p) ov b ≤ ovA sn (fun p => u (t o) + v p - a (t o) p) ov p := by
  obtain ⟨ab, eab⟩ : ∃ ab : Nat → Int, ab = fun p => u (t o) + v p - a (t o) p := ⟨_, rfl⟩
  have eap : ∀ p, u (t o) + v p - a (t o) p = ab p := fun p => by rw [eab]
  rw [← eab]
  simp only [eap] at hab
  have hoA : ∀ p, 1 ≤ p → p ≤ P → ¬ sn p → -100000 ≤ ovA sn ab ov p ∧ ovA sn ab ov p < 1000000 := by
    intro p h1 h2 h3
    have c1 := hab p h1 h2 h3
    have c2 := hovb p h1 h2 h3
    unfold ovA
    by_cases c : ab p < ov p
    · rw [if_pos ⟨h3, c⟩]; omega
    · rw [if_neg (fun z => c z.2)]; omega
  obtain ⟨m', ⟨x, y, s'⟩, e, -, i1, i2, i3, i4, i5, i6⟩ := lpx (fun m p (s : Int32 × Int32 × hk_T) => nX10_goOn_29 N m 41 (n3 o) (n3 (t o)) (n3 (t o * 54)) s.1 s.2.1 (n3 p) (hp s.2.2)) (P + 1) (fun p s => 1 ≤ p ∧ same [45, 46] [] κ s.2.2 ∧ (∀ p', 1 ≤ p' → p' ≤ P → hk_A s.2.2 45 p' = n3 (if p' < p then bfA sn ab ov bf o p' else bf p')) ∧ (∀ p', 1 ≤ p' → p' ≤ P → hk_A s.2.2 46 p' = z3 (if p' < p then ovA sn ab ov p' else ov p')) ∧ hk_A s.2.2 45 0 = hk_A κ 45 0 ∧ hk_A s.2.2 46 0 = hk_A κ 46 0 ∧
      ((s.1 = n3 0 ∧ s.2.1 = z3 1000000 ∧ ∀ p', 1 ≤ p' → p' < p → sn p') ∨ ∃ b, 1 ≤ b ∧ b < p ∧ ¬ sn b ∧ s.1 = n3 b ∧ s.2.1 = z3 (ovA sn ab ov b) ∧ ∀ p', 1 ≤ p' → p' < p → ¬ sn p' → ovA sn ab ov b ≤ ovA sn ab ov p')) (by
    rintro m p ⟨x, y, r⟩ hpp ⟨hp1, i1, i2, i3, i4, i5, i6⟩
    dsimp only at i1 i2 i3 i4 i5 i6 ⊢
    have hpP : p ≤ P := by omega
    have r7 : hk_I r 41 7 = n3 P := by rw [i1.2.2.1 41 7 (by decide)]; exact hP
    have r47 : hk_A r 47 p = if sn p then n3 1 else n3 0 := by rw [i1.1 47 (by decide)]; exact hs p hpP
    by_cases cs : sn p
    · rw [if_pos cs] at r47
      refine ⟨(x, y, r), ?_, by omega, i1, ?_, ?_, i4, i5, ?_⟩
      · rw [nX10_goOn_29]
        simp (maxSteps := 400000) (disch := omega) only [n3_l, n3_add, n3_mul, n3_sub, n3_subn, n3_lt, n3_le, n3_eq, n3_eqn, n3_neq, n3_and, n3_or, n3_shl, n3_i, n3_cl, ↓hbd_0, ↓hbd_1, ↓hbd_2, hk_ob_0, hk_rd_0, hk_rd_1, hk_rd_2, hk_al_0, hk_al_1, h3r_0, h3r_1, hk_wi_0, hk_wj_0, h3w_0, h3w_1, h3v_0, hk_kI, hk_kJ, hk_kA, hk_kB, A_eq, A_ne, A_row, B_eq, B_ne, B_row, I_eq, I_ne, J_eq, J_ne, Option.bind_some, Option.some.injEq, if_true, if_false, eq_self, true_or, or_true, true_and, and_true, false_or, or_false, not_true_eq_false, not_false_eq_true, Classical.not_not, nar_b0, nar_b1, rz_0, rz_1, rz_i, ite01, Nat.add_zero, Nat.zero_add, Nat.one_mul, mul12, reduceIte, ra_z0, Nat.reduceEqDiff, Nat.reduceLT, Nat.reduceLeDiff, Nat.reduceAdd, Nat.reduceMul, Nat.reduceSub, Nat.reduceDiv, Nat.reduceMod, Bool.false_eq_true, false_and, and_false, reduceCtorEq, r7, hpP, r47, nX10_goOn_128]
      · intro p' h1 h2
        rw [i2 p' h1 h2]
        by_cases c : p' = p
        · rw [if_neg (by omega), if_pos (by omega), c]; unfold bfA; rw [if_neg (fun z => z.1 cs)]
        · by_cases c2 : p' < p
          · rw [if_pos c2, if_pos (by omega)]
          · rw [if_neg c2, if_neg (by omega)]
      · intro p' h1 h2
        rw [i3 p' h1 h2]
        by_cases c : p' = p
        · rw [if_neg (by omega), if_pos (by omega), c]; unfold ovA; rw [if_neg (fun z => z.1 cs)]
        · by_cases c2 : p' < p
          · rw [if_pos c2, if_pos (by omega)]
          · rw [if_neg c2, if_neg (by omega)]
      · rcases i6 with ⟨q1, q2, q3⟩ | ⟨b, q1, q2, q3, q4, q5, q6⟩
        · refine Or.inl ⟨q1, q2, fun p' h1 h2 => ?_⟩
          by_cases c : p' = p
          · rw [c]; exact cs
          · exact q3 p' h1 (by omega)
        · refine Or.inr ⟨b, q1, by omega, q3, q4, q5, fun p' h1 h2 h3 => ?_⟩
          by_cases c : p' = p
          · rw [c] at h3; exact absurd cs h3
          · exact q6 p' h1 (by omega) h3
    · rw [if_neg cs] at r47
      have c1 := hab p hp1 hpP cs
      have c2 := hovb p hp1 hpP cs
      have c3 := hoA p hp1 hpP cs
      have v42 : hk_A r 42 (t o) = z3 (u (t o)) := by rw [i1.1 42 (by decide)]; exact hu
      have v43 : hk_A r 43 p = z3 (v p) := by rw [i1.1 43 (by decide)]; exact hv p hpP
      have v48 : hk_A r 48 (t o * 54 + p) = z3 (a (t o) p) := by rw [i1.1 48 (by decide)]; exact ha p hp1 hpP
      have v46 : hk_A r 46 p = z3 (ov p) := by rw [i3 p hp1 hpP, if_neg (by omega)]
      have v45 : hk_A r 45 p = n3 (bf p) := by rw [i2 p hp1 hpP, if_neg (by omega)]
      obtain ⟨r', er, k1, k2, k3, k4, k5⟩ : ∃ r', nX10_goOn_29 N (m + 1) 41 (n3 o) (n3 (t o)) (n3 (t o * 54)) x y (n3 p) (hp r) = nX10_goOn_103 N (nX10_goOn_29 N m) 41 (n3 o) (n3 (t o)) (n3 (t o * 54)) x y (n3 p) (hp r') ∧ same [45, 46] [] κ r' ∧ (∀ p', 1 ≤ p' → p' ≤ P → hk_A r' 45 p' = n3 (if p' < p + 1 then bfA sn ab ov bf o p' else bf p')) ∧ (∀ p', 1 ≤ p' → p' ≤ P → hk_A r' 46 p' = z3 (if p' < p + 1 then ovA sn ab ov p' else ov p')) ∧ hk_A r' 45 0 = hk_A κ 45 0 ∧ hk_A r' 46 0 = hk_A κ 46 0 := by
        by_cases c : ab p < ov p
        · have eo : ovA sn ab ov p = ab p := by unfold ovA; rw [if_pos ⟨cs, c⟩]
          have eb : bfA sn ab ov bf o p = o := by unfold bfA; rw [if_pos ⟨cs, c⟩]
          refine ⟨hk_wA (hk_wA r 46 p (z3 (ab p))) 45 p (n3 o), ?_, (i1.wA (by decide)).wA (by decide), ?_, ?_, ?_, ?_⟩
          · rw [nX10_goOn_29]
            simp (maxSteps := 400000) (disch := omega) only [n3_l, n3_add, n3_mul, n3_sub, n3_subn, n3_lt, n3_le, n3_eq, n3_eqn, n3_neq, n3_and, n3_or, n3_shl, n3_i, n3_cl, ↓hbd_0, ↓hbd_1, ↓hbd_2, hk_ob_0, hk_rd_0, hk_rd_1, hk_rd_2, hk_al_0, hk_al_1, h3r_0, h3r_1, hk_wi_0, hk_wj_0, h3w_0, h3w_1, h3v_0, hk_kI, hk_kJ, hk_kA, hk_kB, A_eq, A_ne, A_row, B_eq, B_ne, B_row, I_eq, I_ne, J_eq, J_ne, Option.bind_some, Option.some.injEq, if_true, if_false, eq_self, true_or, or_true, true_and, and_true, false_or, or_false, not_true_eq_false, not_false_eq_true, Classical.not_not, nar_b0, nar_b1, rz_0, rz_1, rz_i, ite01, Nat.add_zero, Nat.zero_add, Nat.one_mul, mul12, reduceIte, ra_z0, Nat.reduceEqDiff, Nat.reduceLT, Nat.reduceLeDiff, Nat.reduceAdd, Nat.reduceMul, Nat.reduceSub, Nat.reduceDiv, Nat.reduceMod, Bool.false_eq_true, false_and, and_false, reduceCtorEq, r7, hpP, r47, v42, v43, v48, v46, z3_add, z3_sub, eap, z3_lt, c]
          · intro p' h1 h2
            by_cases e : p' = p
            · rw [e, A_eq rfl, if_pos (by omega), eb]
            · rw [A_ne (Or.inr e), A_ne (Or.inl (by decide)), i2 p' h1 h2]
              by_cases c2 : p' < p
              · rw [if_pos c2, if_pos (by omega)]
              · rw [if_neg c2, if_neg (by omega)]
          · intro p' h1 h2
            rw [A_ne (Or.inl (by decide))]
            by_cases e : p' = p
            · rw [e, A_eq rfl, if_pos (by omega), eo]
            · rw [A_ne (Or.inr e), i3 p' h1 h2]
              by_cases c2 : p' < p
              · rw [if_pos c2, if_pos (by omega)]
              · rw [if_neg c2, if_neg (by omega)]
          · rw [A_ne (Or.inr (by omega)), A_ne (Or.inl (by decide))]; exact i4
          · rw [A_ne (Or.inl (by decide)), A_ne (Or.inr (by omega))]; exact i5
        · have eo : ovA sn ab ov p = ov p := by unfold ovA; rw [if_neg (fun z => c z.2)]
          have eb : bfA sn ab ov bf o p = bf p := by unfold bfA; rw [if_neg (fun z => c z.2)]
          refine ⟨r, ?_, i1, ?_, ?_, i4, i5⟩
          · rw [nX10_goOn_29]
            simp (maxSteps := 400000) (disch := omega) only [n3_l, n3_add, n3_mul, n3_sub, n3_subn, n3_lt, n3_le, n3_eq, n3_eqn, n3_neq, n3_and, n3_or, n3_shl, n3_i, n3_cl, ↓hbd_0, ↓hbd_1, ↓hbd_2, hk_ob_0, hk_rd_0, hk_rd_1, hk_rd_2, hk_al_0, hk_al_1, h3r_0, h3r_1, hk_wi_0, hk_wj_0, h3w_0, h3w_1, h3v_0, hk_kI, hk_kJ, hk_kA, hk_kB, A_eq, A_ne, A_row, B_eq, B_ne, B_row, I_eq, I_ne, J_eq, J_ne, Option.bind_some, Option.some.injEq, if_true, if_false, eq_self, true_or, or_true, true_and, and_true, false_or, or_false, not_true_eq_false, not_false_eq_true, Classical.not_not, nar_b0, nar_b1, rz_0, rz_1, rz_i, ite01, Nat.add_zero, Nat.zero_add, Nat.one_mul, mul12, reduceIte, ra_z0, Nat.reduceEqDiff, Nat.reduceLT, Nat.reduceLeDiff, Nat.reduceAdd, Nat.reduceMul, Nat.reduceSub, Nat.reduceDiv, Nat.reduceMod, Bool.false_eq_true, false_and, and_false, reduceCtorEq, r7, hpP, r47, v42, v43, v48, v46, z3_add, z3_sub, eap, z3_lt, c]
          · intro p' h1 h2
            rw [i2 p' h1 h2]
            by_cases e : p' = p
            · rw [if_neg (by omega), if_pos (by omega), e, eb]
            · by_cases c2 : p' < p
              · rw [if_pos c2, if_pos (by omega)]
              · rw [if_neg c2, if_neg (by omega)]
          · intro p' h1 h2
            rw [i3 p' h1 h2]
            by_cases e : p' = p
            · rw [if_neg (by omega), if_pos (by omega), e, eo]
            · by_cases c2 : p' < p
              · rw [if_pos c2, if_pos (by omega)]
              · rw [if_neg c2, if_neg (by omega)]
      have w46 : hk_A r' 46 p = z3 (ovA sn ab ov p) := by rw [k3 p hp1 hpP, if_pos (by omega)]
      rw [er]
      rcases i6 with ⟨q1, q2, q3⟩ | ⟨b, q1, q2, q3, q4, q5, q6⟩
      · refine ⟨(n3 p, z3 (ovA sn ab ov p), r'), ?_, by omega, k1, k2, k3, k4, k5, Or.inr ⟨p, hp1, by omega, cs, rfl, rfl, ?_⟩⟩
        · have hlt : ovA sn ab ov p < 1000000 := c3.2
          rw [q2]
          unfold nX10_goOn_103 nX10_goOn_128
          simp (maxSteps := 400000) (disch := omega) only [n3_l, n3_add, n3_mul, n3_sub, n3_subn, n3_lt, n3_le, n3_eq, n3_eqn, n3_neq, n3_and, n3_or, n3_shl, n3_i, n3_cl, ↓hbd_0, ↓hbd_1, ↓hbd_2, hk_ob_0, hk_rd_0, hk_rd_1, hk_rd_2, hk_al_0, hk_al_1, h3r_0, h3r_1, hk_wi_0, hk_wj_0, h3w_0, h3w_1, h3v_0, hk_kI, hk_kJ, hk_kA, hk_kB, A_eq, A_ne, A_row, B_eq, B_ne, B_row, I_eq, I_ne, J_eq, J_ne, Option.bind_some, Option.some.injEq, if_true, if_false, eq_self, true_or, or_true, true_and, and_true, false_or, or_false, not_true_eq_false, not_false_eq_true, Classical.not_not, nar_b0, nar_b1, rz_0, rz_1, rz_i, ite01, Nat.add_zero, Nat.zero_add, Nat.one_mul, mul12, reduceIte, ra_z0, Nat.reduceEqDiff, Nat.reduceLT, Nat.reduceLeDiff, Nat.reduceAdd, Nat.reduceMul, Nat.reduceSub, Nat.reduceDiv, Nat.reduceMod, Bool.false_eq_true, false_and, and_false, reduceCtorEq, w46, z3_lt, hlt]
        · intro p' h1 h2 h3
          by_cases c : p' = p
          · rw [c]; exact Int.le_refl _
          · exact absurd (q3 p' h1 (by omega)) h3
      · have c4 := hoA b q1 (by omega) q3
        by_cases hlt : ovA sn ab ov p < ovA sn ab ov b
        · refine ⟨(n3 p, z3 (ovA sn ab ov p), r'), ?_, by omega, k1, k2, k3, k4, k5, Or.inr ⟨p, hp1, by omega, cs, rfl, rfl, ?_⟩⟩
          · rw [q5]
            unfold nX10_goOn_103 nX10_goOn_128
            simp (maxSteps := 400000) (disch := omega) only [n3_l, n3_add, n3_mul, n3_sub, n3_subn, n3_lt, n3_le, n3_eq, n3_eqn, n3_neq, n3_and, n3_or, n3_shl, n3_i, n3_cl, ↓hbd_0, ↓hbd_1, ↓hbd_2, hk_ob_0, hk_rd_0, hk_rd_1, hk_rd_2, hk_al_0, hk_al_1, h3r_0, h3r_1, hk_wi_0, hk_wj_0, h3w_0, h3w_1, h3v_0, hk_kI, hk_kJ, hk_kA, hk_kB, A_eq, A_ne, A_row, B_eq, B_ne, B_row, I_eq, I_ne, J_eq, J_ne, Option.bind_some, Option.some.injEq, if_true, if_false, eq_self, true_or, or_true, true_and, and_true, false_or, or_false, not_true_eq_false, not_false_eq_true, Classical.not_not, nar_b0, nar_b1, rz_0, rz_1, rz_i, ite01, Nat.add_zero, Nat.zero_add, Nat.one_mul, mul12, reduceIte, ra_z0, Nat.reduceEqDiff, Nat.reduceLT, Nat.reduceLeDiff, Nat.reduceAdd, Nat.reduceMul, Nat.reduceSub, Nat.reduceDiv, Nat.reduceMod, Bool.false_eq_true, false_and, and_false, reduceCtorEq, w46, z3_lt, hlt]
          · intro p' h1 h2 h3
            by_cases c : p' = p
            · rw [c]; exact Int.le_refl _
            · have := q6 p' h1 (by omega) h3; omega
        · refine ⟨(x, y, r'), ?_, by omega, k1, k2, k3, k4, k5, Or.inr ⟨b, q1, by omega, q3, q4, q5, ?_⟩⟩
          · rw [q5]
            unfold nX10_goOn_103 nX10_goOn_128
            simp (maxSteps := 400000) (disch := omega) only [n3_l, n3_add, n3_mul, n3_sub, n3_subn, n3_lt, n3_le, n3_eq, n3_eqn, n3_neq, n3_and, n3_or, n3_shl, n3_i, n3_cl, ↓hbd_0, ↓hbd_1, ↓hbd_2, hk_ob_0, hk_rd_0, hk_rd_1, hk_rd_2, hk_al_0, hk_al_1, h3r_0, h3r_1, hk_wi_0, hk_wj_0, h3w_0, h3w_1, h3v_0, hk_kI, hk_kJ, hk_kA, hk_kB, A_eq, A_ne, A_row, B_eq, B_ne, B_row, I_eq, I_ne, J_eq, J_ne, Option.bind_some, Option.some.injEq, if_true, if_false, eq_self, true_or, or_true, true_and, and_true, false_or, or_false, not_true_eq_false, not_false_eq_true, Classical.not_not, nar_b0, nar_b1, rz_0, rz_1, rz_i, ite01, Nat.add_zero, Nat.zero_add, Nat.one_mul, mul12, reduceIte, ra_z0, Nat.reduceEqDiff, Nat.reduceLT, Nat.reduceLeDiff, Nat.reduceAdd, Nat.reduceMul, Nat.reduceSub, Nat.reduceDiv, Nat.reduceMod, Bool.false_eq_true, false_and, and_false, reduceCtorEq, w46, z3_lt, hlt]
          · intro p' h1 h2 h3
            by_cases c : p' = p
            · rw [c]; omega
            · exact q6 p' h1 (by omega) h3) P 1 N (n3 0, n3 1000000, κ) (by omega) (by omega) ⟨Nat.le_refl _, same.refl _ _ _, fun p' h1 h2 => by rw [if_neg (by omega)]; exact hb p' h2, fun p' h1 h2 => by rw [if_neg (by omega)]; exact hov p' h2, rfl, rfl, Or.inl ⟨rfl, rfl, fun p' h1 h2 => by omega⟩⟩
  dsimp only at i1 i2 i3 i4 i5 i6 e
  rcases i6 with ⟨-, -, h⟩ | ⟨b, b1, b2, b3, b4, b5, b6⟩
  · obtain ⟨p, p1, p2, p3⟩ := hex
    exact absurd (h p p1 (by omega)) p3
  · refine ⟨s', b, ?_, i1, ?_, ?_, i4, i5, b1, by omega, b3, fun p h1 h2 h3 => b6 p h1 (by omega) h3⟩
    · have hPP : ¬ P + 1 ≤ P := by omega
      rw [e, nX10_goOn_29, b4, b5]
      simp (maxSteps := 400000) (disch := omega) only [n3_l, n3_add, n3_mul, n3_sub, n3_subn, n3_lt, n3_le, n3_eq, n3_eqn, n3_neq, n3_and, n3_or, n3_shl, n3_i, n3_cl, ↓hbd_0, ↓hbd_1, ↓hbd_2, hk_ob_0, hk_rd_0, hk_rd_1, hk_rd_2, hk_al_0, hk_al_1, h3r_0, h3r_1, hk_wi_0, hk_wj_0, h3w_0, h3w_1, h3v_0, hk_kI, hk_kJ, hk_kA, hk_kB, A_eq, A_ne, A_row, B_eq, B_ne, B_row, I_eq, I_ne, J_eq, J_ne, Option.bind_some, Option.some.injEq, if_true, if_false, eq_self, true_or, or_true, true_and, and_true, false_or, or_false, not_true_eq_false, not_false_eq_true, Classical.not_not, nar_b0, nar_b1, rz_0, rz_1, rz_i, ite01, Nat.add_zero, Nat.zero_add, Nat.one_mul, mul12, reduceIte, ra_z0, Nat.reduceEqDiff, Nat.reduceLT, Nat.reduceLeDiff, Nat.reduceAdd, Nat.reduceMul, Nat.reduceSub, Nat.reduceDiv, Nat.reduceMod, Bool.false_eq_true, false_and, and_false, reduceCtorEq, i1.2.2.1 41 7 (by decide), hP, hPP]
    · intro p h1 h2; rw [i2 p h1 h2, if_pos (by omega)]
    · intro p h1 h2; rw [i3 p h1 h2, if_pos (by omega)]
end
