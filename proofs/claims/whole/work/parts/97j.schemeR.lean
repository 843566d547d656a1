/-! the reference's reader on the heap: a whole clause, all clauses -/
theorem rPc.cg {O G O' G' : Nat → Nat} {f t : Nat} {v : valT} (h : rPc O G f t v) (e : ∀ x, f ≤ x → x < t → O x = O' x ∧ G x = G' x) : rPc O' G' f t v := by
  rcases h with ⟨d, hd, h⟩ | h
  · exact Or.inl ⟨d, hd, h.cg e⟩
  · exact Or.inr h
theorem low_cg {p q : Nat → Prop} [DecidablePred p] [DecidablePred q] (h : ∀ g, p g ↔ q g) : ∀ L, low p L = low q L := by
  intro L
  induction L with
  | zero => rfl
  | succ L ih =>
    rw [low, low, ih]
    by_cases cl : low q L < L
    · rw [if_pos cl, if_pos cl]
    · rw [if_neg cl, if_neg cl]
      by_cases c : q L
      · rw [if_pos c, if_pos ((h L).mpr c)]
      · rw [if_neg c, if_neg (fun z => c ((h L).mp z))]
section
variable (N : Nat) (κ : hk_T)
theorem r_which5 {B : Nat → Nat} {n j : Nat} (h : rTok κ B n j) (hW : rWd κ) (hN : 1000 < N) : fX12_which N 69 81 (5 : Int32) (hp κ) = some (if heaA B n j < 5 then n3 (heaA B n j) else -n3 1, hp κ) := by
  have w := r_which N κ (r := 81) (c := 5) (k0 := 0) h (by omega) (fun g hg => by
    rw [Nat.zero_add, ← hW.2 g hg]
    simp (maxSteps := 400000) (disch := omega) only [n3_l, n3_add, n3_mul, n3_sub, n3_subn, n3_lt, n3_le, n3_eq, n3_eqn, n3_neq, n3_and, n3_or, n3_shl, n3_i, n3_cl, j3_l, j3_add, j3_mul, j3_sub, j3_lt, j3_le, j3_eq, j3_n, lg3_le, lg3_lt, lg3_eq, r_in3, ↓hbd_0, ↓hbd_1, ↓hbd_2, hk_ob_0, hk_rd_0, hk_rd_1, hk_rd_2, hk_al_0, hk_al_1, h3r_0, h3r_1, hk_wi_0, hk_wj_0, h3w_0, h3w_1, h3v_0, hk_kI, hk_kJ, hk_kA, hk_kB, A_eq, A_ne, A_row, B_eq, B_ne, B_row, I_eq, I_ne, J_eq, J_ne, Option.bind_some, Option.some.injEq, if_true, if_false, eq_self, true_or, or_true, true_and, and_true, false_or, or_false, not_true_eq_false, not_false_eq_true, Classical.not_not, nar_b0, nar_b1, rz_0, rz_1, rz_i, ite01, Nat.add_zero, Nat.zero_add, Nat.one_mul, mul12, reduceIte, ra_z0, Nat.reduceEqDiff, Nat.reduceLT, Nat.reduceLeDiff, Nat.reduceAdd, Nat.reduceMul, Nat.reduceSub, Nat.reduceDiv, Nat.reduceMod, Bool.false_eq_true, false_and, and_false, reduceCtorEq]) hN
  have e : low (fun g => isW B n (0 + g) j) 5 = heaA B n j := by
    exact low_cg (fun g => by rw [Nat.zero_add]) 5
  rw [e] at w
  exact w
theorem r_clBad {B : Nat → Nat} {n j : Nat} {x : Int32} (h9 : hk_I κ 69 9 = n3 j) (h14 : hk_I κ 69 14 = n3 0) : ∃ κ', nX12_readClause_29 N 69 x 69 (hp κ) = some (hp κ') ∧ rSd κ κ' ∧ hk_I κ' 69 14 = n3 1 ∧ hk_I κ' 69 13 = n3 j := by
  have s : same [] [(69, 13), (69, 14)] κ (hk_wI (hk_wI κ 69 14 (n3 1)) 69 13 (n3 j)) := ((same.refl _ _ _).wI (by decide)).wI (by decide)
  have e1 : fX12_must N 69 (0 : Int32) (hp κ) = some (hp (hk_wI (hk_wI κ 69 14 (n3 1)) 69 13 (n3 j))) := r_mustF N κ h9 h14
  have a2 : ra_fI (hp (hk_wI (hk_wI κ 69 14 (n3 1)) 69 13 (n3 j))) 12 69 14 = some (n3 1) := rfl
  refine ⟨_, ?_, s.weak (by decide) (by decide), by rw [I_ne (by decide), I_eq], I_eq⟩
  unfold nX12_readClause_29 nX12_readClause_30
  rw [e1, Option.bind_some, a2, Option.bind_some, if_neg (show ¬ n3 1 = (0 : Int32) by decide)]
theorem r_readClause {B : Nat → Nat} {n j k f i : Nat} {O G : Nat → Nat} (h : rQ κ B n j k f O G) (hi : i ≤ 12) (h15 : hk_I κ 69 15 = n3 i) (hN : 1000 < N) : rCl κ B n f i O G (if i < 12 then pClause B n j k else .inl j) (fX12_readClause N 69 (hp κ)) := by
  have jn := h.2.1.1
  have wh := r_which5 N κ h.2.1 h.2.2.2.2.2.2.2.2 hN
  have f26 : ra_fR (hp κ) 12 69 26 = some 81 := rfl
  have f15 : ra_fI (hp κ) 12 69 15 = some (n3 i) := by rw [← h15]; rfl
  have ob : fX12_readClause N 69 (hp κ) = nX12_readClause_0 N 69 (hp κ) := rfl
  have bad : ∀ x, ∃ κ', nX12_readClause_29 N 69 x 69 (hp κ) = some (hp κ') ∧ rSd κ κ' ∧ hk_I κ' 69 14 = n3 1 ∧ hk_I κ' 69 13 = n3 j := fun x => r_clBad N κ (B := B) (n := n) h.2.1.2.1 h.2.2.1
  rw [ob]
  unfold nX12_readClause_0
  rw [f26, Option.bind_some, wh, Option.bind_some]
  by_cases c5 : heaA B n j < 5
  · rw [if_pos c5, if_neg (show ¬ n3 (heaA B n j) = (-1 : Int32) from fun z => (n3_eqn (a := heaA B n j) (b := 1) (by omega) (by omega) (by omega)).mp z), f15, Option.bind_some]
    by_cases c12 : i < 12
    · rw [if_pos c12, if_pos (show n3 i < (12 : Int32) from (n3_lt (a := i) (b := 12) (by omega) (by omega)).mpr c12), pClause_eq, if_pos c5]
      have jl : j < n := isW_lt ((low_is (fun g => isW B n g j) 5).2.1 c5)
      generalize heaA B n j = g at c5 ⊢
      obtain ⟨κ1, e1, s1, t1⟩ := r_mustT N κ h.1 h.2.1 h.2.2.1 hN
      have nx := (nxt_le (B := B) jn).2 jl
      have p1 := h.go s1 t1 (by omega)
      have s1c : rSc κ κ1 := s1.weak (by decide) (by decide)
      have i15 : hk_I κ1 69 15 = n3 i := by rw [s1.2.2.1 69 15 (by decide)]; exact h15
      obtain ⟨N', hN'⟩ : ∃ N', N = 8 + N' + 1 := ⟨N - 9, by omega⟩
      obtain ⟨κ2, e2, s2, q2⟩ := r_cl51 N (x := n3 g) c12 8 0 N' κ1 (by omega)
      have i15' : hk_I κ2 69 15 = n3 i := by rw [s2.1.2.2.1 69 15 (by decide)]; exact i15
      have p2 := p1.keep (s2.weak (by decide) (by decide))
      obtain ⟨κ3, e3, s3, r15, r8, r83, r8y⟩ := r_cl8 N κ2 (q := N') (x := n3 g) c12 i15' p2.2.2.2.2.2.1
      have p3 := p2.keep s3
      have s3c : rSc κ κ3 := s1c.trans ((same.weak s2.1 (by decide) (by decide) : rSc κ1 κ2).trans (same.weak s3.1 (by decide) (by decide)))
      have r8y' : ∀ y, y < 8 * i → hk_A κ3 75 y = hk_A κ 75 y := fun y hy => by rw [r8y y hy, q2 y hy, s1.1 75 (by decide)]
      have st : nX12_readClause_30 N 69 (n3 g) 69 (1 : Int32) (hp κ) = if g = 4 then nX12_readClause_111 N 69 (n3 (8 * i)) (hp κ3) else (fX12_readExpression N 69 ((0 : Int32)) (hp κ3)).bind fun h8 => nX12_readClause_111 N 69 (n3 (8 * i)) h8 := by
        have e1' : fX12_must N 69 (1 : Int32) (hp κ) = some (hp κ1) := e1
        have g14 : ra_fI (hp κ1) 12 69 14 = some (n3 0) := by rw [← p1.2.2.1]; rfl
        have g15 : ra_fI (hp κ1) 12 69 15 = some (n3 i) := by rw [← i15]; rfl
        have m8 : (8 : Int32) * n3 i = n3 (8 * i) := by
          have : n3 8 * n3 i = n3 (8 * i) := by simp (maxSteps := 400000) (disch := omega) only [n3_l, n3_add, n3_mul, n3_sub, n3_subn, n3_lt, n3_le, n3_eq, n3_eqn, n3_neq, n3_and, n3_or, n3_shl, n3_i, n3_cl, Option.bind_some, Option.some.injEq, if_true, if_false, eq_self, true_or, or_true, true_and, and_true, false_or, or_false, not_true_eq_false, not_false_eq_true, Classical.not_not, nar_b0, nar_b1, rz_0, rz_1, rz_i, ite01, Nat.add_zero, Nat.zero_add, Nat.one_mul, mul12, reduceIte, ra_z0, Nat.reduceEqDiff, Nat.reduceLT, Nat.reduceLeDiff, Nat.reduceAdd, Nat.reduceMul, Nat.reduceSub, Nat.reduceDiv, Nat.reduceMod, Bool.false_eq_true, false_and, and_false, reduceCtorEq]
          exact this
        have g4 : n3 g = (4 : Int32) ↔ g = 4 := n3_eq (a := g) (b := 4) (by omega) (by omega)
        unfold nX12_readClause_30
        rw [e1', Option.bind_some, g14, Option.bind_some, if_pos (show n3 0 = (0 : Int32) from rfl), g15, Option.bind_some]
        show nX12_readClause_51 N N 69 (n3 g) ((8 : Int32) * n3 i) (n3 0) (hp κ1) = _
        rw [m8]
        have e2' : nX12_readClause_51 N N 69 (n3 g) (n3 (8 * i)) (n3 0) (hp κ1) = nX12_readClause_51 N (8 + N' + 1) 69 (n3 g) (n3 (8 * i)) (n3 0) (hp κ1) := by rw [← hN']
        rw [e2', e2, e3]
        by_cases c4 : g = 4
        · rw [if_pos c4, if_pos (g4.mpr c4)]
        · rw [if_neg c4, if_neg (fun z => c4 (g4.mp z))]
      have fin : ∀ κ4 j1 k1 se O1 G1 v, rSc κ κ4 → rQ κ4 B n j1 k1 se O1 G1 → (∀ x, x < f → O1 x = O x ∧ G1 x = G x) → f ≤ se → ((g < 4 ∧ ∃ d, d ≤ 50 ∧ rFr O1 G1 f se d v) ∨ (g = 4 ∧ f = se ∧ v = vOne)) → hk_I κ4 69 15 = n3 (i + 1) → hk_A κ4 75 (8 * i) = n3 g → hk_A κ4 75 (8 * i + 3) = n3 f → (∀ y, y < 8 * i → hk_A κ4 75 y = hk_A κ 75 y) → rCl κ B n f i O G (match pIf B n j1 k1 with
        | .inl f => .inl f
        | .inr (j2, k2, w) => .inr (j2, k2, g, v, w)) (nX12_readClause_111 N 69 (n3 (8 * i)) (hp κ4)) := by
        intro κ4 j1 k1 se O1 G1 v s4 p4 a1 a2 a3 a4 a5 a6 a7
        have r := r_clIf N κ4 p4 c12 hN
        cases hq : pIf B n j1 k1 with
        | inl e =>
          rw [hq] at r
          obtain ⟨κ5, e5, s5, b⟩ := r
          exact ⟨κ5, e5, s4.d.trans s5, b⟩
        | inr tt =>
          obtain ⟨j2, k2, w⟩ := tt
          rw [hq] at r
          obtain ⟨κ5, f5, O5, G5, e5, s5, p5, d1, d2, d3, d4, d5, d6, d7, d8, d9⟩ := r
          refine ⟨κ5, se, f5, O5, G5, e5, s4.trans s5, p5, fun x hx => ?_, a2, d2, by omega, ?_, d3, d4, by rw [d5]; exact a4, by rw [d9 _ (by omega)]; exact a5, by rw [d9 _ (by omega)]; exact a6, d6, d7, d8, fun y hy => by rw [d9 _ (by omega)]; exact a7 y hy⟩
          · rw [(d1 x (by omega)).1, (d1 x (by omega)).2]
            exact a1 x hx
          · rcases a3 with ⟨b1, d, b2, b3⟩ | b
            · exact Or.inl ⟨b1, d, b2, b3.cg (fun x _ hx => ⟨(d1 x hx).1.symm, (d1 x hx).2.symm⟩)⟩
            · exact Or.inr b
      rw [st]
      by_cases c4 : g = 4
      · rw [if_pos c4, if_pos c4]
        exact fin κ3 _ k f O G vOne s3c p3 (fun _ _ => ⟨rfl, rfl⟩) (Nat.le_refl _) (Or.inr ⟨c4, rfl, rfl⟩) r15 r8 r83 r8y'
      · rw [if_neg c4, if_neg c4]
        have r := r_expr N κ3 (tst := false) (r := pSum B n 9 0 (nxt B n j) k) p3 (fun m hm => rp_exS p3.1.1 p3.2.1.1 hm) hN
        rw [if_neg (by decide)] at r
        cases hq : pSum B n 9 0 (nxt B n j) k with
        | inl e =>
          rw [hq] at r
          obtain ⟨κ4, e4, s4, b1, b2⟩ := r
          have e4' : fX12_readExpression N 69 (0 : Int32) (hp κ3) = some (hp κ4) := e4
          have l1 := r_cl111 N κ4 (x := hk_I κ4 69 17) c12 rfl b1
          rw [if_neg (show ¬ n3 1 = (0 : Int32) by decide), r_cl161 N _ c12 rfl] at l1
          refine ⟨_, by rw [e4', Option.bind_some]; exact l1, s3c.d.trans (s4.d.trans (same.wA (same.wA (same.wA (same.refl _ _ _) (by decide)) (by decide)) (by decide))), b1, b2⟩
        | inr tt =>
          obtain ⟨j2, k2, v⟩ := tt
          rw [hq] at r
          obtain ⟨κ4, f4, O4, G4, e4, s4, p4, a1, a2, a3, a4, a5, a6, a7⟩ := r
          have e4' : fX12_readExpression N 69 (0 : Int32) (hp κ3) = some (hp κ4) := e4
          have k50 := p4.2.2.2.2.1
          rw [e4', Option.bind_some]
          exact fin κ4 j2 k2 f4 O4 G4 v (s3c.trans s4.c) p4 a1 (by omega) (Or.inl ⟨by omega, k2 - k, by omega, a3⟩) (by rw [s4.2.2.1 69 15 (by decide)]; exact r15) (by rw [s4.1 75 (by decide)]; exact r8) (by rw [s4.1 75 (by decide)]; exact r83) (fun y hy => by rw [s4.1 75 (by decide)]; exact r8y' y hy)
    · rw [if_neg c12, if_neg (show ¬ n3 i < (12 : Int32) from fun z => c12 ((n3_lt (a := i) (b := 12) (by omega) (by omega)).mp z))]
      exact bad _
  · rw [if_neg c5, if_pos (show -n3 1 = (-1 : Int32) from rfl)]
    have e : (if i < 12 then pClause B n j k else .inl j) = .inl j := by
      by_cases c12 : i < 12
      · rw [if_pos c12, pClause_eq, if_neg c5]
      · rw [if_neg c12]
    rw [e]
    exact bad _
end
