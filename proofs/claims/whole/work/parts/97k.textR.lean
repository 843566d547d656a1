/-! the reference's reader on the heap: all clauses, the text -/
def rStt (κ : hk_T) (B : Nat → Nat) (n i j k f : Nat) (O G : Nat → Nat) (c : Nat → Nat × valT × valT) (sf se te : Nat → Nat) : Prop := rQ κ B n j k f O G ∧ hk_I κ 69 15 = n3 i ∧ ∀ x, x < i → hk_A κ 75 (8 * x) = n3 (c x).1 ∧ hk_A κ 75 (8 * x + 3) = n3 (sf x) ∧ hk_A κ 75 (8 * x + 4) = n3 (se x) ∧ hk_A κ 75 (8 * x + 5) = n3 (se x) ∧ hk_A κ 75 (8 * x + 6) = n3 (te x) ∧ (c x).1 ≤ 4 ∧ se x ≤ te x ∧ te x ≤ f ∧ sf x ≤ se x ∧ (((c x).1 < 4 ∧ ∃ d, d ≤ 50 ∧ rFr O G (sf x) (se x) d (c x).2.1) ∨ ((c x).1 = 4 ∧ sf x = se x ∧ (c x).2.1 = vOne)) ∧ rPc O G (se x) (te x) (c x).2.2 ∧ vT (c x).2.2
theorem rStt.next {κ κ' : hk_T} {B : Nat → Nat} {n i j k f j' k' s f' : Nat} {O G O' G' : Nat → Nat} {c : Nat → Nat × valT × valT} {sf se te : Nat → Nat} {q : Nat × valT × valT} (h : rStt κ B n i j k f O G c sf se te) (p : rQ κ' B n j' k' f' O' G') (b1 : ∀ x, x < f → O' x = O x ∧ G' x = G x) (b2 : f ≤ s) (b3 : s ≤ f') (b5 : q.1 ≤ 4) (b6 : (q.1 < 4 ∧ ∃ d, d ≤ 50 ∧ rFr O' G' f s d q.2.1) ∨ (q.1 = 4 ∧ f = s ∧ q.2.1 = vOne)) (b7 : rPc O' G' s f' q.2.2) (b9 : vT q.2.2) (d1 : hk_I κ' 69 15 = n3 (i + 1)) (d2 : hk_A κ' 75 (8 * i) = n3 q.1) (d3 : hk_A κ' 75 (8 * i + 3) = n3 f) (d4 : hk_A κ' 75 (8 * i + 4) = n3 s) (d5 : hk_A κ' 75 (8 * i + 5) = n3 s) (d6 : hk_A κ' 75 (8 * i + 6) = n3 f') (d7 : ∀ y, y < 8 * i → hk_A κ' 75 y = hk_A κ 75 y) : rStt κ' B n (i + 1) j' k' f' O' G' (fun x => if x = i then q else c x) (fun x => if x = i then f else sf x) (fun x => if x = i then s else se x) (fun x => if x = i then f' else te x) := by
  obtain ⟨h1, h2, h5⟩ := h
  refine ⟨p, d1, fun x hx => ?_⟩
  dsimp only
  by_cases e : x = i
  · subst e
    rw [if_pos rfl, if_pos rfl, if_pos rfl, if_pos rfl]
    exact ⟨d2, d3, d4, d5, d6, b5, b3, Nat.le_refl _, b2, b6, b7, b9⟩
  · obtain ⟨a1, a2, a3, a4, a5, a6, a7, a8, a9, a10, a11, a12⟩ := h5 x (by omega)
    rw [if_neg e, if_neg e, if_neg e, if_neg e]
    refine ⟨by rw [d7 _ (by omega)]; exact a1, by rw [d7 _ (by omega)]; exact a2, by rw [d7 _ (by omega)]; exact a3, by rw [d7 _ (by omega)]; exact a4, by rw [d7 _ (by omega)]; exact a5, a6, a7, by omega, a9, ?_, a11.cg (fun y _ g => ⟨(b1 y (by omega)).1.symm, (b1 y (by omega)).2.symm⟩), a12⟩
    rcases a10 with ⟨z1, d, z2, z3⟩ | z
    · exact Or.inl ⟨z1, d, z2, z3.cg (fun y _ g => ⟨(b1 y (by omega)).1.symm, (b1 y (by omega)).2.symm⟩)⟩
    · exact Or.inr z
def rRd (N : Nat) (κ : hk_T) (B : Nat → Nat) (n : Nat) (r : Sum Nat (Nat × (Nat → Nat × valT × valT))) (run : Option (Int32 × ra_H)) : Prop := match r with
  | .inl e => ∃ κ', run = nX12_text_99 N 69 (hp κ') ∧ rSd κ κ' ∧ hk_I κ' 69 14 = n3 1 ∧ hk_I κ' 69 13 = n3 e
  | .inr (nC, c) => ∃ κ' j k f O G sf se te, run = nX12_text_99 N 69 (hp κ') ∧ rSc κ κ' ∧ rStt κ' B n nC j k f O G c sf se te ∧ nC ≤ 12
section
variable (N : Nat) (κ : hk_T)
theorem r_53bad {m : Nat} (h14 : hk_I κ 69 14 = n3 1) : nX12_text_53 N (m + 1) 69 (hp κ) = nX12_text_99 N 69 (hp κ) := by
  have f14 : ra_fI (hp κ) 12 69 14 = some (n3 1) := by rw [← h14]; rfl
  have z1 : ¬ n3 1 = (0 : Int32) := by decide
  rw [nX12_text_53, f14, Option.bind_some, if_neg z1]
  unfold nX12_text_80
  rw [f14, Option.bind_some, if_neg z1]
theorem r_schemeL {B : Nat → Nat} {n : Nat} (hN : 1000 < N) : ∀ m i j k f O G c sf se te m' κ1, m + i = 12 → m < m' → rSc κ κ1 → rStt κ1 B n i j k f O G c sf se te → rRd N κ B n (pScheme B n m i j k c) ((fX12_readClause N 69 (hp κ1)).bind fun h => nX12_text_53 N m' 69 h) := by
  have z0 : n3 0 = (0 : Int32) := rfl
  have z1 : ¬ n3 1 = (0 : Int32) := by decide
  intro m
  induction m with
  | zero =>
    intro i j k f O G c sf se te m' κ1 hi hm s p
    obtain ⟨m', rfl⟩ : ∃ q, m' = q + 1 := ⟨m' - 1, by omega⟩
    have r := r_readClause N κ1 p.1 (by omega) p.2.1 hN
    rw [if_neg (by omega)] at r
    obtain ⟨κ2, e2, s2, b1, b2⟩ := r
    refine ⟨κ2, ?_, s.d.trans s2, b1, b2⟩
    rw [e2, Option.bind_some, r_53bad N κ2 b1]
  | succ m ih =>
    intro i j k f O G c sf se te m' κ1 hi hm s p
    obtain ⟨m', rfl⟩ : ∃ q, m' = q + 1 := ⟨m' - 1, by omega⟩
    have r := r_readClause N κ1 p.1 (by omega) p.2.1 hN
    rw [if_pos (by omega)] at r
    rw [pScheme]
    cases hq : pClause B n j k with
    | inl e =>
      rw [hq] at r
      obtain ⟨κ2, e2, s2, b1, b2⟩ := r
      refine ⟨κ2, ?_, s.d.trans s2, b1, b2⟩
      rw [e2, Option.bind_some, r_53bad N κ2 b1]
    | inr tt =>
      obtain ⟨j1, k1, hh, v, w⟩ := tt
      rw [hq] at r
      obtain ⟨κ2, se2, f2, O2, G2, e2, s2, p2, b1, b2, b3, b4, b5, b6, b7, d1, d2, d3, d4, d5, d6, d7⟩ := r
      have st := p.next (q := (hh, v, w)) p2 b1 b2 b3 b4 b5 b6 b7 d1 d2 d3 d4 d5 d6 d7
      have s12 := s.trans s2
      have f14 : ra_fI (hp κ2) 12 69 14 = some (n3 0) := by rw [← p2.2.2.1]; rfl
      have f11 : ra_fI (hp κ2) 12 69 11 = some (n3 (tkK B n j1)) := by rw [← p2.2.1.2.2.2.1]; rfl
      have is : fX12_isSign N 69 (59 : Int32) (hp κ2) = _ := r_isSign N κ2 (c := 59) p2.1 p2.2.1 (by omega)
      have tk3 : tkK B n j1 ≤ 3 := tkK_le
      dsimp only
      rw [e2, Option.bind_some, nX12_text_53, f14, Option.bind_some, if_pos z0, is, Option.bind_some]
      by_cases c0 : tkK B n j1 = 0
      · rw [if_pos c0]
        have ns : ¬ sg B n 59 j1 := fun z => by have := z.1; omega
        rw [if_neg ns, if_pos z0]
        refine ⟨κ2, _, _, _, _, _, _, _, _, ?_, s12, st, by omega⟩
        unfold nX12_text_80
        rw [f14, Option.bind_some, if_pos z0, f11, Option.bind_some, c0, if_pos z0]
      · rw [if_neg c0]
        by_cases cs : sg B n 59 j1
        · rw [if_pos cs, if_pos cs, if_neg z1]
          obtain ⟨κ3, e3, s3, t3⟩ := r_goP N κ2 p2.1 p2.2.1 hN
          have nx := (nxt_le (B := B) p2.2.1.1).2 (sg_lt cs)
          have st3 : rStt κ3 B n (i + 1) (nxt B n j1) k1 f2 O2 G2 (fun x => if x = i then (hh, v, w) else c x) (fun x => if x = i then f else sf x) (fun x => if x = i then se2 else se x) (fun x => if x = i then f2 else te x) := by
            obtain ⟨y1, y2, y3⟩ := st
            refine ⟨y1.go s3 t3 (by omega), by rw [s3.2.2.1 69 15 (by decide)]; exact y2, fun x hx => ?_⟩
            rw [s3.1 75 (by decide)]
            exact y3 x hx
          rw [e3, Option.bind_some]
          exact ih (i + 1) _ _ _ _ _ _ _ _ _ m' κ3 (by omega) (by omega) (s12.trans (s3.weak (by decide) (by decide))) st3
        · rw [if_neg cs, if_neg cs, if_pos z0]
          have s3 : same [] [(69, 13), (69, 14)] κ2 (hk_wI (hk_wI κ2 69 14 (n3 1)) 69 13 (n3 j1)) := ((same.refl _ _ _).wI (by decide)).wI (by decide)
          have e3 : fX12_must N 69 (0 : Int32) (hp κ2) = some (hp (hk_wI (hk_wI κ2 69 14 (n3 1)) 69 13 (n3 j1))) := r_mustF N κ2 p2.2.1.2.1 p2.2.2.1
          have nz : ¬ n3 (tkK B n j1) = (0 : Int32) := fun z => c0 ((n3_eq (a := tkK B n j1) (b := 0) (by omega) (by omega)).mp z)
          refine ⟨_, ?_, s12.d.trans (s3.weak (by decide) (by decide)), by rw [I_ne (by decide), I_eq], I_eq⟩
          unfold nX12_text_80
          rw [f14, Option.bind_some, if_pos z0, f11, Option.bind_some, if_neg nz, e3, Option.bind_some]
/-- the text's cells laid into the row -/
theorem r_text149 {t i : Nat} (ht : t < 8) (hi : i ≤ 12) (h15 : hk_I κ 69 15 = n3 i) (hN : 1000 < N) : ∃ κ', nX12_text_149 N N 69 (n3 (760 + 900 * t)) (n3 0) (hp κ) = nX12_text_184 N N 69 (n3 (760 + 900 * t)) (n3 0) (hp κ') ∧ same [71] [] κ κ' ∧ (∀ x, x < 8 * i → hk_A κ' 71 (760 + 900 * t + 2 + x) = hk_A κ 75 x) ∧ ∀ y, ¬ (760 + 900 * t + 2 ≤ y ∧ y < 760 + 900 * t + 2 + 8 * i) → hk_A κ' 71 y = hk_A κ 71 y := by
  have loop : ∀ r s m κ1, r + s = 8 * i → r < m → same [71] [] κ κ1 → (∀ x, x < s → hk_A κ1 71 (760 + 900 * t + 2 + x) = hk_A κ 75 x) → (∀ y, ¬ (760 + 900 * t + 2 ≤ y ∧ y < 760 + 900 * t + 2 + s) → hk_A κ1 71 y = hk_A κ 71 y) → ∃ κ', nX12_text_149 N m 69 (n3 (760 + 900 * t)) (n3 s) (hp κ1) = nX12_text_184 N N 69 (n3 (760 + 900 * t)) (n3 0) (hp κ') ∧ same [71] [] κ κ' ∧ (∀ x, x < 8 * i → hk_A κ' 71 (760 + 900 * t + 2 + x) = hk_A κ 75 x) ∧ ∀ y, ¬ (760 + 900 * t + 2 ≤ y ∧ y < 760 + 900 * t + 2 + 8 * i) → hk_A κ' 71 y = hk_A κ 71 y := by
    intro r
    induction r with
    | zero =>
      intro s m κ1 hs hm s1 a1 a2
      obtain ⟨m, rfl⟩ : ∃ q, m = q + 1 := ⟨m - 1, by omega⟩
      have e : s = 8 * i := by omega
      subst e
      refine ⟨κ1, ?_, s1, a1, a2⟩
      have i15 : hk_I κ1 69 15 = n3 i := by rw [s1.2.2.1 69 15 (by decide)]; exact h15
      rw [nX12_text_149]
      simp (maxSteps := 400000) (disch := omega) only [n3_l, n3_add, n3_mul, n3_sub, n3_subn, n3_lt, n3_le, n3_eq, n3_eqn, n3_neq, n3_and, n3_or, n3_shl, n3_i, n3_cl, ↓hbd_0, ↓hbd_1, ↓hbd_2, hk_ob_0, hk_rd_0, hk_rd_1, hk_rd_2, hk_al_0, hk_al_1, h3r_0, h3r_1, hk_wi_0, hk_wj_0, h3w_0, h3w_1, h3v_0, hk_kI, hk_kJ, hk_kA, hk_kB, A_eq, A_ne, A_row, B_eq, B_ne, B_row, I_eq, I_ne, J_eq, J_ne, Option.bind_some, Option.some.injEq, if_true, if_false, eq_self, true_or, or_true, true_and, and_true, false_or, or_false, not_true_eq_false, not_false_eq_true, Classical.not_not, nar_b0, nar_b1, rz_0, rz_1, rz_i, ite01, Nat.add_zero, Nat.zero_add, Nat.one_mul, mul12, reduceIte, ra_z0, Nat.reduceEqDiff, Nat.reduceLT, Nat.reduceLeDiff, Nat.reduceAdd, Nat.reduceMul, Nat.reduceSub, Nat.reduceDiv, Nat.reduceMod, Bool.false_eq_true, false_and, and_false, reduceCtorEq, i15, Nat.lt_irrefl]
    | succ r ih =>
      intro s m κ1 hs hm s1 a1 a2
      obtain ⟨m, rfl⟩ : ∃ q, m = q + 1 := ⟨m - 1, by omega⟩
      have i15 : hk_I κ1 69 15 = n3 i := by rw [s1.2.2.1 69 15 (by decide)]; exact h15
      have cs : s < 8 * i := by omega
      have r75 : hk_A κ1 75 = hk_A κ 75 := s1.1 75 (by decide)
      obtain ⟨κ', e, b⟩ := ih (s + 1) m (hk_wA κ1 71 (760 + 900 * t + 2 + s) (hk_A κ 75 s)) (by omega) (by omega) (s1.wA (by decide)) (fun x hx => by
        by_cases ex : x = s
        · subst ex; rw [A_eq rfl]
        · rw [A_ne (Or.inr (by omega))]; exact a1 x (by omega)) (fun y hy => by
        rw [A_ne (Or.inr (by omega))]; exact a2 y (by omega))
      refine ⟨κ', ?_, b⟩
      rw [← e, nX12_text_149]
      simp (maxSteps := 400000) (disch := omega) only [n3_l, n3_add, n3_mul, n3_sub, n3_subn, n3_lt, n3_le, n3_eq, n3_eqn, n3_neq, n3_and, n3_or, n3_shl, n3_i, n3_cl, ↓hbd_0, ↓hbd_1, ↓hbd_2, hk_ob_0, hk_rd_0, hk_rd_1, hk_rd_2, hk_al_0, hk_al_1, h3r_0, h3r_1, hk_wi_0, hk_wj_0, h3w_0, h3w_1, h3v_0, hk_kI, hk_kJ, hk_kA, hk_kB, A_eq, A_ne, A_row, B_eq, B_ne, B_row, I_eq, I_ne, J_eq, J_ne, Option.bind_some, Option.some.injEq, if_true, if_false, eq_self, true_or, or_true, true_and, and_true, false_or, or_false, not_true_eq_false, not_false_eq_true, Classical.not_not, nar_b0, nar_b1, rz_0, rz_1, rz_i, ite01, Nat.add_zero, Nat.zero_add, Nat.one_mul, mul12, reduceIte, ra_z0, Nat.reduceEqDiff, Nat.reduceLT, Nat.reduceLeDiff, Nat.reduceAdd, Nat.reduceMul, Nat.reduceSub, Nat.reduceDiv, Nat.reduceMod, Bool.false_eq_true, false_and, and_false, reduceCtorEq, i15, cs, r75]
  exact loop (8 * i) 0 N κ (by omega) (by omega) (same.refl _ _ _) (fun x hx => absurd hx (by omega)) (fun _ _ => rfl)
theorem r_text184 {t f : Nat} (ht : t < 8) (hf : f ≤ 400) (h17 : hk_I κ 69 17 = n3 f) (h481 : hk_A κ 71 481 = n3 t) (hN : 1000 < N) : ∃ κ', nX12_text_184 N N 69 (n3 (760 + 900 * t)) (n3 0) (hp κ) = some (n3 t, hp κ') ∧ same [71] [(69, 1)] κ κ' ∧ hk_I κ' 69 1 = n3 0 ∧ (∀ x, x < f → hk_A κ' 71 (760 + 900 * t + 98 + 2 * x) = hk_A κ 76 x ∧ hk_A κ' 71 (760 + 900 * t + 98 + 2 * x + 1) = hk_A κ 77 x) ∧ hk_A κ' 71 481 = n3 (t + 1) ∧ ∀ y, y ≠ 481 → ¬ (760 + 900 * t + 98 ≤ y ∧ y < 760 + 900 * t + 98 + 2 * f) → hk_A κ' 71 y = hk_A κ 71 y := by
  have loop : ∀ r s m κ1, r + s = f → r < m → same [71] [] κ κ1 → (∀ x, x < s → hk_A κ1 71 (760 + 900 * t + 98 + 2 * x) = hk_A κ 76 x ∧ hk_A κ1 71 (760 + 900 * t + 98 + 2 * x + 1) = hk_A κ 77 x) → (∀ y, ¬ (760 + 900 * t + 98 ≤ y ∧ y < 760 + 900 * t + 98 + 2 * s) → hk_A κ1 71 y = hk_A κ 71 y) → ∃ κ', nX12_text_184 N m 69 (n3 (760 + 900 * t)) (n3 s) (hp κ1) = some (n3 t, hp κ') ∧ same [71] [(69, 1)] κ κ' ∧ hk_I κ' 69 1 = n3 0 ∧ (∀ x, x < f → hk_A κ' 71 (760 + 900 * t + 98 + 2 * x) = hk_A κ 76 x ∧ hk_A κ' 71 (760 + 900 * t + 98 + 2 * x + 1) = hk_A κ 77 x) ∧ hk_A κ' 71 481 = n3 (t + 1) ∧ ∀ y, y ≠ 481 → ¬ (760 + 900 * t + 98 ≤ y ∧ y < 760 + 900 * t + 98 + 2 * f) → hk_A κ' 71 y = hk_A κ 71 y := by
    intro r
    induction r with
    | zero =>
      intro s m κ1 hs hm s1 a1 a2
      obtain ⟨m, rfl⟩ : ∃ q, m = q + 1 := ⟨m - 1, by omega⟩
      have e : s = f := by omega
      subst e
      have i17 : hk_I κ1 69 17 = n3 s := by rw [s1.2.2.1 69 17 (by decide)]; exact h17
      have i481 : hk_A κ1 71 481 = n3 t := by rw [a2 481 (by omega)]; exact h481
      refine ⟨hk_wI (hk_wA κ1 71 481 (n3 (t + 1))) 69 1 (n3 0), ?_, ((s1.weak (by decide) (by decide)).wA (by decide)).wI (by decide), I_eq, fun x hx => ?_, ?_, fun y hy1 hy2 => ?_⟩
      · have w1 : ra_aW (hp κ1) 0 71 (n3 481) (n3 (t + 1)) = some (hp (hk_wA κ1 71 481 (n3 (t + 1)))) := by simp (maxSteps := 400000) (disch := omega) only [n3_l, n3_add, n3_mul, n3_sub, n3_subn, n3_lt, n3_le, n3_eq, n3_eqn, n3_neq, n3_and, n3_or, n3_shl, n3_i, n3_cl, ↓hbd_0, ↓hbd_1, ↓hbd_2, hk_ob_0, hk_rd_0, hk_rd_1, hk_rd_2, hk_al_0, hk_al_1, h3r_0, h3r_1, hk_wi_0, hk_wj_0, h3w_0, h3w_1, h3v_0, hk_kI, hk_kJ, hk_kA, hk_kB, A_eq, A_ne, A_row, B_eq, B_ne, B_row, I_eq, I_ne, J_eq, J_ne, Option.bind_some, Option.some.injEq, if_true, if_false, eq_self, true_or, or_true, true_and, and_true, false_or, or_false, not_true_eq_false, not_false_eq_true, Classical.not_not, nar_b0, nar_b1, rz_0, rz_1, rz_i, ite01, Nat.add_zero, Nat.zero_add, Nat.one_mul, mul12, reduceIte, ra_z0, Nat.reduceEqDiff, Nat.reduceLT, Nat.reduceLeDiff, Nat.reduceAdd, Nat.reduceMul, Nat.reduceSub, Nat.reduceDiv, Nat.reduceMod, Bool.false_eq_true, false_and, and_false, reduceCtorEq]
        have rd : hk_A (hk_wA κ1 71 481 (n3 (t + 1))) 71 481 = n3 (t + 1) := A_eq rfl
        have te := r_tell3 N (hk_wA κ1 71 481 (n3 (t + 1))) (v := t) (by omega)
        rw [nX12_text_184]
        simp (maxSteps := 400000) (disch := omega) only [n3_l, n3_add, n3_mul, n3_sub, n3_subn, n3_lt, n3_le, n3_eq, n3_eqn, n3_neq, n3_and, n3_or, n3_shl, n3_i, n3_cl, ↓hbd_0, ↓hbd_1, ↓hbd_2, hk_ob_0, hk_rd_0, hk_rd_1, hk_rd_2, hk_al_0, hk_al_1, h3r_0, h3r_1, hk_wi_0, hk_wj_0, h3w_0, h3w_1, h3v_0, hk_kI, hk_kJ, hk_kA, hk_kB, A_eq, A_ne, A_row, B_eq, B_ne, B_row, I_eq, I_ne, J_eq, J_ne, Option.bind_some, Option.some.injEq, if_true, if_false, eq_self, true_or, or_true, true_and, and_true, false_or, or_false, not_true_eq_false, not_false_eq_true, Classical.not_not, nar_b0, nar_b1, rz_0, rz_1, rz_i, ite01, Nat.add_zero, Nat.zero_add, Nat.one_mul, mul12, reduceIte, ra_z0, Nat.reduceEqDiff, Nat.reduceLT, Nat.reduceLeDiff, Nat.reduceAdd, Nat.reduceMul, Nat.reduceSub, Nat.reduceDiv, Nat.reduceMod, Bool.false_eq_true, false_and, and_false, reduceCtorEq, i17, Nat.lt_irrefl, i481, w1, rd, Nat.add_sub_cancel, te]
      · show hk_A (hk_wA κ1 71 481 (n3 (t + 1))) 71 _ = _ ∧ hk_A (hk_wA κ1 71 481 (n3 (t + 1))) 71 _ = _
        rw [A_ne (Or.inr (by omega)), A_ne (Or.inr (by omega))]
        exact a1 x hx
      · show hk_A (hk_wA κ1 71 481 (n3 (t + 1))) 71 481 = _
        exact A_eq rfl
      · show hk_A (hk_wA κ1 71 481 (n3 (t + 1))) 71 y = _
        rw [A_ne (Or.inr hy1)]
        exact a2 y hy2
    | succ r ih =>
      intro s m κ1 hs hm s1 a1 a2
      obtain ⟨m, rfl⟩ : ∃ q, m = q + 1 := ⟨m - 1, by omega⟩
      have i17 : hk_I κ1 69 17 = n3 f := by rw [s1.2.2.1 69 17 (by decide)]; exact h17
      have cs : s < f := by omega
      have r76 : hk_A κ1 76 = hk_A κ 76 := s1.1 76 (by decide)
      have r77 : hk_A κ1 77 = hk_A κ 77 := s1.1 77 (by decide)
      obtain ⟨κ', e, b⟩ := ih (s + 1) m (hk_wA (hk_wA κ1 71 (760 + 900 * t + 98 + 2 * s) (hk_A κ 76 s)) 71 (760 + 900 * t + 98 + 2 * s + 1) (hk_A κ 77 s)) (by omega) (by omega) ((s1.wA (by decide)).wA (by decide)) (fun x hx => by
        by_cases ex : x = s
        · subst ex
          exact ⟨by rw [A_ne (Or.inr (by omega)), A_eq rfl], by rw [A_eq rfl]⟩
        · rw [A_ne (Or.inr (by omega)), A_ne (Or.inr (by omega)), A_ne (Or.inr (by omega)), A_ne (Or.inr (by omega))]
          exact a1 x (by omega)) (fun y hy => by
        rw [A_ne (Or.inr (by omega)), A_ne (Or.inr (by omega))]; exact a2 y (by omega))
      refine ⟨κ', ?_, b⟩
      rw [← e, nX12_text_184]
      simp (maxSteps := 400000) (disch := omega) only [n3_l, n3_add, n3_mul, n3_sub, n3_subn, n3_lt, n3_le, n3_eq, n3_eqn, n3_neq, n3_and, n3_or, n3_shl, n3_i, n3_cl, ↓hbd_0, ↓hbd_1, ↓hbd_2, hk_ob_0, hk_rd_0, hk_rd_1, hk_rd_2, hk_al_0, hk_al_1, h3r_0, h3r_1, hk_wi_0, hk_wj_0, h3w_0, h3w_1, h3v_0, hk_kI, hk_kJ, hk_kA, hk_kB, A_eq, A_ne, A_row, B_eq, B_ne, B_row, I_eq, I_ne, J_eq, J_ne, Option.bind_some, Option.some.injEq, if_true, if_false, eq_self, true_or, or_true, true_and, and_true, false_or, or_false, not_true_eq_false, not_false_eq_true, Classical.not_not, nar_b0, nar_b1, rz_0, rz_1, rz_i, ite01, Nat.add_zero, Nat.zero_add, Nat.one_mul, mul12, reduceIte, ra_z0, Nat.reduceEqDiff, Nat.reduceLT, Nat.reduceLeDiff, Nat.reduceAdd, Nat.reduceMul, Nat.reduceSub, Nat.reduceDiv, Nat.reduceMod, Bool.false_eq_true, false_and, and_false, reduceCtorEq, i17, cs, r76, r77]
  exact loop f 0 N κ (by omega) (by omega) (same.refl _ _ _) (fun x hx => absurd hx (by omega)) (fun _ _ => rfl)
end
