/-! the reference's reader on the heap: where it stands -/
def rC (κ : hk_T) (f : Nat) (O G : Nat → Nat) (P : List (Nat × Nat)) : Prop := hk_I κ 69 17 = n3 f ∧ (∀ i, i < f → hk_A κ 76 i = n3 (O i) ∧ hk_A κ 77 i = n3 (G i)) ∧ hk_I κ 69 23 = n3 P.length ∧ pil κ P ∧ f + P.length ≤ 400
def rP0 (κ : hk_T) (B : Nat → Nat) (n j k b f : Nat) (O G : Nat → Nat) (P : List (Nat × Nat)) : Prop := rTape κ B n ∧ rTok κ B n j ∧ hk_I κ 69 14 = n3 0 ∧ hk_I κ 69 20 = n3 k ∧ k ≤ 50 ∧ rC κ f O G P ∧ hk_I κ 69 24 = n3 b ∧ rWd κ
def rP (κ : hk_T) (B : Nat → Nat) (n j k f : Nat) (O G : Nat → Nat) (P : List (Nat × Nat)) : Prop := rP0 κ B n j k (brk P) f O G P ∧ f + P.length ≤ j
def rSg (κ κ' : hk_T) : Prop := same [76, 77, 78, 79] [(69, 9), (69, 10), (69, 11), (69, 17), (69, 20), (69, 23), (69, 24)] κ κ'
def rSb (κ κ' : hk_T) : Prop := same [76, 77, 78, 79] [(69, 9), (69, 10), (69, 11), (69, 13), (69, 14), (69, 17), (69, 20), (69, 23), (69, 24)] κ κ'
theorem rSg.refl (κ : hk_T) : rSg κ κ := same.refl _ _ _
theorem rSg.trans {κ κ' κ'' : hk_T} (h : rSg κ κ') (g : rSg κ' κ'') : rSg κ κ'' := same.trans h g
theorem rSb.trans {κ κ' κ'' : hk_T} (h : rSb κ κ') (g : rSb κ' κ'') : rSb κ κ'' := same.trans h g
theorem rSg.b {κ κ' : hk_T} (h : rSg κ κ') : rSb κ κ' := same.weak h (by decide) (by decide)
theorem rWd.same {κ κ' : hk_T} {ks : List Nat} {fs : List (Nat × Nat)} (h : rWd κ) (s : same ks fs κ κ') (h1 : 80 ∉ ks) (h2 : 81 ∉ ks) : rWd κ' := by
  unfold rWd
  rw [s.2.1 80 h1, s.2.1 81 h2]
  exact h
theorem rC.same {κ κ' : hk_T} {ks : List Nat} {fs : List (Nat × Nat)} {f : Nat} {O G : Nat → Nat} {P : List (Nat × Nat)} (h : rC κ f O G P) (s : same ks fs κ κ') (h1 : 76 ∉ ks) (h2 : 77 ∉ ks) (h3 : 78 ∉ ks) (h4 : 79 ∉ ks) (h5 : (69, 17) ∉ fs) (h6 : (69, 23) ∉ fs) : rC κ' f O G P := by
  obtain ⟨a1, a2, a3, a4, a5⟩ := h
  exact ⟨by rw [s.2.2.1 _ _ h5]; exact a1, by rw [s.1 _ h1, s.1 _ h2]; exact a2, by rw [s.2.2.1 _ _ h6]; exact a3, a4.same (s.1 _ h3) (s.1 _ h4), a5⟩
theorem rTok.same {κ κ' : hk_T} {B : Nat → Nat} {n j : Nat} {ks : List Nat} {fs : List (Nat × Nat)} (h : rTok κ B n j) (s : samJ ks fs κ κ') (h1 : (69, 9) ∉ fs) (h2 : (69, 10) ∉ fs) (h3 : (69, 11) ∉ fs) : rTok κ' B n j := by
  obtain ⟨a1, a2, a3, a4, a5⟩ := h
  exact ⟨a1, by rw [s.1.2.2.1 _ _ h1]; exact a2, by rw [s.1.2.2.1 _ _ h2]; exact a3, by rw [s.1.2.2.1 _ _ h3]; exact a4, by rw [s.2]; exact a5⟩
section
variable (N : Nat) (κ : hk_T)
theorem rP0.go {B : Nat → Nat} {n j k b f : Nat} {O G : Nat → Nat} {P : List (Nat × Nat)} {κ κ' : hk_T} {j' : Nat} (h : rP0 κ B n j k b f O G P) (s : same [] [(69, 9), (69, 10), (69, 11)] κ κ') (t : rTok κ' B n j') : rP0 κ' B n j' k b f O G P := by
  obtain ⟨a1, a2, a3, a4, a5, a6, a7, a8⟩ := h
  exact ⟨a1.same s (by decide) (by decide), t, by rw [s.2.2.1 69 14 (by decide)]; exact a3, by rw [s.2.2.1 69 20 (by decide)]; exact a4, a5, a6.same s (by decide) (by decide) (by decide) (by decide) (by decide) (by decide), by rw [s.2.2.1 69 24 (by decide)]; exact a7, a8.same s (by decide) (by decide)⟩
/-- code and pile anew, all else as it was -/
theorem rP0.cd {B : Nat → Nat} {n j k b f f' : Nat} {O G O' G' : Nat → Nat} {P P' : List (Nat × Nat)} {κ κ' : hk_T} (h : rP0 κ B n j k b f O G P) (s : samJ [76, 77, 78, 79] [(69, 17), (69, 23)] κ κ') (c : rC κ' f' O' G' P') : rP0 κ' B n j k b f' O' G' P' := by
  obtain ⟨a1, a2, a3, a4, a5, a6, a7, a8⟩ := h
  exact ⟨a1.same s.1 (by decide) (by decide), a2.same s (by decide) (by decide) (by decide), by rw [s.1.2.2.1 69 14 (by decide)]; exact a3, by rw [s.1.2.2.1 69 20 (by decide)]; exact a4, a5, c, by rw [s.1.2.2.1 69 24 (by decide)]; exact a7, a8.same s.1 (by decide) (by decide)⟩
theorem rC_emit {f : Nat} {O G : Nat → Nat} {P : List (Nat × Nat)} {o g : Nat} (h : rC κ f O G P) (hf : f + P.length < 400) : ∃ κ', fX12_emit N 69 (n3 o) (n3 g) (hp κ) = some (hp κ') ∧ samJ [76, 77] [(69, 17)] κ κ' ∧ rC κ' (f + 1) (up9 O f o) (up9 G f g) P := by
  obtain ⟨a1, a2, a3, a4, a5⟩ := h
  have s : same [76, 77] [(69, 17)] κ (hk_wI (hk_wA (hk_wA κ 76 f (n3 o)) 77 f (n3 g)) 69 17 (n3 (f + 1))) := (((same.refl _ _ _).wA (by decide)).wA (by decide)).wI (by decide)
  refine ⟨_, r_emit N κ a1 (by omega), ⟨s, rfl⟩, I_eq, fun i hi => ?_, by rw [s.2.2.1 69 23 (by decide)]; exact a3, a4.same (s.1 78 (by decide)) (s.1 79 (by decide)), by omega⟩
  show hk_A (hk_wA (hk_wA κ 76 f (n3 o)) 77 f (n3 g)) 76 i = n3 (up9 O f o i) ∧ hk_A (hk_wA (hk_wA κ 76 f (n3 o)) 77 f (n3 g)) 77 i = n3 (up9 G f g i)
  unfold up9
  by_cases e : i = f
  · rw [if_pos e, if_pos e]
    exact ⟨by rw [A_row (by decide), A_eq e], by rw [A_eq e]⟩
  · rw [if_neg e, if_neg e]
    exact ⟨by rw [A_row (by decide), A_ne (Or.inr e)]; exact (a2 i (by omega)).1, by rw [A_ne (Or.inr e), A_row (by decide)]; exact (a2 i (by omega)).2⟩
theorem rC_push {f : Nat} {O G : Nat → Nat} {P : List (Nat × Nat)} {o g : Nat} (h : rC κ f O G P) (hf : f + P.length < 400) (ho : 20 ≤ o ∧ o ≤ 31) (hg : g < 400) : ∃ κ', fX12_push N 69 (n3 o) (n3 g) (hp κ) = some (hp κ') ∧ samJ [78, 79] [(69, 23)] κ κ' ∧ rC κ' f O G ((o, g) :: P) := by
  obtain ⟨a1, a2, a3, a4, a5⟩ := h
  have e0 : ((o, g) :: P).length = P.length + 1 := rfl
  have s : same [78, 79] [(69, 23)] κ (hk_wI (hk_wA (hk_wA κ 78 P.length (n3 o)) 79 P.length (n3 g)) 69 23 (n3 (P.length + 1))) := (((same.refl _ _ _).wA (by decide)).wA (by decide)).wI (by decide)
  have q1 : ∀ i, hk_A (hk_wI (hk_wA (hk_wA κ 78 P.length (n3 o)) 79 P.length (n3 g)) 69 23 (n3 (P.length + 1))) 78 i = if i = P.length then n3 o else hk_A κ 78 i := fun i => by
    show hk_A (hk_wA (hk_wA κ 78 P.length (n3 o)) 79 P.length (n3 g)) 78 i = _
    rw [A_row (by decide)]
    by_cases e : i = P.length
    · rw [if_pos e, A_eq e]
    · rw [if_neg e, A_ne (Or.inr e)]
  have q2 : ∀ i, hk_A (hk_wI (hk_wA (hk_wA κ 78 P.length (n3 o)) 79 P.length (n3 g)) 69 23 (n3 (P.length + 1))) 79 i = if i = P.length then n3 g else hk_A κ 79 i := fun i => by
    show hk_A (hk_wA (hk_wA κ 78 P.length (n3 o)) 79 P.length (n3 g)) 79 i = _
    by_cases e : i = P.length
    · rw [if_pos e, A_eq e]
    · rw [if_neg e, A_ne (Or.inr e), A_row (by decide)]
  refine ⟨_, r_push N κ a3 (by omega), ⟨s, rfl⟩, by rw [s.2.2.1 69 17 (by decide)]; exact a1, by rw [s.1 76 (by decide), s.1 77 (by decide)]; exact a2, I_eq, ⟨by rw [q1, if_pos rfl], by rw [q2, if_pos rfl], ho.1, ho.2, hg, a4.keep (fun i hi => ⟨by rw [q1, if_neg (by omega)], by rw [q2, if_neg (by omega)]⟩)⟩, by omega⟩
theorem rC_pop {f o a : Nat} {O G : Nat → Nat} {P : List (Nat × Nat)} (h : rC κ f O G ((o, a) :: P)) : samJ [] [(69, 23)] κ (hk_wI κ 69 23 (n3 P.length)) ∧ rC (hk_wI κ 69 23 (n3 P.length)) f O G P := by
  obtain ⟨a1, a2, a3, ⟨b1, b2, b3, b4, b5, b6⟩, a5⟩ := h
  have e0 : ((o, a) :: P).length = P.length + 1 := rfl
  have s : same [] [(69, 23)] κ (hk_wI κ 69 23 (n3 P.length)) := (same.refl _ _ _).wI (by decide)
  exact ⟨⟨s, rfl⟩, by rw [s.2.2.1 69 17 (by decide)]; exact a1, by rw [s.1 76 (by decide), s.1 77 (by decide)]; exact a2, I_eq, b6.same (s.1 78 (by decide)) (s.1 79 (by decide)), by omega⟩
theorem samJ.weak' {ks ks' : List Nat} {fs fs' : List (Nat × Nat)} {κ κ' : hk_T} (h : samJ ks fs κ κ') (hk : ∀ k ∈ ks, k ∈ ks') (hf : ∀ q ∈ fs, q ∈ fs') : samJ ks' fs' κ κ' := ⟨h.1.weak hk hf, h.2⟩
theorem samJ.trans' {ks : List Nat} {fs : List (Nat × Nat)} {κ κ' κ'' : hk_T} (h : samJ ks fs κ κ') (g : samJ ks fs κ' κ'') : samJ ks fs κ κ'' := ⟨h.1.trans g.1, g.2.trans h.2⟩
end
theorem r_setPop (N m : Nat) {κ κ1 : hk_T} {x y o l b : Int32} (h23 : hk_I κ 69 23 = x) (hx : ¬ x ≤ n3 0) (rd : ra_aI (hp κ) 0 78 (x - n3 1) = some o) (bi : fX12_binds N o (hp κ) = some (b, hp κ)) (hb : ¬ b < l) (w : ra_fW (hp κ) 12 69 23 (.int (x - n3 1)) = some (hp κ1)) (i23 : hk_I κ1 69 23 = y) (r78 : ra_aI (hp κ1) 0 78 y = some o) : nX12_settle_0 N (m + 1) 69 l (hp κ) = if o = n3 28 then nX12_settle_63 N (nX12_settle_0 N m) 69 l (hp κ1) else if o = n3 29 then nX12_settle_63 N (nX12_settle_0 N m) 69 l (hp κ1) else (fX12_emit N 69 o (n3 0) (hp κ1)).bind fun h17 => nX12_settle_0 N m 69 l h17 := by
  have a1 : ra_fI (hp κ) 12 69 23 = some x := by rw [← h23]; rfl
  have a2 : ra_fI (hp κ1) 12 69 23 = some y := by rw [← i23]; rfl
  have a3 : ra_fR (hp κ) 12 69 21 = some 78 := rfl
  have a4 : ra_fR (hp κ1) 12 69 21 = some 78 := rfl
  have hx' : ¬ x ≤ (0 : Int32) := hx
  have rd' : ra_aI (hp κ) 0 78 (x - (1 : Int32)) = some o := rd
  have w' : ra_fW (hp κ) 12 69 23 (.int (x - (1 : Int32))) = some (hp κ1) := w
  rw [nX12_settle_0, a1, Option.bind_some, if_neg hx', a3, Option.bind_some, Option.bind_some, rd', Option.bind_some, bi, Option.bind_some, if_neg hb, a1, Option.bind_some, w', Option.bind_some, a4, Option.bind_some, a2, Option.bind_some, r78, Option.bind_some, Option.bind_some, Option.bind_some, r78, Option.bind_some, Option.bind_some, Option.bind_some, r78, Option.bind_some]
  rfl
theorem rC_settle (N : Nat) {l : Nat} (hl : 1 ≤ l ∧ l ≤ 6) : ∀ (P : List (Nat × Nat)) (m : Nat) (κ : hk_T) (f : Nat) (O G : Nat → Nat), P.length < m → rC κ f O G P → ∃ κ', nX12_settle_0 N m 69 (n3 l) (hp κ) = some (hp κ') ∧ samJ [76, 77] [(69, 17), (69, 23)] κ κ' ∧ rC κ' (stl l P f O G).1 (stl l P f O G).2.1 (stl l P f O G).2.2.1 (stl l P f O G).2.2.2 ∧ (stl l P f O G).1 + (stl l P f O G).2.2.2.length ≤ f + P.length := by
  intro P
  induction P with
  | nil =>
    intro m κ f O G hm h
    obtain ⟨m, rfl⟩ : ∃ q, m = q + 1 := ⟨m - 1, by omega⟩
    have h23 : hk_I κ 69 23 = n3 0 := h.2.2.1
    refine ⟨κ, ?_, ⟨same.refl _ _ _, rfl⟩, h, Nat.le_refl _⟩
    rw [nX12_settle_0]
    simp (maxSteps := 400000) (disch := omega) only [n3_l, n3_add, n3_mul, n3_sub, n3_subn, n3_lt, n3_le, n3_eq, n3_eqn, n3_neq, n3_and, n3_or, n3_shl, n3_i, n3_cl, ↓hbd_0, ↓hbd_1, ↓hbd_2, hk_ob_0, hk_rd_0, hk_rd_1, hk_rd_2, hk_al_0, hk_al_1, h3r_0, h3r_1, hk_wi_0, hk_wj_0, h3w_0, h3w_1, h3v_0, hk_kI, hk_kJ, hk_kA, hk_kB, A_eq, A_ne, A_row, B_eq, B_ne, B_row, I_eq, I_ne, J_eq, J_ne, Option.bind_some, Option.some.injEq, if_true, if_false, eq_self, true_or, or_true, true_and, and_true, false_or, or_false, not_true_eq_false, not_false_eq_true, Classical.not_not, nar_b0, nar_b1, rz_0, rz_1, rz_i, ite01, Nat.add_zero, Nat.zero_add, Nat.one_mul, mul12, reduceIte, ra_z0, Nat.reduceEqDiff, Nat.reduceLT, Nat.reduceLeDiff, Nat.reduceAdd, Nat.reduceMul, Nat.reduceSub, Nat.reduceDiv, Nat.reduceMod, Bool.false_eq_true, false_and, and_false, reduceCtorEq, h23, nX12_settle_101]
  | cons q P ih =>
    obtain ⟨o, a⟩ := q
    intro m κ f O G hm h
    have e0 : ((o, a) :: P).length = P.length + 1 := rfl
    obtain ⟨m, rfl⟩ : ∃ q, m = q + 1 := ⟨m - 1, by omega⟩
    have h' := h
    obtain ⟨a1, a2, a3, ⟨b1, b2, b3, b4, b5, b6⟩, a5⟩ := h'
    rw [e0] at a3 a5
    have bi := r_binds N (o := o) (by omega) (hp κ)
    have bl := bnd_le o
    have z0 : ¬ P.length + 1 ≤ 0 := by omega
    rw [stl]
    by_cases c : bnd o < l
    · rw [if_pos c]
      refine ⟨κ, ?_, ⟨same.refl _ _ _, rfl⟩, h, Nat.le_refl _⟩
      rw [nX12_settle_0]
      simp (maxSteps := 400000) (disch := omega) only [n3_l, n3_add, n3_mul, n3_sub, n3_subn, n3_lt, n3_le, n3_eq, n3_eqn, n3_neq, n3_and, n3_or, n3_shl, n3_i, n3_cl, ↓hbd_0, ↓hbd_1, ↓hbd_2, hk_ob_0, hk_rd_0, hk_rd_1, hk_rd_2, hk_al_0, hk_al_1, h3r_0, h3r_1, hk_wi_0, hk_wj_0, h3w_0, h3w_1, h3v_0, hk_kI, hk_kJ, hk_kA, hk_kB, A_eq, A_ne, A_row, B_eq, B_ne, B_row, I_eq, I_ne, J_eq, J_ne, Option.bind_some, Option.some.injEq, if_true, if_false, eq_self, true_or, or_true, true_and, and_true, false_or, or_false, not_true_eq_false, not_false_eq_true, Classical.not_not, nar_b0, nar_b1, rz_0, rz_1, rz_i, ite01, Nat.add_zero, Nat.zero_add, Nat.one_mul, mul12, reduceIte, ra_z0, Nat.reduceEqDiff, Nat.reduceLT, Nat.reduceLeDiff, Nat.reduceAdd, Nat.reduceMul, Nat.reduceSub, Nat.reduceDiv, Nat.reduceMod, Bool.false_eq_true, false_and, and_false, reduceCtorEq, a3, z0, Nat.add_sub_cancel, b1, bi, c, nX12_settle_101]
    · rw [if_neg c]
      obtain ⟨s1, c1⟩ := rC_pop κ h
      obtain ⟨κ1, e1⟩ : ∃ κ1, κ1 = hk_wI κ 69 23 (n3 P.length) := ⟨_, rfl⟩
      rw [← e1] at s1 c1
      have i23 := c1.2.2.1
      have i17 := c1.1
      have r78 : hk_A κ1 78 P.length = n3 o := by rw [s1.1.1 78 (by decide)]; exact b1
      have r79 : hk_A κ1 79 P.length = n3 a := by rw [s1.1.1 79 (by decide)]; exact b2
      have wr : ra_fW (hp κ) 12 69 23 (.int (n3 P.length)) = some (hp κ1) := by
        rw [e1]
        simp (maxSteps := 400000) (disch := omega) only [n3_l, n3_add, n3_mul, n3_sub, n3_subn, n3_lt, n3_le, n3_eq, n3_eqn, n3_neq, n3_and, n3_or, n3_shl, n3_i, n3_cl, ↓hbd_0, ↓hbd_1, ↓hbd_2, hk_ob_0, hk_rd_0, hk_rd_1, hk_rd_2, hk_al_0, hk_al_1, h3r_0, h3r_1, hk_wi_0, hk_wj_0, h3w_0, h3w_1, h3v_0, hk_kI, hk_kJ, hk_kA, hk_kB, A_eq, A_ne, A_row, B_eq, B_ne, B_row, I_eq, I_ne, J_eq, J_ne, Option.bind_some, Option.some.injEq, if_true, if_false, eq_self, true_or, or_true, true_and, and_true, false_or, or_false, not_true_eq_false, not_false_eq_true, Classical.not_not, nar_b0, nar_b1, rz_0, rz_1, rz_i, ite01, Nat.add_zero, Nat.zero_add, Nat.one_mul, mul12, reduceIte, ra_z0, Nat.reduceEqDiff, Nat.reduceLT, Nat.reduceLeDiff, Nat.reduceAdd, Nat.reduceMul, Nat.reduceSub, Nat.reduceDiv, Nat.reduceMod, Bool.false_eq_true, false_and, and_false, reduceCtorEq]
      have sb : n3 (P.length + 1) - n3 1 = n3 P.length := by
        simp (maxSteps := 400000) (disch := omega) only [n3_l, n3_add, n3_mul, n3_sub, n3_subn, n3_lt, n3_le, n3_eq, n3_eqn, n3_neq, n3_and, n3_or, n3_shl, n3_i, n3_cl, Option.bind_some, Option.some.injEq, if_true, if_false, eq_self, true_or, or_true, true_and, and_true, false_or, or_false, not_true_eq_false, not_false_eq_true, Classical.not_not, nar_b0, nar_b1, rz_0, rz_1, rz_i, ite01, Nat.add_zero, Nat.zero_add, Nat.one_mul, mul12, reduceIte, ra_z0, Nat.reduceEqDiff, Nat.reduceLT, Nat.reduceLeDiff, Nat.reduceAdd, Nat.reduceMul, Nat.reduceSub, Nat.reduceDiv, Nat.reduceMod, Bool.false_eq_true, false_and, and_false, reduceCtorEq, Nat.add_sub_cancel]
      have pop := r_setPop N m (κ := κ) (κ1 := κ1) (x := n3 (P.length + 1)) (y := n3 P.length) (o := n3 o) (l := n3 l) (b := n3 (bnd o)) a3 (fun z => by have := (n3_le (by omega) (by omega)).mp z; omega) (by rw [sb, ← b1]; simp (maxSteps := 400000) (disch := omega) only [n3_l, n3_add, n3_mul, n3_sub, n3_subn, n3_lt, n3_le, n3_eq, n3_eqn, n3_neq, n3_and, n3_or, n3_shl, n3_i, n3_cl, ↓hbd_0, ↓hbd_1, ↓hbd_2, hk_ob_0, hk_rd_0, hk_rd_1, hk_rd_2, hk_al_0, hk_al_1, h3r_0, h3r_1, hk_wi_0, hk_wj_0, h3w_0, h3w_1, h3v_0, hk_kI, hk_kJ, hk_kA, hk_kB, A_eq, A_ne, A_row, B_eq, B_ne, B_row, I_eq, I_ne, J_eq, J_ne, Option.bind_some, Option.some.injEq, if_true, if_false, eq_self, true_or, or_true, true_and, and_true, false_or, or_false, not_true_eq_false, not_false_eq_true, Classical.not_not, nar_b0, nar_b1, rz_0, rz_1, rz_i, ite01, Nat.add_zero, Nat.zero_add, Nat.one_mul, mul12, reduceIte, ra_z0, Nat.reduceEqDiff, Nat.reduceLT, Nat.reduceLeDiff, Nat.reduceAdd, Nat.reduceMul, Nat.reduceSub, Nat.reduceDiv, Nat.reduceMod, Bool.false_eq_true, false_and, and_false, reduceCtorEq]) bi (fun z => c ((n3_lt (by omega) (by omega)).mp z)) (by rw [sb]; exact wr) i23 (by rw [← r78]; simp (maxSteps := 400000) (disch := omega) only [n3_l, n3_add, n3_mul, n3_sub, n3_subn, n3_lt, n3_le, n3_eq, n3_eqn, n3_neq, n3_and, n3_or, n3_shl, n3_i, n3_cl, ↓hbd_0, ↓hbd_1, ↓hbd_2, hk_ob_0, hk_rd_0, hk_rd_1, hk_rd_2, hk_al_0, hk_al_1, h3r_0, h3r_1, hk_wi_0, hk_wj_0, h3w_0, h3w_1, h3v_0, hk_kI, hk_kJ, hk_kA, hk_kB, A_eq, A_ne, A_row, B_eq, B_ne, B_row, I_eq, I_ne, J_eq, J_ne, Option.bind_some, Option.some.injEq, if_true, if_false, eq_self, true_or, or_true, true_and, and_true, false_or, or_false, not_true_eq_false, not_false_eq_true, Classical.not_not, nar_b0, nar_b1, rz_0, rz_1, rz_i, ite01, Nat.add_zero, Nat.zero_add, Nat.one_mul, mul12, reduceIte, ra_z0, Nat.reduceEqDiff, Nat.reduceLT, Nat.reduceLeDiff, Nat.reduceAdd, Nat.reduceMul, Nat.reduceSub, Nat.reduceDiv, Nat.reduceMod, Bool.false_eq_true, false_and, and_false, reduceCtorEq])
      by_cases c2 : o = 28 ∨ o = 29
      · rw [if_pos c2]
        obtain ⟨κ2, e2⟩ : ∃ κ2, κ2 = hk_wA κ1 77 a (n3 f) := ⟨_, rfl⟩
        have s2 : samJ [76, 77] [(69, 17), (69, 23)] κ1 κ2 := by rw [e2]; exact ⟨(same.refl _ _ _).wA (by decide), rfl⟩
        have c2' : rC κ2 f O (up9 G a f) P := by
          obtain ⟨d1, d2, d3, d4, d5⟩ := c1
          refine ⟨by rw [e2]; exact d1, fun i hi => ?_, by rw [e2]; exact d3, d4.same (by rw [e2]; exact A_row (by decide)) (by rw [e2]; exact A_row (by decide)), d5⟩
          rw [e2, A_row (by decide)]
          refine ⟨(d2 i hi).1, ?_⟩
          unfold up9
          by_cases e : i = a
          · rw [if_pos e, A_eq e]
          · rw [if_neg e, A_ne (Or.inr e)]
            exact (d2 i hi).2
        obtain ⟨κ3, e3, s3, c3, l3⟩ := ih m κ2 f O (up9 G a f) (by omega) c2'
        have w2 : ra_aW (hp κ1) 0 77 (n3 a) (n3 f) = some (hp κ2) := by
          rw [e2]
          simp (maxSteps := 400000) (disch := omega) only [n3_l, n3_add, n3_mul, n3_sub, n3_subn, n3_lt, n3_le, n3_eq, n3_eqn, n3_neq, n3_and, n3_or, n3_shl, n3_i, n3_cl, ↓hbd_0, ↓hbd_1, ↓hbd_2, hk_ob_0, hk_rd_0, hk_rd_1, hk_rd_2, hk_al_0, hk_al_1, h3r_0, h3r_1, hk_wi_0, hk_wj_0, h3w_0, h3w_1, h3v_0, hk_kI, hk_kJ, hk_kA, hk_kB, A_eq, A_ne, A_row, B_eq, B_ne, B_row, I_eq, I_ne, J_eq, J_ne, Option.bind_some, Option.some.injEq, if_true, if_false, eq_self, true_or, or_true, true_and, and_true, false_or, or_false, not_true_eq_false, not_false_eq_true, Classical.not_not, nar_b0, nar_b1, rz_0, rz_1, rz_i, ite01, Nat.add_zero, Nat.zero_add, Nat.one_mul, mul12, reduceIte, ra_z0, Nat.reduceEqDiff, Nat.reduceLT, Nat.reduceLeDiff, Nat.reduceAdd, Nat.reduceMul, Nat.reduceSub, Nat.reduceDiv, Nat.reduceMod, Bool.false_eq_true, false_and, and_false, reduceCtorEq]
        have n63 : nX12_settle_63 N (nX12_settle_0 N m) 69 (n3 l) (hp κ1) = some (hp κ3) := by
          rw [← e3]
          simp (maxSteps := 400000) (disch := omega) only [n3_l, n3_add, n3_mul, n3_sub, n3_subn, n3_lt, n3_le, n3_eq, n3_eqn, n3_neq, n3_and, n3_or, n3_shl, n3_i, n3_cl, ↓hbd_0, ↓hbd_1, ↓hbd_2, hk_ob_0, hk_rd_0, hk_rd_1, hk_rd_2, hk_al_0, hk_al_1, h3r_0, h3r_1, hk_wi_0, hk_wj_0, h3w_0, h3w_1, h3v_0, hk_kI, hk_kJ, hk_kA, hk_kB, A_eq, A_ne, A_row, B_eq, B_ne, B_row, I_eq, I_ne, J_eq, J_ne, Option.bind_some, Option.some.injEq, if_true, if_false, eq_self, true_or, or_true, true_and, and_true, false_or, or_false, not_true_eq_false, not_false_eq_true, Classical.not_not, nar_b0, nar_b1, rz_0, rz_1, rz_i, ite01, Nat.add_zero, Nat.zero_add, Nat.one_mul, mul12, reduceIte, ra_z0, Nat.reduceEqDiff, Nat.reduceLT, Nat.reduceLeDiff, Nat.reduceAdd, Nat.reduceMul, Nat.reduceSub, Nat.reduceDiv, Nat.reduceMod, Bool.false_eq_true, false_and, and_false, reduceCtorEq, nX12_settle_63, i23, r79, i17, w2]
        refine ⟨κ3, ?_, (s1.weak' (by decide) (by decide)).trans' (s2.trans' s3), c3, by omega⟩
        rw [pop]
        rcases c2 with c28 | c29
        · rw [if_pos (by rw [c28])]
          exact n63
        · rw [if_neg (fun z => by have := (n3_eq (by omega) (by omega)).mp z; omega), if_pos (by rw [c29])]
          exact n63
      · rw [if_neg c2]
        have c28 : ¬ o = 28 := fun z => c2 (Or.inl z)
        have c29 : ¬ o = 29 := fun z => c2 (Or.inr z)
        obtain ⟨κ2, e2, s2, c2'⟩ := rC_emit N κ1 (o := o) (g := 0) c1 (by omega)
        obtain ⟨κ3, e3, s3, c3, l3⟩ := ih m κ2 (f + 1) _ _ (by omega) c2'
        refine ⟨κ3, ?_, (s1.weak' (by decide) (by decide)).trans' ((s2.weak' (by decide) (by decide)).trans' s3), c3, by omega⟩
        rw [pop, if_neg (fun z => by have := (n3_eq (by omega) (by omega)).mp z; omega), if_neg (fun z => by have := (n3_eq (by omega) (by omega)).mp z; omega), e2]
        exact e3
section
variable (N : Nat) (κ : hk_T)
theorem rP0_settle {B : Nat → Nat} {n j k b f l : Nat} {O G : Nat → Nat} {P : List (Nat × Nat)} (h : rP0 κ B n j k b f O G P) (hl : 1 ≤ l ∧ l ≤ 6) (hN : 1000 < N) : ∃ κ', fX12_settle N 69 (n3 l) (hp κ) = some (hp κ') ∧ rSg κ κ' ∧ rP0 κ' B n j k b (stl l P f O G).1 (stl l P f O G).2.1 (stl l P f O G).2.2.1 (stl l P f O G).2.2.2 ∧ (stl l P f O G).1 + (stl l P f O G).2.2.2.length ≤ f + P.length := by
  obtain ⟨κ', e, s, c, l1⟩ := rC_settle N hl P N κ f O G (by have := h.2.2.2.2.2.1.2.2.2.2; omega) h.2.2.2.2.2.1
  refine ⟨κ', ?_, s.1.weak (by decide) (by decide), h.cd (s.weak' (by decide) (by decide)) c, l1⟩
  unfold fX12_settle
  simp (maxSteps := 400000) (disch := omega) only [n3_l, n3_add, n3_mul, n3_sub, n3_subn, n3_lt, n3_le, n3_eq, n3_eqn, n3_neq, n3_and, n3_or, n3_shl, n3_i, n3_cl, ↓hbd_0, ↓hbd_1, ↓hbd_2, hk_ob_0, hk_rd_0, hk_rd_1, hk_rd_2, hk_al_0, hk_al_1, h3r_0, h3r_1, hk_wi_0, hk_wj_0, h3w_0, h3w_1, h3v_0, hk_kI, hk_kJ, hk_kA, hk_kB, A_eq, A_ne, A_row, B_eq, B_ne, B_row, I_eq, I_ne, J_eq, J_ne, Option.bind_some, Option.some.injEq, if_true, if_false, eq_self, true_or, or_true, true_and, and_true, false_or, or_false, not_true_eq_false, not_false_eq_true, Classical.not_not, nar_b0, nar_b1, rz_0, rz_1, rz_i, ite01, Nat.add_zero, Nat.zero_add, Nat.one_mul, mul12, reduceIte, ra_z0, Nat.reduceEqDiff, Nat.reduceLT, Nat.reduceLeDiff, Nat.reduceAdd, Nat.reduceMul, Nat.reduceSub, Nat.reduceDiv, Nat.reduceMod, Bool.false_eq_true, false_and, and_false, reduceCtorEq]
  exact e
theorem rP0_push {B : Nat → Nat} {n j k b f o g : Nat} {O G : Nat → Nat} {P : List (Nat × Nat)} (h : rP0 κ B n j k b f O G P) (hf : f + P.length < 400) (ho : 20 ≤ o ∧ o ≤ 31) (hg : g < 400) : ∃ κ', fX12_push N 69 (n3 o) (n3 g) (hp κ) = some (hp κ') ∧ rSg κ κ' ∧ rP0 κ' B n j k b f O G ((o, g) :: P) := by
  obtain ⟨κ', e, s, c⟩ := rC_push N κ h.2.2.2.2.2.1 hf ho hg
  exact ⟨κ', e, s.1.weak (by decide) (by decide), h.cd (s.weak' (by decide) (by decide)) c⟩
theorem rP0_emit {B : Nat → Nat} {n j k b f o g : Nat} {O G : Nat → Nat} {P : List (Nat × Nat)} (h : rP0 κ B n j k b f O G P) (hf : f + P.length < 400) : ∃ κ', fX12_emit N 69 (n3 o) (n3 g) (hp κ) = some (hp κ') ∧ rSg κ κ' ∧ rP0 κ' B n j k b (f + 1) (up9 O f o) (up9 G f g) P := by
  obtain ⟨κ', e, s, c⟩ := rC_emit N κ h.2.2.2.2.2.1 hf
  exact ⟨κ', e, s.1.weak (by decide) (by decide), h.cd (s.weak' (by decide) (by decide)) c⟩
theorem rP0_go {B : Nat → Nat} {n j k b f : Nat} {O G : Nat → Nat} {P : List (Nat × Nat)} (h : rP0 κ B n j k b f O G P) (hN : 1000 < N) : ∃ κ', fX12_goOn N 69 (hp κ) = some (hp κ') ∧ rSg κ κ' ∧ rP0 κ' B n (nxt B n j) k b f O G P := by
  obtain ⟨κ', e, s, t⟩ := r_goP N κ h.1 h.2.1 hN
  exact ⟨κ', e, s.weak (by decide) (by decide), h.go s t⟩
theorem rP0_must {B : Nat → Nat} {n j k b f : Nat} {O G : Nat → Nat} {P : List (Nat × Nat)} (h : rP0 κ B n j k b f O G P) (hN : 1000 < N) : ∃ κ', fX12_must N 69 (n3 1) (hp κ) = some (hp κ') ∧ rSg κ κ' ∧ rP0 κ' B n (nxt B n j) k b f O G P := by
  obtain ⟨κ', e, s, t⟩ := r_mustT N κ h.1 h.2.1 h.2.2.1 hN
  exact ⟨κ', e, s.weak (by decide) (by decide), h.go s t⟩
theorem rP0_bad {B : Nat → Nat} {n j k b f : Nat} {O G : Nat → Nat} {P : List (Nat × Nat)} (h : rP0 κ B n j k b f O G P) : ∃ κ', fX12_must N 69 (n3 0) (hp κ) = some (hp κ') ∧ rSb κ κ' ∧ hk_I κ' 69 14 = n3 1 ∧ hk_I κ' 69 13 = n3 j ∧ rC κ' f O G P := by
  have s : same [] [(69, 13), (69, 14)] κ (hk_wI (hk_wI κ 69 14 (n3 1)) 69 13 (n3 j)) := ((same.refl _ _ _).wI (by decide)).wI (by decide)
  exact ⟨_, r_mustF N κ h.2.1.2.1 h.2.2.1, s.weak (by decide) (by decide), by rw [I_ne (by decide), I_eq], I_eq, h.2.2.2.2.2.1.same s (by decide) (by decide) (by decide) (by decide) (by decide) (by decide)⟩
theorem rP0_open {B : Nat → Nat} {n j k b b' f : Nat} {O G : Nat → Nat} {P : List (Nat × Nat)} (h : rP0 κ B n j k b f O G P) : rSg κ (hk_wI κ 69 24 (n3 b')) ∧ rP0 (hk_wI κ 69 24 (n3 b')) B n j k b' f O G P := by
  have s : samJ [] [(69, 24)] κ (hk_wI κ 69 24 (n3 b')) := ⟨(same.refl _ _ _).wI (by decide), rfl⟩
  obtain ⟨a1, a2, a3, a4, a5, a6, a7, a8⟩ := h
  exact ⟨s.1.weak (by decide) (by decide), a1.same s.1 (by decide) (by decide), a2.same s (by decide) (by decide) (by decide), by rw [s.1.2.2.1 69 14 (by decide)]; exact a3, by rw [s.1.2.2.1 69 20 (by decide)]; exact a4, a5, a6.same s.1 (by decide) (by decide) (by decide) (by decide) (by decide) (by decide), I_eq, a8.same s.1 (by decide) (by decide)⟩
theorem rP0_leaf {B : Nat → Nat} {n j k b f : Nat} {O G : Nat → Nat} {P : List (Nat × Nat)} (h : rP0 κ B n j k b f O G P) (hk : k < 50) : rSg κ (hk_wI κ 69 20 (n3 (k + 1))) ∧ rP0 (hk_wI κ 69 20 (n3 (k + 1))) B n j (k + 1) b f O G P := by
  have s : samJ [] [(69, 20)] κ (hk_wI κ 69 20 (n3 (k + 1))) := ⟨(same.refl _ _ _).wI (by decide), rfl⟩
  obtain ⟨a1, a2, a3, a4, a5, a6, a7, a8⟩ := h
  exact ⟨s.1.weak (by decide) (by decide), a1.same s.1 (by decide) (by decide), a2.same s (by decide) (by decide) (by decide), by rw [s.1.2.2.1 69 14 (by decide)]; exact a3, I_eq, by omega, a6.same s.1 (by decide) (by decide) (by decide) (by decide) (by decide) (by decide), by rw [s.1.2.2.1 69 24 (by decide)]; exact a7, a8.same s.1 (by decide) (by decide)⟩
theorem rP0_pop {B : Nat → Nat} {n j k b f o a : Nat} {O G : Nat → Nat} {P : List (Nat × Nat)} (h : rP0 κ B n j k b f O G ((o, a) :: P)) : rSg κ (hk_wI κ 69 23 (n3 P.length)) ∧ rP0 (hk_wI κ 69 23 (n3 P.length)) B n j k b f O G P := by
  obtain ⟨s, c⟩ := rC_pop κ h.2.2.2.2.2.1
  exact ⟨s.1.weak (by decide) (by decide), h.cd (s.weak' (by decide) (by decide)) c⟩
end
