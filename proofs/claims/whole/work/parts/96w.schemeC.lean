/-! the class's reader: a new scheme -/
theorem d_fW (κ : hk_T) {k ci j : Nat} {l : List Value} {v : Value} (hk : 101 ≤ k) (h : hk_D κ k = .inr (ci, l)) (hj : j < l.length) : ra_fW (hp κ) ci k j v = some (hp (hk_wD κ k (.inr (ci, l.set j v)))) := by
  unfold ra_fW
  rw [d_at κ hk, h]
  dsimp only
  rw [if_pos rfl, if_pos hj]
  congr 1
  refine hk_wr rfl ?_ (fun q hq => hk_c_cg (fun j c => rfl) (fun t n => rfl) ?_)
  · show (hp (hk_wD κ k _)).1 k = _
    rw [d_at _ hk]
    exact D_eq κ
  · exact D_ne κ hq
theorem c_copy (N : Nat) (κ : hk_T) {r l a : Nat} (hr : ∀ κ : hk_T, (hp κ).1 r = .inl (0, l, .inl (hk_A κ r))) (hl : l ≤ 400) (ha : a ≤ l) (hn : 101 ≤ hk_n κ) : ∃ g, fJ7_copyOf_59c91 N r (n3 a) (hp κ) = some (hk_n κ, hp (hk_new κ (dC 0 a g) a)) ∧ ∀ i, i < a → g i = hk_A κ r i := by
  have al : ∀ κ, ra_aL (hp κ) r = some (n3 l) := fun κ => by
    unfold ra_aL
    rw [hr]
    rfl
  by_cases c : a = l
  · subst c
    refine ⟨hk_A κ r, ?_, fun _ _ => rfl⟩
    unfold fJ7_copyOf_59c91 nJ7_copyOf_59c91_0
    rw [al κ, Option.bind_some, if_pos rfl]
    unfold nJ7_copyOf_59c91_6
    rw [hr κ]
    show some ((hp κ).2.1, ra_mk (hp κ) _ a) = _
    rw [hk_mk_new hn]
    rfl
  · have ne : ¬ n3 a = n3 l := fun z => c ((n3_eq (by omega) (by omega)).mp z)
    have m1 : ra_mk (hp κ) (ra_na 0 a) a = hp (hk_new κ (ra_na 0 a) a) := hk_mk_new hn _ _
    have mn : (if n3 a < n3 l then n3 a else n3 l) = n3 a := if_pos ((n3_lt (by omega) (by omega)).mpr (by omega))
    have e2 : (hp (hk_new κ (ra_na 0 a) a)).1 (hk_n κ) = .inl (0, a, .inl (fun _ => 0)) := by
      rw [d_at _ hn, D_new]
      rfl
    have b0 : ¬ (n3 a < 0 ∨ 50000000 < a) := by
      have : ¬ n3 a < n3 0 := fun z => by have := (n3_lt (by omega) (by omega)).mp z; omega
      intro z
      rcases z with z | z
      · exact this z
      · omega
    refine ⟨va_cpy (hk_A κ r) (fun _ => 0) 0 0 a, ?_, fun i hi => ?_⟩
    · unfold fJ7_copyOf_59c91 nJ7_copyOf_59c91_0
      rw [al κ, Option.bind_some, if_neg ne, n3_cl (by omega), if_neg b0, m1]
      show (ra_aL (hp (hk_new κ (ra_na 0 a) a)) r).bind _ = _
      rw [al, Option.bind_some, mn]
      have e3 : ra_cp (hp (hk_new κ (ra_na 0 a) a)) r 0 (hk_n κ) 0 (n3 a) = some (hp (hk_new κ (dC 0 a (va_cpy (hk_A κ r) (fun _ => 0) 0 0 a)) a)) := by
        unfold ra_cp
        rw [hr, e2]
        show (if (0 : Int32) < 0 ∨ (0 : Int32) < 0 ∨ n3 a < 0 ∨ l < (0 : Int32).toNatClampNeg + (n3 a).toNatClampNeg ∨ a < (0 : Int32).toNatClampNeg + (n3 a).toNatClampNeg then none else some ((ra_up (hp (hk_new κ (ra_na 0 a) a)).1 (hk_n κ) (.inl (0, a, .inl (va_cpy (hk_A κ r) (fun _ => 0) (0 : Int32).toNatClampNeg (0 : Int32).toNatClampNeg (n3 a).toNatClampNeg))), (hp (hk_new κ (ra_na 0 a) a)).2) : ra_H)) = _
        rw [n3_cl (by omega), show (0 : Int32).toNatClampNeg = 0 from rfl, if_neg]
        · congr 1
          refine hk_wr rfl ?_ (fun q hq => hk_c_cg (fun j c => rfl) (fun t n => rfl) ?_)
          · show (hp (hk_new κ _ a)).1 (hk_n κ) = _
            rw [d_at _ hn, D_new]
            rfl
          · show hk_D (hk_new κ _ a) q = hk_D (hk_new κ _ a) q
            rw [D_old κ hq, D_old κ hq]
        · intro z
          have z0 : ¬ (0 : Int32) < 0 := by decide
          rcases z with z | z | z | z | z
          · exact z0 z
          · exact z0 z
          · exact b0 (Or.inl z)
          · omega
          · omega
      show (ra_cp (hp (hk_new κ (ra_na 0 a) a)) r 0 (hk_n κ) 0 (n3 a)).bind _ = _
      rw [e3]
      rfl
    · unfold va_cpy
      rw [if_pos ⟨Nat.zero_le _, by omega⟩]
      congr 1
      omega
/-- all the same, but rows ks, fields fs, and what was made since -/
def sameN (ks : List Nat) (fs : List (Nat × Nat)) (c s : Nat) (κ κ' : hk_T) : Prop := (∀ k, k ∉ ks → hk_A κ' k = hk_A κ k) ∧ (∀ k, k ∉ ks → hk_B κ' k = hk_B κ k) ∧ (∀ k j, (k, j) ∉ fs → hk_I κ' k j = hk_I κ k j) ∧ hk_Q κ' = hk_Q κ ∧ hk_P κ' = hk_P κ ∧ (∀ k, k < hk_n κ → hk_D κ' k = hk_D κ k) ∧ (hk_n κ ≤ hk_n κ' ∧ hk_n κ' ≤ hk_n κ + c) ∧ hk_s κ' ≤ hk_s κ + s ∧ hk_x κ' = hk_x κ
theorem same.toN {ks : List Nat} {fs : List (Nat × Nat)} {c s : Nat} {κ κ' : hk_T} (h : same ks fs κ κ') : sameN ks fs c s κ κ' := by
  obtain ⟨h1, h2, h3, h4, h5, h6, h7, h8, h9⟩ := h
  exact ⟨h1, h2, h3, h4, h5, fun k _ => by rw [h6], by omega, by omega, h9⟩
theorem sameN.trans {ks : List Nat} {fs : List (Nat × Nat)} {c s c' s' : Nat} {κ κ' κ'' : hk_T} (h : sameN ks fs c s κ κ') (g : sameN ks fs c' s' κ' κ'') : sameN ks fs (c + c') (s + s') κ κ'' := by
  obtain ⟨h1, h2, h3, h4, h5, h6, h7, h8, h9⟩ := h
  obtain ⟨g1, g2, g3, g4, g5, g6, g7, g8, g9⟩ := g
  exact ⟨fun k hk => (g1 k hk).trans (h1 k hk), fun k hk => (g2 k hk).trans (h2 k hk), fun k j hk => (g3 k j hk).trans (h3 k j hk), g4.trans h4, g5.trans h5, fun k hk => (g6 k (by omega)).trans (h6 k hk), by omega, by omega, g9.trans h9⟩
theorem sameN.weak {ks ks' : List Nat} {fs fs' : List (Nat × Nat)} {c s c' s' : Nat} {κ κ' : hk_T} (h : sameN ks fs c s κ κ') (hk : ∀ k ∈ ks, k ∈ ks') (hf : ∀ q ∈ fs, q ∈ fs') (hc : c ≤ c') (hs : s ≤ s') : sameN ks' fs' c' s' κ κ' := by
  obtain ⟨h1, h2, h3, h4, h5, h6, h7, h8, h9⟩ := h
  exact ⟨fun k n => h1 k (fun z => n (hk k z)), fun k n => h2 k (fun z => n (hk k z)), fun k j n => h3 k j (fun z => n (hf _ z)), h4, h5, h6, by omega, by omega, h9⟩
section
variable (N : Nat) (κ : hk_T)
theorem c_newScheme {f i : Nat} (h6 : hk_I κ 16 6 = n3 f) (hf : f ≤ 400) (h7 : hk_I κ 16 7 = n3 i) (hi : i ≤ 12) (hn : 101 ≤ hk_n κ) : ∃ κ' g0 g1 g2, fX8_newScheme N 16 (hp κ) = some (hk_n κ, hp κ') ∧ (∀ x, x < f → g0 x = hk_A κ 18 x) ∧ (∀ x, x < i → g1 x = hk_A κ 19 x) ∧ (∀ x, x < 2 * i → g2 x = hk_A κ 20 x) ∧ g2 (2 * i) = n3 f ∧ hk_D κ' (hk_n κ) = .inr (4, [.ref (hk_n κ + 1), .ref (hk_n κ + 2), .ref (hk_n κ + 3)]) ∧ hk_D κ' (hk_n κ + 1) = dC 0 f g0 ∧ hk_D κ' (hk_n κ + 2) = dC 0 i g1 ∧ hk_D κ' (hk_n κ + 3) = dC 0 (2 * i + 1) g2 ∧ hk_n κ' = hk_n κ + 4 ∧ sameN [20] [] 4 440 κ κ' := by
  obtain ⟨κ0, e0⟩ : ∃ κ0, κ0 = hk_wA κ 20 (2 * i) (n3 f) := ⟨_, rfl⟩
  have s0 : same [20] [] κ κ0 := by rw [e0]; exact (same.refl _ _ _).wA (by decide)
  have n0 : hk_n κ0 = hk_n κ := s0.2.2.2.2.2.2.1
  obtain ⟨κ1, e1⟩ : ∃ κ1, κ1 = hk_new κ0 (.inr (4, ra_df 4)) 3 := ⟨_, rfl⟩
  have m1 : ra_mk (hp κ0) (.inr (4, ra_df 4)) 3 = hp κ1 := by rw [e1]; exact hk_mk_new (by show 101 ≤ hk_n κ0; omega) _ _
  have n1 : hk_n κ1 = hk_n κ + 1 := by rw [e1]; show hk_n κ0 + 1 = _; omega
  have i1 : ∀ k j, hk_I κ1 k j = hk_I κ k j := fun k j => by rw [e1]; show hk_I κ0 k j = _; exact s0.2.2.1 k j (by simp)
  have a1 : ∀ k, hk_A κ1 k = hk_A κ0 k := fun k => by rw [e1]; rfl
  obtain ⟨g0, c0, hg0⟩ := c_copy N κ1 (r := 18) (l := 400) (a := f) (fun _ => rfl) (by omega) hf (by omega)
  obtain ⟨κ2, e2⟩ : ∃ κ2, κ2 = hk_new κ1 (dC 0 f g0) f := ⟨_, rfl⟩
  rw [← e2] at c0
  have n2 : hk_n κ2 = hk_n κ + 2 := by rw [e2]; show hk_n κ1 + 1 = _; omega
  have i2 : ∀ k j, hk_I κ2 k j = hk_I κ k j := fun k j => by rw [e2]; show hk_I κ1 k j = _; exact i1 k j
  have a2 : ∀ k, hk_A κ2 k = hk_A κ0 k := fun k => by rw [e2]; exact a1 k
  obtain ⟨g1, c1, hg1⟩ := c_copy N κ2 (r := 19) (l := 12) (a := i) (fun _ => rfl) (by omega) hi (by omega)
  obtain ⟨κ3, e3⟩ : ∃ κ3, κ3 = hk_new κ2 (dC 0 i g1) i := ⟨_, rfl⟩
  rw [← e3] at c1
  have n3' : hk_n κ3 = hk_n κ + 3 := by rw [e3]; show hk_n κ2 + 1 = _; omega
  have i3 : ∀ k j, hk_I κ3 k j = hk_I κ k j := fun k j => by rw [e3]; show hk_I κ2 k j = _; exact i2 k j
  have a3 : ∀ k, hk_A κ3 k = hk_A κ0 k := fun k => by rw [e3]; exact a2 k
  obtain ⟨g2, c2, hg2⟩ := c_copy N κ3 (r := 20) (l := 25) (a := 2 * i + 1) (fun _ => rfl) (by omega) (by omega) (by omega)
  obtain ⟨κ4, e4⟩ : ∃ κ4, κ4 = hk_new κ3 (dC 0 (2 * i + 1) g2) (2 * i + 1) := ⟨_, rfl⟩
  rw [← e4] at c2
  have dd : ∀ k, hk_D κ4 k = if k = hk_n κ + 3 then dC 0 (2 * i + 1) g2 else if k = hk_n κ + 2 then dC 0 i g1 else if k = hk_n κ + 1 then dC 0 f g0 else if k = hk_n κ then .inr (4, ra_df 4) else hk_D κ k := by
    intro k
    rw [e4]
    show (if k = hk_n κ3 then _ else hk_D κ3 k) = _
    rw [n3', e3]
    show (if _ then _ else if k = hk_n κ2 then _ else hk_D κ2 k) = _
    rw [n2, e2]
    show (if _ then _ else if _ then _ else if k = hk_n κ1 then _ else hk_D κ1 k) = _
    rw [n1, e1]
    show (if _ then _ else if _ then _ else if _ then _ else if k = hk_n κ0 then _ else hk_D κ0 k) = _
    rw [n0, s0.2.2.2.2.2.1]
  have q4 : hk_D κ4 (hk_n κ) = .inr (4, [.null, .null, .null]) := by
    rw [dd, if_neg (by omega), if_neg (by omega), if_neg (by omega), if_pos rfl]
    rfl
  have w1 := d_fW κ4 (j := 0) (v := .ref (hk_n κ + 1)) hn q4 (by decide)
  obtain ⟨κ5, e5⟩ : ∃ κ5, κ5 = hk_wD κ4 (hk_n κ) (.inr (4, [Value.null, .null, .null].set 0 (.ref (hk_n κ + 1)))) := ⟨_, rfl⟩
  rw [← e5] at w1
  have q5 : hk_D κ5 (hk_n κ) = .inr (4, [.ref (hk_n κ + 1), .null, .null]) := by rw [e5, D_eq]; rfl
  have w2 := d_fW κ5 (j := 1) (v := .ref (hk_n κ + 2)) hn q5 (by show 1 < 3; omega)
  obtain ⟨κ6, e6⟩ : ∃ κ6, κ6 = hk_wD κ5 (hk_n κ) (.inr (4, [Value.ref (hk_n κ + 1), .null, .null].set 1 (.ref (hk_n κ + 2)))) := ⟨_, rfl⟩
  rw [← e6] at w2
  have q6 : hk_D κ6 (hk_n κ) = .inr (4, [.ref (hk_n κ + 1), .ref (hk_n κ + 2), .null]) := by rw [e6, D_eq]; rfl
  have w3 := d_fW κ6 (j := 2) (v := .ref (hk_n κ + 3)) hn q6 (by show 2 < 3; omega)
  obtain ⟨κ7, e7⟩ : ∃ κ7, κ7 = hk_wD κ6 (hk_n κ) (.inr (4, [Value.ref (hk_n κ + 1), .ref (hk_n κ + 2), .null].set 2 (.ref (hk_n κ + 3)))) := ⟨_, rfl⟩
  rw [← e7] at w3
  have q7 : hk_D κ7 (hk_n κ) = .inr (4, [.ref (hk_n κ + 1), .ref (hk_n κ + 2), .ref (hk_n κ + 3)]) := by rw [e7, D_eq]; rfl
  have o7 : ∀ k, k ≠ hk_n κ → hk_D κ7 k = hk_D κ4 k := fun k hk => by rw [e7, D_ne _ hk, e6, D_ne _ hk, e5, D_ne _ hk]
  have r7 : hk_A κ7 = hk_A κ4 ∧ hk_B κ7 = hk_B κ4 ∧ hk_I κ7 = hk_I κ4 ∧ hk_Q κ7 = hk_Q κ4 ∧ hk_P κ7 = hk_P κ4 ∧ hk_n κ7 = hk_n κ4 ∧ hk_s κ7 = hk_s κ4 ∧ hk_x κ7 = hk_x κ4 := by
    rw [e7, e6, e5]
    exact ⟨rfl, rfl, rfl, rfl, rfl, rfl, rfl, rfl⟩
  have r4 : hk_A κ4 = hk_A κ0 ∧ hk_B κ4 = hk_B κ0 ∧ hk_I κ4 = hk_I κ0 ∧ hk_Q κ4 = hk_Q κ0 ∧ hk_P κ4 = hk_P κ0 ∧ hk_n κ4 = hk_n κ0 + 4 ∧ hk_s κ4 = hk_s κ0 + 3 + f + i + (2 * i + 1) ∧ hk_x κ4 = hk_x κ0 := by
    rw [e4, e3, e2, e1]
    exact ⟨rfl, rfl, rfl, rfl, rfl, rfl, rfl, rfl⟩
  refine ⟨κ7, g0, g1, g2, ?_, fun x hx => ?_, fun x hx => ?_, fun x hx => ?_, ?_, q7, ?_, ?_, ?_, ?_, ?_⟩
  · have hpn : ∀ κ, (hp κ).2.1 = hk_n κ := fun κ => rfl
    have wr : ra_aW (hp κ) 0 20 (n3 (2 * i)) (n3 f) = some (hp κ0) := by
      rw [e0]
      simp (maxSteps := 400000) (disch := omega) only [n3_l, n3_add, n3_mul, n3_sub, n3_subn, n3_lt, n3_le, n3_eq, n3_eqn, n3_neq, n3_and, n3_or, n3_shl, n3_i, n3_cl, ↓hbd_0, ↓hbd_1, ↓hbd_2, hk_ob_0, hk_rd_0, hk_rd_1, hk_rd_2, hk_al_0, hk_al_1, h3r_0, h3r_1, hk_wi_0, hk_wj_0, h3w_0, h3w_1, h3v_0, hk_kI, hk_kJ, hk_kA, hk_kB, A_eq, A_ne, A_row, B_eq, B_ne, B_row, I_eq, I_ne, J_eq, J_ne, Option.bind_some, Option.some.injEq, if_true, if_false, eq_self, true_or, or_true, true_and, and_true, false_or, or_false, not_true_eq_false, not_false_eq_true, Classical.not_not, nar_b0, nar_b1, rz_0, rz_1, rz_i, ite01, Nat.add_zero, Nat.zero_add, Nat.one_mul, mul12, reduceIte, ra_z0, Nat.reduceEqDiff, Nat.reduceLT, Nat.reduceLeDiff, Nat.reduceAdd, Nat.reduceMul, Nat.reduceSub, Nat.reduceDiv, Nat.reduceMod, Bool.false_eq_true, false_and, and_false, reduceCtorEq]
    have ini : fX4_init N (hk_n κ) (hk_n κ + 1) (hk_n κ + 2) (hk_n κ + 3) (hp κ4) = some (hp κ7) := by
      unfold fX4_init nX4_init_0
      rw [w1, Option.bind_some, w2, Option.bind_some, w3, Option.bind_some]
    rw [n1] at c0
    rw [n2] at c1
    rw [n3'] at c2
    unfold fX8_newScheme nX8_newScheme_0
    simp (maxSteps := 400000) (disch := omega) only [n3_l, n3_add, n3_mul, n3_sub, n3_subn, n3_lt, n3_le, n3_eq, n3_eqn, n3_neq, n3_and, n3_or, n3_shl, n3_i, n3_cl, ↓hbd_0, ↓hbd_1, ↓hbd_2, hk_ob_0, hk_rd_0, hk_rd_1, hk_rd_2, hk_al_0, hk_al_1, h3r_0, h3r_1, hk_wi_0, hk_wj_0, h3w_0, h3w_1, h3v_0, hk_kI, hk_kJ, hk_kA, hk_kB, A_eq, A_ne, A_row, B_eq, B_ne, B_row, I_eq, I_ne, J_eq, J_ne, Option.bind_some, Option.some.injEq, if_true, if_false, eq_self, true_or, or_true, true_and, and_true, false_or, or_false, not_true_eq_false, not_false_eq_true, Classical.not_not, nar_b0, nar_b1, rz_0, rz_1, rz_i, ite01, Nat.add_zero, Nat.zero_add, Nat.one_mul, mul12, reduceIte, ra_z0, Nat.reduceEqDiff, Nat.reduceLT, Nat.reduceLeDiff, Nat.reduceAdd, Nat.reduceMul, Nat.reduceSub, Nat.reduceDiv, Nat.reduceMod, Bool.false_eq_true, false_and, and_false, reduceCtorEq, h7, h6, wr, m1, i1, c0, i2, c1, i3, c2, hpn, n0, ini]
  · rw [hg0 x hx, a1, e0, A_row (by decide)]
  · rw [hg1 x hx, a2, e0, A_row (by decide)]
  · rw [hg2 x (by omega), a3, e0, A_ne (Or.inr (by omega))]
  · rw [hg2 _ (by omega), a3, e0, A_eq rfl]
  · rw [o7 _ (by omega), dd, if_neg (by omega), if_neg (by omega), if_pos rfl]
  · rw [o7 _ (by omega), dd, if_neg (by omega), if_pos rfl]
  · rw [o7 _ (by omega), dd, if_pos rfl]
  · rw [r7.2.2.2.2.2.1, r4.2.2.2.2.2.1, n0]
  · obtain ⟨x1, x2, x3, x4, x5, x6, x7, x8⟩ := r7
    obtain ⟨y1, y2, y3, y4, y5, y6, y7, y8⟩ := r4
    obtain ⟨z1, z2, z3, z4, z5, z6, z7, z8, z9⟩ := s0
    refine ⟨fun k hk => by rw [x1, y1]; exact z1 k hk, fun k hk => by rw [x2, y2]; exact z2 k hk, fun k j hk => by rw [x3, y3]; exact z3 k j hk, by rw [x4, y4]; exact z4, by rw [x5, y5]; exact z5, fun k hk => ?_, by omega, by omega, by rw [x8, y8]; exact z9⟩
    rw [o7 _ (by omega), dd, if_neg (by omega), if_neg (by omega), if_neg (by omega), if_neg (by omega)]
end
