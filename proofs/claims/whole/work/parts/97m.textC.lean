/-! text: the class -/
theorem hk_aWR {κ : hk_T} {a c L t q : Nat} (ha : ∀ κ : hk_T, (hp κ).1 a = .inl (c, L, .inr (.inr (.inr (.inr (hk_Q κ a)))))) (hc : c = 4 ∨ c = 5) (ht : t < L) (hL : L ≤ 1000) (ho : ra_isOb (hp κ) q (ra_ec c) = true) : ra_aWR (hp κ) a (n3 t) q = some (hp (hk_wQ κ a t (some q))) := by
  unfold ra_aWR
  rw [ha]
  show (if c = 4 ∨ c = 5 then (if ra_isOb (hp κ) q (ra_ec c) = true then (if n3 t < 0 ∨ L ≤ (n3 t).toNatClampNeg then none else some ((ra_up (hp κ).1 a (.inl (c, L, .inr (.inr (.inr (.inr (va_up (hk_Q κ a) (n3 t).toNatClampNeg (some q))))))), (hp κ).2) : ra_H)) else none) else none) = _
  rw [if_pos hc, if_pos ho, if_neg (ix3 ht (by omega)), n3_cl (by omega)]
  congr 1
  have fe : hk_Q (hk_wQ κ a t (some q)) a = va_up (hk_Q κ a) t (some q) := by
    funext i
    show (if a = a ∧ i = t then some q else hk_Q κ a i) = va_up (hk_Q κ a) t (some q) i
    unfold va_up
    by_cases e : i = t
    · rw [if_pos ⟨rfl, e⟩, if_pos e]
    · rw [if_neg (fun z => e z.2), if_neg e]
  refine hk_wr rfl ?_ (fun k hk => hk_c_cg (fun j c => rfl) (fun t' n' => ?_) rfl)
  · show (hp (hk_wQ κ a t (some q))).1 a = _
    rw [ha, fe]
  · have e : (hk_wQ κ a t (some q)).2.2.2.2.1 k = κ.2.2.2.2.1 k := by
      funext i
      show (if k = a ∧ i = _ then _ else _) = _
      rw [if_neg (fun z => hk z.1)]
    unfold hk_ar
    rw [e]
    rfl
theorem hk_aWR6 {κ : hk_T} {t q : Nat} (ht : t < 8) (ho : ra_isOb (hp κ) q 4 = true) : ra_aWR (hp κ) 6 (n3 t) q = some (hp (hk_wQ κ 6 t (some q))) := hk_aWR (c := 4) (L := 8) (fun _ => rfl) (Or.inl rfl) ht (by omega) ho
theorem hk_aWR15 {κ : hk_T} {t q : Nat} (ht : t < 2) (ho : ra_isOb (hp κ) q 2 = true) : ra_aWR (hp κ) 15 (n3 t) q = some (hp (hk_wQ κ 15 t (some q))) := hk_aWR (c := 5) (L := 2) (fun _ => rfl) (Or.inr rfl) ht (by omega) ho
theorem d_isOb {κ : hk_T} {q c : Nat} {D : Nat → ra_C} (hq : 101 ≤ q) (h : ra_isOb ((D, 0, 0, fun _ => (0, fun _ => 0)) : ra_H) q c = true) (e : hk_D κ q = D q) : ra_isOb (hp κ) q c = true := by
  unfold ra_isOb at h ⊢
  rw [d_at κ hq, e]
  exact h
abbrev cFt : List (Nat × Nat) := [(0, 10), (0, 12), (16, 1), (16, 2), (16, 6), (16, 7), (16, 8), (16, 9), (16, 10), (16, 11)]
abbrev cFu : List (Nat × Nat) := [(0, 10), (0, 12), (1, 14), (23, 9), (23, 10), (16, 1), (16, 2), (16, 6), (16, 7), (16, 8), (16, 9), (16, 10), (16, 11)]
def cTxt (κ : hk_T) (t : Nat) (r : Sum Nat (Nat × (Nat → Nat × valT × valT))) (run : Option (Int32 × ra_H)) : Prop := match r with
  | .inl e => ∃ κ', run = some (-n3 6, hp κ') ∧ same [18, 19, 20, 68] cFt κ κ' ∧ hk_I κ' 16 1 = n3 0 ∧ hk_I κ' 0 12 = n3 e ∧ hk_I κ' 0 10 = -n3 6 ∧ ∀ k, hk_A κ' 68 k = if k = 6 then hk_A κ 68 6 + n3 1 else hk_A κ 68 k
  | .inr (nC, c) => ∃ κ', run = some (n3 t, hp κ') ∧ (∀ k, k ∉ [18, 19, 20, 25] → hk_A κ' k = hk_A κ k) ∧ (∀ k, k ∉ [18, 19, 20, 25] → hk_B κ' k = hk_B κ k) ∧ (∀ k j, (k, j) ∉ cFu → hk_I κ' k j = hk_I κ k j) ∧ (∀ k i, hk_Q κ' k i = if k = 6 ∧ i = t then some (hk_n κ) else hk_Q κ k i) ∧ hk_P κ' = hk_P κ ∧ (∀ k, k < hk_n κ → hk_D κ' k = hk_D κ k) ∧ hk_n κ' = hk_n κ + 4 ∧ hk_s κ' ≤ hk_s κ + 440 ∧ hk_x κ' = hk_x κ ∧ cTb (hk_D κ') (hk_n κ) (hk_n κ + 1) (hk_n κ + 2) (hk_n κ + 3) (cTau c nC) ∧ hk_I κ' 16 1 = n3 0 ∧ hk_I κ' 0 12 = -n3 1 ∧ hk_I κ' 0 10 = n3 0 ∧ hk_I κ' 1 14 = n3 (t + 1) ∧ hk_I κ' 23 9 = n3 0 ∧ hk_I κ' 23 10 = n3 0 ∧ (∀ b, b < 40 → hk_A κ' 25 (t * 40 + b) = n3 0) ∧ ∀ i, (∀ b, b < 40 → i ≠ t * 40 + b) → hk_A κ' 25 i = hk_A κ 25 i
section
variable (N : Nat) (κ : hk_T)
theorem c_text {B : Nat → Nat} {n t : Nat} (hT : cTape κ B n) (ht : t < 8) (h14 : hk_I κ 1 14 = n3 t) (hn : 101 ≤ hk_n κ) (hN : 1000 < N) : cTxt κ t (pScheme B n 12 0 (tkS B n 0) 0 (fun _ => (0, vOne, vOne))) (fX11_text N 0 (hp κ)) := by
  have r := c_readScheme N κ hT hN hn
  have l8 : n3 t < (8 : Int32) := (n3_lt (a := t) (b := 8) (by omega) (by omega)).mpr ht
  have f0 : ∀ κ, ra_fR (hp κ) 11 0 0 = some 1 := fun κ => rfl
  have f2 : ∀ κ, ra_fR (hp κ) 11 0 2 = some 16 := fun κ => rfl
  have f4 : ∀ κ, ra_fR (hp κ) 11 0 4 = some 23 := fun κ => rfl
  have f64 : ∀ κ, ra_fR (hp κ) 2 1 4 = some 6 := fun κ => rfl
  have g14 : ra_fI (hp κ) 2 1 14 = some (n3 t) := by rw [← h14]; rfl
  have ob : fX11_text N 0 (hp κ) = nX11_text_0 N 0 (hp κ) := rfl
  rw [ob]
  unfold nX11_text_0
  rw [f0, Option.bind_some, g14, Option.bind_some, if_pos l8, f2, Option.bind_some]
  cases hq : pScheme B n 12 0 (tkS B n 0) 0 (fun _ => (0, vOne, vOne)) with
  | inl e =>
    rw [hq] at r
    obtain ⟨κ1, e1, s1, b1⟩ := r
    obtain ⟨κ2, e2⟩ : ∃ κ2, κ2 = hk_wI κ1 16 1 (n3 0) := ⟨_, rfl⟩
    have w2 : ra_fW (hp κ1) 8 16 1 (.int ((0 : Int32))) = some (hp κ2) := by
      rw [e2]
      simp (maxSteps := 400000) (disch := omega) only [n3_l, n3_add, n3_mul, n3_sub, n3_subn, n3_lt, n3_le, n3_eq, n3_eqn, n3_neq, n3_and, n3_or, n3_shl, n3_i, n3_cl, ↓hbd_0, ↓hbd_1, ↓hbd_2, hk_ob_0, hk_rd_0, hk_rd_1, hk_rd_2, hk_al_0, hk_al_1, h3r_0, h3r_1, hk_wi_0, hk_wj_0, h3w_0, h3w_1, h3v_0, hk_kI, hk_kJ, hk_kA, hk_kB, A_eq, A_ne, A_row, B_eq, B_ne, B_row, I_eq, I_ne, J_eq, J_ne, Option.bind_some, Option.some.injEq, if_true, if_false, eq_self, true_or, or_true, true_and, and_true, false_or, or_false, not_true_eq_false, not_false_eq_true, Classical.not_not, nar_b0, nar_b1, rz_0, rz_1, rz_i, ite01, Nat.add_zero, Nat.zero_add, Nat.one_mul, mul12, reduceIte, ra_z0, Nat.reduceEqDiff, Nat.reduceLT, Nat.reduceLeDiff, Nat.reduceAdd, Nat.reduceMul, Nat.reduceSub, Nat.reduceDiv, Nat.reduceMod, Bool.false_eq_true, false_and, and_false, reduceCtorEq]
    have g2 : ra_fI (hp κ2) 8 16 2 = some (n3 e) := by rw [e2, ← b1]; rfl
    obtain ⟨κ3, e3⟩ : ∃ κ3, κ3 = hk_wI κ2 0 12 (n3 e) := ⟨_, rfl⟩
    have w3 : ra_fW (hp κ2) 11 0 12 (.int (n3 e)) = some (hp κ3) := by
      rw [e3]
      simp (maxSteps := 400000) (disch := omega) only [n3_l, n3_add, n3_mul, n3_sub, n3_subn, n3_lt, n3_le, n3_eq, n3_eqn, n3_neq, n3_and, n3_or, n3_shl, n3_i, n3_cl, ↓hbd_0, ↓hbd_1, ↓hbd_2, hk_ob_0, hk_rd_0, hk_rd_1, hk_rd_2, hk_al_0, hk_al_1, h3r_0, h3r_1, hk_wi_0, hk_wj_0, h3w_0, h3w_1, h3v_0, hk_kI, hk_kJ, hk_kA, hk_kB, A_eq, A_ne, A_row, B_eq, B_ne, B_row, I_eq, I_ne, J_eq, J_ne, Option.bind_some, Option.some.injEq, if_true, if_false, eq_self, true_or, or_true, true_and, and_true, false_or, or_false, not_true_eq_false, not_false_eq_true, Classical.not_not, nar_b0, nar_b1, rz_0, rz_1, rz_i, ite01, Nat.add_zero, Nat.zero_add, Nat.one_mul, mul12, reduceIte, ra_z0, Nat.reduceEqDiff, Nat.reduceLT, Nat.reduceLeDiff, Nat.reduceAdd, Nat.reduceMul, Nat.reduceSub, Nat.reduceDiv, Nat.reduceMod, Bool.false_eq_true, false_and, and_false, reduceCtorEq]
    have rf : fX11_refuse N 0 (-6 : Int32) (hp κ3) = _ := c_refuse N κ3 6 (by omega) (by omega)
    have a68 : hk_A κ3 68 = hk_A κ 68 := by
      rw [e3, e2]
      show hk_A κ1 68 = _
      exact s1.1 68 (by decide)
    have s3 : same [18, 19, 20, 68] cFt κ κ3 := by
      rw [e3, e2]
      exact ((s1.weak (by decide) (by decide)).wI (by decide)).wI (by decide)
    refine ⟨_, ?_, (s3.wI (i := 10) (k := 0) (v := -n3 6) (by decide)).wA (k := 68) (i := 6) (v := hk_A κ3 68 6 + n3 1) (by decide), ?_, ?_, ?_, fun k => ?_⟩
    · rw [e1, Option.bind_some]
      dsimp only
      rw [f2, Option.bind_some, w2, Option.bind_some, f2, Option.bind_some, g2, Option.bind_some, w3, Option.bind_some, rf, Option.bind_some]
      rfl
    · show hk_I (hk_wI κ3 0 10 (-n3 6)) 16 1 = _
      rw [I_ne (by decide), e3, I_ne (by decide), e2, I_eq]
    · show hk_I (hk_wI κ3 0 10 (-n3 6)) 0 12 = _
      rw [I_ne (by decide), e3, I_eq]
    · show hk_I (hk_wI κ3 0 10 (-n3 6)) 0 10 = _
      exact I_eq
    · by_cases c : k = 6
      · rw [if_pos c, A_eq c, a68]
      · rw [if_neg c, A_ne (Or.inr c)]
        show hk_A κ3 68 k = _
        rw [a68]
  | inr tt =>
    obtain ⟨nC, c⟩ := tt
    rw [hq] at r
    obtain ⟨κ1, e1, s1, n1, tb⟩ := r
    obtain ⟨κ2, e2⟩ : ∃ κ2, κ2 = hk_wI (hk_wI κ1 16 1 (n3 0)) 0 12 (-n3 1) := ⟨_, rfl⟩
    have w1 : ra_fW (hp κ1) 8 16 1 (.int ((0 : Int32))) = some (hp (hk_wI κ1 16 1 (n3 0))) := by simp (maxSteps := 400000) (disch := omega) only [n3_l, n3_add, n3_mul, n3_sub, n3_subn, n3_lt, n3_le, n3_eq, n3_eqn, n3_neq, n3_and, n3_or, n3_shl, n3_i, n3_cl, ↓hbd_0, ↓hbd_1, ↓hbd_2, hk_ob_0, hk_rd_0, hk_rd_1, hk_rd_2, hk_al_0, hk_al_1, h3r_0, h3r_1, hk_wi_0, hk_wj_0, h3w_0, h3w_1, h3v_0, hk_kI, hk_kJ, hk_kA, hk_kB, A_eq, A_ne, A_row, B_eq, B_ne, B_row, I_eq, I_ne, J_eq, J_ne, Option.bind_some, Option.some.injEq, if_true, if_false, eq_self, true_or, or_true, true_and, and_true, false_or, or_false, not_true_eq_false, not_false_eq_true, Classical.not_not, nar_b0, nar_b1, rz_0, rz_1, rz_i, ite01, Nat.add_zero, Nat.zero_add, Nat.one_mul, mul12, reduceIte, ra_z0, Nat.reduceEqDiff, Nat.reduceLT, Nat.reduceLeDiff, Nat.reduceAdd, Nat.reduceMul, Nat.reduceSub, Nat.reduceDiv, Nat.reduceMod, Bool.false_eq_true, false_and, and_false, reduceCtorEq]
    have w2 : ra_fW (hp (hk_wI κ1 16 1 (n3 0))) 11 0 12 (.int ((-1 : Int32))) = some (hp κ2) := by
      rw [e2]
      simp (maxSteps := 400000) (disch := omega) only [n3_l, n3_add, n3_mul, n3_sub, n3_subn, n3_lt, n3_le, n3_eq, n3_eqn, n3_neq, n3_and, n3_or, n3_shl, n3_i, n3_cl, ↓hbd_0, ↓hbd_1, ↓hbd_2, hk_ob_0, hk_rd_0, hk_rd_1, hk_rd_2, hk_al_0, hk_al_1, h3r_0, h3r_1, hk_wi_0, hk_wj_0, h3w_0, h3w_1, h3v_0, hk_kI, hk_kJ, hk_kA, hk_kB, A_eq, A_ne, A_row, B_eq, B_ne, B_row, I_eq, I_ne, J_eq, J_ne, Option.bind_some, Option.some.injEq, if_true, if_false, eq_self, true_or, or_true, true_and, and_true, false_or, or_false, not_true_eq_false, not_false_eq_true, Classical.not_not, nar_b0, nar_b1, rz_0, rz_1, rz_i, ite01, Nat.add_zero, Nat.zero_add, Nat.one_mul, mul12, reduceIte, ra_z0, Nat.reduceEqDiff, Nat.reduceLT, Nat.reduceLeDiff, Nat.reduceAdd, Nat.reduceMul, Nat.reduceSub, Nat.reduceDiv, Nat.reduceMod, Bool.false_eq_true, false_and, and_false, reduceCtorEq]
    have i14 : hk_I κ1 1 14 = n3 t := by rw [s1.2.2.1 1 14 (by decide)]; exact h14
    have g2 : ra_fI (hp κ2) 2 1 14 = some (n3 t) := by rw [e2, ← i14]; rfl
    have io : ra_isOb (hp κ2) (hk_n κ) 4 = true := d_isOb tb.1 tb.2.2.2.2.1 (by rw [e2]; rfl)
    have wq := hk_aWR6 (κ := κ2) (t := t) (q := hk_n κ) ht io
    obtain ⟨κ3, e3⟩ : ∃ κ3, κ3 = hk_wQ κ2 6 t (some (hk_n κ)) := ⟨_, rfl⟩
    rw [← e3] at wq
    have g3 : ra_fI (hp κ3) 2 1 14 = some (n3 t) := by rw [e3, e2, ← i14]; rfl
    obtain ⟨κ4, e4⟩ : ∃ κ4, κ4 = hk_wI κ3 1 14 (n3 (t + 1)) := ⟨_, rfl⟩
    have w4 : ra_fW (hp κ3) 2 1 14 (.int (n3 t + (1 : Int32))) = some (hp κ4) := by
      rw [e4]
      simp (maxSteps := 400000) (disch := omega) only [n3_l, n3_add, n3_mul, n3_sub, n3_subn, n3_lt, n3_le, n3_eq, n3_eqn, n3_neq, n3_and, n3_or, n3_shl, n3_i, n3_cl, ↓hbd_0, ↓hbd_1, ↓hbd_2, hk_ob_0, hk_rd_0, hk_rd_1, hk_rd_2, hk_al_0, hk_al_1, h3r_0, h3r_1, hk_wi_0, hk_wj_0, h3w_0, h3w_1, h3v_0, hk_kI, hk_kJ, hk_kA, hk_kB, A_eq, A_ne, A_row, B_eq, B_ne, B_row, I_eq, I_ne, J_eq, J_ne, Option.bind_some, Option.some.injEq, if_true, if_false, eq_self, true_or, or_true, true_and, and_true, false_or, or_false, not_true_eq_false, not_false_eq_true, Classical.not_not, nar_b0, nar_b1, rz_0, rz_1, rz_i, ite01, Nat.add_zero, Nat.zero_add, Nat.one_mul, mul12, reduceIte, ra_z0, Nat.reduceEqDiff, Nat.reduceLT, Nat.reduceLeDiff, Nat.reduceAdd, Nat.reduceMul, Nat.reduceSub, Nat.reduceDiv, Nat.reduceMod, Bool.false_eq_true, false_and, and_false, reduceCtorEq]
    obtain ⟨κ5, e5, s5, c1, c2, c3, c4⟩ := c_forgetScheme N κ4 ht hN
    have ac : fX11_accept N 0 (n3 t) (hp κ5) = some (n3 t, hp (hk_wI κ5 0 10 (n3 0))) := c_accept N κ5 (n3 t)
    have rest : hk_A κ4 = hk_A κ1 ∧ hk_B κ4 = hk_B κ1 ∧ hk_P κ4 = hk_P κ1 ∧ hk_D κ4 = hk_D κ1 ∧ hk_n κ4 = hk_n κ1 ∧ hk_s κ4 = hk_s κ1 ∧ hk_x κ4 = hk_x κ1 ∧ (∀ k i, hk_Q κ4 k i = if k = 6 ∧ i = t then some (hk_n κ) else hk_Q κ1 k i) ∧ ∀ k j, (k, j) ∉ [(16, 1), (0, 12), (1, 14)] → hk_I κ4 k j = hk_I κ1 k j := by
      rw [e4, e3, e2]
      refine ⟨rfl, rfl, rfl, rfl, rfl, rfl, rfl, fun k i => rfl, fun k j hkj => ?_⟩
      simp only [List.mem_cons, Prod.mk.injEq, List.not_mem_nil, or_false, not_or] at hkj
      obtain ⟨z1, z2, z3⟩ := hkj
      have q : ∀ (κ : hk_T) (a b : Nat) (v : Int32), ¬ (k = a ∧ j = b) → hk_I (hk_wI κ a b v) k j = hk_I κ k j := fun κ a b v hz => by
        refine I_ne ?_
        by_cases e : k = a
        · exact Or.inr (fun e2 => hz ⟨e, e2⟩)
        · exact Or.inl e
      rw [q _ _ _ _ z3]
      show hk_I (hk_wI (hk_wI κ1 16 1 (n3 0)) 0 12 (-n3 1)) k j = _
      rw [q _ _ _ _ z2, q _ _ _ _ z1]
    obtain ⟨x1, x2, x3, x4, x5, x6, x7, x8, x9⟩ := rest
    obtain ⟨y1, y2, y3, y4, y5, y6, y7, y8, y9⟩ := s1
    obtain ⟨z1, z2, z3, z4, z5, z6, z7, z8, z9⟩ := s5
    refine ⟨hk_wI κ5 0 10 (n3 0), ?_, fun k hk => ?_, fun k hk => ?_, fun k j hkj => ?_, fun k i => ?_, ?_, fun k hk => ?_, ?_, ?_, ?_, ?_, ?_, ?_, I_eq, ?_, ?_, ?_, c1, fun i hi => ?_⟩
    · rw [e1, Option.bind_some]
      dsimp only
      rw [f2, Option.bind_some, w1, Option.bind_some, w2, Option.bind_some, f0, Option.bind_some, g2, Option.bind_some, Option.bind_some, f64, Option.bind_some, wq, Option.bind_some, f0, Option.bind_some, g3, Option.bind_some, w4, Option.bind_some, f4, Option.bind_some, e5, Option.bind_some, ac, Option.bind_some]
    · show hk_A κ5 k = _
      simp only [List.mem_cons, List.not_mem_nil, or_false, not_or] at hk
      rw [z1 k (by simp; omega), x1, y1 k (by simp; omega)]
    · show hk_B κ5 k = _
      simp only [List.mem_cons, List.not_mem_nil, or_false, not_or] at hk
      rw [z2 k (by simp; omega), x2, y2 k (by simp; omega)]
    · have hn' : (k, j) ≠ (0, 10) := fun z => hkj (by rw [z]; decide)
      have e : hk_I (hk_wI κ5 0 10 (n3 0)) k j = hk_I κ5 k j := by
        refine I_ne ?_
        by_cases e : k = 0
        · exact Or.inr (fun e2 => hn' (by rw [e, e2]))
        · exact Or.inl e
      have sub : ∀ l : List (Nat × Nat), (∀ q ∈ l, q ∈ cFu) → (k, j) ∉ l := fun l hl z => hkj (hl _ z)
      rw [e, z3 k j (sub _ (by decide)), x9 k j (sub _ (by decide)), y3 k j (sub _ (by decide))]
    · show hk_Q κ5 k i = _
      rw [z4, x8, y4]
    · show hk_P κ5 = _
      rw [z5, x3, y5]
    · show hk_D κ5 k = _
      rw [z6, x4, y6 k hk]
    · show hk_n κ5 = _
      rw [z7, x5, n1]
    · show hk_s κ5 ≤ _
      rw [z8, x6]
      exact y8
    · show hk_x κ5 = _
      rw [z9, x7, y9]
    · show cTb (hk_D κ5) _ _ _ _ _
      rw [z6, x4]
      exact tb
    · rw [I_ne (by decide), z3 16 1 (by decide), e4, I_ne (by decide), e3]
      show hk_I κ2 16 1 = _
      rw [e2, I_ne (by decide), I_eq]
    · rw [I_ne (by decide), z3 0 12 (by decide), e4, I_ne (by decide), e3]
      show hk_I κ2 0 12 = _
      rw [e2, I_eq]
    · rw [I_ne (by decide), z3 1 14 (by decide), e4, I_eq]
    · rw [I_ne (by decide)]; exact c3
    · rw [I_ne (by decide)]; exact c4
    · show hk_A κ5 25 i = _
      rw [c2 i hi, x1, y1 25 (by decide)]
theorem c_text_y (h14 : hk_I κ 1 14 = n3 8) : fX11_text N 0 (hp κ) = some (-n3 5, hp (hk_wA (hk_wI (hk_wI κ 16 1 (n3 0)) 0 10 (-n3 5)) 68 5 (hk_A κ 68 5 + n3 1))) := by
  have te : fX11_refuse N 0 (-n3 5) (hp (hk_wI κ 16 1 (n3 0))) = _ := c_refuse N (hk_wI κ 16 1 (n3 0)) 5 (by omega) (by omega)
  simp (maxSteps := 400000) (disch := omega) only [n3_l, n3_add, n3_mul, n3_sub, n3_subn, n3_lt, n3_le, n3_eq, n3_eqn, n3_neq, n3_and, n3_or, n3_shl, n3_i, n3_cl, ↓hbd_0, ↓hbd_1, ↓hbd_2, hk_ob_0, hk_rd_0, hk_rd_1, hk_rd_2, hk_al_0, hk_al_1, h3r_0, h3r_1, hk_wi_0, hk_wj_0, h3w_0, h3w_1, h3v_0, hk_kI, hk_kJ, hk_kA, hk_kB, A_eq, A_ne, A_row, B_eq, B_ne, B_row, I_eq, I_ne, J_eq, J_ne, Option.bind_some, Option.some.injEq, if_true, if_false, eq_self, true_or, or_true, true_and, and_true, false_or, or_false, not_true_eq_false, not_false_eq_true, Classical.not_not, nar_b0, nar_b1, rz_0, rz_1, rz_i, ite01, Nat.add_zero, Nat.zero_add, Nat.one_mul, mul12, reduceIte, ra_z0, Nat.reduceEqDiff, Nat.reduceLT, Nat.reduceLeDiff, Nat.reduceAdd, Nat.reduceMul, Nat.reduceSub, Nat.reduceDiv, Nat.reduceMod, Bool.false_eq_true, false_and, and_false, reduceCtorEq, fX11_text, nX11_text_0, h14, te]
end
