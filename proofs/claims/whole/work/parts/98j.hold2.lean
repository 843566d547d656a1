/-! calls that change holdings: shelf, house, line, list, stack, clear, binder -/
theorem A_at {κ : hk_T} {k i x : Nat} {v : Int32} : hk_A (hk_wA κ k i v) k x = if x = i then v else hk_A κ k x := by
  by_cases e : x = i
  · rw [if_pos e, A_eq e]
  · rw [if_neg e, A_ne (Or.inr e)]
theorem A_wI {κ : hk_T} {k j : Nat} {v : Int32} : hk_A (hk_wI κ k j v) = hk_A κ := rfl
theorem same.i1 {κ κ' : hk_T} {ks : List Nat} {fs : List (Nat × Nat)} (s : same ks fs κ κ') (h : ∀ q ∈ fs, q.1 ≠ 1) (j : Nat) : hk_I κ' 1 j = hk_I κ 1 j := s.2.2.1 1 j (fun z => h _ z rfl)
theorem Inv.acc {L c : Nat} {xs : Nat → Int32} {κ κ' : hk_T} {ks : List Nat} {fs : List (Nat × Nat)} {n nT nL nS n' nT' nL' nS' : Nat} {T T' : Nat → tauT} (h : InvC L xs c κ n nT nL nS T) (s : same ks fs κ κ') (d1 : ∀ k ∈ [72, 73, 17, 74, 67, 100, 80, 81, 86], k ∉ ks) (d2 : ∀ q ∈ [(16, 1), (69, 8), (66, 1), (69, 56), (69, 38)], q ∉ fs) (k : HK κ' n' nT' nL' nS') (t : tTab κ' (hk_Q κ' 6) (hk_A κ' 71) nT' T') (sc : scI κ') (ca : caI κ' n' nT' nL' nS' T') : Inv L xs (c + 1) κ' := by
  obtain ⟨h1, h2, h3, h4, h5, h8, h9, h10, h11, h12⟩ := h
  have q : ∀ l : List Nat, (∀ k ∈ l, k ∈ [72, 73, 17, 74, 67, 100, 80, 81, 86]) → ∀ k ∈ l, k ∉ ks := fun l hl k hk => d1 k (hl k hk)
  have q2 : ∀ l : List (Nat × Nat), (∀ k ∈ l, k ∈ [(16, 1), (69, 8), (66, 1), (69, 56), (69, 38)]) → ∀ k ∈ l, k ∉ fs := fun l hl k hk => d2 k (hl k hk)
  exact InvC.inv (n := n') (nT := nT') (nL := nL') (nS := nS') (T := T') ⟨s.xx h1, s.ro h2, k.hr, t, s.im (d1 _ (by decide)) (d1 _ (by decide)) h5, sc, s.ta (q _ (by decide)) (q2 _ (by decide)) h9, s.wo (q _ (by decide)) (q2 _ (by decide)) h10, s.rf (q _ (by decide)) (d2 _ (by decide)) h11, ca⟩
section
variable (N : Nat) {L c : Nat} {xs : Nat → Int32} {κ : hk_T}
theorem k_shelf (h : Inv L xs c κ) (b s w g : Int32) : callOk L xs c κ (fX11_shelf N 0 b s w g) (fX12_shelf N 69 b s w g) := by
  by_cases v : (vIn 0 8 b = true ∧ vIn 0 5 s = true) ∧ vIn 1 400 w = true ∧ vIn 1 60 g = true
  · obtain ⟨n, nT, nL, nS, T, H⟩ := h
    have H' := H
    obtain ⟨h1, h2, h3, h4, h5, h8, h9, h10, h11, h12⟩ := H'
    obtain ⟨b, -, b1, rfl⟩ := vK (lo := 0) (hi := 8) v.1.1
    obtain ⟨s, -, s1, rfl⟩ := vK (lo := 0) (hi := 5) v.1.2
    obtain ⟨w, w0, w1, rfl⟩ := vK (lo := 1) (hi := 400) v.2.1
    obtain ⟨g, g0, g1, rfl⟩ := vK (lo := 1) (hi := 60) v.2.2
    have k3 := h3.hk
    have e1 := c_shelf N κ (b := b) (s := s) (w := w) (h := g) (by omega) (by omega) ⟨w0, w1⟩ ⟨g0, g1⟩
    obtain ⟨κ1, q1⟩ : ∃ κ1, κ1 = hk_wI (hk_wI (hk_wI (hk_wA (hk_wA κ 4 (b * 6 + s) (n3 w)) 5 (b * 6 + s) (n3 g)) 23 9 (n3 0)) 23 10 (n3 0)) 0 10 (n3 0) := ⟨_, rfl⟩
    have e2 := r_shelf N κ1 (b := b) (s := s) (w := w) (h := g) (by omega) (by omega) ⟨w0, w1⟩ ⟨g0, g1⟩
    obtain ⟨κ2, q2⟩ : ∃ κ2, κ2 = hk_wI (hk_wA (hk_wA (hk_wI κ1 69 0 (n3 0)) 71 (500 + 2 * (6 * b + s)) (n3 w)) 71 (500 + 2 * (6 * b + s) + 1) (n3 g)) 69 1 (n3 0) := ⟨_, rfl⟩
    rw [← q1] at e1
    rw [← q2] at e2
    have sa : same [4, 5, 71] [(23, 9), (23, 10), (0, 10), (69, 0), (69, 1)] κ κ1 := by
      rw [q1]
      exact (((((same.refl _ _ _).wA (by decide)).wA (by decide)).wI (by decide)).wI (by decide)).wI (by decide)
    have sb : same [4, 5, 71] [(23, 9), (23, 10), (0, 10), (69, 0), (69, 1)] κ κ2 := by
      rw [q2]
      exact (((sa.wI (by decide)).wA (by decide)).wA (by decide)).wI (by decide)
    have m1 : hk_A κ1 71 = hk_A κ 71 := by rw [q1, A_wI, A_wI, A_wI, A_row (by decide), A_row (by decide)]
    have m2 : ∀ x, hk_A κ2 71 x = if x = 500 + 2 * (6 * b + s) + 1 then n3 g else if x = 500 + 2 * (6 * b + s) then n3 w else hk_A κ 71 x := fun x => by rw [q2, A_wI, A_at, A_at, A_wI, m1]
    have d4 : ∀ x, hk_A κ2 4 x = if x = b * 6 + s then n3 w else hk_A κ 4 x := fun x => by rw [q2, A_wI, A_row (by decide), A_row (by decide), A_wI, q1, A_wI, A_wI, A_wI, A_row (by decide), A_at]
    have d5 : ∀ x, hk_A κ2 5 x = if x = b * 6 + s then n3 g else hk_A κ 5 x := fun x => by rw [q2, A_wI, A_row (by decide), A_row (by decide), A_wI, q1, A_wI, A_wI, A_wI, A_at, A_row (by decide)]
    have mo : ∀ x, (x < 500 ∨ 608 ≤ x) → hk_A κ2 71 x = hk_A κ 71 x := fun x hx => by rw [m2, if_neg (by omega), if_neg (by omega)]
    have f9 : hk_I κ2 23 9 = n3 0 := by rw [q2, q1]; simp (maxSteps := 400000) (disch := omega) only [n3_l, n3_add, n3_mul, n3_sub, n3_subn, n3_lt, n3_le, n3_eq, n3_eqn, n3_neq, n3_and, n3_or, n3_shl, n3_i, n3_cl, ↓hbd_0, ↓hbd_1, ↓hbd_2, hk_ob_0, hk_rd_0, hk_rd_1, hk_rd_2, hk_al_0, hk_al_1, h3r_0, h3r_1, hk_wi_0, hk_wj_0, h3w_0, h3w_1, h3v_0, hk_kI, hk_kJ, hk_kA, hk_kB, A_eq, A_ne, A_row, B_eq, B_ne, B_row, I_eq, I_ne, J_eq, J_ne, Option.bind_some, Option.some.injEq, if_true, if_false, eq_self, true_or, or_true, true_and, and_true, false_or, or_false, not_true_eq_false, not_false_eq_true, Classical.not_not, nar_b0, nar_b1, rz_0, rz_1, rz_i, ite01, Nat.add_zero, Nat.zero_add, Nat.one_mul, mul12, reduceIte, ra_z0, Nat.reduceEqDiff, Nat.reduceLT, Nat.reduceLeDiff, Nat.reduceAdd, Nat.reduceMul, Nat.reduceSub, Nat.reduceDiv, Nat.reduceMod, Bool.false_eq_true, false_and, and_false, reduceCtorEq]
    have f10 : hk_I κ2 23 10 = n3 0 := by rw [q2, q1]; simp (maxSteps := 400000) (disch := omega) only [n3_l, n3_add, n3_mul, n3_sub, n3_subn, n3_lt, n3_le, n3_eq, n3_eqn, n3_neq, n3_and, n3_or, n3_shl, n3_i, n3_cl, ↓hbd_0, ↓hbd_1, ↓hbd_2, hk_ob_0, hk_rd_0, hk_rd_1, hk_rd_2, hk_al_0, hk_al_1, h3r_0, h3r_1, hk_wi_0, hk_wj_0, h3w_0, h3w_1, h3v_0, hk_kI, hk_kJ, hk_kA, hk_kB, A_eq, A_ne, A_row, B_eq, B_ne, B_row, I_eq, I_ne, J_eq, J_ne, Option.bind_some, Option.some.injEq, if_true, if_false, eq_self, true_or, or_true, true_and, and_true, false_or, or_false, not_true_eq_false, not_false_eq_true, Classical.not_not, nar_b0, nar_b1, rz_0, rz_1, rz_i, ite01, Nat.add_zero, Nat.zero_add, Nat.one_mul, mul12, reduceIte, ra_z0, Nat.reduceEqDiff, Nat.reduceLT, Nat.reduceLeDiff, Nat.reduceAdd, Nat.reduceMul, Nat.reduceSub, Nat.reduceDiv, Nat.reduceMod, Bool.false_eq_true, false_and, and_false, reduceCtorEq]
    have g0' : hk_I κ2 0 10 = n3 0 := by rw [q2, q1]; simp (maxSteps := 400000) (disch := omega) only [n3_l, n3_add, n3_mul, n3_sub, n3_subn, n3_lt, n3_le, n3_eq, n3_eqn, n3_neq, n3_and, n3_or, n3_shl, n3_i, n3_cl, ↓hbd_0, ↓hbd_1, ↓hbd_2, hk_ob_0, hk_rd_0, hk_rd_1, hk_rd_2, hk_al_0, hk_al_1, h3r_0, h3r_1, hk_wi_0, hk_wj_0, h3w_0, h3w_1, h3v_0, hk_kI, hk_kJ, hk_kA, hk_kB, A_eq, A_ne, A_row, B_eq, B_ne, B_row, I_eq, I_ne, J_eq, J_ne, Option.bind_some, Option.some.injEq, if_true, if_false, eq_self, true_or, or_true, true_and, and_true, false_or, or_false, not_true_eq_false, not_false_eq_true, Classical.not_not, nar_b0, nar_b1, rz_0, rz_1, rz_i, ite01, Nat.add_zero, Nat.zero_add, Nat.one_mul, mul12, reduceIte, ra_z0, Nat.reduceEqDiff, Nat.reduceLT, Nat.reduceLeDiff, Nat.reduceAdd, Nat.reduceMul, Nat.reduceSub, Nat.reduceDiv, Nat.reduceMod, Bool.false_eq_true, false_and, and_false, reduceCtorEq]
    have g1' : hk_I κ2 69 1 = n3 0 := by rw [q2]; simp (maxSteps := 400000) (disch := omega) only [n3_l, n3_add, n3_mul, n3_sub, n3_subn, n3_lt, n3_le, n3_eq, n3_eqn, n3_neq, n3_and, n3_or, n3_shl, n3_i, n3_cl, ↓hbd_0, ↓hbd_1, ↓hbd_2, hk_ob_0, hk_rd_0, hk_rd_1, hk_rd_2, hk_al_0, hk_al_1, h3r_0, h3r_1, hk_wi_0, hk_wj_0, h3w_0, h3w_1, h3v_0, hk_kI, hk_kJ, hk_kA, hk_kB, A_eq, A_ne, A_row, B_eq, B_ne, B_row, I_eq, I_ne, J_eq, J_ne, Option.bind_some, Option.some.injEq, if_true, if_false, eq_self, true_or, or_true, true_and, and_true, false_or, or_false, not_true_eq_false, not_false_eq_true, Classical.not_not, nar_b0, nar_b1, rz_0, rz_1, rz_i, ite01, Nat.add_zero, Nat.zero_add, Nat.one_mul, mul12, reduceIte, ra_z0, Nat.reduceEqDiff, Nat.reduceLT, Nat.reduceLeDiff, Nat.reduceAdd, Nat.reduceMul, Nat.reduceSub, Nat.reduceDiv, Nat.reduceMod, Bool.false_eq_true, false_and, and_false, reduceCtorEq]
    have eI := sb.i1 (by decide)
    refine ⟨n3 0, κ1, κ2, e1, e2, sa.2.2.2.2.2.2.2.2, Inv.acc H sb (by decide) (by decide) ⟨k3.1.r (fun j _ _ => eI j) (fun x _ _ => mo x (by omega)), k3.2.1.r (fun j _ _ => eI j) (fun x _ _ => mo x (by omega)), k3.2.2.1.r (sb.1 2 (by decide)) (fun x hx => mo x (by have := k3.1.1.2.1; omega)), ⟨fun x hx => ?_, fun x hx => ?_⟩, k3.2.2.2.2.1.r (sb.1 12 (by decide)) (sb.1 13 (by decide)) (sb.1 14 (by decide)) (fun x _ _ => mo x (by omega)), k3.2.2.2.2.2.1.r k3.1.2.2.1.2.1 (sb.1 7 (by decide)) (sb.1 8 (by decide)) (fun x _ _ => mo x (by omega)), k3.2.2.2.2.2.2.1.r k3.1.2.2.2.2.1 (sb.1 11 (by decide)) (fun x _ _ => mo x (by omega)), k3.2.2.2.2.2.2.2.r (sb.1 9 (by decide)) (sb.1 10 (by decide)) (fun x _ _ => mo x (by omega))⟩ (sb.ttq k3.1.2.1.2.1 (fun x _ _ => mo x (by omega)) h4) (sb.sa (by decide) (by decide) g0' g1' h8) ⟨sb.c1 (by decide) h12.1, sb.c2 (by decide) h12.2.1, Or.inl f9, Or.inl f10, sb.c5 (by decide) (by decide) h12.2.2.2.2.1, sb.c6 (by decide) (by decide) h12.2.2.2.2.2⟩⟩
    · rw [mo _ (by omega), sb.1 3 (by decide)]
      exact k3.2.2.2.1.1 x hx
    · by_cases e : x = b * 6 + s
      · have u1 : hk_A κ2 71 (500 + 2 * x) = n3 w := by rw [m2, if_neg (by omega), if_pos (by omega)]
        have u2 : hk_A κ2 71 (500 + 2 * x + 1) = n3 g := by rw [m2, if_pos (by omega)]
        rw [u1, u2, d4, if_pos e, d5, if_pos e]
        exact ⟨rfl, rfl, v.2.1, v.2.2⟩
      · have u1 : hk_A κ2 71 (500 + 2 * x) = hk_A κ 71 (500 + 2 * x) := by rw [m2, if_neg (by omega), if_neg (by omega)]
        have u2 : hk_A κ2 71 (500 + 2 * x + 1) = hk_A κ 71 (500 + 2 * x + 1) := by rw [m2, if_neg (by omega), if_neg (by omega)]
        rw [u1, u2, d4, if_neg e, d5, if_neg e]
        exact k3.2.2.2.1.2 x hx
  · exact callOk.ref h (c_shelf_x N κ v) (r_shelf_x N _ v)
theorem k_house (h : Inv L xs c κ) (x a l d : Int32) : callOk L xs c κ (fX11_house N 0 x a l d) (fX12_house N 69 x a l d) := by
  have h0 := h
  obtain ⟨n, nT, nL, nS, T, H⟩ := h0
  have H' := H
  obtain ⟨h1, h2, h3, h4, h5, h8, h9, h10, h11, h12⟩ := H'
  by_cases v : vIn 0 11 x = true ∧ vIn 0 5000 a = true ∧ vIn 0 a.toInt l = true ∧ vIn 1 100 d = true
  · obtain ⟨v1, v2, v3, v4⟩ := v
    obtain ⟨x, -, x1, rfl⟩ := vK (lo := 0) (hi := 11) v1
    obtain ⟨a, -, a1, rfl⟩ := vK (lo := 0) (hi := 5000) v2
    rw [n3_toInt (by omega)] at v3
    obtain ⟨l, -, l1, rfl⟩ := vK (lo := 0) (hi := a) v3
    obtain ⟨d, d0, d1, rfl⟩ := vK (lo := 1) (hi := 100) v4
    have k3 := h3.hk
    have e1 := c_house N κ (x := x) (a := a) (l := l) (c := d) h1 (by omega) a1 l1 ⟨d0, d1⟩
    obtain ⟨κ1, q1⟩ : ∃ κ1, κ1 = hk_wI (hk_wA (hk_wA (hk_wA κ 12 x (n3 a)) 13 x (n3 l)) 14 x (n3 d)) 0 10 (n3 0) := ⟨_, rfl⟩
    have e2 := r_house N κ1 (x := x) (a := a) (l := l) (c := d) (by omega) a1 l1 ⟨d0, d1⟩
    obtain ⟨κ2, q2⟩ : ∃ κ2, κ2 = hk_wI (hk_wA (hk_wA (hk_wA (hk_wI κ1 69 0 (n3 0)) 71 (610 + 3 * x) (n3 a)) 71 (610 + 3 * x + 1) (n3 l)) 71 (610 + 3 * x + 2) (n3 d)) 69 1 (n3 0) := ⟨_, rfl⟩
    rw [← q1] at e1
    rw [← q2] at e2
    have sa : same [12, 13, 14, 71] [(0, 10), (69, 0), (69, 1)] κ κ1 := by
      rw [q1]
      exact ((((same.refl _ _ _).wA (by decide)).wA (by decide)).wA (by decide)).wI (by decide)
    have sb : same [12, 13, 14, 71] [(0, 10), (69, 0), (69, 1)] κ κ2 := by
      rw [q2]
      exact ((((sa.wI (by decide)).wA (by decide)).wA (by decide)).wA (by decide)).wI (by decide)
    have m1 : hk_A κ1 71 = hk_A κ 71 := by rw [q1, A_wI, A_row (by decide), A_row (by decide), A_row (by decide)]
    have m2 : ∀ y, hk_A κ2 71 y = if y = 610 + 3 * x + 2 then n3 d else if y = 610 + 3 * x + 1 then n3 l else if y = 610 + 3 * x then n3 a else hk_A κ 71 y := fun y => by rw [q2, A_wI, A_at, A_at, A_at, A_wI, m1]
    have d12 : ∀ y, hk_A κ2 12 y = if y = x then n3 a else hk_A κ 12 y := fun y => by rw [q2, A_wI, A_row (by decide), A_row (by decide), A_row (by decide), A_wI, q1, A_wI, A_row (by decide), A_row (by decide), A_at]
    have d13 : ∀ y, hk_A κ2 13 y = if y = x then n3 l else hk_A κ 13 y := fun y => by rw [q2, A_wI, A_row (by decide), A_row (by decide), A_row (by decide), A_wI, q1, A_wI, A_row (by decide), A_at, A_row (by decide)]
    have d14 : ∀ y, hk_A κ2 14 y = if y = x then n3 d else hk_A κ 14 y := fun y => by rw [q2, A_wI, A_row (by decide), A_row (by decide), A_row (by decide), A_wI, q1, A_wI, A_at, A_row (by decide), A_row (by decide)]
    have mo : ∀ y, (y < 610 ∨ 646 ≤ y) → hk_A κ2 71 y = hk_A κ 71 y := fun y hy => by rw [m2, if_neg (by omega), if_neg (by omega), if_neg (by omega)]
    have g0' : hk_I κ2 0 10 = n3 0 := by rw [q2, q1]; simp (maxSteps := 400000) (disch := omega) only [n3_l, n3_add, n3_mul, n3_sub, n3_subn, n3_lt, n3_le, n3_eq, n3_eqn, n3_neq, n3_and, n3_or, n3_shl, n3_i, n3_cl, ↓hbd_0, ↓hbd_1, ↓hbd_2, hk_ob_0, hk_rd_0, hk_rd_1, hk_rd_2, hk_al_0, hk_al_1, h3r_0, h3r_1, hk_wi_0, hk_wj_0, h3w_0, h3w_1, h3v_0, hk_kI, hk_kJ, hk_kA, hk_kB, A_eq, A_ne, A_row, B_eq, B_ne, B_row, I_eq, I_ne, J_eq, J_ne, Option.bind_some, Option.some.injEq, if_true, if_false, eq_self, true_or, or_true, true_and, and_true, false_or, or_false, not_true_eq_false, not_false_eq_true, Classical.not_not, nar_b0, nar_b1, rz_0, rz_1, rz_i, ite01, Nat.add_zero, Nat.zero_add, Nat.one_mul, mul12, reduceIte, ra_z0, Nat.reduceEqDiff, Nat.reduceLT, Nat.reduceLeDiff, Nat.reduceAdd, Nat.reduceMul, Nat.reduceSub, Nat.reduceDiv, Nat.reduceMod, Bool.false_eq_true, false_and, and_false, reduceCtorEq]
    have g1' : hk_I κ2 69 1 = n3 0 := by rw [q2]; simp (maxSteps := 400000) (disch := omega) only [n3_l, n3_add, n3_mul, n3_sub, n3_subn, n3_lt, n3_le, n3_eq, n3_eqn, n3_neq, n3_and, n3_or, n3_shl, n3_i, n3_cl, ↓hbd_0, ↓hbd_1, ↓hbd_2, hk_ob_0, hk_rd_0, hk_rd_1, hk_rd_2, hk_al_0, hk_al_1, h3r_0, h3r_1, hk_wi_0, hk_wj_0, h3w_0, h3w_1, h3v_0, hk_kI, hk_kJ, hk_kA, hk_kB, A_eq, A_ne, A_row, B_eq, B_ne, B_row, I_eq, I_ne, J_eq, J_ne, Option.bind_some, Option.some.injEq, if_true, if_false, eq_self, true_or, or_true, true_and, and_true, false_or, or_false, not_true_eq_false, not_false_eq_true, Classical.not_not, nar_b0, nar_b1, rz_0, rz_1, rz_i, ite01, Nat.add_zero, Nat.zero_add, Nat.one_mul, mul12, reduceIte, ra_z0, Nat.reduceEqDiff, Nat.reduceLT, Nat.reduceLeDiff, Nat.reduceAdd, Nat.reduceMul, Nat.reduceSub, Nat.reduceDiv, Nat.reduceMod, Bool.false_eq_true, false_and, and_false, reduceCtorEq]
    have eI := sb.i1 (by decide)
    refine ⟨n3 0, κ1, κ2, e1, e2, sa.2.2.2.2.2.2.2.2, Inv.acc H sb (by decide) (by decide) ⟨k3.1.r (fun j _ _ => eI j) (fun x _ _ => mo x (by omega)), k3.2.1.r (fun j _ _ => eI j) (fun x _ _ => mo x (by omega)), k3.2.2.1.r (sb.1 2 (by decide)) (fun x hx => mo x (by have := k3.1.1.2.1; omega)), k3.2.2.2.1.r (sb.1 3 (by decide)) (sb.1 4 (by decide)) (sb.1 5 (by decide)) (fun x _ _ => mo x (by omega)), fun y hy => ?_, k3.2.2.2.2.2.1.r k3.1.2.2.1.2.1 (sb.1 7 (by decide)) (sb.1 8 (by decide)) (fun x _ _ => mo x (by omega)), k3.2.2.2.2.2.2.1.r k3.1.2.2.2.2.1 (sb.1 11 (by decide)) (fun x _ _ => mo x (by omega)), k3.2.2.2.2.2.2.2.r (sb.1 9 (by decide)) (sb.1 10 (by decide)) (fun x _ _ => mo x (by omega))⟩ (sb.ttq k3.1.2.1.2.1 (fun x _ _ => mo x (by omega)) h4) (sb.sa (by decide) (by decide) g0' g1' h8) (sb.ca (by decide) (by decide) h12)⟩
    by_cases e : y = x
    · have u1 : hk_A κ2 71 (610 + 3 * y) = n3 a := by rw [m2, if_neg (by omega), if_neg (by omega), if_pos (by omega)]
      have u2 : hk_A κ2 71 (610 + 3 * y + 1) = n3 l := by rw [m2, if_neg (by omega), if_pos (by omega)]
      have u3 : hk_A κ2 71 (610 + 3 * y + 2) = n3 d := by rw [m2, if_pos (by omega)]
      rw [u1, u2, u3, d12, if_pos e, d13, if_pos e, d14, if_pos e]
      exact ⟨a, l, d, rfl, rfl, rfl, rfl, rfl, rfl, a1, l1, d0, d1⟩
    · have u1 : hk_A κ2 71 (610 + 3 * y) = hk_A κ 71 (610 + 3 * y) := by rw [m2, if_neg (by omega), if_neg (by omega), if_neg (by omega)]
      have u2 : hk_A κ2 71 (610 + 3 * y + 1) = hk_A κ 71 (610 + 3 * y + 1) := by rw [m2, if_neg (by omega), if_neg (by omega), if_neg (by omega)]
      have u3 : hk_A κ2 71 (610 + 3 * y + 2) = hk_A κ 71 (610 + 3 * y + 2) := by rw [m2, if_neg (by omega), if_neg (by omega), if_neg (by omega)]
      rw [u1, u2, u3, d12, if_neg e, d13, if_neg e, d14, if_neg e]
      exact k3.2.2.2.2.1 y hy
  · exact callOk.ref h (c_house_x N κ h1 v) (r_house_x N _ v)
theorem k_clear (h : Inv L xs c κ) : callOk L xs c κ (fX11_clear N 0) (fX12_clear N 69) := by
  obtain ⟨n, nT, nL, nS, T, H⟩ := h
  have H' := H
  obtain ⟨h1, h2, h3, h4, h5, h8, h9, h10, h11, h12⟩ := H'
  have k3 := h3.hk
  have e1 := c_clear3 N κ
  obtain ⟨κ1, q1⟩ : ∃ κ1, κ1 = hk_wI (hk_wI κ 1 16 (n3 0)) 61 4 (n3 0) := ⟨_, rfl⟩
  have e2 := r_clear3 N κ1
  obtain ⟨κ2, q2⟩ : ∃ κ2, κ2 = hk_wA (hk_wI κ1 69 0 (n3 0)) 71 483 (n3 0) := ⟨_, rfl⟩
  rw [← q1] at e1
  rw [← q2] at e2
  have sa : same [71] [(1, 16), (61, 4), (69, 0)] κ κ1 := by
    rw [q1]
    exact ((same.refl _ _ _).wI (by decide)).wI (by decide)
  have sb : same [71] [(1, 16), (61, 4), (69, 0)] κ κ2 := by
    rw [q2]
    exact (sa.wI (by decide)).wA (by decide)
  have m1 : hk_A κ1 71 = hk_A κ 71 := by rw [q1, A_wI, A_wI]
  have m2 : ∀ y, hk_A κ2 71 y = if y = 483 then n3 0 else hk_A κ 71 y := fun y => by rw [q2, A_at, A_wI, m1]
  have mo : ∀ y, y ≠ 483 → hk_A κ2 71 y = hk_A κ 71 y := fun y hy => by rw [m2, if_neg hy]
  have eI : ∀ j, j ≠ 16 → hk_I κ2 1 j = hk_I κ 1 j := fun j hj => sb.2.2.1 1 j (by simp; omega)
  have i16 : hk_I κ2 1 16 = n3 0 := by rw [q2, q1]; simp (maxSteps := 400000) (disch := omega) only [n3_l, n3_add, n3_mul, n3_sub, n3_subn, n3_lt, n3_le, n3_eq, n3_eqn, n3_neq, n3_and, n3_or, n3_shl, n3_i, n3_cl, ↓hbd_0, ↓hbd_1, ↓hbd_2, hk_ob_0, hk_rd_0, hk_rd_1, hk_rd_2, hk_al_0, hk_al_1, h3r_0, h3r_1, hk_wi_0, hk_wj_0, h3w_0, h3w_1, h3v_0, hk_kI, hk_kJ, hk_kA, hk_kB, A_eq, A_ne, A_row, B_eq, B_ne, B_row, I_eq, I_ne, J_eq, J_ne, Option.bind_some, Option.some.injEq, if_true, if_false, eq_self, true_or, or_true, true_and, and_true, false_or, or_false, not_true_eq_false, not_false_eq_true, Classical.not_not, nar_b0, nar_b1, rz_0, rz_1, rz_i, ite01, Nat.add_zero, Nat.zero_add, Nat.one_mul, mul12, reduceIte, ra_z0, Nat.reduceEqDiff, Nat.reduceLT, Nat.reduceLeDiff, Nat.reduceAdd, Nat.reduceMul, Nat.reduceSub, Nat.reduceDiv, Nat.reduceMod, Bool.false_eq_true, false_and, and_false, reduceCtorEq]
  have f4 : hk_I κ2 61 4 = n3 0 := by rw [q2, q1]; simp (maxSteps := 400000) (disch := omega) only [n3_l, n3_add, n3_mul, n3_sub, n3_subn, n3_lt, n3_le, n3_eq, n3_eqn, n3_neq, n3_and, n3_or, n3_shl, n3_i, n3_cl, ↓hbd_0, ↓hbd_1, ↓hbd_2, hk_ob_0, hk_rd_0, hk_rd_1, hk_rd_2, hk_al_0, hk_al_1, h3r_0, h3r_1, hk_wi_0, hk_wj_0, h3w_0, h3w_1, h3v_0, hk_kI, hk_kJ, hk_kA, hk_kB, A_eq, A_ne, A_row, B_eq, B_ne, B_row, I_eq, I_ne, J_eq, J_ne, Option.bind_some, Option.some.injEq, if_true, if_false, eq_self, true_or, or_true, true_and, and_true, false_or, or_false, not_true_eq_false, not_false_eq_true, Classical.not_not, nar_b0, nar_b1, rz_0, rz_1, rz_i, ite01, Nat.add_zero, Nat.zero_add, Nat.one_mul, mul12, reduceIte, ra_z0, Nat.reduceEqDiff, Nat.reduceLT, Nat.reduceLeDiff, Nat.reduceAdd, Nat.reduceMul, Nat.reduceSub, Nat.reduceDiv, Nat.reduceMod, Bool.false_eq_true, false_and, and_false, reduceCtorEq]
  have n40 := k3.1.1.2.1
  have k1 := k3.1
  refine ⟨hk_I κ 1 16, κ1, κ2, e1, ?_, sa.2.2.2.2.2.2.2.2, Inv.acc (nS' := 0) H sb (by decide) (by decide) ⟨⟨?_, ?_, ?_, ⟨i16, by omega, by rw [m2, if_pos rfl]⟩⟩, k3.2.1.r (fun j _ _ => eI j (by omega)) (fun x _ _ => mo x (by omega)), k3.2.2.1.r (sb.1 2 (by decide)) (fun x hx => mo x (by omega)), k3.2.2.2.1.r (sb.1 3 (by decide)) (sb.1 4 (by decide)) (sb.1 5 (by decide)) (fun x _ _ => mo x (by omega)), k3.2.2.2.2.1.r (sb.1 12 (by decide)) (sb.1 13 (by decide)) (sb.1 14 (by decide)) (fun x _ _ => mo x (by omega)), k3.2.2.2.2.2.1.r k3.1.2.2.1.2.1 (sb.1 7 (by decide)) (sb.1 8 (by decide)) (fun x _ _ => mo x (by omega)), ⟨fun i hi => absurd hi (by omega), fun i j _ hj => absurd hj (by omega)⟩, k3.2.2.2.2.2.2.2.r (sb.1 9 (by decide)) (sb.1 10 (by decide)) (fun x _ _ => mo x (by omega))⟩ (sb.ttq k3.1.2.1.2.1 (fun x _ _ => mo x (by omega)) h4) (sb.sc (by decide) (by decide) h8) ⟨sb.c1 (by decide) h12.1, sb.c2 (by decide) h12.2.1, sb.c3 (by decide) (by decide) h12.2.2.1, sb.c4 (by decide) (by decide) h12.2.2.2.1, sb.c5 (by decide) (by decide) h12.2.2.2.2.1, Or.inl f4⟩⟩
  · rw [e2, m1, k1.2.2.2.2.2, k1.2.2.2.1]
  · rw [eI 13 (by omega), mo 480 (by omega)]; exact k1.1
  · rw [eI 14 (by omega), mo 481 (by omega)]; exact k1.2.1
  · rw [eI 15 (by omega), mo 482 (by omega)]; exact k1.2.2.1
end
