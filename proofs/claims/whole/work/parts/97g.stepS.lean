/-! the reference's reader on the heap: the other turns -/
theorem isW_nx {B : Nat → Nat} {n j k : Nat} (hj : j ≤ n) (h : isW B n k j) : j + wLen k ≤ nxt B n j ∧ j < n := by
  have a := tkE_le (B := B) hj
  have b := (tkS_le (B := B) a.2.1).1
  have e := h.2.1
  refine ⟨?_, isW_lt h⟩
  show j + wLen k ≤ tkS B n (tkE B n j)
  omega
theorem wLen_ao : wLen 19 = 3 ∧ wLen 20 = 2 := by decide
section
variable (N : Nat) (κ : hk_T)
theorem r_readPlain {B : Nat → Nat} {n j k f : Nat} {O G : Nat → Nat} {P : List (Nat × Nat)} (h : rP κ B n j k f O G P) (hN : 1000 < N) : rSt κ B n f O G P (mPlain B n j k f O G P) (fX12_readPlain N 69 (hp κ)) := by
  have rp := r_readPart N κ h hN
  obtain ⟨h, hl⟩ := h
  have w := r_isWord N κ (k := 18) (w := (14836 : Int64)) h.2.1 (by omega) (by rw [enW_at.2.2.2.2.2.2.2.2.2.2.2.2.2.2.2.2.2.2.1]; rfl)
  have is := r_isSign N κ (c := 40) h.1 h.2.1 (by omega)
  have jn := h.2.1.1
  have n4 := h.1.1
  have bl := brk_le P
  unfold mPlain
  by_cases cw : isW B n 18 j
  · rw [if_pos cw] at w ⊢
    have nx := (nxt_le (B := B) jn).2 (isW_lt cw)
    have jl := isW_lt cw
    obtain ⟨κ1, e1, s1, p1⟩ := rP0_push N κ (o := 27) (g := 0) h (by omega) (by omega) (by omega)
    obtain ⟨κ2, e2, s2, p2⟩ := rP0_go N κ1 p1 hN
    refine ⟨κ2, ?_, s1.trans s2, ?_, by show f + (P.length + 1) ≤ _; omega⟩
    · simp (maxSteps := 400000) (disch := omega) only [n3_l, n3_add, n3_mul, n3_sub, n3_subn, n3_lt, n3_le, n3_eq, n3_eqn, n3_neq, n3_and, n3_or, n3_shl, n3_i, n3_cl, ↓hbd_0, ↓hbd_1, ↓hbd_2, hk_ob_0, hk_rd_0, hk_rd_1, hk_rd_2, hk_al_0, hk_al_1, h3r_0, h3r_1, hk_wi_0, hk_wj_0, h3w_0, h3w_1, h3v_0, hk_kI, hk_kJ, hk_kA, hk_kB, A_eq, A_ne, A_row, B_eq, B_ne, B_row, I_eq, I_ne, J_eq, J_ne, Option.bind_some, Option.some.injEq, if_true, if_false, eq_self, true_or, or_true, true_and, and_true, false_or, or_false, not_true_eq_false, not_false_eq_true, Classical.not_not, nar_b0, nar_b1, rz_0, rz_1, rz_i, ite01, Nat.add_zero, Nat.zero_add, Nat.one_mul, mul12, reduceIte, ra_z0, Nat.reduceEqDiff, Nat.reduceLT, Nat.reduceLeDiff, Nat.reduceAdd, Nat.reduceMul, Nat.reduceSub, Nat.reduceDiv, Nat.reduceMod, Bool.false_eq_true, false_and, and_false, reduceCtorEq, fX12_readPlain, nX12_readPlain_0, w, e1, e2]
    · rw [brk, if_neg (by omega)]
      exact p2
  · rw [if_neg cw] at w ⊢
    by_cases cs : sg B n 40 j
    · rw [if_pos cs] at is ⊢
      have jl := sg_lt cs
      have nx := (nxt_le (B := B) jn).2 jl
      by_cases cb : brk P < 8
      · rw [if_pos cb]
        obtain ⟨κ1, e1, s1, p1⟩ := r_openT N κ (o := 30) h cb (by omega) (by omega) hN
        refine ⟨κ1, ?_, s1, ?_, by show f + (P.length + 1) ≤ _; omega⟩
        · simp (maxSteps := 400000) (disch := omega) only [n3_l, n3_add, n3_mul, n3_sub, n3_subn, n3_lt, n3_le, n3_eq, n3_eqn, n3_neq, n3_and, n3_or, n3_shl, n3_i, n3_cl, ↓hbd_0, ↓hbd_1, ↓hbd_2, hk_ob_0, hk_rd_0, hk_rd_1, hk_rd_2, hk_al_0, hk_al_1, h3r_0, h3r_1, hk_wi_0, hk_wj_0, h3w_0, h3w_1, h3v_0, hk_kI, hk_kJ, hk_kA, hk_kB, A_eq, A_ne, A_row, B_eq, B_ne, B_row, I_eq, I_ne, J_eq, J_ne, Option.bind_some, Option.some.injEq, if_true, if_false, eq_self, true_or, or_true, true_and, and_true, false_or, or_false, not_true_eq_false, not_false_eq_true, Classical.not_not, nar_b0, nar_b1, rz_0, rz_1, rz_i, ite01, Nat.add_zero, Nat.zero_add, Nat.one_mul, mul12, reduceIte, ra_z0, Nat.reduceEqDiff, Nat.reduceLT, Nat.reduceLeDiff, Nat.reduceAdd, Nat.reduceMul, Nat.reduceSub, Nat.reduceDiv, Nat.reduceMod, Bool.false_eq_true, false_and, and_false, reduceCtorEq, fX12_readPlain, nX12_readPlain_0, w, is, e1]
        · rw [brk, if_pos (by omega)]
          exact p1
      · rw [if_neg cb]
        obtain ⟨κ1, e1, s1, b1, b2, b3⟩ := r_openF N κ (o := n3 30) h cb (by omega)
        refine ⟨κ1, n3 0, ?_, s1, b1, b2, b3⟩
        simp (maxSteps := 400000) (disch := omega) only [n3_l, n3_add, n3_mul, n3_sub, n3_subn, n3_lt, n3_le, n3_eq, n3_eqn, n3_neq, n3_and, n3_or, n3_shl, n3_i, n3_cl, ↓hbd_0, ↓hbd_1, ↓hbd_2, hk_ob_0, hk_rd_0, hk_rd_1, hk_rd_2, hk_al_0, hk_al_1, h3r_0, h3r_1, hk_wi_0, hk_wj_0, h3w_0, h3w_1, h3v_0, hk_kI, hk_kJ, hk_kA, hk_kB, A_eq, A_ne, A_row, B_eq, B_ne, B_row, I_eq, I_ne, J_eq, J_ne, Option.bind_some, Option.some.injEq, if_true, if_false, eq_self, true_or, or_true, true_and, and_true, false_or, or_false, not_true_eq_false, not_false_eq_true, Classical.not_not, nar_b0, nar_b1, rz_0, rz_1, rz_i, ite01, Nat.add_zero, Nat.zero_add, Nat.one_mul, mul12, reduceIte, ra_z0, Nat.reduceEqDiff, Nat.reduceLT, Nat.reduceLeDiff, Nat.reduceAdd, Nat.reduceMul, Nat.reduceSub, Nat.reduceDiv, Nat.reduceMod, Bool.false_eq_true, false_and, and_false, reduceCtorEq, fX12_readPlain, nX12_readPlain_0, w, is, e1]
    · rw [if_neg cs] at is ⊢
      have st : fX12_readPlain N 69 (hp κ) = (fX12_readPart N 69 (hp κ)).bind fun q3 => some (q3.1, q3.2) := by
        simp (maxSteps := 400000) (disch := omega) only [n3_l, n3_add, n3_mul, n3_sub, n3_subn, n3_lt, n3_le, n3_eq, n3_eqn, n3_neq, n3_and, n3_or, n3_shl, n3_i, n3_cl, ↓hbd_0, ↓hbd_1, ↓hbd_2, hk_ob_0, hk_rd_0, hk_rd_1, hk_rd_2, hk_al_0, hk_al_1, h3r_0, h3r_1, hk_wi_0, hk_wj_0, h3w_0, h3w_1, h3v_0, hk_kI, hk_kJ, hk_kA, hk_kB, A_eq, A_ne, A_row, B_eq, B_ne, B_row, I_eq, I_ne, J_eq, J_ne, Option.bind_some, Option.some.injEq, if_true, if_false, eq_self, true_or, or_true, true_and, and_true, false_or, or_false, not_true_eq_false, not_false_eq_true, Classical.not_not, nar_b0, nar_b1, rz_0, rz_1, rz_i, ite01, Nat.add_zero, Nat.zero_add, Nat.one_mul, mul12, reduceIte, ra_z0, Nat.reduceEqDiff, Nat.reduceLT, Nat.reduceLeDiff, Nat.reduceAdd, Nat.reduceMul, Nat.reduceSub, Nat.reduceDiv, Nat.reduceMod, Bool.false_eq_true, false_and, and_false, reduceCtorEq, fX12_readPlain, nX12_readPlain_0, w, is]
      have st2 : ∀ x : Option (Int32 × ra_H), (x.bind fun q3 => some (q3.1, q3.2)) = x := fun x => by cases x <;> rfl
      rw [st, st2]
      exact rp
/-- an operator behind a sum -/
theorem r_sumOp {B : Nat → Nat} {n j k f o : Nat} {O G : Nat → Nat} {P : List (Nat × Nat)} {x : Int32} (h : rP κ B n j k f O G P) (jl : j < n) (ho : o ≤ 3) (hN : 1000 < N) : ∃ κ', nX12_behindSum_57 N 69 x (n3 (20 + o)) (hp κ) = some (n3 1, hp κ') ∧ rSg κ κ' ∧ rP κ' B n (nxt B n j) k (stl (bnd (20 + o)) P f O G).1 (stl (bnd (20 + o)) P f O G).2.1 (stl (bnd (20 + o)) P f O G).2.2.1 ((20 + o, 0) :: (stl (bnd (20 + o)) P f O G).2.2.2) := by
  obtain ⟨h, hl⟩ := h
  have jn := h.2.1.1
  have n4 := h.1.1
  have nx := (nxt_le (B := B) jn).2 jl
  have b16 : 1 ≤ bnd (20 + o) ∧ bnd (20 + o) ≤ 6 := by
    have : ∀ o, o < 4 → 1 ≤ bnd (20 + o) ∧ bnd (20 + o) ≤ 6 := by decide
    exact this o (by omega)
  have bi := r_binds N (o := 20 + o) (by omega) (hp κ)
  obtain ⟨κ1, e1, s1, p1, l1⟩ := rP0_settle N κ h b16 hN
  have ib := (stl_inn b16.1 P f O G (F := (stl (bnd (20 + o)) P f O G).1) (OO := (stl (bnd (20 + o)) P f O G).2.1) (GG := (stl (bnd (20 + o)) P f O G).2.2.1) (Y := (stl (bnd (20 + o)) P f O G).2.2.2) rfl).2
  rw [ib] at p1
  generalize (stl (bnd (20 + o)) P f O G).1 = F at p1 l1 ⊢
  generalize (stl (bnd (20 + o)) P f O G).2.1 = OO at p1 ⊢
  generalize (stl (bnd (20 + o)) P f O G).2.2.1 = GG at p1 ⊢
  generalize (stl (bnd (20 + o)) P f O G).2.2.2 = Y at p1 l1 ⊢
  obtain ⟨κ2, e2, s2, p2⟩ := rP0_push N κ1 (o := 20 + o) (g := 0) p1 (by omega) (by omega) (by omega)
  obtain ⟨κ3, e3, s3, p3⟩ := rP0_go N κ2 p2 hN
  have nm : ¬ n3 (20 + o) = -n3 1 := fun z => (n3_eqn (by omega) (by omega) (by omega)).mp z
  refine ⟨κ3, ?_, s1.trans (s2.trans s3), ?_, by show F + (Y.length + 1) ≤ _; omega⟩
  · unfold nX12_behindSum_57
    simp (maxSteps := 400000) (disch := omega) only [n3_l, n3_add, n3_mul, n3_sub, n3_subn, n3_lt, n3_le, n3_eq, n3_eqn, n3_neq, n3_and, n3_or, n3_shl, n3_i, n3_cl, ↓hbd_0, ↓hbd_1, ↓hbd_2, hk_ob_0, hk_rd_0, hk_rd_1, hk_rd_2, hk_al_0, hk_al_1, h3r_0, h3r_1, hk_wi_0, hk_wj_0, h3w_0, h3w_1, h3v_0, hk_kI, hk_kJ, hk_kA, hk_kB, A_eq, A_ne, A_row, B_eq, B_ne, B_row, I_eq, I_ne, J_eq, J_ne, Option.bind_some, Option.some.injEq, if_true, if_false, eq_self, true_or, or_true, true_and, and_true, false_or, or_false, not_true_eq_false, not_false_eq_true, Classical.not_not, nar_b0, nar_b1, rz_0, rz_1, rz_i, ite01, Nat.add_zero, Nat.zero_add, Nat.one_mul, mul12, reduceIte, ra_z0, Nat.reduceEqDiff, Nat.reduceLT, Nat.reduceLeDiff, Nat.reduceAdd, Nat.reduceMul, Nat.reduceSub, Nat.reduceDiv, Nat.reduceMod, Bool.false_eq_true, false_and, and_false, reduceCtorEq, nm, bi, e1, e2, e3]
  · rw [brk, if_neg (by omega)]
    exact p3
/-- a comparison behind a sum -/
theorem r_sumGood {B : Nat → Nat} {n j k f o : Nat} {O G : Nat → Nat} {P : List (Nat × Nat)} {x : Int32} (h : rP κ B n j k f O G P) (hx : x = n3 (20 + o)) (o4 : 4 ≤ o) (o6 : o ≤ 6) (jl : j < n) (hN : 1000 < N) : ∃ κ', nX12_behindSum_205 N 69 x 69 (hp κ) = some (n3 1, hp κ') ∧ rSg κ κ' ∧ rP κ' B n (nxt B n j) k (stl 5 P f O G).1 (stl 5 P f O G).2.1 (stl 5 P f O G).2.2.1 ((20 + o, 0) :: (stl 5 P f O G).2.2.2) := by
  obtain ⟨h, hl⟩ := h
  have jn := h.2.1.1
  have n4 := h.1.1
  have nx := (nxt_le (B := B) jn).2 jl
  obtain ⟨κ1, e1, s1, p1⟩ := rP0_must N κ h hN
  have h14 := p1.2.2.1
  obtain ⟨κ2, e2, s2, p2, l2⟩ := rP0_settle N κ1 (l := 5) p1 (by omega) hN
  have ib := (stl_inn (l := 5) (by omega) P f O G (F := (stl 5 P f O G).1) (OO := (stl 5 P f O G).2.1) (GG := (stl 5 P f O G).2.2.1) (Y := (stl 5 P f O G).2.2.2) rfl).2
  rw [ib] at p2
  generalize (stl 5 P f O G).1 = F at p2 l2 ⊢
  generalize (stl 5 P f O G).2.1 = OO at p2 ⊢
  generalize (stl 5 P f O G).2.2.1 = GG at p2 ⊢
  generalize (stl 5 P f O G).2.2.2 = Y at p2 l2 ⊢
  obtain ⟨κ3, e3, s3, p3⟩ := rP0_push N κ2 (o := 20 + o) (g := 0) p2 (by omega) (by omega) (by omega)
  rw [← hx] at e3
  refine ⟨κ3, ?_, s1.trans (s2.trans s3), ?_, by show F + (Y.length + 1) ≤ _; omega⟩
  · have f14 : ra_fI (hp κ1) 12 69 14 = some (0 : Int32) := by rw [show (0 : Int32) = n3 0 from rfl, ← h14]; rfl
    have e1' : fX12_must N 69 (1 : Int32) (hp κ) = some (hp κ1) := e1
    have e2' : fX12_settle N 69 (5 : Int32) (hp κ1) = some (hp κ2) := e2
    have e3' : fX12_push N 69 x (0 : Int32) (hp κ2) = some (hp κ3) := e3
    unfold nX12_behindSum_205 nX12_behindSum_210
    rw [e1', Option.bind_some, f14, Option.bind_some, if_pos rfl, e2', Option.bind_some, e3', Option.bind_some]
    rfl
  · rw [brk, if_neg (by omega)]
    exact p3
theorem r_sumBad {B : Nat → Nat} {n j k f : Nat} {O G : Nat → Nat} {P : List (Nat × Nat)} {x : Int32} (h : rP κ B n j k f O G P) : ∃ κ' t, nX12_behindSum_210 N 69 x 69 (0 : Int32) (hp κ) = some (t, hp κ') ∧ rSb κ κ' ∧ hk_I κ' 69 14 = n3 1 ∧ hk_I κ' 69 13 = n3 j ∧ rC κ' f O G P := by
  obtain ⟨h, hl⟩ := h
  obtain ⟨κ1, e1, s1, b1, b2, b3⟩ := rP0_bad N κ h
  refine ⟨κ1, n3 1, ?_, s1, b1, b2, b3⟩
  have f14 : ra_fI (hp κ1) 12 69 14 = some (n3 1) := by rw [← b1]; rfl
  have e1' : fX12_must N 69 (0 : Int32) (hp κ) = some (hp κ1) := e1
  unfold nX12_behindSum_210
  rw [e1', Option.bind_some, f14, Option.bind_some, if_neg (show ¬ n3 1 = (0 : Int32) by decide)]
  rfl
theorem r_sumCmp {B : Nat → Nat} {n j k f : Nat} {O G : Nat → Nat} {P : List (Nat × Nat)} (h : rP κ B n j k f O G P) (hc : ¬ cmpd P = true) (hN : 1000 < N) : rSt κ B n f O G P (match cmpA B n j with
      | none => some (.inl j)
      | some o => some (.inr (1, nxt B n j, k, (stl 5 P f O G).1, (stl 5 P f O G).2.1, (stl 5 P f O G).2.2.1, (20 + o, 0) :: (stl 5 P f O G).2.2.2))) (nX12_behindSum_149 N 69 (hp κ)) := by
  have hh := h
  obtain ⟨h, hl⟩ := h
  have jn := h.2.1.1
  have n4 := h.1.1
  have cp := r_isCompared N κ h.2.2.2.2.2.1.2.2.1 (by omega) h.2.2.2.2.2.1.2.2.2.1 hN
  rw [if_neg hc] at cp
  have i1 : fX12_isSign N 69 (60 : Int32) (hp κ) = _ := r_isSign N κ (c := 60) h.1 h.2.1 (by omega)
  have i2 : fX12_isSign N 69 (62 : Int32) (hp κ) = _ := r_isSign N κ (c := 62) h.1 h.2.1 (by omega)
  have i3 : fX12_isSign N 69 (61 : Int32) (hp κ) = _ := r_isSign N κ (c := 61) h.1 h.2.1 (by omega)
  have z0 : n3 0 = (0 : Int32) := rfl
  have z1 : ¬ n3 1 = (0 : Int32) := by decide
  have st : nX12_behindSum_149 N 69 (hp κ) = if sg B n 60 j then nX12_behindSum_188 N 69 (24 : Int32) (hp κ) else if sg B n 62 j then nX12_behindSum_188 N 69 (25 : Int32) (hp κ) else nX12_behindSum_188 N 69 (26 : Int32) (hp κ) := by
    unfold nX12_behindSum_149
    rw [cp, Option.bind_some, if_pos z0, i1, Option.bind_some]
    by_cases c1 : sg B n 60 j
    · rw [if_pos c1, if_pos c1, if_neg z1]
    · rw [if_neg c1, if_neg c1, if_pos z0, i2, Option.bind_some]
      by_cases c2 : sg B n 62 j
      · rw [if_pos c2, if_pos c2, if_neg z1]
      · rw [if_neg c2, if_neg c2, if_pos z0]
  rw [st]
  unfold cmpA
  by_cases c1 : sg B n 60 j
  · rw [if_pos c1, if_pos c1]
    obtain ⟨κ', e, s, p⟩ := r_sumGood N κ (o := 4) (x := (24 : Int32)) hh (by decide) (by omega) (by omega) (sg_lt c1) hN
    refine ⟨κ', ?_, s, p⟩
    unfold nX12_behindSum_188
    rw [if_neg (by decide)]
    exact e
  · rw [if_neg c1, if_neg c1]
    by_cases c2 : sg B n 62 j
    · rw [if_pos c2, if_pos c2]
      obtain ⟨κ', e, s, p⟩ := r_sumGood N κ (o := 5) (x := (25 : Int32)) hh (by decide) (by omega) (by omega) (sg_lt c2) hN
      refine ⟨κ', ?_, s, p⟩
      unfold nX12_behindSum_188
      rw [if_neg (by decide)]
      exact e
    · rw [if_neg c2, if_neg c2]
      by_cases c3 : sg B n 61 j
      · rw [if_pos c3] at i3 ⊢
        obtain ⟨κ', e, s, p⟩ := r_sumGood N κ (o := 6) (x := (26 : Int32)) hh (by decide) (by omega) (by omega) (sg_lt c3) hN
        refine ⟨κ', ?_, s, p⟩
        unfold nX12_behindSum_188
        rw [if_pos rfl, i3, Option.bind_some, if_neg z1]
        exact e
      · rw [if_neg c3] at i3 ⊢
        obtain ⟨κ', t, e, s⟩ := r_sumBad N κ (x := (26 : Int32)) hh
        refine ⟨κ', t, ?_, s⟩
        unfold nX12_behindSum_188
        rw [if_pos rfl, i3, Option.bind_some, if_pos z0]
        exact e
/-- a bracket closed -/
theorem r_close {B : Nat → Nat} {n j k f l : Nat} {O G : Nat → Nat} {P : List (Nat × Nat)} (h : rP κ B n j k f O G P) (jl : j < n) (hl : 1 ≤ l ∧ l ≤ 6) (hN : 1000 < N) {o a : Nat} {Q : List (Nat × Nat)} (eq : (stl l P f O G).2.2.2 = (o, a) :: Q) (ho : 30 ≤ o) : ∃ κ1 κ2 κ4, fX12_must N 69 (n3 1) (hp κ) = some (hp κ1) ∧ hk_I κ1 69 14 = n3 0 ∧ fX12_settle N 69 (n3 l) (hp κ1) = some (hp κ2) ∧ hk_I κ2 69 23 = n3 (Q.length + 1) ∧ hk_I κ2 69 24 = n3 (brk Q + 1) ∧ κ4 = hk_wI (hk_wI κ2 69 23 (n3 Q.length)) 69 24 (n3 (brk Q)) ∧ Q.length < 400 ∧ brk Q < 400 ∧ rSg κ κ4 ∧ rP κ4 B n (nxt B n j) k (stl l P f O G).1 (stl l P f O G).2.1 (stl l P f O G).2.2.1 Q := by
  obtain ⟨h, hl'⟩ := h
  have jn := h.2.1.1
  have n4 := h.1.1
  have nx := (nxt_le (B := B) jn).2 jl
  obtain ⟨κ1, e1, s1, p1⟩ := rP0_must N κ h hN
  obtain ⟨κ2, e2, s2, p2, l2⟩ := rP0_settle N κ1 p1 hl hN
  have ib := (stl_inn hl.1 P f O G (F := (stl l P f O G).1) (OO := (stl l P f O G).2.1) (GG := (stl l P f O G).2.2.1) (Y := (stl l P f O G).2.2.2) rfl).2
  rw [ib, eq] at p2
  rw [eq] at l2
  have eb : brk ((o, a) :: Q) = brk Q + 1 := by rw [brk, if_pos ho]
  have el : ((o, a) :: Q).length = Q.length + 1 := rfl
  rw [eb] at p2
  have i23 := p2.2.2.2.2.2.1.2.2.1
  have i24 := p2.2.2.2.2.2.2.1
  obtain ⟨s3, p3⟩ := rP0_pop κ2 p2
  obtain ⟨s4, p4⟩ := rP0_open _ (b' := brk Q) p3
  have bq := brk_le Q
  exact ⟨κ1, κ2, _, e1, p1.2.2.1, e2, i23, i24, rfl, by omega, by omega, s1.trans (s2.trans (s3.trans s4)), p4, by omega⟩
theorem r_wI2 {x y x' y' : Int32} (h23 : hk_I κ 69 23 = x) (h24 : hk_I κ 69 24 = y) (hx : x - n3 1 = x') (hy : y - n3 1 = y') : ((ra_fI (hp κ) 12 69 23).bind fun x6 => (ra_fW (hp κ) 12 69 23 (.int (x6 - (1 : Int32)))).bind fun h7 => (ra_fI h7 12 69 24).bind fun x8 => ra_fW h7 12 69 24 (.int (x8 - (1 : Int32)))) = some (hp (hk_wI (hk_wI κ 69 23 x') 69 24 y')) := by
  have a1 : ra_fI (hp κ) 12 69 23 = some x := by rw [← h23]; rfl
  have w1 : ra_fW (hp κ) 12 69 23 (.int x') = some (hp (hk_wI κ 69 23 x')) := by simp (maxSteps := 400000) (disch := omega) only [n3_l, n3_add, n3_mul, n3_sub, n3_subn, n3_lt, n3_le, n3_eq, n3_eqn, n3_neq, n3_and, n3_or, n3_shl, n3_i, n3_cl, ↓hbd_0, ↓hbd_1, ↓hbd_2, hk_ob_0, hk_rd_0, hk_rd_1, hk_rd_2, hk_al_0, hk_al_1, h3r_0, h3r_1, hk_wi_0, hk_wj_0, h3w_0, h3w_1, h3v_0, hk_kI, hk_kJ, hk_kA, hk_kB, A_eq, A_ne, A_row, B_eq, B_ne, B_row, I_eq, I_ne, J_eq, J_ne, Option.bind_some, Option.some.injEq, if_true, if_false, eq_self, true_or, or_true, true_and, and_true, false_or, or_false, not_true_eq_false, not_false_eq_true, Classical.not_not, nar_b0, nar_b1, rz_0, rz_1, rz_i, ite01, Nat.add_zero, Nat.zero_add, Nat.one_mul, mul12, reduceIte, ra_z0, Nat.reduceEqDiff, Nat.reduceLT, Nat.reduceLeDiff, Nat.reduceAdd, Nat.reduceMul, Nat.reduceSub, Nat.reduceDiv, Nat.reduceMod, Bool.false_eq_true, false_and, and_false, reduceCtorEq]
  have a2 : ra_fI (hp (hk_wI κ 69 23 x')) 12 69 24 = some y := by rw [← h24]; rfl
  have w2 : ra_fW (hp (hk_wI κ 69 23 x')) 12 69 24 (.int y') = some (hp (hk_wI (hk_wI κ 69 23 x') 69 24 y')) := by simp (maxSteps := 400000) (disch := omega) only [n3_l, n3_add, n3_mul, n3_sub, n3_subn, n3_lt, n3_le, n3_eq, n3_eqn, n3_neq, n3_and, n3_or, n3_shl, n3_i, n3_cl, ↓hbd_0, ↓hbd_1, ↓hbd_2, hk_ob_0, hk_rd_0, hk_rd_1, hk_rd_2, hk_al_0, hk_al_1, h3r_0, h3r_1, hk_wi_0, hk_wj_0, h3w_0, h3w_1, h3v_0, hk_kI, hk_kJ, hk_kA, hk_kB, A_eq, A_ne, A_row, B_eq, B_ne, B_row, I_eq, I_ne, J_eq, J_ne, Option.bind_some, Option.some.injEq, if_true, if_false, eq_self, true_or, or_true, true_and, and_true, false_or, or_false, not_true_eq_false, not_false_eq_true, Classical.not_not, nar_b0, nar_b1, rz_0, rz_1, rz_i, ite01, Nat.add_zero, Nat.zero_add, Nat.one_mul, mul12, reduceIte, ra_z0, Nat.reduceEqDiff, Nat.reduceLT, Nat.reduceLeDiff, Nat.reduceAdd, Nat.reduceMul, Nat.reduceSub, Nat.reduceDiv, Nat.reduceMod, Bool.false_eq_true, false_and, and_false, reduceCtorEq]
  have hx' : x - (1 : Int32) = x' := hx
  have hy' : y - (1 : Int32) = y' := hy
  rw [a1, Option.bind_some, hx', w1, Option.bind_some, a2, Option.bind_some, hy', w2]
theorem r_behindSum {B : Nat → Nat} {n j k f : Nat} {O G : Nat → Nat} {P : List (Nat × Nat)} {tst : Bool} (h : rP κ B n j k f O G P) (hN : 1000 < N) : rSt κ B n f O G P (mSum B n tst j k f O G P) (fX12_behindSum N 69 (if tst = true then n3 1 else n3 0) (hp κ)) := by
  have hh := h
  obtain ⟨h, hl⟩ := h
  have jn := h.2.1.1
  have n4 := h.1.1
  have i1 := r_isSign N κ (c := 43) h.1 h.2.1 (by omega)
  have i2 := r_isSign N κ (c := 45) h.1 h.2.1 (by omega)
  have i3 := r_isSign N κ (c := 42) h.1 h.2.1 (by omega)
  have i4 := r_isSign N κ (c := 47) h.1 h.2.1 (by omega)
  have st : fX12_behindSum N 69 (if tst = true then n3 1 else n3 0) (hp κ) = nX12_behindSum_57 N 69 (if tst = true then n3 1 else n3 0) (match opA B n j with
    | some o => n3 (20 + o)
    | none => -n3 1) (hp κ) := by
    unfold opA fX12_behindSum nX12_behindSum_0
    by_cases c1 : sg B n 43 j
    · rw [if_pos c1] at i1 ⊢
      simp (maxSteps := 400000) (disch := omega) only [n3_l, n3_add, n3_mul, n3_sub, n3_subn, n3_lt, n3_le, n3_eq, n3_eqn, n3_neq, n3_and, n3_or, n3_shl, n3_i, n3_cl, ↓hbd_0, ↓hbd_1, ↓hbd_2, hk_ob_0, hk_rd_0, hk_rd_1, hk_rd_2, hk_al_0, hk_al_1, h3r_0, h3r_1, hk_wi_0, hk_wj_0, h3w_0, h3w_1, h3v_0, hk_kI, hk_kJ, hk_kA, hk_kB, A_eq, A_ne, A_row, B_eq, B_ne, B_row, I_eq, I_ne, J_eq, J_ne, Option.bind_some, Option.some.injEq, if_true, if_false, eq_self, true_or, or_true, true_and, and_true, false_or, or_false, not_true_eq_false, not_false_eq_true, Classical.not_not, nar_b0, nar_b1, rz_0, rz_1, rz_i, ite01, Nat.add_zero, Nat.zero_add, Nat.one_mul, mul12, reduceIte, ra_z0, Nat.reduceEqDiff, Nat.reduceLT, Nat.reduceLeDiff, Nat.reduceAdd, Nat.reduceMul, Nat.reduceSub, Nat.reduceDiv, Nat.reduceMod, Bool.false_eq_true, false_and, and_false, reduceCtorEq, i1]
    · rw [if_neg c1] at i1 ⊢
      by_cases c2 : sg B n 45 j
      · rw [if_pos c2] at i2 ⊢
        simp (maxSteps := 400000) (disch := omega) only [n3_l, n3_add, n3_mul, n3_sub, n3_subn, n3_lt, n3_le, n3_eq, n3_eqn, n3_neq, n3_and, n3_or, n3_shl, n3_i, n3_cl, ↓hbd_0, ↓hbd_1, ↓hbd_2, hk_ob_0, hk_rd_0, hk_rd_1, hk_rd_2, hk_al_0, hk_al_1, h3r_0, h3r_1, hk_wi_0, hk_wj_0, h3w_0, h3w_1, h3v_0, hk_kI, hk_kJ, hk_kA, hk_kB, A_eq, A_ne, A_row, B_eq, B_ne, B_row, I_eq, I_ne, J_eq, J_ne, Option.bind_some, Option.some.injEq, if_true, if_false, eq_self, true_or, or_true, true_and, and_true, false_or, or_false, not_true_eq_false, not_false_eq_true, Classical.not_not, nar_b0, nar_b1, rz_0, rz_1, rz_i, ite01, Nat.add_zero, Nat.zero_add, Nat.one_mul, mul12, reduceIte, ra_z0, Nat.reduceEqDiff, Nat.reduceLT, Nat.reduceLeDiff, Nat.reduceAdd, Nat.reduceMul, Nat.reduceSub, Nat.reduceDiv, Nat.reduceMod, Bool.false_eq_true, false_and, and_false, reduceCtorEq, i1, i2]
      · rw [if_neg c2] at i2 ⊢
        by_cases c3 : sg B n 42 j
        · rw [if_pos c3] at i3 ⊢
          simp (maxSteps := 400000) (disch := omega) only [n3_l, n3_add, n3_mul, n3_sub, n3_subn, n3_lt, n3_le, n3_eq, n3_eqn, n3_neq, n3_and, n3_or, n3_shl, n3_i, n3_cl, ↓hbd_0, ↓hbd_1, ↓hbd_2, hk_ob_0, hk_rd_0, hk_rd_1, hk_rd_2, hk_al_0, hk_al_1, h3r_0, h3r_1, hk_wi_0, hk_wj_0, h3w_0, h3w_1, h3v_0, hk_kI, hk_kJ, hk_kA, hk_kB, A_eq, A_ne, A_row, B_eq, B_ne, B_row, I_eq, I_ne, J_eq, J_ne, Option.bind_some, Option.some.injEq, if_true, if_false, eq_self, true_or, or_true, true_and, and_true, false_or, or_false, not_true_eq_false, not_false_eq_true, Classical.not_not, nar_b0, nar_b1, rz_0, rz_1, rz_i, ite01, Nat.add_zero, Nat.zero_add, Nat.one_mul, mul12, reduceIte, ra_z0, Nat.reduceEqDiff, Nat.reduceLT, Nat.reduceLeDiff, Nat.reduceAdd, Nat.reduceMul, Nat.reduceSub, Nat.reduceDiv, Nat.reduceMod, Bool.false_eq_true, false_and, and_false, reduceCtorEq, i1, i2, i3]
        · rw [if_neg c3] at i3 ⊢
          by_cases c4 : sg B n 47 j
          · rw [if_pos c4] at i4 ⊢
            simp (maxSteps := 400000) (disch := omega) only [n3_l, n3_add, n3_mul, n3_sub, n3_subn, n3_lt, n3_le, n3_eq, n3_eqn, n3_neq, n3_and, n3_or, n3_shl, n3_i, n3_cl, ↓hbd_0, ↓hbd_1, ↓hbd_2, hk_ob_0, hk_rd_0, hk_rd_1, hk_rd_2, hk_al_0, hk_al_1, h3r_0, h3r_1, hk_wi_0, hk_wj_0, h3w_0, h3w_1, h3v_0, hk_kI, hk_kJ, hk_kA, hk_kB, A_eq, A_ne, A_row, B_eq, B_ne, B_row, I_eq, I_ne, J_eq, J_ne, Option.bind_some, Option.some.injEq, if_true, if_false, eq_self, true_or, or_true, true_and, and_true, false_or, or_false, not_true_eq_false, not_false_eq_true, Classical.not_not, nar_b0, nar_b1, rz_0, rz_1, rz_i, ite01, Nat.add_zero, Nat.zero_add, Nat.one_mul, mul12, reduceIte, ra_z0, Nat.reduceEqDiff, Nat.reduceLT, Nat.reduceLeDiff, Nat.reduceAdd, Nat.reduceMul, Nat.reduceSub, Nat.reduceDiv, Nat.reduceMod, Bool.false_eq_true, false_and, and_false, reduceCtorEq, i1, i2, i3, i4]
          · rw [if_neg c4] at i4 ⊢
            simp (maxSteps := 400000) (disch := omega) only [n3_l, n3_add, n3_mul, n3_sub, n3_subn, n3_lt, n3_le, n3_eq, n3_eqn, n3_neq, n3_and, n3_or, n3_shl, n3_i, n3_cl, ↓hbd_0, ↓hbd_1, ↓hbd_2, hk_ob_0, hk_rd_0, hk_rd_1, hk_rd_2, hk_al_0, hk_al_1, h3r_0, h3r_1, hk_wi_0, hk_wj_0, h3w_0, h3w_1, h3v_0, hk_kI, hk_kJ, hk_kA, hk_kB, A_eq, A_ne, A_row, B_eq, B_ne, B_row, I_eq, I_ne, J_eq, J_ne, Option.bind_some, Option.some.injEq, if_true, if_false, eq_self, true_or, or_true, true_and, and_true, false_or, or_false, not_true_eq_false, not_false_eq_true, Classical.not_not, nar_b0, nar_b1, rz_0, rz_1, rz_i, ite01, Nat.add_zero, Nat.zero_add, Nat.one_mul, mul12, reduceIte, ra_z0, Nat.reduceEqDiff, Nat.reduceLT, Nat.reduceLeDiff, Nat.reduceAdd, Nat.reduceMul, Nat.reduceSub, Nat.reduceDiv, Nat.reduceMod, Bool.false_eq_true, false_and, and_false, reduceCtorEq, i1, i2, i3, i4]
  rw [st]
  unfold mSum
  cases ho : opA B n j with
  | some o =>
    have o3 : o ≤ 3 ∧ j < n := by
      unfold opA at ho
      split at ho
      · have := Option.some.inj ho; exact ⟨by omega, sg_lt (by assumption)⟩
      · split at ho
        · have := Option.some.inj ho; exact ⟨by omega, sg_lt (by assumption)⟩
        · split at ho
          · have := Option.some.inj ho; exact ⟨by omega, sg_lt (by assumption)⟩
          · split at ho
            · have := Option.some.inj ho; exact ⟨by omega, sg_lt (by assumption)⟩
            · cases ho
    exact r_sumOp N κ hh o3.2 o3.1 hN
  | none =>
    dsimp only
    have inr := r_inner N κ h.2.2.2.2.2.1.2.2.1 (by omega) h.2.2.2.2.2.1.2.2.2.1 hN
    have il := inn_le P h.2.2.2.2.2.1.2.2.2.1
    by_cases c31 : inn P = 31
    · rw [if_pos c31]
      rw [if_neg (by omega), c31] at inr
      have i5 := r_isSign N κ (c := 93) h.1 h.2.1 (by omega)
      by_cases c93 : sg B n 93 j
      · rw [if_pos c93] at i5 ⊢
        have jl := sg_lt c93
        cases eY : (stl 5 P f O G).2.2.2 with
        | nil =>
          have : mPop 3 (nxt B n j) k (stl 5 P f O G) = none := by
            rcases hs : stl 5 P f O G with ⟨F, OO, GG, Y⟩
            rw [hs] at eY
            dsimp only at eY
            subst eY
            rfl
          rw [this]
          trivial
        | cons q Q =>
          obtain ⟨o, a⟩ := q
          have mp : mPop 3 (nxt B n j) k (stl 5 P f O G) = if 30 ≤ o then some (.inr (3, nxt B n j, k, (stl 5 P f O G).1, (stl 5 P f O G).2.1, (stl 5 P f O G).2.2.1, Q)) else none := by
            rcases hs : stl 5 P f O G with ⟨F, OO, GG, Y⟩
            rw [hs] at eY
            dsimp only at eY
            subst eY
            rfl
          rw [mp]
          by_cases c30 : 30 ≤ o
          · rw [if_pos c30]
            obtain ⟨κ1, κ2, κ4, e1, b1, e2, b2, b3, b4, b5, b6, b7, b8⟩ := r_close N κ hh jl (l := 5) (by omega) hN eY c30
            refine ⟨κ4, ?_, b7, b8⟩
            have w := r_wI2 κ2 b2 b3 (x' := n3 Q.length) (y' := n3 (brk Q)) (by simp (maxSteps := 400000) (disch := omega) only [n3_l, n3_add, n3_mul, n3_sub, n3_subn, n3_lt, n3_le, n3_eq, n3_eqn, n3_neq, n3_and, n3_or, n3_shl, n3_i, n3_cl, Option.bind_some, Option.some.injEq, if_true, if_false, eq_self, true_or, or_true, true_and, and_true, false_or, or_false, not_true_eq_false, not_false_eq_true, Classical.not_not, nar_b0, nar_b1, rz_0, rz_1, rz_i, ite01, Nat.add_zero, Nat.zero_add, Nat.one_mul, mul12, reduceIte, ra_z0, Nat.reduceEqDiff, Nat.reduceLT, Nat.reduceLeDiff, Nat.reduceAdd, Nat.reduceMul, Nat.reduceSub, Nat.reduceDiv, Nat.reduceMod, Bool.false_eq_true, false_and, and_false, reduceCtorEq, Nat.add_sub_cancel]) (by simp (maxSteps := 400000) (disch := omega) only [n3_l, n3_add, n3_mul, n3_sub, n3_subn, n3_lt, n3_le, n3_eq, n3_eqn, n3_neq, n3_and, n3_or, n3_shl, n3_i, n3_cl, Option.bind_some, Option.some.injEq, if_true, if_false, eq_self, true_or, or_true, true_and, and_true, false_or, or_false, not_true_eq_false, not_false_eq_true, Classical.not_not, nar_b0, nar_b1, rz_0, rz_1, rz_i, ite01, Nat.add_zero, Nat.zero_add, Nat.one_mul, mul12, reduceIte, ra_z0, Nat.reduceEqDiff, Nat.reduceLT, Nat.reduceLeDiff, Nat.reduceAdd, Nat.reduceMul, Nat.reduceSub, Nat.reduceDiv, Nat.reduceMod, Bool.false_eq_true, false_and, and_false, reduceCtorEq, Nat.add_sub_cancel])
            rw [← b4] at w
            have fin : ((ra_fI (hp κ2) 12 69 23).bind fun x6 => (ra_fW (hp κ2) 12 69 23 (.int (x6 - (1 : Int32)))).bind fun h7 => (ra_fI h7 12 69 24).bind fun x8 => (ra_fW h7 12 69 24 (.int (x8 - (1 : Int32)))).bind fun h9 => nX12_behindSum_136 N h9) = some (n3 3, hp κ4) := by
              have e : ((ra_fI (hp κ2) 12 69 23).bind fun x6 => (ra_fW (hp κ2) 12 69 23 (.int (x6 - (1 : Int32)))).bind fun h7 => (ra_fI h7 12 69 24).bind fun x8 => (ra_fW h7 12 69 24 (.int (x8 - (1 : Int32)))).bind fun h9 => nX12_behindSum_136 N h9) = (((ra_fI (hp κ2) 12 69 23).bind fun x6 => (ra_fW (hp κ2) 12 69 23 (.int (x6 - (1 : Int32)))).bind fun h7 => (ra_fI h7 12 69 24).bind fun x8 => ra_fW h7 12 69 24 (.int (x8 - (1 : Int32)))).bind fun h9 => nX12_behindSum_136 N h9) := by
                simp only [Option.bind_assoc]
              rw [e, w]
              rfl
            unfold nX12_behindSum_57
            rw [if_pos (show -n3 1 = (-1 : Int32) from rfl), inr, Option.bind_some, if_pos (show n3 31 = (31 : Int32) from rfl), show (93 : Int32) = n3 93 from rfl, i5, Option.bind_some, e1, Option.bind_some]
            have f14 : ra_fI (hp κ1) 12 69 14 = some (n3 0) := by rw [← b1]; rfl
            rw [f14, Option.bind_some, if_pos (show n3 0 = (0 : Int32) from rfl), show (5 : Int32) = n3 5 from rfl, e2, Option.bind_some]
            exact fin
          · rw [if_neg c30]
            trivial
      · rw [if_neg c93] at i5 ⊢
        obtain ⟨κ1, e1, s1, b1, b2, b3⟩ := rP0_bad N κ h
        refine ⟨κ1, n3 3, ?_, s1, b1, b2, b3⟩
        unfold nX12_behindSum_57
        simp (maxSteps := 400000) (disch := omega) only [n3_l, n3_add, n3_mul, n3_sub, n3_subn, n3_lt, n3_le, n3_eq, n3_eqn, n3_neq, n3_and, n3_or, n3_shl, n3_i, n3_cl, ↓hbd_0, ↓hbd_1, ↓hbd_2, hk_ob_0, hk_rd_0, hk_rd_1, hk_rd_2, hk_al_0, hk_al_1, h3r_0, h3r_1, hk_wi_0, hk_wj_0, h3w_0, h3w_1, h3v_0, hk_kI, hk_kJ, hk_kA, hk_kB, A_eq, A_ne, A_row, B_eq, B_ne, B_row, I_eq, I_ne, J_eq, J_ne, Option.bind_some, Option.some.injEq, if_true, if_false, eq_self, true_or, or_true, true_and, and_true, false_or, or_false, not_true_eq_false, not_false_eq_true, Classical.not_not, nar_b0, nar_b1, rz_0, rz_1, rz_i, ite01, Nat.add_zero, Nat.zero_add, Nat.one_mul, mul12, reduceIte, ra_z0, Nat.reduceEqDiff, Nat.reduceLT, Nat.reduceLeDiff, Nat.reduceAdd, Nat.reduceMul, Nat.reduceSub, Nat.reduceDiv, Nat.reduceMod, Bool.false_eq_true, false_and, and_false, reduceCtorEq, inr, i5, e1, b1, nX12_behindSum_136]
    · rw [if_neg c31]
      have n31 : ¬ (if inn P = 0 then -n3 1 else n3 (inn P)) = n3 31 := by
        by_cases c0 : inn P = 0
        · rw [if_pos c0]; decide
        · rw [if_neg c0]
          exact fun z => c31 ((n3_eq (by omega) (by omega)).mp z)
      by_cases c4 : inn P = 0 ∧ tst = false
      · rw [if_pos c4]
        rw [if_pos c4.1] at inr n31
        refine ⟨κ, ?_, rSg.refl _, hh⟩
        unfold nX12_behindSum_57
        rw [c4.2]
        simp (maxSteps := 400000) (disch := omega) only [n3_l, n3_add, n3_mul, n3_sub, n3_subn, n3_lt, n3_le, n3_eq, n3_eqn, n3_neq, n3_and, n3_or, n3_shl, n3_i, n3_cl, ↓hbd_0, ↓hbd_1, ↓hbd_2, hk_ob_0, hk_rd_0, hk_rd_1, hk_rd_2, hk_al_0, hk_al_1, h3r_0, h3r_1, hk_wi_0, hk_wj_0, h3w_0, h3w_1, h3v_0, hk_kI, hk_kJ, hk_kA, hk_kB, A_eq, A_ne, A_row, B_eq, B_ne, B_row, I_eq, I_ne, J_eq, J_ne, Option.bind_some, Option.some.injEq, if_true, if_false, eq_self, true_or, or_true, true_and, and_true, false_or, or_false, not_true_eq_false, not_false_eq_true, Classical.not_not, nar_b0, nar_b1, rz_0, rz_1, rz_i, ite01, Nat.add_zero, Nat.zero_add, Nat.one_mul, mul12, reduceIte, ra_z0, Nat.reduceEqDiff, Nat.reduceLT, Nat.reduceLeDiff, Nat.reduceAdd, Nat.reduceMul, Nat.reduceSub, Nat.reduceDiv, Nat.reduceMod, Bool.false_eq_true, false_and, and_false, reduceCtorEq, inr, n31, Bool.false_eq_true]
      · rw [if_neg c4]
        have st2 : nX12_behindSum_57 N 69 (if tst = true then n3 1 else n3 0) (-n3 1) (hp κ) = nX12_behindSum_149 N 69 (hp κ) := by
          unfold nX12_behindSum_57
          by_cases c0 : inn P = 0
          · rw [if_pos c0] at inr n31
            have tt : tst = true := by
              cases tst with
              | true => rfl
              | false => exact absurd ⟨c0, rfl⟩ c4
            rw [tt]
            simp (maxSteps := 400000) (disch := omega) only [n3_l, n3_add, n3_mul, n3_sub, n3_subn, n3_lt, n3_le, n3_eq, n3_eqn, n3_neq, n3_and, n3_or, n3_shl, n3_i, n3_cl, ↓hbd_0, ↓hbd_1, ↓hbd_2, hk_ob_0, hk_rd_0, hk_rd_1, hk_rd_2, hk_al_0, hk_al_1, h3r_0, h3r_1, hk_wi_0, hk_wj_0, h3w_0, h3w_1, h3v_0, hk_kI, hk_kJ, hk_kA, hk_kB, A_eq, A_ne, A_row, B_eq, B_ne, B_row, I_eq, I_ne, J_eq, J_ne, Option.bind_some, Option.some.injEq, if_true, if_false, eq_self, true_or, or_true, true_and, and_true, false_or, or_false, not_true_eq_false, not_false_eq_true, Classical.not_not, nar_b0, nar_b1, rz_0, rz_1, rz_i, ite01, Nat.add_zero, Nat.zero_add, Nat.one_mul, mul12, reduceIte, ra_z0, Nat.reduceEqDiff, Nat.reduceLT, Nat.reduceLeDiff, Nat.reduceAdd, Nat.reduceMul, Nat.reduceSub, Nat.reduceDiv, Nat.reduceMod, Bool.false_eq_true, false_and, and_false, reduceCtorEq, inr, n31]
          · rw [if_neg c0] at inr n31
            have nm : ¬ n3 (inn P) = -n3 1 := fun z => (n3_eqn (by omega) (by omega) (by omega)).mp z
            simp (maxSteps := 400000) (disch := omega) only [n3_l, n3_add, n3_mul, n3_sub, n3_subn, n3_lt, n3_le, n3_eq, n3_eqn, n3_neq, n3_and, n3_or, n3_shl, n3_i, n3_cl, ↓hbd_0, ↓hbd_1, ↓hbd_2, hk_ob_0, hk_rd_0, hk_rd_1, hk_rd_2, hk_al_0, hk_al_1, h3r_0, h3r_1, hk_wi_0, hk_wj_0, h3w_0, h3w_1, h3v_0, hk_kI, hk_kJ, hk_kA, hk_kB, A_eq, A_ne, A_row, B_eq, B_ne, B_row, I_eq, I_ne, J_eq, J_ne, Option.bind_some, Option.some.injEq, if_true, if_false, eq_self, true_or, or_true, true_and, and_true, false_or, or_false, not_true_eq_false, not_false_eq_true, Classical.not_not, nar_b0, nar_b1, rz_0, rz_1, rz_i, ite01, Nat.add_zero, Nat.zero_add, Nat.one_mul, mul12, reduceIte, ra_z0, Nat.reduceEqDiff, Nat.reduceLT, Nat.reduceLeDiff, Nat.reduceAdd, Nat.reduceMul, Nat.reduceSub, Nat.reduceDiv, Nat.reduceMod, Bool.false_eq_true, false_and, and_false, reduceCtorEq, inr, n31, nm]
        rw [st2]
        by_cases cc : cmpd P = true
        · rw [if_pos cc]
          have cp := r_isCompared N κ h.2.2.2.2.2.1.2.2.1 (by omega) h.2.2.2.2.2.1.2.2.2.1 hN
          rw [if_pos cc] at cp
          refine ⟨κ, ?_, rSg.refl _, hh⟩
          unfold nX12_behindSum_149
          simp (maxSteps := 400000) (disch := omega) only [n3_l, n3_add, n3_mul, n3_sub, n3_subn, n3_lt, n3_le, n3_eq, n3_eqn, n3_neq, n3_and, n3_or, n3_shl, n3_i, n3_cl, ↓hbd_0, ↓hbd_1, ↓hbd_2, hk_ob_0, hk_rd_0, hk_rd_1, hk_rd_2, hk_al_0, hk_al_1, h3r_0, h3r_1, hk_wi_0, hk_wj_0, h3w_0, h3w_1, h3v_0, hk_kI, hk_kJ, hk_kA, hk_kB, A_eq, A_ne, A_row, B_eq, B_ne, B_row, I_eq, I_ne, J_eq, J_ne, Option.bind_some, Option.some.injEq, if_true, if_false, eq_self, true_or, or_true, true_and, and_true, false_or, or_false, not_true_eq_false, not_false_eq_true, Classical.not_not, nar_b0, nar_b1, rz_0, rz_1, rz_i, ite01, Nat.add_zero, Nat.zero_add, Nat.one_mul, mul12, reduceIte, ra_z0, Nat.reduceEqDiff, Nat.reduceLT, Nat.reduceLeDiff, Nat.reduceAdd, Nat.reduceMul, Nat.reduceSub, Nat.reduceDiv, Nat.reduceMod, Bool.false_eq_true, false_and, and_false, reduceCtorEq, cp]
        · rw [if_neg cc]
          exact r_sumCmp N κ hh cc hN
end
