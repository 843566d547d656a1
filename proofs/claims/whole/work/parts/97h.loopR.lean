/-! the reference's reader on the heap: behind a test, and the whole -/
section
variable (N : Nat) (κ : hk_T)
theorem r_ao {B : Nat → Nat} {n j k f l o : Nat} {O G : Nat → Nat} {P : List (Nat × Nat)} (h : rP κ B n j k f O G P) (hl : 1 ≤ l ∧ l ≤ 6) (ho : o = 28 ∨ o = 29) (nx : j + 2 ≤ nxt B n j) (nn : nxt B n j ≤ n) (hN : 1000 < N) : ∃ κ1 κ2 κ3 κ4, fX12_settle N 69 (n3 l) (hp κ) = some (hp κ1) ∧ hk_I κ1 69 17 = n3 (stl l P f O G).1 ∧ fX12_push N 69 (n3 o) (n3 (stl l P f O G).1) (hp κ1) = some (hp κ2) ∧ fX12_emit N 69 (n3 o) (n3 0) (hp κ2) = some (hp κ3) ∧ fX12_goOn N 69 (hp κ3) = some (hp κ4) ∧ rSg κ κ4 ∧ rP κ4 B n (nxt B n j) k ((stl l P f O G).1 + 1) (up9 (stl l P f O G).2.1 (stl l P f O G).1 o) (up9 (stl l P f O G).2.2.1 (stl l P f O G).1 0) ((o, (stl l P f O G).1) :: (stl l P f O G).2.2.2) := by
  obtain ⟨h, hl'⟩ := h
  have n4 := h.1.1
  obtain ⟨κ1, e1, s1, p1, l1⟩ := rP0_settle N κ h hl hN
  have ib := (stl_inn hl.1 P f O G (F := (stl l P f O G).1) (OO := (stl l P f O G).2.1) (GG := (stl l P f O G).2.2.1) (Y := (stl l P f O G).2.2.2) rfl).2
  rw [ib] at p1
  generalize (stl l P f O G).1 = F at p1 l1 ⊢
  generalize (stl l P f O G).2.1 = OO at p1 ⊢
  generalize (stl l P f O G).2.2.1 = GG at p1 ⊢
  generalize (stl l P f O G).2.2.2 = Y at p1 l1 ⊢
  obtain ⟨κ2, e2, s2, p2⟩ := rP0_push N κ1 (o := o) (g := F) p1 (by omega) (by omega) (by omega)
  have el : ((o, F) :: Y).length = Y.length + 1 := rfl
  obtain ⟨κ3, e3, s3, p3⟩ := rP0_emit N κ2 (o := o) (g := 0) p2 (by omega)
  obtain ⟨κ4, e4, s4, p4⟩ := rP0_go N κ3 p3 hN
  refine ⟨κ1, κ2, κ3, κ4, e1, p1.2.2.2.2.2.1.1, e2, e3, e4, s1.trans (s2.trans (s3.trans s4)), ?_, by omega⟩
  rw [brk, if_neg (by omega)]
  exact p4
theorem r_behindTest {B : Nat → Nat} {n j k f : Nat} {O G : Nat → Nat} {P : List (Nat × Nat)} (h : rP κ B n j k f O G P) (hN : 1000 < N) : rSt κ B n f O G P (mTold B n j k f O G P) (fX12_behindTest N 69 (hp κ)) := by
  have hh := h
  obtain ⟨h, hl⟩ := h
  have jn := h.2.1.1
  have n4 := h.1.1
  have w1 : fX12_isWord N 69 (1476 : Int64) (hp κ) = _ := r_isWord N κ (k := 19) (w := (1476 : Int64)) h.2.1 (by omega) (by rw [enW_at.2.2.2.2.2.2.2.2.2.2.2.2.2.2.2.2.2.2.2.1]; rfl)
  have w2 : fX12_isWord N 69 (498 : Int64) (hp κ) = _ := r_isWord N κ (k := 20) (w := (498 : Int64)) h.2.1 (by omega) (by rw [enW_at.2.2.2.2.2.2.2.2.2.2.2.2.2.2.2.2.2.2.2.2]; rfl)
  have z0 : n3 0 = (0 : Int32) := rfl
  have z1 : ¬ n3 1 = (0 : Int32) := by decide
  have ob : fX12_behindTest N 69 (hp κ) = nX12_behindTest_0 N 69 (hp κ) := rfl
  rw [ob]
  unfold mTold nX12_behindTest_0
  rw [w1, Option.bind_some]
  by_cases cw : isW B n 19 j
  · rw [if_pos cw, if_pos cw, if_neg z1]
    have nx := isW_nx jn cw
    rw [wLen_ao.1] at nx
    obtain ⟨κ1, κ2, κ3, κ4, e1, i17, e2, e3, e4, s, p⟩ := r_ao N κ (l := 2) (o := 28) hh (by omega) (by omega) (by omega) (nxt_le jn).1 hN
    refine ⟨κ4, ?_, s, p⟩
    have e1' : fX12_settle N 69 (2 : Int32) (hp κ) = some (hp κ1) := e1
    have f17 : ra_fI (hp κ1) 12 69 17 = some (n3 (stl 2 P f O G).1) := by rw [← i17]; rfl
    have e2' : fX12_push N 69 (28 : Int32) (n3 (stl 2 P f O G).1) (hp κ1) = some (hp κ2) := e2
    have e3' : fX12_emit N 69 (28 : Int32) (0 : Int32) (hp κ2) = some (hp κ3) := e3
    unfold nX12_behindTest_22 nX12_behindTest_32 nX12_behindTest_47 nX12_behindTest_66
    rw [if_neg z1, e1', Option.bind_some, if_neg z1, f17, Option.bind_some, e2', Option.bind_some, if_neg z1, e3', Option.bind_some, e4, Option.bind_some]
    rfl
  · rw [if_neg cw, if_neg cw, if_pos z0, w2, Option.bind_some]
    by_cases cv : isW B n 20 j
    · rw [if_pos cv, if_pos cv, if_neg z1]
      have nx := isW_nx jn cv
      rw [wLen_ao.2] at nx
      obtain ⟨κ1, κ2, κ3, κ4, e1, i17, e2, e3, e4, s, p⟩ := r_ao N κ (l := 1) (o := 29) hh (by omega) (by omega) (by omega) (nxt_le jn).1 hN
      refine ⟨κ4, ?_, s, p⟩
      have e1' : fX12_settle N 69 (1 : Int32) (hp κ) = some (hp κ1) := e1
      have f17 : ra_fI (hp κ1) 12 69 17 = some (n3 (stl 1 P f O G).1) := by rw [← i17]; rfl
      have e2' : fX12_push N 69 (29 : Int32) (n3 (stl 1 P f O G).1) (hp κ1) = some (hp κ2) := e2
      have e3' : fX12_emit N 69 (29 : Int32) (0 : Int32) (hp κ2) = some (hp κ3) := e3
      unfold nX12_behindTest_22 nX12_behindTest_32 nX12_behindTest_47 nX12_behindTest_66
      rw [if_pos z0, e1', Option.bind_some, if_pos z0, f17, Option.bind_some, e2', Option.bind_some, if_pos z0, e3', Option.bind_some, e4, Option.bind_some]
      rfl
    · rw [if_neg cv, if_neg cv, if_pos z0]
      have inr := r_inner N κ h.2.2.2.2.2.1.2.2.1 (by omega) h.2.2.2.2.2.1.2.2.2.1 hN
      have il := inn_le P h.2.2.2.2.2.1.2.2.2.1
      rw [inr, Option.bind_some]
      by_cases c0 : inn P = 0
      · rw [if_pos c0, if_pos c0, if_pos (show -n3 1 = (-1 : Int32) from rfl)]
        exact ⟨κ, rfl, rSg.refl _, hh⟩
      · have nm : ¬ n3 (inn P) = (-1 : Int32) := fun z => (n3_eqn (a := inn P) (b := 1) (by omega) (by omega) (by omega)).mp z
        rw [if_neg c0, if_neg c0, if_neg nm]
        have i5 : fX12_isSign N 69 (41 : Int32) (hp κ) = _ := r_isSign N κ (c := 41) h.1 h.2.1 (by omega)
        rw [i5, Option.bind_some]
        by_cases cs : sg B n 41 j
        · rw [if_pos cs, if_pos cs]
          have jl := sg_lt cs
          cases eY : (stl 1 P f O G).2.2.2 with
          | nil =>
            have : mPop 2 (nxt B n j) k (stl 1 P f O G) = none := by
              rcases hs : stl 1 P f O G with ⟨F, OO, GG, Y⟩
              rw [hs] at eY
              dsimp only at eY
              subst eY
              rfl
            rw [this]
            trivial
          | cons q Q =>
            obtain ⟨o, a⟩ := q
            have mp : mPop 2 (nxt B n j) k (stl 1 P f O G) = if 30 ≤ o then some (.inr (2, nxt B n j, k, (stl 1 P f O G).1, (stl 1 P f O G).2.1, (stl 1 P f O G).2.2.1, Q)) else none := by
              rcases hs : stl 1 P f O G with ⟨F, OO, GG, Y⟩
              rw [hs] at eY
              dsimp only at eY
              subst eY
              rfl
            rw [mp]
            by_cases c30 : 30 ≤ o
            · rw [if_pos c30]
              obtain ⟨κ1, κ2, κ4, e1, b1, e2, b2, b3, b4, b5, b6, b7, b8⟩ := r_close N κ hh jl (l := 1) (by omega) hN eY c30
              refine ⟨κ4, ?_, b7, b8⟩
              have w := r_wI2 κ2 b2 b3 (x' := n3 Q.length) (y' := n3 (brk Q)) (by simp (maxSteps := 400000) (disch := omega) only [n3_l, n3_add, n3_mul, n3_sub, n3_subn, n3_lt, n3_le, n3_eq, n3_eqn, n3_neq, n3_and, n3_or, n3_shl, n3_i, n3_cl, Option.bind_some, Option.some.injEq, if_true, if_false, eq_self, true_or, or_true, true_and, and_true, false_or, or_false, not_true_eq_false, not_false_eq_true, Classical.not_not, nar_b0, nar_b1, rz_0, rz_1, rz_i, ite01, Nat.add_zero, Nat.zero_add, Nat.one_mul, mul12, reduceIte, ra_z0, Nat.reduceEqDiff, Nat.reduceLT, Nat.reduceLeDiff, Nat.reduceAdd, Nat.reduceMul, Nat.reduceSub, Nat.reduceDiv, Nat.reduceMod, Bool.false_eq_true, false_and, and_false, reduceCtorEq, Nat.add_sub_cancel]) (by simp (maxSteps := 400000) (disch := omega) only [n3_l, n3_add, n3_mul, n3_sub, n3_subn, n3_lt, n3_le, n3_eq, n3_eqn, n3_neq, n3_and, n3_or, n3_shl, n3_i, n3_cl, Option.bind_some, Option.some.injEq, if_true, if_false, eq_self, true_or, or_true, true_and, and_true, false_or, or_false, not_true_eq_false, not_false_eq_true, Classical.not_not, nar_b0, nar_b1, rz_0, rz_1, rz_i, ite01, Nat.add_zero, Nat.zero_add, Nat.one_mul, mul12, reduceIte, ra_z0, Nat.reduceEqDiff, Nat.reduceLT, Nat.reduceLeDiff, Nat.reduceAdd, Nat.reduceMul, Nat.reduceSub, Nat.reduceDiv, Nat.reduceMod, Bool.false_eq_true, false_and, and_false, reduceCtorEq, Nat.add_sub_cancel])
              rw [← b4] at w
              have e : ((ra_fI (hp κ2) 12 69 23).bind fun x6 => (ra_fW (hp κ2) 12 69 23 (.int (x6 - (1 : Int32)))).bind fun h7 => (ra_fI h7 12 69 24).bind fun x8 => (ra_fW h7 12 69 24 (.int (x8 - (1 : Int32)))).bind fun h9 => nX12_behindTest_128 N h9) = (((ra_fI (hp κ2) 12 69 23).bind fun x6 => (ra_fW (hp κ2) 12 69 23 (.int (x6 - (1 : Int32)))).bind fun h7 => (ra_fI h7 12 69 24).bind fun x8 => ra_fW h7 12 69 24 (.int (x8 - (1 : Int32)))).bind fun h9 => nX12_behindTest_128 N h9) := by
                simp only [Option.bind_assoc]
              have f14 : ra_fI (hp κ1) 12 69 14 = some (n3 0) := by rw [← b1]; rfl
              have e2' : fX12_settle N 69 (1 : Int32) (hp κ1) = some (hp κ2) := e2
              rw [e1, Option.bind_some, f14, Option.bind_some, if_pos z0, e2', Option.bind_some, e, w]
              rfl
            · rw [if_neg c30]
              trivial
        · rw [if_neg cs, if_neg cs]
          obtain ⟨κ1, e1, s1, b1, b2, b3⟩ := rP0_bad N κ h
          refine ⟨κ1, n3 2, ?_, s1, b1, b2, b3⟩
          have f14 : ra_fI (hp κ1) 12 69 14 = some (n3 1) := by rw [← b1]; rfl
          rw [e1, Option.bind_some, f14, Option.bind_some, if_neg z1]
          rfl
end
/-- the machine's end: settled -/
def rEn (κ : hk_T) (B : Nat → Nat) (n : Nat) (r : Option (Sum Nat rMs)) (run : Option ra_H) : Prop := match r with
  | none => True
  | some (.inl e) => ∃ κ', run = some (hp κ') ∧ rSb κ κ' ∧ hk_I κ' 69 14 = n3 1 ∧ hk_I κ' 69 13 = n3 e
  | some (.inr (_, j, k, f, O, G, X)) => ∃ κ', run = some (hp κ') ∧ rSg κ κ' ∧ rP0 κ' B n j k (brk X) (stl 1 X f O G).1 (stl 1 X f O G).2.1 (stl 1 X f O G).2.2.1 (stl 1 X f O G).2.2.2 ∧ (stl 1 X f O G).1 + (stl 1 X f O G).2.2.2.length ≤ j
theorem r_exprL (N : Nat) {B : Nat → Nat} {n : Nat} {tst : Bool} (hN : 1000 < N) : ∀ m κ t j k f O G P, t ≤ 4 → rP κ B n j k f O G P → rEn κ B n (prun B n tst m (t, j, k, f, O, G, P)) (nX12_readExpression_20 N (m + 1) 69 (if tst = true then n3 1 else n3 0) (n3 t) (hp κ)) := by
  have z0 : n3 0 = (0 : Int32) := rfl
  have z1 : ¬ n3 1 = (0 : Int32) := by decide
  intro m
  induction m with
  | zero => intro κ t j k f O G P _ _; exact trivial
  | succ m ih =>
    intro κ t j k f O G P ht h
    have f14 : ra_fI (hp κ) 12 69 14 = some (n3 0) := by rw [← h.1.2.2.1]; rfl
    have key : ∀ r : Option (Sum Nat rMs), (∀ j k f O G P t, r = some (.inr (t, j, k, f, O, G, P)) → t ≤ 4) → ∀ run : Option (Int32 × ra_H), rSt κ B n f O G P r run → rEn κ B n (pnx B n tst m r) (run.bind fun q => nX12_readExpression_72 N (nX12_readExpression_20 N (m + 1)) 69 (if tst = true then n3 1 else n3 0) q.1 q.2) := by
      intro r hr run hs
      match r, hr, hs with
      | none, _, _ => exact trivial
      | some (.inl e), _, hs =>
        obtain ⟨κ1, t1, e1, s1, b1, b2, b3⟩ := hs
        obtain ⟨κ2, e2, s2, c2, l2⟩ := rC_settle N (l := 1) (by omega) P N κ1 f O G (by have := b3.2.2.2.2; omega) b3
        refine ⟨κ2, ?_, s1.trans (s2.1.weak (by decide) (by decide)), by rw [s2.1.2.2.1 69 14 (by decide)]; exact b1, by rw [s2.1.2.2.1 69 13 (by decide)]; exact b2⟩
        have g14 : ra_fI (hp κ1) 12 69 14 = some (n3 1) := by rw [← b1]; rfl
        have e2' : fX12_settle N 69 (1 : Int32) (hp κ1) = some (hp κ2) := e2
        rw [e1, Option.bind_some]
        show nX12_readExpression_20 N (m + 1) 69 _ t1 (hp κ1) = _
        rw [nX12_readExpression_20, g14, Option.bind_some, if_neg z1]
        unfold nX12_readExpression_76
        rw [e2', Option.bind_some]
      | some (.inr (t1, j1, k1, f1, O1, G1, P1)), hr, hs =>
        obtain ⟨κ1, e1, s1, p1⟩ := hs
        have r1 := ih κ1 t1 j1 k1 f1 O1 G1 P1 (hr _ _ _ _ _ _ _ rfl) p1
        rw [e1, Option.bind_some, pnx_s]
        show rEn κ B n (prun B n tst m (t1, j1, k1, f1, O1, G1, P1)) (nX12_readExpression_20 N (m + 1) 69 _ (n3 t1) (hp κ1))
        match prun B n tst m (t1, j1, k1, f1, O1, G1, P1), r1 with
        | none, _ => exact trivial
        | some (.inl e), r1 =>
          obtain ⟨κ2, e2, s2, b⟩ := r1
          exact ⟨κ2, e2, s1.b.trans s2, b⟩
        | some (.inr (_, _, _, _, _, _, _)), r1 =>
          obtain ⟨κ2, e2, s2, b⟩ := r1
          exact ⟨κ2, e2, s1.trans s2, b⟩
    rw [nX12_readExpression_20, f14, Option.bind_some, if_pos z0]
    match t, ht with
    | 4, _ =>
      rw [if_pos (show n3 4 = (4 : Int32) from rfl), prun_4]
      obtain ⟨κ1, e1, s1, p1, l1⟩ := rP0_settle N κ (l := 1) h.1 (by omega) hN
      refine ⟨κ1, ?_, s1, p1, by have := h.2; omega⟩
      have e1' : fX12_settle N 69 (1 : Int32) (hp κ) = some (hp κ1) := e1
      unfold nX12_readExpression_76
      rw [e1', Option.bind_some]
    | 0, _ =>
      rw [if_neg (show ¬ n3 0 = (4 : Int32) by decide), if_pos z0, prun_0]
      refine key _ ?_ _ (r_readPlain N κ h hN)
      intro j1 k1 f1 O1 G1 P1 t1 e
      unfold mPlain mPart at e
      (repeat' split at e) <;> (first | (cases e; omega) | (cases e; decide) | cases e)
    | 1, _ =>
      rw [if_neg (show ¬ n3 1 = (4 : Int32) by decide), if_neg z1, if_pos (show n3 1 = (1 : Int32) from rfl), prun_1]
      refine key _ ?_ _ (r_readPart N κ h hN)
      intro j1 k1 f1 O1 G1 P1 t1 e
      unfold mPart at e
      (repeat' split at e) <;> (first | (cases e; omega) | (cases e; decide) | cases e)
    | 3, _ =>
      rw [if_neg (show ¬ n3 3 = (4 : Int32) by decide), if_neg (show ¬ n3 3 = (0 : Int32) by decide), if_neg (show ¬ n3 3 = (1 : Int32) by decide), if_pos (show n3 3 = (3 : Int32) from rfl), prun_3]
      refine key _ ?_ _ (r_behindSum N κ h hN)
      intro j1 k1 f1 O1 G1 P1 t1 e
      unfold mSum mPop at e
      (repeat' split at e) <;> (first | (cases e; omega) | (cases e; decide) | cases e)
    | 2, _ =>
      rw [if_neg (show ¬ n3 2 = (4 : Int32) by decide), if_neg (show ¬ n3 2 = (0 : Int32) by decide), if_neg (show ¬ n3 2 = (1 : Int32) by decide), if_neg (show ¬ n3 2 = (3 : Int32) by decide), prun_2]
      refine key _ ?_ _ (r_behindTest N κ h hN)
      intro j1 k1 f1 O1 G1 P1 t1 e
      unfold mTold mAO mPop at e
      (repeat' split at e) <;> (first | (cases e; omega) | (cases e; decide) | cases e)
/-- between expressions -/
def rQ (κ : hk_T) (B : Nat → Nat) (n j k f : Nat) (O G : Nat → Nat) : Prop := rTape κ B n ∧ rTok κ B n j ∧ hk_I κ 69 14 = n3 0 ∧ hk_I κ 69 20 = n3 k ∧ k ≤ 50 ∧ hk_I κ 69 17 = n3 f ∧ (∀ i, i < f → hk_A κ 76 i = n3 (O i) ∧ hk_A κ 77 i = n3 (G i)) ∧ f ≤ j ∧ rWd κ
/-- what an expression comes to -/
def rXp (κ : hk_T) (B : Nat → Nat) (n j k f : Nat) (O G : Nat → Nat) (tst : Prop) (r : pRT) (run : Option ra_H) : Prop := match r with
  | .inl e => ∃ κ', run = some (hp κ') ∧ rSb κ κ' ∧ hk_I κ' 69 14 = n3 1 ∧ hk_I κ' 69 13 = n3 e
  | .inr (j', k', v) => ∃ κ' f' O' G', run = some (hp κ') ∧ rSg κ κ' ∧ rQ κ' B n j' k' f' O' G' ∧ (∀ x, x < f → O' x = O x ∧ G' x = G x) ∧ f < f' ∧ rFr O' G' f f' (k' - k) v ∧ j < j' ∧ k < k' ∧ vO v ∧ (tst → vT v)
section
variable (N : Nat) (κ : hk_T)
theorem r_expr {B : Nat → Nat} {n j k f : Nat} {O G : Nat → Nat} {tst : Bool} {r : pRT} (h : rQ κ B n j k f O G) (he : ∀ m, 2 * (n - j) + 3 ≤ m → rEx B n tst m j k f O G r) (hN : 1000 < N) : rXp κ B n j k f O G (tst = true) r (fX12_readExpression N 69 (if tst = true then n3 1 else n3 0) (hp κ)) := by
  obtain ⟨h1, h2, h3, h4, h5, h6, h7, h8, h9⟩ := h
  have n4 := h1.1
  have jn := h2.1
  obtain ⟨κ1, e1⟩ : ∃ κ1, κ1 = hk_wI (hk_wI κ 69 23 (n3 0)) 69 24 (n3 0) := ⟨_, rfl⟩
  have s1 : samJ [] [(69, 23), (69, 24)] κ κ1 := by rw [e1]; exact ⟨((same.refl _ _ _).wI (by decide)).wI (by decide), rfl⟩
  have p1 : rP κ1 B n j k f O G [] := by
    refine ⟨⟨h1.same s1.1 (by decide) (by decide), h2.same s1 (by decide) (by decide) (by decide), by rw [s1.1.2.2.1 69 14 (by decide)]; exact h3, by rw [s1.1.2.2.1 69 20 (by decide)]; exact h4, h5, ⟨by rw [s1.1.2.2.1 69 17 (by decide)]; exact h6, by rw [s1.1.1 76 (by decide), s1.1.1 77 (by decide)]; exact h7, by rw [e1, I_ne (by decide), I_eq]; rfl, trivial, by show f + 0 ≤ 400; omega⟩, by rw [e1, I_eq]; rfl, h9.same s1.1 (by decide) (by decide)⟩, by show f + 0 ≤ j; omega⟩
  have s1g : rSg κ κ1 := s1.1.weak (by decide) (by decide)
  obtain ⟨N', hN'⟩ : ∃ N', N = N' + 1 := ⟨N - 1, by omega⟩
  have L := r_exprL N (tst := tst) hN N' κ1 (if tst = true then 0 else 1) j k f O G [] (by split <;> omega) p1
  have st : fX12_readExpression N 69 (if tst = true then n3 1 else n3 0) (hp κ) = nX12_readExpression_20 N (N' + 1) 69 (if tst = true then n3 1 else n3 0) (n3 (if tst = true then 0 else 1)) (hp κ1) := by
    rw [← hN', e1]
    unfold fX12_readExpression nX12_readExpression_0 nX12_readExpression_19
    cases tst with
    | true => simp (maxSteps := 400000) (disch := omega) only [n3_l, n3_add, n3_mul, n3_sub, n3_subn, n3_lt, n3_le, n3_eq, n3_eqn, n3_neq, n3_and, n3_or, n3_shl, n3_i, n3_cl, ↓hbd_0, ↓hbd_1, ↓hbd_2, hk_ob_0, hk_rd_0, hk_rd_1, hk_rd_2, hk_al_0, hk_al_1, h3r_0, h3r_1, hk_wi_0, hk_wj_0, h3w_0, h3w_1, h3v_0, hk_kI, hk_kJ, hk_kA, hk_kB, A_eq, A_ne, A_row, B_eq, B_ne, B_row, I_eq, I_ne, J_eq, J_ne, Option.bind_some, Option.some.injEq, if_true, if_false, eq_self, true_or, or_true, true_and, and_true, false_or, or_false, not_true_eq_false, not_false_eq_true, Classical.not_not, nar_b0, nar_b1, rz_0, rz_1, rz_i, ite01, Nat.add_zero, Nat.zero_add, Nat.one_mul, mul12, reduceIte, ra_z0, Nat.reduceEqDiff, Nat.reduceLT, Nat.reduceLeDiff, Nat.reduceAdd, Nat.reduceMul, Nat.reduceSub, Nat.reduceDiv, Nat.reduceMod, Bool.false_eq_true, false_and, and_false, reduceCtorEq]
    | false => simp (maxSteps := 400000) (disch := omega) only [n3_l, n3_add, n3_mul, n3_sub, n3_subn, n3_lt, n3_le, n3_eq, n3_eqn, n3_neq, n3_and, n3_or, n3_shl, n3_i, n3_cl, ↓hbd_0, ↓hbd_1, ↓hbd_2, hk_ob_0, hk_rd_0, hk_rd_1, hk_rd_2, hk_al_0, hk_al_1, h3r_0, h3r_1, hk_wi_0, hk_wj_0, h3w_0, h3w_1, h3v_0, hk_kI, hk_kJ, hk_kA, hk_kB, A_eq, A_ne, A_row, B_eq, B_ne, B_row, I_eq, I_ne, J_eq, J_ne, Option.bind_some, Option.some.injEq, if_true, if_false, eq_self, true_or, or_true, true_and, and_true, false_or, or_false, not_true_eq_false, not_false_eq_true, Classical.not_not, nar_b0, nar_b1, rz_0, rz_1, rz_i, ite01, Nat.add_zero, Nat.zero_add, Nat.one_mul, mul12, reduceIte, ra_z0, Nat.reduceEqDiff, Nat.reduceLT, Nat.reduceLeDiff, Nat.reduceAdd, Nat.reduceMul, Nat.reduceSub, Nat.reduceDiv, Nat.reduceMod, Bool.false_eq_true, false_and, and_false, reduceCtorEq, Bool.false_eq_true]
  rw [st]
  have ex := he N' (by omega)
  cases r with
  | inl e =>
    rw [show prun B n tst N' (if tst = true then 0 else 1, j, k, f, O, G, []) = some (.inl e) from ex] at L
    obtain ⟨κ2, e2, s2, b⟩ := L
    exact ⟨κ2, e2, s1g.b.trans s2, b⟩
  | inr t =>
    obtain ⟨j', k', v⟩ := t
    obtain ⟨f', O', G', X, F, OO, GG, d1, d2, d3, d4, d5, d6, d7, d8, d9⟩ := ex
    rw [d1] at L
    obtain ⟨κ2, e2, s2, p2, l2⟩ := L
    rw [d2] at p2 l2
    obtain ⟨a1, a2, a3, a4, a5, a6, a7, a8⟩ := p2
    refine ⟨κ2, F, OO, GG, e2, s1g.trans s2, ⟨a1, a2, a3, a4, a5, a6.1, a6.2.1, ?_, a8⟩, d4, d3.1, d3, d5, d7, d8, d9⟩
    have : F + 0 ≤ j' := l2
    omega
end
