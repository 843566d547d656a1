/-! worths change -/
def uX (sn : Nat → Prop) [DecidablePred sn] (t : Nat → Nat) (u : Nat → Int) (w : Int) (k l : Nat) : Int := if ∃ p, p < k ∧ sn p ∧ t p = l then u l - w else u l
section
variable (N : Nat) (κ : hk_T)
theorem c_go2 {P b : Nat} {w : Int} {u v ov : Nat → Int} {t : Nat → Nat} (sn : Nat → Prop) [DecidablePred sn] (hP : hk_I κ 41 7 = n3 P) (hP5 : P ≤ 53) (ht : ∀ p, p ≤ P → t p ≤ 12) (inj : ∀ p p', p ≤ P → p' ≤ P → sn p → sn p' → t p = t p' → p = p')
    (hu : ∀ l, l ≤ 12 → hk_A κ 42 l = z3 (u l)) (hv : ∀ p, p ≤ P → hk_A κ 43 p = z3 (v p)) (h44 : ∀ p, p ≤ P → hk_A κ 44 p = n3 (t p)) (hov : ∀ p, p ≤ P → hk_A κ 46 p = z3 (ov p)) (hs : ∀ p, p ≤ P → hk_A κ 47 p = if sn p then n3 1 else n3 0) (hN : 1000 < N) :
    ∃ κ', nX10_goOn_137 N N 41 (n3 b) (z3 w) (n3 0) (hp κ) = some (n3 b, hp κ') ∧ same [42, 43, 46] [] κ κ' ∧ (∀ l, l ≤ 12 → hk_A κ' 42 l = z3 (uX sn t u w (P + 1) l)) ∧ (∀ p, p ≤ P → hk_A κ' 43 p = z3 (if sn p then v p + w else v p)) ∧ (∀ p, p ≤ P → hk_A κ' 46 p = z3 (if sn p then ov p else ov p - w)) := by
  obtain ⟨m', s', e, i1, i2, i3, i4⟩ := lpx (fun m p (s : hk_T) => nX10_goOn_137 N m 41 (n3 b) (z3 w) (n3 p) (hp s)) (P + 1) (fun p s => same [42, 43, 46] [] κ s ∧ (∀ l, l ≤ 12 → hk_A s 42 l = z3 (uX sn t u w p l)) ∧ (∀ p', p' ≤ P → hk_A s 43 p' = z3 (if p' < p ∧ sn p' then v p' + w else v p')) ∧ (∀ p', p' ≤ P → hk_A s 46 p' = z3 (if p' < p ∧ ¬ sn p' then ov p' - w else ov p'))) (by
    rintro m p r hpp ⟨i1, i2, i3, i4⟩
    have hpP : p ≤ P := by omega
    have r7 : hk_I r 41 7 = n3 P := by rw [i1.2.2.1 41 7 (by decide)]; exact hP
    have r47 : hk_A r 47 p = if sn p then n3 1 else n3 0 := by rw [i1.1 47 (by decide)]; exact hs p hpP
    have r44 : hk_A r 44 p = n3 (t p) := by rw [i1.1 44 (by decide)]; exact h44 p hpP
    have htp := ht p hpP
    by_cases cs : sn p
    · rw [if_pos cs] at r47
      have hno : ¬ ∃ p', p' < p ∧ sn p' ∧ t p' = t p := by
        rintro ⟨p', a1, a2, a3⟩
        have := inj p' p (by omega) hpP a2 cs a3
        omega
      have r42 : hk_A r 42 (t p) = z3 (u (t p)) := by rw [i2 _ htp]; unfold uX; rw [if_neg hno]
      have r43 : hk_A r 43 p = z3 (v p) := by rw [i3 p hpP, if_neg (fun z => by omega)]
      refine ⟨hk_wA (hk_wA r 42 (t p) (z3 (u (t p) - w))) 43 p (z3 (v p + w)), ?_, (i1.wA (by decide)).wA (by decide), ?_, ?_, ?_⟩
      · rw [nX10_goOn_137]
        simp (maxSteps := 400000) (disch := omega) only [n3_l, n3_add, n3_mul, n3_sub, n3_subn, n3_lt, n3_le, n3_eq, n3_eqn, n3_neq, n3_and, n3_or, n3_shl, n3_i, n3_cl, ↓hbd_0, ↓hbd_1, ↓hbd_2, hk_ob_0, hk_rd_0, hk_rd_1, hk_rd_2, hk_al_0, hk_al_1, h3r_0, h3r_1, hk_wi_0, hk_wj_0, h3w_0, h3w_1, h3v_0, hk_kI, hk_kJ, hk_kA, hk_kB, A_eq, A_ne, A_row, B_eq, B_ne, B_row, I_eq, I_ne, J_eq, J_ne, Option.bind_some, Option.some.injEq, if_true, if_false, eq_self, true_or, or_true, true_and, and_true, false_or, or_false, not_true_eq_false, not_false_eq_true, Classical.not_not, nar_b0, nar_b1, rz_0, rz_1, rz_i, ite01, Nat.add_zero, Nat.zero_add, Nat.one_mul, mul12, reduceIte, ra_z0, Nat.reduceEqDiff, Nat.reduceLT, Nat.reduceLeDiff, Nat.reduceAdd, Nat.reduceMul, Nat.reduceSub, Nat.reduceDiv, Nat.reduceMod, Bool.false_eq_true, false_and, and_false, reduceCtorEq, r7, hpP, r47, r44, r42, r43, z3_sub, z3_add, nX10_goOn_200]
      · intro l hl
        rw [A_ne (Or.inl (by decide))]
        by_cases e : l = t p
        · rw [e, A_eq rfl]
          unfold uX
          rw [if_pos ⟨p, by omega, cs, rfl⟩]
        · rw [A_ne (Or.inr e), i2 l hl]
          unfold uX
          by_cases c : ∃ p', p' < p ∧ sn p' ∧ t p' = l
          · obtain ⟨p', a1, a2, a3⟩ := c
            rw [if_pos ⟨p', a1, a2, a3⟩, if_pos ⟨p', by omega, a2, a3⟩]
          · rw [if_neg c, if_neg (by
              rintro ⟨p', a1, a2, a3⟩
              by_cases e2 : p' = p
              · rw [e2] at a3; exact e a3.symm
              · exact c ⟨p', by omega, a2, a3⟩)]
      · intro p' h1
        by_cases e : p' = p
        · rw [e, A_eq rfl, if_pos ⟨by omega, cs⟩]
        · rw [A_ne (Or.inr e), A_ne (Or.inl (by decide)), i3 p' h1]
          by_cases c : p' < p ∧ sn p'
          · rw [if_pos c, if_pos ⟨by omega, c.2⟩]
          · rw [if_neg c, if_neg (fun z => c ⟨by omega, z.2⟩)]
      · intro p' h1
        rw [A_ne (Or.inl (by decide)), A_ne (Or.inl (by decide)), i4 p' h1]
        by_cases c : p' < p ∧ ¬ sn p'
        · rw [if_pos c, if_pos ⟨by omega, c.2⟩]
        · rw [if_neg c, if_neg (fun z => by
            by_cases e : p' = p
            · rw [e] at z; exact z.2 cs
            · exact c ⟨by omega, z.2⟩)]
    · rw [if_neg cs] at r47
      have r46 : hk_A r 46 p = z3 (ov p) := by rw [i4 p hpP, if_neg (fun z => by omega)]
      refine ⟨hk_wA r 46 p (z3 (ov p - w)), ?_, i1.wA (by decide), ?_, ?_, ?_⟩
      · rw [nX10_goOn_137]
        simp (maxSteps := 400000) (disch := omega) only [n3_l, n3_add, n3_mul, n3_sub, n3_subn, n3_lt, n3_le, n3_eq, n3_eqn, n3_neq, n3_and, n3_or, n3_shl, n3_i, n3_cl, ↓hbd_0, ↓hbd_1, ↓hbd_2, hk_ob_0, hk_rd_0, hk_rd_1, hk_rd_2, hk_al_0, hk_al_1, h3r_0, h3r_1, hk_wi_0, hk_wj_0, h3w_0, h3w_1, h3v_0, hk_kI, hk_kJ, hk_kA, hk_kB, A_eq, A_ne, A_row, B_eq, B_ne, B_row, I_eq, I_ne, J_eq, J_ne, Option.bind_some, Option.some.injEq, if_true, if_false, eq_self, true_or, or_true, true_and, and_true, false_or, or_false, not_true_eq_false, not_false_eq_true, Classical.not_not, nar_b0, nar_b1, rz_0, rz_1, rz_i, ite01, Nat.add_zero, Nat.zero_add, Nat.one_mul, mul12, reduceIte, ra_z0, Nat.reduceEqDiff, Nat.reduceLT, Nat.reduceLeDiff, Nat.reduceAdd, Nat.reduceMul, Nat.reduceSub, Nat.reduceDiv, Nat.reduceMod, Bool.false_eq_true, false_and, and_false, reduceCtorEq, r7, hpP, r47, r46, z3_sub, nX10_goOn_200]
      · intro l hl
        rw [A_ne (Or.inl (by decide)), i2 l hl]
        unfold uX
        by_cases c : ∃ p', p' < p ∧ sn p' ∧ t p' = l
        · obtain ⟨p', a1, a2, a3⟩ := c
          rw [if_pos ⟨p', a1, a2, a3⟩, if_pos ⟨p', by omega, a2, a3⟩]
        · rw [if_neg c, if_neg (by
            rintro ⟨p', a1, a2, a3⟩
            by_cases e2 : p' = p
            · rw [e2] at a2; exact cs a2
            · exact c ⟨p', by omega, a2, a3⟩)]
      · intro p' h1
        rw [A_ne (Or.inl (by decide)), i3 p' h1]
        by_cases c : p' < p ∧ sn p'
        · rw [if_pos c, if_pos ⟨by omega, c.2⟩]
        · rw [if_neg c, if_neg (fun z => by
            by_cases e : p' = p
            · rw [e] at z; exact cs z.2
            · exact c ⟨by omega, z.2⟩)]
      · intro p' h1
        by_cases e : p' = p
        · rw [e, A_eq rfl, if_pos ⟨by omega, cs⟩]
        · rw [A_ne (Or.inr e), i4 p' h1]
          by_cases c : p' < p ∧ ¬ sn p'
          · rw [if_pos c, if_pos ⟨by omega, c.2⟩]
          · rw [if_neg c, if_neg (fun z => c ⟨by omega, z.2⟩)]) (P + 1) 0 N κ (by omega) (by omega) ⟨same.refl _ _ _, fun l hl => by unfold uX; rw [if_neg (by rintro ⟨p', h, -⟩; omega)]; exact hu l hl, fun p' h => by rw [if_neg (fun z => by omega)]; exact hv p' h, fun p' h => by rw [if_neg (fun z => by omega)]; exact hov p' h⟩
  have hPP : ¬ P + 1 ≤ P := by omega
  refine ⟨s', ?_, i1, i2, ?_, ?_⟩
  · rw [e, nX10_goOn_137]
    simp (maxSteps := 400000) (disch := omega) only [n3_l, n3_add, n3_mul, n3_sub, n3_subn, n3_lt, n3_le, n3_eq, n3_eqn, n3_neq, n3_and, n3_or, n3_shl, n3_i, n3_cl, ↓hbd_0, ↓hbd_1, ↓hbd_2, hk_ob_0, hk_rd_0, hk_rd_1, hk_rd_2, hk_al_0, hk_al_1, h3r_0, h3r_1, hk_wi_0, hk_wj_0, h3w_0, h3w_1, h3v_0, hk_kI, hk_kJ, hk_kA, hk_kB, A_eq, A_ne, A_row, B_eq, B_ne, B_row, I_eq, I_ne, J_eq, J_ne, Option.bind_some, Option.some.injEq, if_true, if_false, eq_self, true_or, or_true, true_and, and_true, false_or, or_false, not_true_eq_false, not_false_eq_true, Classical.not_not, nar_b0, nar_b1, rz_0, rz_1, rz_i, ite01, Nat.add_zero, Nat.zero_add, Nat.one_mul, mul12, reduceIte, ra_z0, Nat.reduceEqDiff, Nat.reduceLT, Nat.reduceLeDiff, Nat.reduceAdd, Nat.reduceMul, Nat.reduceSub, Nat.reduceDiv, Nat.reduceMod, Bool.false_eq_true, false_and, and_false, reduceCtorEq, i1.2.2.1 41 7 (by decide), hP, hPP]
  · intro p h
    rw [i3 p h]
    by_cases c : sn p
    · rw [if_pos ⟨by omega, c⟩, if_pos c]
    · rw [if_neg (fun z => c z.2), if_neg c]
  · intro p h
    rw [i4 p h]
    by_cases c : sn p
    · rw [if_neg (fun z => z.2 c), if_pos c]
    · rw [if_pos ⟨by omega, c⟩, if_neg c]
/-- what the rows of worths hold -/
def wR (κ : hk_T) (P L : Nat) (a : Nat → Nat → Int) (u v : Nat → Int) (t : Nat → Nat) : Prop := hk_I κ 41 7 = n3 P ∧ (∀ l, l ≤ 12 → hk_A κ 42 l = z3 (u l)) ∧ (∀ p, p ≤ P → hk_A κ 43 p = z3 (v p)) ∧ (∀ p, p ≤ P → hk_A κ 44 p = n3 (t p)) ∧ ∀ l p, 1 ≤ l → l ≤ L → 1 ≤ p → p ≤ P → hk_A κ 48 (l * 54 + p) = z3 (a l p)
/-- and those of the way -/
def wS (κ : hk_T) (P : Nat) (ov : Nat → Int) (bf : Nat → Nat) : Prop := (∀ p, p ≤ P → hk_A κ 45 p = n3 (bf p)) ∧ ∀ p, p ≤ P → hk_A κ 46 p = z3 (ov p)
theorem c_goOn {P L o : Nat} {a : Nat → Nat → Int} {u v ov : Nat → Int} {t bf : Nat → Nat} (sn : Nat → Prop) [DecidablePred sn] (hL : L ≤ 12) (hw : wR κ P L a u v t) (hw2 : wS κ P ov bf) (hP5 : P ≤ 53) (ho : o ≤ P) (htL : ∀ p, p ≤ P → t p ≤ L) (hto : 1 ≤ t o) (hso : sn o) (inj : ∀ p p', p ≤ P → p' ≤ P → sn p → sn p' → t p = t p' → p = p') (hs : ∀ p, p ≤ P → p ≠ o → hk_A κ 47 p = if sn p then n3 1 else n3 0)
    (hab : ∀ p, 1 ≤ p → p ≤ P → ¬ sn p → -100000 ≤ u (t o) + v p - a (t o) p ∧ u (t o) + v p - a (t o) p ≤ 100000) (hovb : ∀ p, 1 ≤ p → p ≤ P → ¬ sn p → -100000 ≤ ov p ∧ ov p ≤ 1000000) (hex : ∃ p, 1 ≤ p ∧ p ≤ P ∧ ¬ sn p) (hN : 1000 < N) :
    ∃ κ' b w u' v' ov' bf', fX10_goOn N 41 (n3 o) (hp κ) = some (n3 b, hp κ') ∧ same [42, 43, 45, 46, 47] [] κ κ' ∧ wR κ' P L a u' v' t ∧ wS κ' P ov' bf' ∧ (∀ p, p ≤ P → hk_A κ' 47 p = if sn p then n3 1 else n3 0) ∧ goR a P t u v ov bf sn o w u' v' ov' bf' b := by
  obtain ⟨hP, hu, hv, h44, ha⟩ := hw
  obtain ⟨hb, hov⟩ := hw2
  have ht : ∀ p, p ≤ P → t p ≤ 12 := fun p h => Nat.le_trans (htL p h) hL
  have s0 : same [47] [] κ (hk_wA κ 47 o (n3 1)) := (same.refl _ _ _).wA (by decide)
  have hs1 : ∀ p, p ≤ P → hk_A (hk_wA κ 47 o (n3 1)) 47 p = if sn p then n3 1 else n3 0 := by
    intro p h
    by_cases e : p = o
    · rw [e, A_eq rfl, if_pos hso]
    · rw [A_ne (Or.inr e)]; exact hs p h e
  have hto2 := ht o ho
  obtain ⟨κ1, b, e1, s1, f45, f46, z45, z46, b1, b2, b3, b4⟩ := c_go1 N (hk_wA κ 47 o (n3 1)) (a := a) (u := u) (v := v) (ov := ov) (t := t) (bf := bf) sn (by rw [s0.2.2.1 41 7 (by decide)]; exact hP) hP5 ho hto2 (by rw [s0.1 42 (by decide)]; exact hu _ hto2) (by rw [s0.1 43 (by decide)]; exact hv) (by rw [s0.1 48 (by decide)]; exact fun p h1 h2 => ha _ p hto (htL o ho) h1 h2) (by rw [s0.1 45 (by decide)]; exact hb) (by rw [s0.1 46 (by decide)]; exact hov) hs1 hab hovb hex hN
  have s01 : same [45, 46, 47] [] κ κ1 := (s0.weak (by decide) (by decide)).trans (s1.weak (by decide) (by decide))
  have h0 : ¬ ∃ x : Nat, False := by rintro ⟨_, h⟩; exact h
  obtain ⟨κ2, e2, s2, g42, g43, g46⟩ := c_go2 N κ1 (P := P) (b := b) (w := ovA sn (fun p => u (t o) + v p - a (t o) p) ov b) (u := u) (v := v) (ov := fun p => if p = 0 then ov 0 else ovA sn (fun p => u (t o) + v p - a (t o) p) ov p) (t := t) sn (by rw [s01.2.2.1 41 7 (by decide)]; exact hP) hP5 ht inj (by rw [s01.1 42 (by decide)]; exact hu) (by rw [s01.1 43 (by decide)]; exact hv) (by rw [s01.1 44 (by decide)]; exact h44) (by
    intro p h
    by_cases e : p = 0
    · rw [e, if_pos rfl, z46, s0.1 46 (by decide)]; exact hov 0 (by omega)
    · rw [if_neg e]; exact f46 p (by omega) h) (by rw [s1.1 47 (by decide)]; exact hs1) hN
  obtain ⟨w, ew⟩ : ∃ w, w = ovA sn (fun p => u (t o) + v p - a (t o) p) ov b := ⟨_, rfl⟩
  rw [← ew] at e1 e2 g42 g43 g46 b4
  have s02 : same [42, 43, 45, 46, 47] [] κ κ2 := (s01.weak (by decide) (by decide)).trans (s2.weak (by decide) (by decide))
  have eov : ∀ p, ¬ sn p → ovA sn (fun p => u (t o) + v p - a (t o) p) ov p = if u (t o) + v p - a (t o) p < ov p then u (t o) + v p - a (t o) p else ov p := by
    intro p h
    unfold ovA
    by_cases c : u (t o) + v p - a (t o) p < ov p
    · rw [if_pos ⟨h, c⟩, if_pos c]
    · rw [if_neg (fun z => c z.2), if_neg c]
  refine ⟨κ2, b, w, uX sn t u w (P + 1), fun p => if sn p then v p + w else v p, fun p => if sn p then (if p = 0 then ov 0 else ovA sn (fun p => u (t o) + v p - a (t o) p) ov p) else (if p = 0 then ov 0 else ovA sn (fun p => u (t o) + v p - a (t o) p) ov p) - w, fun p => if p = 0 then bf 0 else bfA sn (fun p => u (t o) + v p - a (t o) p) ov bf o p, ?_, s02, ?_, ?_, ?_, ?_⟩
  · unfold fX10_goOn nX10_goOn_0
    simp (maxSteps := 400000) (disch := omega) only [n3_l, n3_add, n3_mul, n3_sub, n3_subn, n3_lt, n3_le, n3_eq, n3_eqn, n3_neq, n3_and, n3_or, n3_shl, n3_i, n3_cl, ↓hbd_0, ↓hbd_1, ↓hbd_2, hk_ob_0, hk_rd_0, hk_rd_1, hk_rd_2, hk_al_0, hk_al_1, h3r_0, h3r_1, hk_wi_0, hk_wj_0, h3w_0, h3w_1, h3v_0, hk_kI, hk_kJ, hk_kA, hk_kB, A_eq, A_ne, A_row, B_eq, B_ne, B_row, I_eq, I_ne, J_eq, J_ne, Option.bind_some, Option.some.injEq, if_true, if_false, eq_self, true_or, or_true, true_and, and_true, false_or, or_false, not_true_eq_false, not_false_eq_true, Classical.not_not, nar_b0, nar_b1, rz_0, rz_1, rz_i, ite01, Nat.add_zero, Nat.zero_add, Nat.one_mul, mul12, reduceIte, ra_z0, Nat.reduceEqDiff, Nat.reduceLT, Nat.reduceLeDiff, Nat.reduceAdd, Nat.reduceMul, Nat.reduceSub, Nat.reduceDiv, Nat.reduceMod, Bool.false_eq_true, false_and, and_false, reduceCtorEq, h44 o ho]
    rw [e1, e2]
  · refine ⟨by rw [s02.2.2.1 41 7 (by decide)]; exact hP, g42, g43, by rw [s02.1 44 (by decide)]; exact h44, by rw [s02.1 48 (by decide)]; exact ha⟩
  · refine ⟨?_, g46⟩
    intro p h
    rw [s2.1 45 (by decide)]
    dsimp only
    by_cases e : p = 0
    · rw [e, if_pos rfl, z45, s0.1 45 (by decide)]; exact hb 0 (by omega)
    · rw [if_neg e]; exact f45 p (by omega) h
  · rw [s2.1 47 (by decide), s1.1 47 (by decide)]; exact hs1
  · refine ⟨?_, ?_, ?_, ⟨b1, b2, b3, ?_⟩, ?_, ?_, ?_, ?_⟩
    · intro p h1 h2 h3
      dsimp only
      rw [if_neg h3, if_neg (by omega), eov p h3]
    · intro p h1 h2
      dsimp only
      rw [if_neg (by omega : ¬ p = 0)]
      unfold bfA
      exact ⟨fun z => if_pos z, fun z => if_neg z⟩
    · intro p h1 h2 h3
      rw [← eov p h3]
      exact b4 p h1 h2 h3
    · rw [ew, eov b b3]
    · rintro l ⟨p, h1, h2, h3⟩
      unfold uX
      exact if_pos ⟨p, by omega, h2, h3⟩
    · intro l h
      unfold uX
      exact if_neg (by rintro ⟨p, h1, h2, h3⟩; exact h ⟨p, by omega, h2, h3⟩)
    · intro p _ h; exact if_pos h
    · intro p _ h; exact if_neg h
end
