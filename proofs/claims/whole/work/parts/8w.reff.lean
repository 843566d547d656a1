/-! the reference's matches: findFirst -/
def isB (v : Int32) (P : Prop) : Prop := (P → v = n3 1) ∧ (¬ P → v = n3 0)
theorem isB.cg {v : Int32} {P P' : Prop} (h : isB v P) (e : P ↔ P') : isB v P' := ⟨fun z => h.1 (e.mpr z), fun z => h.2 (fun y => z (e.mp y))⟩
theorem isB.y {P : Prop} (h : P) : isB (n3 1) P := ⟨fun _ => rfl, fun z => absurd h z⟩
theorem isB.n {P : Prop} (h : ¬ P) : isB (n3 0) P := ⟨fun z => absurd z h, fun _ => rfl⟩
theorem isB.nar {v : Int32} {P : Prop} (h : isB v P) : vp_nar .boolean v = v := by
  by_cases c : P
  · rw [h.1 c]; rfl
  · rw [h.2 c]; rfl
theorem isB.z {v : Int32} {P : Prop} (h : isB v P) : v = n3 0 ↔ ¬ P := by
  constructor
  · intro e z
    rw [h.1 z] at e
    exact absurd e (by decide)
  · exact h.2
section
variable {a : Nat → Nat → Int} {L n : Nat}
theorem opX_l {b s l : Nat} (hl : l < L) : opX a L n b s l ↔ opt a L n b s l := by
  unfold opX opt canX wiX
  rw [if_neg (by omega)]
  constructor
  · rintro ⟨h1, h2⟩
    refine ⟨hl, ?_, h2⟩
    rcases h1 with h | h
    · omega
    · exact h
  · rintro ⟨-, h1, h2⟩; exact ⟨Or.inr h1, h2⟩
theorem opX_n {b s : Nat} : opX a L n b s L ↔ opN a L n b s := by
  unfold opX opN canX wiX
  rw [if_pos rfl]
  exact ⟨fun z => z.2, fun z => ⟨Or.inl rfl, z⟩⟩
theorem rc_next {b x : Nat} : rc a L n (b + 1) x ↔ ∃ s l, rc a L n b s ∧ l ≤ L ∧ opX a L n b s l ∧ x = aft L s l := by
  rw [rc]
  unfold aft
  constructor
  · rintro (⟨h1, h2⟩ | ⟨s, l, h1, h2, h3⟩)
    · exact ⟨x, L, h1, Nat.le_refl _, opX_n.mpr h2, by rw [if_pos rfl]⟩
    · exact ⟨s, l, h1, Nat.le_of_lt h2.1, (opX_l h2.1).mpr h2, by rw [if_neg (by have := h2.1; omega)]; exact h3⟩
  · rintro ⟨s, l, h1, h2, h3, h4⟩
    by_cases c : l = L
    · rw [if_pos c] at h4
      rw [c] at h3
      rw [h4]
      exact Or.inl ⟨h1, opX_n.mp h3⟩
    · rw [if_neg c] at h4
      exact Or.inr ⟨s, l, h1, (opX_l (by omega)).mp h3, h4⟩
theorem sureX {b : Nat} : sureP a L n b ↔ ∀ s, rc a L n b s → ∀ l, l ≤ L → opX a L n b s l → l = its a L n b := by
  unfold sureP
  constructor
  · intro h s hs l hl ho
    by_cases c : l = L
    · rw [c] at ho ⊢
      exact ((h s hs).2 (opX_n.mp ho)).symm
    · exact (h s hs).1 l ((opX_l (by omega)).mp ho)
  · intro h s hs
    exact ⟨fun l hl => h s hs l (Nat.le_of_lt hl.1) ((opX_l hl.1).mpr hl), fun hn => (h s hs L (Nat.le_refl _) (opX_n.mpr hn)).symm⟩
theorem aft_lt {s l : Nat} (hs : s < 2 ^ L) (hl : l ≤ L) : aft L s l < 2 ^ L := by
  unfold aft
  split
  · exact hs
  · exact or_lt hs (by omega)
theorem rc_lt : ∀ b s, rc a L n b s → s < 2 ^ L := by
  intro b
  induction b with
  | zero => intro s hs; rw [show s = 0 from hs]; exact Nat.two_pow_pos L
  | succ b ih =>
    intro x hx
    obtain ⟨s, l, h1, h2, -, h3⟩ := rc_next.mp hx
    rw [h3]
    exact aft_lt (ih s h1) h2
end
/-- same, and the long fields too -/
def samJ (ks : List Nat) (fs : List (Nat × Nat)) (κ κ' : hk_T) : Prop := same ks fs κ κ' ∧ hk_J κ' = hk_J κ
theorem samJ.refl (ks : List Nat) (fs : List (Nat × Nat)) (κ : hk_T) : samJ ks fs κ κ := ⟨same.refl _ _ _, rfl⟩
theorem samJ.trans {ks : List Nat} {fs : List (Nat × Nat)} {κ κ' κ'' : hk_T} (h : samJ ks fs κ κ') (g : samJ ks fs κ' κ'') : samJ ks fs κ κ'' := ⟨h.1.trans g.1, g.2.trans h.2⟩
theorem samJ.weak {ks ks' : List Nat} {fs fs' : List (Nat × Nat)} {κ κ' : hk_T} (h : samJ ks fs κ κ') (h1 : ∀ k ∈ ks, k ∈ ks') (h2 : ∀ q ∈ fs, q ∈ fs') : samJ ks' fs' κ κ' := ⟨h.1.weak h1 h2, h.2⟩
theorem samJ.wA {ks : List Nat} {fs : List (Nat × Nat)} {κ κ' : hk_T} (h : samJ ks fs κ κ') {k i : Nat} {v : Int32} (hk : k ∈ ks) : samJ ks fs κ (hk_wA κ' k i v) := ⟨h.1.wA hk, h.2⟩
section
variable (N : Nat) (κ : hk_T)
theorem r_overSet {nB L b s st it m : Nat} {c50 : Nat → Int32 → Int32 → Int32 → Int32 → ra_H → Option ra_H} {c169 : Nat → Int32 → Int32 → Int32 → Int32 → Int32 → Int32 → ra_H → Option ra_H} {G : Nat → Prop} {Z : Prop} (ok : raOk (hk_A κ 71) nB L) (hb : b < nB) (hs : s < 2 ^ L) (hi : it ≤ L) (hT : ∀ b, b ≤ nB → ∀ x, x < 2 ^ L → hk_A κ 90 (4096 * b + x) = z3 (mS (agR (hk_A κ 71)) L nB (nB - b) x))
    (h93 : hk_A κ 93 s = n3 1) (h94 : ∀ x, x < 2 ^ L → isB (hk_A κ 94 x) (G x)) (h96 : isB (hk_A κ 96 b) Z) (hm : 1000 < m) :
    ∃ κ', nX12_findFirst_178 N c50 c169 m 69 (n3 L) (n3 (2 ^ L)) (n3 st) (n3 b) (n3 it) (n3 s) (n3 0) (hp κ) = c169 69 (n3 L) (n3 (2 ^ L)) (n3 st) (n3 b) (n3 it) (n3 (s + 1)) (hp κ') ∧ samJ [94, 96] [] κ κ' ∧ (∀ x, x < 2 ^ L → isB (hk_A κ' 94 x) (G x ∨ ∃ l, l ≤ L ∧ opX (agR (hk_A κ 71)) L nB b s l ∧ x = aft L s l)) ∧ (∀ b', b' ≠ b → hk_A κ' 96 b' = hk_A κ 96 b') ∧ isB (hk_A κ' 96 b) (Z ∧ ∀ l, l ≤ L → opX (agR (hk_A κ 71)) L nB b s l → l = it) := by
  have ok' := ok
  obtain ⟨o1, o2, o3, o4, o5, o6⟩ := ok
  have q := q12 o4
  obtain ⟨m', s', e, i1, i2, i3, i4⟩ := lpx (fun m l (r : hk_T) => nX12_findFirst_178 N c50 c169 m 69 (n3 L) (n3 (2 ^ L)) (n3 st) (n3 b) (n3 it) (n3 s) (n3 l) (hp r)) (L + 1) (fun l r => samJ [94, 96] [] κ r ∧ (∀ x, x < 2 ^ L → isB (hk_A r 94 x) (G x ∨ ∃ l', l' < l ∧ opX (agR (hk_A κ 71)) L nB b s l' ∧ x = aft L s l')) ∧ (∀ b', b' ≠ b → hk_A r 96 b' = hk_A κ 96 b') ∧ isB (hk_A r 96 b) (Z ∧ ∀ l', l' < l → opX (agR (hk_A κ 71)) L nB b s l' → l' = it)) (by
    rintro m l r hl ⟨i1, i2, i3, i4⟩
    have r71 : hk_A r 71 = hk_A κ 71 := i1.1.1 71 (by decide)
    have r90 : hk_A r 90 = hk_A κ 90 := i1.1.1 90 (by decide)
    have r93 : hk_A r 93 s = n3 1 := by rw [i1.1.1 93 (by decide)]; exact h93
    have okr : raOk (hk_A r 71) nB L := by rw [r71]; exact ok'
    have hl' : l ≤ L := by omega
    have ca := r_can N r okr hs hl'
    have wi := r_with N r okr hb hs hl' (by rw [r90, r71]; exact hT (b + 1) (by omega))
    have af := r_after N r okr (s := s) hl'
    have t90 : hk_A r 90 (4096 * b + s) = z3 (mS (agR (hk_A κ 71)) L nB (nB - b) s) := by rw [r90]; exact hT b (by omega) s hs
    rw [r71] at wi
    have wb := wiX_bd (hk_A κ 71) (L := L) (n := nB) b s l o3
    have sb := mS_bd (hk_A κ 71) (L := L) (n := nB) (k := nB - b) s (by omega)
    have ze : z3 (wiX (agR (hk_A κ 71)) L nB b s l) = z3 (mS (agR (hk_A κ 71)) L nB (nB - b) s) ↔ wiX (agR (hk_A κ 71)) L nB b s l = mS (agR (hk_A κ 71)) L nB (nB - b) s := z3_eq (by omega) (by omega) (by omega) (by omega)
    have al := aft_lt (L := L) hs hl'
    by_cases c : opX (agR (hk_A κ 71)) L nB b s l
    · obtain ⟨c1, c2⟩ := c
      rw [if_pos c1] at ca
      have s96 : hk_A (hk_wA r 94 (aft L s l) (n3 1)) 96 b = hk_A r 96 b := A_ne (Or.inl (by decide))
      have goes : ∀ (v : Int32) (x : Nat), x < 2 ^ L → isB (hk_A (hk_wA (hk_wA r 94 (aft L s l) (n3 1)) 96 b v) 94 x) (G x ∨ ∃ l', l' < l + 1 ∧ opX (agR (hk_A κ 71)) L nB b s l' ∧ x = aft L s l') := by
        intro v x hx
        rw [A_ne (Or.inl (by decide))]
        by_cases ex : x = aft L s l
        · rw [A_eq ex]
          exact isB.y (Or.inr ⟨l, by omega, ⟨c1, c2⟩, ex⟩)
        · rw [A_ne (Or.inr ex)]
          refine (i2 x hx).cg ⟨fun z => z.imp id (fun ⟨l', z1, z2⟩ => ⟨l', by omega, z2⟩), fun z => z.imp id (fun ⟨l', z1, z2, z3⟩ => ⟨l', ?_, z2, z3⟩)⟩
          by_cases el : l' = l
          · rw [el] at z3; exact absurd z3 ex
          · omega
      have oth : ∀ (v : Int32) (b' : Nat), b' ≠ b → hk_A (hk_wA (hk_wA r 94 (aft L s l) (n3 1)) 96 b v) 96 b' = hk_A κ 96 b' := by
        intro v b' hb'
        rw [A_ne (Or.inr hb'), A_ne (Or.inl (by decide))]
        exact i3 b' hb'
      by_cases cz : Z ∧ ∀ l', l' < l → opX (agR (hk_A κ 71)) L nB b s l' → l' = it
      · have s1 := i4.1 cz
        by_cases ci : l = it
        · refine ⟨hk_wA (hk_wA r 94 (aft L s l) (n3 1)) 96 b (n3 1), ?_, (i1.wA (by decide)).wA (by decide), goes _, oth _, ?_⟩
          · rw [nX12_findFirst_178]
            subst ci
            simp (maxSteps := 400000) (disch := omega) only [n3_l, n3_add, n3_mul, n3_sub, n3_subn, n3_lt, n3_le, n3_eq, n3_eqn, n3_neq, n3_and, n3_or, n3_shl, n3_i, n3_cl, ↓hbd_0, ↓hbd_1, ↓hbd_2, hk_ob_0, hk_rd_0, hk_rd_1, hk_rd_2, hk_al_0, hk_al_1, h3r_0, h3r_1, hk_wi_0, hk_wj_0, h3w_0, h3w_1, h3v_0, hk_kI, hk_kJ, hk_kA, hk_kB, A_eq, A_ne, A_row, B_eq, B_ne, B_row, I_eq, I_ne, J_eq, J_ne, Option.bind_some, Option.some.injEq, if_true, if_false, eq_self, true_or, or_true, true_and, and_true, false_or, or_false, not_true_eq_false, not_false_eq_true, Classical.not_not, nar_b0, nar_b1, rz_0, rz_1, rz_i, ite01, Nat.add_zero, Nat.zero_add, Nat.one_mul, mul12, reduceIte, ra_z0, Nat.reduceEqDiff, Nat.reduceLT, Nat.reduceLeDiff, Nat.reduceAdd, Nat.reduceMul, Nat.reduceSub, Nat.reduceDiv, Nat.reduceMod, Bool.false_eq_true, false_and, and_false, reduceCtorEq, hl', r93, ca, wi, t90, ze, c2, af, s96, s1, nX12_findFirst_274, nX12_findFirst_275]
          · rw [A_eq rfl]
            refine isB.y ⟨cz.1, fun l' h1 h2 => ?_⟩
            by_cases el : l' = l
            · rw [el]; exact ci
            · exact cz.2 l' (by omega) h2
        · refine ⟨hk_wA (hk_wA r 94 (aft L s l) (n3 1)) 96 b (n3 0), ?_, (i1.wA (by decide)).wA (by decide), goes _, oth _, ?_⟩
          · rw [nX12_findFirst_178]
            simp (maxSteps := 400000) (disch := omega) only [n3_l, n3_add, n3_mul, n3_sub, n3_subn, n3_lt, n3_le, n3_eq, n3_eqn, n3_neq, n3_and, n3_or, n3_shl, n3_i, n3_cl, ↓hbd_0, ↓hbd_1, ↓hbd_2, hk_ob_0, hk_rd_0, hk_rd_1, hk_rd_2, hk_al_0, hk_al_1, h3r_0, h3r_1, hk_wi_0, hk_wj_0, h3w_0, h3w_1, h3v_0, hk_kI, hk_kJ, hk_kA, hk_kB, A_eq, A_ne, A_row, B_eq, B_ne, B_row, I_eq, I_ne, J_eq, J_ne, Option.bind_some, Option.some.injEq, if_true, if_false, eq_self, true_or, or_true, true_and, and_true, false_or, or_false, not_true_eq_false, not_false_eq_true, Classical.not_not, nar_b0, nar_b1, rz_0, rz_1, rz_i, ite01, Nat.add_zero, Nat.zero_add, Nat.one_mul, mul12, reduceIte, ra_z0, Nat.reduceEqDiff, Nat.reduceLT, Nat.reduceLeDiff, Nat.reduceAdd, Nat.reduceMul, Nat.reduceSub, Nat.reduceDiv, Nat.reduceMod, Bool.false_eq_true, false_and, and_false, reduceCtorEq, hl', r93, ca, wi, t90, ze, c2, af, s96, s1, ci, nX12_findFirst_273, nX12_findFirst_274, nX12_findFirst_275]
          · rw [A_eq rfl]
            exact isB.n (fun z => ci (z.2 l (by omega) ⟨c1, c2⟩))
      · have s1 := i4.2 cz
        refine ⟨hk_wA (hk_wA r 94 (aft L s l) (n3 1)) 96 b (n3 0), ?_, (i1.wA (by decide)).wA (by decide), goes _, oth _, ?_⟩
        · rw [nX12_findFirst_178]
          simp (maxSteps := 400000) (disch := omega) only [n3_l, n3_add, n3_mul, n3_sub, n3_subn, n3_lt, n3_le, n3_eq, n3_eqn, n3_neq, n3_and, n3_or, n3_shl, n3_i, n3_cl, ↓hbd_0, ↓hbd_1, ↓hbd_2, hk_ob_0, hk_rd_0, hk_rd_1, hk_rd_2, hk_al_0, hk_al_1, h3r_0, h3r_1, hk_wi_0, hk_wj_0, h3w_0, h3w_1, h3v_0, hk_kI, hk_kJ, hk_kA, hk_kB, A_eq, A_ne, A_row, B_eq, B_ne, B_row, I_eq, I_ne, J_eq, J_ne, Option.bind_some, Option.some.injEq, if_true, if_false, eq_self, true_or, or_true, true_and, and_true, false_or, or_false, not_true_eq_false, not_false_eq_true, Classical.not_not, nar_b0, nar_b1, rz_0, rz_1, rz_i, ite01, Nat.add_zero, Nat.zero_add, Nat.one_mul, mul12, reduceIte, ra_z0, Nat.reduceEqDiff, Nat.reduceLT, Nat.reduceLeDiff, Nat.reduceAdd, Nat.reduceMul, Nat.reduceSub, Nat.reduceDiv, Nat.reduceMod, Bool.false_eq_true, false_and, and_false, reduceCtorEq, hl', r93, ca, wi, t90, ze, c2, af, s96, s1, nX12_findFirst_273, nX12_findFirst_274, nX12_findFirst_275]
        · rw [A_eq rfl]
          exact isB.n (fun z => cz ⟨z.1, fun l' h1 h2 => z.2 l' (by omega) h2⟩)
    · refine ⟨r, ?_, i1, ?_, i3, ?_⟩
      · rw [nX12_findFirst_178]
        by_cases c1 : canX L s l
        · rw [if_pos c1] at ca
          have c2 : ¬ wiX (agR (hk_A κ 71)) L nB b s l = mS (agR (hk_A κ 71)) L nB (nB - b) s := fun z => c ⟨c1, z⟩
          simp (maxSteps := 400000) (disch := omega) only [n3_l, n3_add, n3_mul, n3_sub, n3_subn, n3_lt, n3_le, n3_eq, n3_eqn, n3_neq, n3_and, n3_or, n3_shl, n3_i, n3_cl, ↓hbd_0, ↓hbd_1, ↓hbd_2, hk_ob_0, hk_rd_0, hk_rd_1, hk_rd_2, hk_al_0, hk_al_1, h3r_0, h3r_1, hk_wi_0, hk_wj_0, h3w_0, h3w_1, h3v_0, hk_kI, hk_kJ, hk_kA, hk_kB, A_eq, A_ne, A_row, B_eq, B_ne, B_row, I_eq, I_ne, J_eq, J_ne, Option.bind_some, Option.some.injEq, if_true, if_false, eq_self, true_or, or_true, true_and, and_true, false_or, or_false, not_true_eq_false, not_false_eq_true, Classical.not_not, nar_b0, nar_b1, rz_0, rz_1, rz_i, ite01, Nat.add_zero, Nat.zero_add, Nat.one_mul, mul12, reduceIte, ra_z0, Nat.reduceEqDiff, Nat.reduceLT, Nat.reduceLeDiff, Nat.reduceAdd, Nat.reduceMul, Nat.reduceSub, Nat.reduceDiv, Nat.reduceMod, Bool.false_eq_true, false_and, and_false, reduceCtorEq, hl', r93, ca, wi, t90, ze, c2, nX12_findFirst_275]
        · rw [if_neg c1] at ca
          simp (maxSteps := 400000) (disch := omega) only [n3_l, n3_add, n3_mul, n3_sub, n3_subn, n3_lt, n3_le, n3_eq, n3_eqn, n3_neq, n3_and, n3_or, n3_shl, n3_i, n3_cl, ↓hbd_0, ↓hbd_1, ↓hbd_2, hk_ob_0, hk_rd_0, hk_rd_1, hk_rd_2, hk_al_0, hk_al_1, h3r_0, h3r_1, hk_wi_0, hk_wj_0, h3w_0, h3w_1, h3v_0, hk_kI, hk_kJ, hk_kA, hk_kB, A_eq, A_ne, A_row, B_eq, B_ne, B_row, I_eq, I_ne, J_eq, J_ne, Option.bind_some, Option.some.injEq, if_true, if_false, eq_self, true_or, or_true, true_and, and_true, false_or, or_false, not_true_eq_false, not_false_eq_true, Classical.not_not, nar_b0, nar_b1, rz_0, rz_1, rz_i, ite01, Nat.add_zero, Nat.zero_add, Nat.one_mul, mul12, reduceIte, ra_z0, Nat.reduceEqDiff, Nat.reduceLT, Nat.reduceLeDiff, Nat.reduceAdd, Nat.reduceMul, Nat.reduceSub, Nat.reduceDiv, Nat.reduceMod, Bool.false_eq_true, false_and, and_false, reduceCtorEq, hl', r93, ca, nX12_findFirst_275]
      · intro x hx
        refine (i2 x hx).cg ⟨fun z => z.imp id (fun ⟨l', z1, z2⟩ => ⟨l', by omega, z2⟩), fun z => z.imp id (fun ⟨l', z1, z2, z3⟩ => ⟨l', ?_, z2, z3⟩)⟩
        by_cases el : l' = l
        · rw [el] at z2; exact absurd z2 c
        · omega
      · refine i4.cg ⟨fun z => ⟨z.1, fun l' h1 h2 => ?_⟩, fun z => ⟨z.1, fun l' h1 h2 => z.2 l' (by omega) h2⟩⟩
        by_cases el : l' = l
        · rw [el] at h2; exact absurd h2 c
        · exact z.2 l' (by omega) h2) (L + 1) 0 m κ (by omega) (by omega) ⟨samJ.refl _ _ _, fun x hx => (h94 x hx).cg ⟨fun z => Or.inl z, fun z => by
        rcases z with z | ⟨l', z, -⟩
        · exact z
        · omega⟩, fun _ _ => rfl, h96.cg ⟨fun z => ⟨z, fun l' h => by omega⟩, fun z => z.1⟩⟩
  refine ⟨s', ?_, i1, ?_, i3, ?_⟩
  · have e0 : nX12_findFirst_178 N c50 c169 m 69 (n3 L) (n3 (2 ^ L)) (n3 st) (n3 b) (n3 it) (n3 s) (n3 0) (hp κ) = nX12_findFirst_178 N c50 c169 (m' + 1) 69 (n3 L) (n3 (2 ^ L)) (n3 st) (n3 b) (n3 it) (n3 s) (n3 (L + 1)) (hp s') := e
    have cl : ¬ L + 1 ≤ L := by omega
    rw [e0, nX12_findFirst_178]
    simp (maxSteps := 400000) (disch := omega) only [n3_l, n3_add, n3_mul, n3_sub, n3_subn, n3_lt, n3_le, n3_eq, n3_eqn, n3_neq, n3_and, n3_or, n3_shl, n3_i, n3_cl, ↓hbd_0, ↓hbd_1, ↓hbd_2, hk_ob_0, hk_rd_0, hk_rd_1, hk_rd_2, hk_al_0, hk_al_1, h3r_0, h3r_1, hk_wi_0, hk_wj_0, h3w_0, h3w_1, h3v_0, hk_kI, hk_kJ, hk_kA, hk_kB, A_eq, A_ne, A_row, B_eq, B_ne, B_row, I_eq, I_ne, J_eq, J_ne, Option.bind_some, Option.some.injEq, if_true, if_false, eq_self, true_or, or_true, true_and, and_true, false_or, or_false, not_true_eq_false, not_false_eq_true, Classical.not_not, nar_b0, nar_b1, rz_0, rz_1, rz_i, ite01, Nat.add_zero, Nat.zero_add, Nat.one_mul, mul12, reduceIte, ra_z0, Nat.reduceEqDiff, Nat.reduceLT, Nat.reduceLeDiff, Nat.reduceAdd, Nat.reduceMul, Nat.reduceSub, Nat.reduceDiv, Nat.reduceMod, Bool.false_eq_true, false_and, and_false, reduceCtorEq, cl, nX12_findFirst_281]
  · intro x hx
    exact (i2 x hx).cg ⟨fun z => z.imp id (fun ⟨l', z1, z2⟩ => ⟨l', by omega, z2⟩), fun z => z.imp id (fun ⟨l', z1, z2⟩ => ⟨l', by omega, z2⟩)⟩
  · exact i4.cg ⟨fun z => ⟨z.1, fun l' h1 h2 => z.2 l' (by omega) h2⟩, fun z => ⟨z.1, fun l' h1 h2 => z.2 l' (by omega) h2⟩⟩
/-- over all sets, and the sets that come then -/
theorem r_overSets {nB L b st it : Nat} {c50 : Nat → Int32 → Int32 → Int32 → Int32 → ra_H → Option ra_H} (ok : raOk (hk_A κ 71) nB L) (hb : b < nB) (hi : it ≤ L) (hit : it = its (agR (hk_A κ 71)) L nB b) (hT : ∀ b, b ≤ nB → ∀ x, x < 2 ^ L → hk_A κ 90 (4096 * b + x) = z3 (mS (agR (hk_A κ 71)) L nB (nB - b) x))
    (h93 : ∀ x, x < 2 ^ L → isB (hk_A κ 93 x) (rc (agR (hk_A κ 71)) L nB b x)) (h94 : ∀ x, x < 2 ^ L → hk_A κ 94 x = n3 0) (h96 : hk_A κ 96 b = n3 1) (hN : 10000 < N) :
    ∃ κ', nX12_findFirst_169 N c50 N 69 (n3 L) (n3 (2 ^ L)) (n3 st) (n3 b) (n3 it) (n3 0) (hp κ) = c50 69 (n3 L) (n3 (2 ^ L)) (n3 (aft L st it)) (n3 (b + 1)) (hp κ') ∧ samJ [93, 94, 96] [] κ κ' ∧ (∀ x, x < 2 ^ L → isB (hk_A κ' 93 x) (rc (agR (hk_A κ 71)) L nB (b + 1) x)) ∧ (∀ b', b' ≠ b → hk_A κ' 96 b' = hk_A κ 96 b') ∧ isB (hk_A κ' 96 b) (sureP (agR (hk_A κ 71)) L nB b) := by
  have ok' := ok
  obtain ⟨o1, o2, o3, o4, o5, o6⟩ := ok
  have q := q12 o4
  obtain ⟨m', s', e, i1, i2, i3, i4⟩ := lpx (fun m s (r : hk_T) => nX12_findFirst_169 N c50 m 69 (n3 L) (n3 (2 ^ L)) (n3 st) (n3 b) (n3 it) (n3 s) (hp r)) (2 ^ L) (fun s r => samJ [94, 96] [] κ r ∧ (∀ x, x < 2 ^ L → isB (hk_A r 94 x) (∃ s' l, s' < s ∧ rc (agR (hk_A κ 71)) L nB b s' ∧ l ≤ L ∧ opX (agR (hk_A κ 71)) L nB b s' l ∧ x = aft L s' l)) ∧ (∀ b', b' ≠ b → hk_A r 96 b' = hk_A κ 96 b') ∧ isB (hk_A r 96 b) (∀ s', s' < s → rc (agR (hk_A κ 71)) L nB b s' → ∀ l, l ≤ L → opX (agR (hk_A κ 71)) L nB b s' l → l = it)) (by
    rintro m s r hs ⟨i1, i2, i3, i4⟩
    have r71 : hk_A r 71 = hk_A κ 71 := i1.1.1 71 (by decide)
    have r90 : hk_A r 90 = hk_A κ 90 := i1.1.1 90 (by decide)
    have r93 : isB (hk_A r 93 s) (rc (agR (hk_A κ 71)) L nB b s) := by rw [i1.1.1 93 (by decide)]; exact h93 s hs
    have okr : raOk (hk_A r 71) nB L := by rw [r71]; exact ok'
    by_cases c : rc (agR (hk_A κ 71)) L nB b s
    · obtain ⟨r1, e1, k1, k2, k3, k4⟩ := r_overSet N r (m := N) (st := st) (c50 := c50) (c169 := nX12_findFirst_169 N c50 m) okr hb hs hi (by rw [r90, r71]; exact hT) (r93.1 c) i2 i4 (by omega)
      rw [r71] at k2 k4
      refine ⟨r1, ?_, i1.trans k1, ?_, fun b' hb' => (k3 b' hb').trans (i3 b' hb'), ?_⟩
      · rw [nX12_findFirst_169]
        simp (maxSteps := 400000) (disch := omega) only [n3_l, n3_add, n3_mul, n3_sub, n3_subn, n3_lt, n3_le, n3_eq, n3_eqn, n3_neq, n3_and, n3_or, n3_shl, n3_i, n3_cl, ↓hbd_0, ↓hbd_1, ↓hbd_2, hk_ob_0, hk_rd_0, hk_rd_1, hk_rd_2, hk_al_0, hk_al_1, h3r_0, h3r_1, hk_wi_0, hk_wj_0, h3w_0, h3w_1, h3v_0, hk_kI, hk_kJ, hk_kA, hk_kB, A_eq, A_ne, A_row, B_eq, B_ne, B_row, I_eq, I_ne, J_eq, J_ne, Option.bind_some, Option.some.injEq, if_true, if_false, eq_self, true_or, or_true, true_and, and_true, false_or, or_false, not_true_eq_false, not_false_eq_true, Classical.not_not, nar_b0, nar_b1, rz_0, rz_1, rz_i, ite01, Nat.add_zero, Nat.zero_add, Nat.one_mul, mul12, reduceIte, ra_z0, Nat.reduceEqDiff, Nat.reduceLT, Nat.reduceLeDiff, Nat.reduceAdd, Nat.reduceMul, Nat.reduceSub, Nat.reduceDiv, Nat.reduceMod, Bool.false_eq_true, false_and, and_false, reduceCtorEq, hs]
        exact e1
      · intro x hx
        refine (k2 x hx).cg ⟨?_, ?_⟩
        · rintro (⟨s', l, z1, z2⟩ | ⟨l, z1, z2, z3⟩)
          · exact ⟨s', l, by omega, z2⟩
          · exact ⟨s, l, by omega, c, z1, z2, z3⟩
        · rintro ⟨s', l, z1, z2, z3, z4, z5⟩
          by_cases es : s' = s
          · rw [es] at z4 z5; exact Or.inr ⟨l, z3, z4, z5⟩
          · exact Or.inl ⟨s', l, by omega, z2, z3, z4, z5⟩
      · refine k4.cg ⟨?_, ?_⟩
        · rintro ⟨z1, z2⟩ s' h1 h2 l h3 h4
          by_cases es : s' = s
          · rw [es] at h4; exact z2 l h3 h4
          · exact z1 s' (by omega) h2 l h3 h4
        · intro z
          exact ⟨fun s' h1 h2 => z s' (by omega) h2, fun l h3 h4 => z s (by omega) c l h3 h4⟩
    · have s1 := r93.2 c
      have lL : 0 ≤ L := Nat.zero_le _
      refine ⟨r, ?_, i1, ?_, i3, ?_⟩
      · obtain ⟨N', hN'⟩ : ∃ N', N = N' + 1 := ⟨N - 1, by omega⟩
        rw [nX12_findFirst_169]
        simp (maxSteps := 400000) (disch := omega) only [n3_l, n3_add, n3_mul, n3_sub, n3_subn, n3_lt, n3_le, n3_eq, n3_eqn, n3_neq, n3_and, n3_or, n3_shl, n3_i, n3_cl, ↓hbd_0, ↓hbd_1, ↓hbd_2, hk_ob_0, hk_rd_0, hk_rd_1, hk_rd_2, hk_al_0, hk_al_1, h3r_0, h3r_1, hk_wi_0, hk_wj_0, h3w_0, h3w_1, h3v_0, hk_kI, hk_kJ, hk_kA, hk_kB, A_eq, A_ne, A_row, B_eq, B_ne, B_row, I_eq, I_ne, J_eq, J_ne, Option.bind_some, Option.some.injEq, if_true, if_false, eq_self, true_or, or_true, true_and, and_true, false_or, or_false, not_true_eq_false, not_false_eq_true, Classical.not_not, nar_b0, nar_b1, rz_0, rz_1, rz_i, ite01, Nat.add_zero, Nat.zero_add, Nat.one_mul, mul12, reduceIte, ra_z0, Nat.reduceEqDiff, Nat.reduceLT, Nat.reduceLeDiff, Nat.reduceAdd, Nat.reduceMul, Nat.reduceSub, Nat.reduceDiv, Nat.reduceMod, Bool.false_eq_true, false_and, and_false, reduceCtorEq, hs]
        have e2 : nX12_findFirst_178 N c50 (nX12_findFirst_169 N c50 m) N 69 (n3 L) (n3 (2 ^ L)) (n3 st) (n3 b) (n3 it) (n3 s) (n3 0) (hp r) = nX12_findFirst_178 N c50 (nX12_findFirst_169 N c50 m) (N' + 1) 69 (n3 L) (n3 (2 ^ L)) (n3 st) (n3 b) (n3 it) (n3 s) (n3 0) (hp r) := by rw [← hN']
        rw [e2, nX12_findFirst_178]
        simp (maxSteps := 400000) (disch := omega) only [n3_l, n3_add, n3_mul, n3_sub, n3_subn, n3_lt, n3_le, n3_eq, n3_eqn, n3_neq, n3_and, n3_or, n3_shl, n3_i, n3_cl, ↓hbd_0, ↓hbd_1, ↓hbd_2, hk_ob_0, hk_rd_0, hk_rd_1, hk_rd_2, hk_al_0, hk_al_1, h3r_0, h3r_1, hk_wi_0, hk_wj_0, h3w_0, h3w_1, h3v_0, hk_kI, hk_kJ, hk_kA, hk_kB, A_eq, A_ne, A_row, B_eq, B_ne, B_row, I_eq, I_ne, J_eq, J_ne, Option.bind_some, Option.some.injEq, if_true, if_false, eq_self, true_or, or_true, true_and, and_true, false_or, or_false, not_true_eq_false, not_false_eq_true, Classical.not_not, nar_b0, nar_b1, rz_0, rz_1, rz_i, ite01, Nat.add_zero, Nat.zero_add, Nat.one_mul, mul12, reduceIte, ra_z0, Nat.reduceEqDiff, Nat.reduceLT, Nat.reduceLeDiff, Nat.reduceAdd, Nat.reduceMul, Nat.reduceSub, Nat.reduceDiv, Nat.reduceMod, Bool.false_eq_true, false_and, and_false, reduceCtorEq, lL, s1, nX12_findFirst_281]
      · intro x hx
        refine (i2 x hx).cg ⟨?_, ?_⟩
        · rintro ⟨s', l, z1, z2⟩; exact ⟨s', l, by omega, z2⟩
        · rintro ⟨s', l, z1, z2, z3⟩
          by_cases es : s' = s
          · rw [es] at z2; exact absurd z2 c
          · exact ⟨s', l, by omega, z2, z3⟩
      · refine i4.cg ⟨?_, ?_⟩
        · intro z s' h1 h2
          by_cases es : s' = s
          · rw [es] at h2; exact absurd h2 c
          · exact z s' (by omega) h2
        · intro z s' h1 h2; exact z s' (by omega) h2) (2 ^ L) 0 N κ (by omega) (by omega) ⟨samJ.refl _ _ _, fun x hx => by
      rw [h94 x hx]
      exact isB.n (fun ⟨s', l, z, _⟩ => by omega), fun _ _ => rfl, by rw [h96]; exact isB.y (fun s' h => by omega)⟩
  have e0 : nX12_findFirst_169 N c50 N 69 (n3 L) (n3 (2 ^ L)) (n3 st) (n3 b) (n3 it) (n3 0) (hp κ) = nX12_findFirst_169 N c50 (m' + 1) 69 (n3 L) (n3 (2 ^ L)) (n3 st) (n3 b) (n3 it) (n3 (2 ^ L)) (hp s') := e
  have i2' : ∀ x, x < 2 ^ L → isB (hk_A s' 94 x) (rc (agR (hk_A κ 71)) L nB (b + 1) x) := by
    intro x hx
    refine (i2 x hx).cg ?_
    rw [rc_next]
    constructor
    · rintro ⟨s', l, z1, z2⟩; exact ⟨s', l, z2⟩
    · rintro ⟨s', l, z2, z3⟩; exact ⟨s', l, rc_lt b s' z2, z2, z3⟩
  have i4' : isB (hk_A s' 96 b) (sureP (agR (hk_A κ 71)) L nB b) := by
    refine i4.cg ?_
    rw [sureX, hit]
    constructor
    · intro z s' h2; exact z s' (rc_lt b s' h2) h2
    · intro z s' _ h2; exact z s' h2
  obtain ⟨m'', s'', e', j1, j2⟩ := lpx (fun m s (r : hk_T) => nX12_findFirst_290 N c50 m 69 (n3 L) (n3 (2 ^ L)) (n3 st) (n3 b) (n3 it) (n3 s) (hp r)) (2 ^ L) (fun s r => samJ [93] [] s' r ∧ ∀ x, x < s → isB (hk_A r 93 x) (rc (agR (hk_A κ 71)) L nB (b + 1) x)) (by
    rintro m s r hs ⟨j1, j2⟩
    have r94 : hk_A r 94 s = hk_A s' 94 s := by rw [j1.1.1 94 (by decide)]
    have na := (i2' s hs).nar
    refine ⟨hk_wA r 93 s (hk_A s' 94 s), ?_, j1.wA (by decide), ?_⟩
    · rw [nX12_findFirst_290]
      simp (maxSteps := 400000) (disch := omega) only [n3_l, n3_add, n3_mul, n3_sub, n3_subn, n3_lt, n3_le, n3_eq, n3_eqn, n3_neq, n3_and, n3_or, n3_shl, n3_i, n3_cl, ↓hbd_0, ↓hbd_1, ↓hbd_2, hk_ob_0, hk_rd_0, hk_rd_1, hk_rd_2, hk_al_0, hk_al_1, h3r_0, h3r_1, hk_wi_0, hk_wj_0, h3w_0, h3w_1, h3v_0, hk_kI, hk_kJ, hk_kA, hk_kB, A_eq, A_ne, A_row, B_eq, B_ne, B_row, I_eq, I_ne, J_eq, J_ne, Option.bind_some, Option.some.injEq, if_true, if_false, eq_self, true_or, or_true, true_and, and_true, false_or, or_false, not_true_eq_false, not_false_eq_true, Classical.not_not, nar_b0, nar_b1, rz_0, rz_1, rz_i, ite01, Nat.add_zero, Nat.zero_add, Nat.one_mul, mul12, reduceIte, ra_z0, Nat.reduceEqDiff, Nat.reduceLT, Nat.reduceLeDiff, Nat.reduceAdd, Nat.reduceMul, Nat.reduceSub, Nat.reduceDiv, Nat.reduceMod, Bool.false_eq_true, false_and, and_false, reduceCtorEq, hs, r94, na]
    · intro x hx
      by_cases ex : x = s
      · rw [ex, A_eq rfl]; exact i2' s hs
      · rw [A_ne (Or.inr ex)]; exact j2 x (by omega)) (2 ^ L) 0 N s' (by omega) (by omega) ⟨samJ.refl _ _ _, fun x h => by omega⟩
  have e1 : nX12_findFirst_290 N c50 N 69 (n3 L) (n3 (2 ^ L)) (n3 st) (n3 b) (n3 it) (n3 0) (hp s') = nX12_findFirst_290 N c50 (m'' + 1) 69 (n3 L) (n3 (2 ^ L)) (n3 st) (n3 b) (n3 it) (n3 (2 ^ L)) (hp s'') := e'
  refine ⟨s'', ?_, (i1.weak (by decide) (by decide)).trans (j1.weak (by decide) (by decide)), j2, ?_, ?_⟩
  · have ok2 : raOk (hk_A s'' 71) nB L := by rw [j1.1.1 71 (by decide), i1.1.1 71 (by decide)]; exact ok'
    have af := r_after N s'' ok2 (s := st) hi
    rw [e0, nX12_findFirst_169]
    simp (maxSteps := 400000) (disch := omega) only [n3_l, n3_add, n3_mul, n3_sub, n3_subn, n3_lt, n3_le, n3_eq, n3_eqn, n3_neq, n3_and, n3_or, n3_shl, n3_i, n3_cl, ↓hbd_0, ↓hbd_1, ↓hbd_2, hk_ob_0, hk_rd_0, hk_rd_1, hk_rd_2, hk_al_0, hk_al_1, h3r_0, h3r_1, hk_wi_0, hk_wj_0, h3w_0, h3w_1, h3v_0, hk_kI, hk_kJ, hk_kA, hk_kB, A_eq, A_ne, A_row, B_eq, B_ne, B_row, I_eq, I_ne, J_eq, J_ne, Option.bind_some, Option.some.injEq, if_true, if_false, eq_self, true_or, or_true, true_and, and_true, false_or, or_false, not_true_eq_false, not_false_eq_true, Classical.not_not, nar_b0, nar_b1, rz_0, rz_1, rz_i, ite01, Nat.add_zero, Nat.zero_add, Nat.one_mul, mul12, reduceIte, ra_z0, Nat.reduceEqDiff, Nat.reduceLT, Nat.reduceLeDiff, Nat.reduceAdd, Nat.reduceMul, Nat.reduceSub, Nat.reduceDiv, Nat.reduceMod, Bool.false_eq_true, false_and, and_false, reduceCtorEq, Nat.lt_irrefl]
    rw [e1, nX12_findFirst_290]
    simp (maxSteps := 400000) (disch := omega) only [n3_l, n3_add, n3_mul, n3_sub, n3_subn, n3_lt, n3_le, n3_eq, n3_eqn, n3_neq, n3_and, n3_or, n3_shl, n3_i, n3_cl, ↓hbd_0, ↓hbd_1, ↓hbd_2, hk_ob_0, hk_rd_0, hk_rd_1, hk_rd_2, hk_al_0, hk_al_1, h3r_0, h3r_1, hk_wi_0, hk_wj_0, h3w_0, h3w_1, h3v_0, hk_kI, hk_kJ, hk_kA, hk_kB, A_eq, A_ne, A_row, B_eq, B_ne, B_row, I_eq, I_ne, J_eq, J_ne, Option.bind_some, Option.some.injEq, if_true, if_false, eq_self, true_or, or_true, true_and, and_true, false_or, or_false, not_true_eq_false, not_false_eq_true, Classical.not_not, nar_b0, nar_b1, rz_0, rz_1, rz_i, ite01, Nat.add_zero, Nat.zero_add, Nat.one_mul, mul12, reduceIte, ra_z0, Nat.reduceEqDiff, Nat.reduceLT, Nat.reduceLeDiff, Nat.reduceAdd, Nat.reduceMul, Nat.reduceSub, Nat.reduceDiv, Nat.reduceMod, Bool.false_eq_true, false_and, and_false, reduceCtorEq, Nat.lt_irrefl, af]
  · intro b' hb'; rw [j1.1.1 96 (by decide)]; exact i3 b' hb'
  · rw [j1.1.1 96 (by decide)]; exact i4'
/-- one book -/
theorem r_firstBook {nB L b : Nat} {c50 : Nat → Int32 → Int32 → Int32 → Int32 → ra_H → Option ra_H} (ok : raOk (hk_A κ 71) nB L) (hb : b < nB) (hT : ∀ b, b ≤ nB → ∀ x, x < 2 ^ L → hk_A κ 90 (4096 * b + x) = z3 (mS (agR (hk_A κ 71)) L nB (nB - b) x))
    (h93 : ∀ x, x < 2 ^ L → isB (hk_A κ 93 x) (rc (agR (hk_A κ 71)) L nB b x)) (hN : 10000 < N) :
    ∃ κ', nX12_findFirst_71 N c50 N 69 (n3 L) (n3 (2 ^ L)) (n3 (gvS (agR (hk_A κ 71)) L nB b)) (n3 b) (n3 L) (dn L) (hp κ) = c50 69 (n3 L) (n3 (2 ^ L)) (n3 (gvS (agR (hk_A κ 71)) L nB (b + 1))) (n3 (b + 1)) (hp κ') ∧ samJ [93, 94, 95, 96] [] κ κ' ∧ (∀ x, x < 2 ^ L → isB (hk_A κ' 93 x) (rc (agR (hk_A κ 71)) L nB (b + 1) x)) ∧ (∀ b', b' ≠ b → hk_A κ' 96 b' = hk_A κ 96 b' ∧ hk_A κ' 95 b' = hk_A κ 95 b') ∧ isB (hk_A κ' 96 b) (sureP (agR (hk_A κ 71)) L nB b) ∧ hk_A κ' 95 b = n3 (its (agR (hk_A κ 71)) L nB b) := by
  have ok' := ok
  obtain ⟨o1, o2, o3, o4, o5, o6⟩ := ok
  have q := q12 o4
  have hs := gv_lt (a := agR (hk_A κ 71)) (L := L) (n := nB) b
  have sb := mS_bd (hk_A κ 71) (L := L) (n := nB) (k := nB - b) (gvS (agR (hk_A κ 71)) L nB b) (by omega)
  have t90 := hT b (by omega) _ hs
  generalize hst : gvS (agR (hk_A κ 71)) L nB b = st at hs sb t90
  obtain ⟨m', it, e, i1, i2, i3, i4⟩ := lpx (fun m i (x : Nat) => nX12_findFirst_71 N c50 m 69 (n3 L) (n3 (2 ^ L)) (n3 st) (n3 b) (n3 x) (dn (L - i)) (hp κ)) L (fun i x => x ≤ L ∧ L - i ≤ x ∧ (x < L → opt (agR (hk_A κ 71)) L nB b st x) ∧ ∀ l, L - i ≤ l → l < x → ¬ opt (agR (hk_A κ 71)) L nB b st l) (by
    rintro m i x hi ⟨i1, i2, i3, i4⟩
    obtain ⟨l, hl⟩ : ∃ l, l + 1 + i = L := ⟨L - (i + 1), by omega⟩
    have e1 : L - i = l + 1 := by omega
    have e2 : L - (i + 1) = l := by omega
    rw [e1] at i2 i4 ⊢
    rw [e2]
    have hl' : l ≤ L := by omega
    have ca := r_can N κ ok' hs hl'
    have wi := r_with N κ ok' hb hs hl' (hT (b + 1) (by omega))
    have wb := wiX_bd (hk_A κ 71) (L := L) (n := nB) b st l o3
    have ze : z3 (wiX (agR (hk_A κ 71)) L nB b st l) = z3 (mS (agR (hk_A κ 71)) L nB (nB - b) st) ↔ wiX (agR (hk_A κ 71)) L nB b st l = mS (agR (hk_A κ 71)) L nB (nB - b) st := z3_eq (by omega) (by omega) (by omega) (by omega)
    have ox := opX_l (a := agR (hk_A κ 71)) (n := nB) (b := b) (s := st) (show l < L by omega)
    have c0 : ¬ l < 0 := by omega
    by_cases c : opX (agR (hk_A κ 71)) L nB b st l
    · obtain ⟨c1, c2⟩ := c
      rw [if_pos c1] at ca
      refine ⟨l, ?_, by omega, Nat.le_refl _, fun _ => ox.mp ⟨c1, c2⟩, fun l' h1 h2 => by omega⟩
      rw [nX12_findFirst_71, dn_succ]
      simp (maxSteps := 400000) (disch := omega) only [n3_l, n3_add, n3_mul, n3_sub, n3_subn, n3_lt, n3_le, n3_eq, n3_eqn, n3_neq, n3_and, n3_or, n3_shl, n3_i, n3_cl, ↓hbd_0, ↓hbd_1, ↓hbd_2, hk_ob_0, hk_rd_0, hk_rd_1, hk_rd_2, hk_al_0, hk_al_1, h3r_0, h3r_1, hk_wi_0, hk_wj_0, h3w_0, h3w_1, h3v_0, hk_kI, hk_kJ, hk_kA, hk_kB, A_eq, A_ne, A_row, B_eq, B_ne, B_row, I_eq, I_ne, J_eq, J_ne, Option.bind_some, Option.some.injEq, if_true, if_false, eq_self, true_or, or_true, true_and, and_true, false_or, or_false, not_true_eq_false, not_false_eq_true, Classical.not_not, nar_b0, nar_b1, rz_0, rz_1, rz_i, ite01, Nat.add_zero, Nat.zero_add, Nat.one_mul, mul12, reduceIte, ra_z0, Nat.reduceEqDiff, Nat.reduceLT, Nat.reduceLeDiff, Nat.reduceAdd, Nat.reduceMul, Nat.reduceSub, Nat.reduceDiv, Nat.reduceMod, Bool.false_eq_true, false_and, and_false, reduceCtorEq, c0, ca, wi, t90, ze, c2, nX12_findFirst_118, dn_next]
    · refine ⟨x, ?_, i1, by omega, i3, fun l' h1 h2 => ?_⟩
      · rw [nX12_findFirst_71, dn_succ]
        by_cases c1 : canX L st l
        · rw [if_pos c1] at ca
          have c2 : ¬ wiX (agR (hk_A κ 71)) L nB b st l = mS (agR (hk_A κ 71)) L nB (nB - b) st := fun z => c ⟨c1, z⟩
          simp (maxSteps := 400000) (disch := omega) only [n3_l, n3_add, n3_mul, n3_sub, n3_subn, n3_lt, n3_le, n3_eq, n3_eqn, n3_neq, n3_and, n3_or, n3_shl, n3_i, n3_cl, ↓hbd_0, ↓hbd_1, ↓hbd_2, hk_ob_0, hk_rd_0, hk_rd_1, hk_rd_2, hk_al_0, hk_al_1, h3r_0, h3r_1, hk_wi_0, hk_wj_0, h3w_0, h3w_1, h3v_0, hk_kI, hk_kJ, hk_kA, hk_kB, A_eq, A_ne, A_row, B_eq, B_ne, B_row, I_eq, I_ne, J_eq, J_ne, Option.bind_some, Option.some.injEq, if_true, if_false, eq_self, true_or, or_true, true_and, and_true, false_or, or_false, not_true_eq_false, not_false_eq_true, Classical.not_not, nar_b0, nar_b1, rz_0, rz_1, rz_i, ite01, Nat.add_zero, Nat.zero_add, Nat.one_mul, mul12, reduceIte, ra_z0, Nat.reduceEqDiff, Nat.reduceLT, Nat.reduceLeDiff, Nat.reduceAdd, Nat.reduceMul, Nat.reduceSub, Nat.reduceDiv, Nat.reduceMod, Bool.false_eq_true, false_and, and_false, reduceCtorEq, c0, ca, wi, t90, ze, c2, nX12_findFirst_116, nX12_findFirst_118, dn_next]
        · rw [if_neg c1] at ca
          simp (maxSteps := 400000) (disch := omega) only [n3_l, n3_add, n3_mul, n3_sub, n3_subn, n3_lt, n3_le, n3_eq, n3_eqn, n3_neq, n3_and, n3_or, n3_shl, n3_i, n3_cl, ↓hbd_0, ↓hbd_1, ↓hbd_2, hk_ob_0, hk_rd_0, hk_rd_1, hk_rd_2, hk_al_0, hk_al_1, h3r_0, h3r_1, hk_wi_0, hk_wj_0, h3w_0, h3w_1, h3v_0, hk_kI, hk_kJ, hk_kA, hk_kB, A_eq, A_ne, A_row, B_eq, B_ne, B_row, I_eq, I_ne, J_eq, J_ne, Option.bind_some, Option.some.injEq, if_true, if_false, eq_self, true_or, or_true, true_and, and_true, false_or, or_false, not_true_eq_false, not_false_eq_true, Classical.not_not, nar_b0, nar_b1, rz_0, rz_1, rz_i, ite01, Nat.add_zero, Nat.zero_add, Nat.one_mul, mul12, reduceIte, ra_z0, Nat.reduceEqDiff, Nat.reduceLT, Nat.reduceLeDiff, Nat.reduceAdd, Nat.reduceMul, Nat.reduceSub, Nat.reduceDiv, Nat.reduceMod, Bool.false_eq_true, false_and, and_false, reduceCtorEq, c0, ca, nX12_findFirst_116, nX12_findFirst_118, dn_next]
      · by_cases el : l' = l
        · rw [el]; exact fun z => c (ox.mpr z)
        · exact i4 l' (by omega) h2) L 0 N L (by omega) (by omega) ⟨Nat.le_refl _, by omega, fun h => absurd h (Nat.lt_irrefl _), fun l h1 h2 => by omega⟩
  rw [Nat.sub_self] at i4 e
  have hit : it = its (agR (hk_A κ 71)) L nB b := by
    have h1 := its_is (agR (hk_A κ 71)) L nB b
    rw [hst] at h1
    exact isLow_uniq ⟨i1, i3, fun l hl => i4 l (Nat.zero_le _) hl⟩ h1
  have e0 : nX12_findFirst_71 N c50 N 69 (n3 L) (n3 (2 ^ L)) (n3 st) (n3 b) (n3 L) (dn L) (hp κ) = nX12_findFirst_71 N c50 (m' + 1) 69 (n3 L) (n3 (2 ^ L)) (n3 st) (n3 b) (n3 it) (dn 0) (hp κ) := e
  obtain ⟨κ1, hκ1⟩ : ∃ κ1, κ1 = hk_wA (hk_wA κ 95 b (n3 it)) 96 b (n3 1) := ⟨_, rfl⟩
  have s1 : samJ [95, 96] [] κ κ1 := by rw [hκ1]; exact ((samJ.refl _ _ _).wA (by decide)).wA (by decide)
  obtain ⟨m'', s', e', j1, j2⟩ := lpx (fun m s (r : hk_T) => nX12_findFirst_146 N c50 m 69 (n3 L) (n3 (2 ^ L)) (n3 st) (n3 b) (n3 it) (n3 s) (hp r)) (2 ^ L) (fun s r => samJ [94] [] κ1 r ∧ ∀ x, x < s → hk_A r 94 x = n3 0) (by
    rintro m s r hs ⟨j1, j2⟩
    refine ⟨hk_wA r 94 s (n3 0), ?_, j1.wA (by decide), ?_⟩
    · rw [nX12_findFirst_146]
      simp (maxSteps := 400000) (disch := omega) only [n3_l, n3_add, n3_mul, n3_sub, n3_subn, n3_lt, n3_le, n3_eq, n3_eqn, n3_neq, n3_and, n3_or, n3_shl, n3_i, n3_cl, ↓hbd_0, ↓hbd_1, ↓hbd_2, hk_ob_0, hk_rd_0, hk_rd_1, hk_rd_2, hk_al_0, hk_al_1, h3r_0, h3r_1, hk_wi_0, hk_wj_0, h3w_0, h3w_1, h3v_0, hk_kI, hk_kJ, hk_kA, hk_kB, A_eq, A_ne, A_row, B_eq, B_ne, B_row, I_eq, I_ne, J_eq, J_ne, Option.bind_some, Option.some.injEq, if_true, if_false, eq_self, true_or, or_true, true_and, and_true, false_or, or_false, not_true_eq_false, not_false_eq_true, Classical.not_not, nar_b0, nar_b1, rz_0, rz_1, rz_i, ite01, Nat.add_zero, Nat.zero_add, Nat.one_mul, mul12, reduceIte, ra_z0, Nat.reduceEqDiff, Nat.reduceLT, Nat.reduceLeDiff, Nat.reduceAdd, Nat.reduceMul, Nat.reduceSub, Nat.reduceDiv, Nat.reduceMod, Bool.false_eq_true, false_and, and_false, reduceCtorEq, hs]
    · intro x hx
      by_cases ex : x = s
      · rw [ex, A_eq rfl]
      · rw [A_ne (Or.inr ex)]; exact j2 x (by omega)) (2 ^ L) 0 N κ1 (by omega) (by omega) ⟨samJ.refl _ _ _, fun x h => by omega⟩
  have e1 : nX12_findFirst_146 N c50 N 69 (n3 L) (n3 (2 ^ L)) (n3 st) (n3 b) (n3 it) (n3 0) (hp κ1) = nX12_findFirst_146 N c50 (m'' + 1) 69 (n3 L) (n3 (2 ^ L)) (n3 st) (n3 b) (n3 it) (n3 (2 ^ L)) (hp s') := e'
  have sx : samJ [94, 95, 96] [] κ s' := (s1.weak (by decide) (by decide)).trans (j1.weak (by decide) (by decide))
  have r71 : hk_A s' 71 = hk_A κ 71 := sx.1.1 71 (by decide)
  have h96 : hk_A s' 96 b = n3 1 := by rw [j1.1.1 96 (by decide), hκ1, A_eq rfl]
  obtain ⟨κ', e2, k1, k2, k3, k4⟩ := r_overSets N s' (st := st) (it := it) (c50 := c50) (by rw [r71]; exact ok') hb i1 (by rw [r71]; exact hit) (by rw [r71, sx.1.1 90 (by decide)]; exact hT) (by rw [r71, sx.1.1 93 (by decide)]; exact h93) j2 h96 hN
  rw [r71] at k2 k4
  refine ⟨κ', ?_, (sx.weak (by decide) (by decide)).trans (k1.weak (by decide) (by decide)), k2, ?_, k4, ?_⟩
  · have dl : dn 0 < n3 0 := by decide
    have eg : gvS (agR (hk_A κ 71)) L nB (b + 1) = aft L st it := by
      rw [gvS_next, hst, ← hit]
      unfold aft
      by_cases c : it < L
      · rw [if_pos c, if_neg (by omega)]
      · rw [if_neg c, if_pos (by omega)]
    rw [e0, nX12_findFirst_71, eg]
    rw [hκ1] at e1
    simp (maxSteps := 400000) (disch := omega) only [n3_l, n3_add, n3_mul, n3_sub, n3_subn, n3_lt, n3_le, n3_eq, n3_eqn, n3_neq, n3_and, n3_or, n3_shl, n3_i, n3_cl, ↓hbd_0, ↓hbd_1, ↓hbd_2, hk_ob_0, hk_rd_0, hk_rd_1, hk_rd_2, hk_al_0, hk_al_1, h3r_0, h3r_1, hk_wi_0, hk_wj_0, h3w_0, h3w_1, h3v_0, hk_kI, hk_kJ, hk_kA, hk_kB, A_eq, A_ne, A_row, B_eq, B_ne, B_row, I_eq, I_ne, J_eq, J_ne, Option.bind_some, Option.some.injEq, if_true, if_false, eq_self, true_or, or_true, true_and, and_true, false_or, or_false, not_true_eq_false, not_false_eq_true, Classical.not_not, nar_b0, nar_b1, rz_0, rz_1, rz_i, ite01, Nat.add_zero, Nat.zero_add, Nat.one_mul, mul12, reduceIte, ra_z0, Nat.reduceEqDiff, Nat.reduceLT, Nat.reduceLeDiff, Nat.reduceAdd, Nat.reduceMul, Nat.reduceSub, Nat.reduceDiv, Nat.reduceMod, Bool.false_eq_true, false_and, and_false, reduceCtorEq, dl]
    rw [e1, nX12_findFirst_146]
    simp (maxSteps := 400000) (disch := omega) only [n3_l, n3_add, n3_mul, n3_sub, n3_subn, n3_lt, n3_le, n3_eq, n3_eqn, n3_neq, n3_and, n3_or, n3_shl, n3_i, n3_cl, ↓hbd_0, ↓hbd_1, ↓hbd_2, hk_ob_0, hk_rd_0, hk_rd_1, hk_rd_2, hk_al_0, hk_al_1, h3r_0, h3r_1, hk_wi_0, hk_wj_0, h3w_0, h3w_1, h3v_0, hk_kI, hk_kJ, hk_kA, hk_kB, A_eq, A_ne, A_row, B_eq, B_ne, B_row, I_eq, I_ne, J_eq, J_ne, Option.bind_some, Option.some.injEq, if_true, if_false, eq_self, true_or, or_true, true_and, and_true, false_or, or_false, not_true_eq_false, not_false_eq_true, Classical.not_not, nar_b0, nar_b1, rz_0, rz_1, rz_i, ite01, Nat.add_zero, Nat.zero_add, Nat.one_mul, mul12, reduceIte, ra_z0, Nat.reduceEqDiff, Nat.reduceLT, Nat.reduceLeDiff, Nat.reduceAdd, Nat.reduceMul, Nat.reduceSub, Nat.reduceDiv, Nat.reduceMod, Bool.false_eq_true, false_and, and_false, reduceCtorEq, Nat.lt_irrefl]
    exact e2
  · intro b' hb'
    refine ⟨?_, ?_⟩
    · rw [k3 b' hb', j1.1.1 96 (by decide), hκ1, A_ne (Or.inr hb'), A_ne (Or.inl (by decide))]
    · rw [k1.1.1 95 (by decide), j1.1.1 95 (by decide), hκ1, A_ne (Or.inl (by decide)), A_ne (Or.inr hb')]
  · rw [k1.1.1 95 (by decide), j1.1.1 95 (by decide), hκ1, A_ne (Or.inl (by decide)), A_eq rfl, hit]
theorem r_findFirst {nB L : Nat} (ok : raOk (hk_A κ 71) nB L) (hT : ∀ b, b ≤ nB → ∀ x, x < 2 ^ L → hk_A κ 90 (4096 * b + x) = z3 (mS (agR (hk_A κ 71)) L nB (nB - b) x)) (hN : 10000 < N) :
    ∃ κ', fX12_findFirst N 69 (hp κ) = some (hp κ') ∧ samJ [93, 94, 95, 96] [] κ κ' ∧ ∀ b, b < nB → isB (hk_A κ' 96 b) (sureP (agR (hk_A κ 71)) L nB b) ∧ hk_A κ' 95 b = n3 (its (agR (hk_A κ 71)) L nB b) := by
  have ok' := ok
  obtain ⟨o1, o2, o3, o4, o5, o6⟩ := ok
  have q := q12 o4
  obtain ⟨m0, s0, e0, i1, i2⟩ := lpx (fun m s (r : hk_T) => nX12_findFirst_18 N m 69 (n3 L) (n3 (2 ^ L)) (n3 0) (n3 s) (hp r)) (2 ^ L) (fun s r => samJ [93] [] κ r ∧ ∀ x, x < s → isB (hk_A r 93 x) (rc (agR (hk_A κ 71)) L nB 0 x)) (by
    rintro m s r hs ⟨i1, i2⟩
    by_cases c : s = 0
    · refine ⟨hk_wA r 93 s (n3 1), ?_, i1.wA (by decide), ?_⟩
      · rw [nX12_findFirst_18]
        subst c
        simp (maxSteps := 400000) (disch := omega) only [n3_l, n3_add, n3_mul, n3_sub, n3_subn, n3_lt, n3_le, n3_eq, n3_eqn, n3_neq, n3_and, n3_or, n3_shl, n3_i, n3_cl, ↓hbd_0, ↓hbd_1, ↓hbd_2, hk_ob_0, hk_rd_0, hk_rd_1, hk_rd_2, hk_al_0, hk_al_1, h3r_0, h3r_1, hk_wi_0, hk_wj_0, h3w_0, h3w_1, h3v_0, hk_kI, hk_kJ, hk_kA, hk_kB, A_eq, A_ne, A_row, B_eq, B_ne, B_row, I_eq, I_ne, J_eq, J_ne, Option.bind_some, Option.some.injEq, if_true, if_false, eq_self, true_or, or_true, true_and, and_true, false_or, or_false, not_true_eq_false, not_false_eq_true, Classical.not_not, nar_b0, nar_b1, rz_0, rz_1, rz_i, ite01, Nat.add_zero, Nat.zero_add, Nat.one_mul, mul12, reduceIte, ra_z0, Nat.reduceEqDiff, Nat.reduceLT, Nat.reduceLeDiff, Nat.reduceAdd, Nat.reduceMul, Nat.reduceSub, Nat.reduceDiv, Nat.reduceMod, Bool.false_eq_true, false_and, and_false, reduceCtorEq, hs, nX12_findFirst_40]
      · intro x hx
        by_cases ex : x = s
        · rw [ex, A_eq rfl]; exact isB.y c
        · rw [A_ne (Or.inr ex)]; exact i2 x (by omega)
    · refine ⟨hk_wA r 93 s (n3 0), ?_, i1.wA (by decide), ?_⟩
      · rw [nX12_findFirst_18]
        simp (maxSteps := 400000) (disch := omega) only [n3_l, n3_add, n3_mul, n3_sub, n3_subn, n3_lt, n3_le, n3_eq, n3_eqn, n3_neq, n3_and, n3_or, n3_shl, n3_i, n3_cl, ↓hbd_0, ↓hbd_1, ↓hbd_2, hk_ob_0, hk_rd_0, hk_rd_1, hk_rd_2, hk_al_0, hk_al_1, h3r_0, h3r_1, hk_wi_0, hk_wj_0, h3w_0, h3w_1, h3v_0, hk_kI, hk_kJ, hk_kA, hk_kB, A_eq, A_ne, A_row, B_eq, B_ne, B_row, I_eq, I_ne, J_eq, J_ne, Option.bind_some, Option.some.injEq, if_true, if_false, eq_self, true_or, or_true, true_and, and_true, false_or, or_false, not_true_eq_false, not_false_eq_true, Classical.not_not, nar_b0, nar_b1, rz_0, rz_1, rz_i, ite01, Nat.add_zero, Nat.zero_add, Nat.one_mul, mul12, reduceIte, ra_z0, Nat.reduceEqDiff, Nat.reduceLT, Nat.reduceLeDiff, Nat.reduceAdd, Nat.reduceMul, Nat.reduceSub, Nat.reduceDiv, Nat.reduceMod, Bool.false_eq_true, false_and, and_false, reduceCtorEq, hs, c, nX12_findFirst_40]
      · intro x hx
        by_cases ex : x = s
        · rw [ex, A_eq rfl]; exact isB.n c
        · rw [A_ne (Or.inr ex)]; exact i2 x (by omega)) (2 ^ L) 0 N κ (by omega) (by omega) ⟨samJ.refl _ _ _, fun x h => by omega⟩
  have e1 : nX12_findFirst_18 N N 69 (n3 L) (n3 (2 ^ L)) (n3 0) (n3 0) (hp κ) = nX12_findFirst_18 N (m0 + 1) 69 (n3 L) (n3 (2 ^ L)) (n3 0) (n3 (2 ^ L)) (hp s0) := e0
  obtain ⟨m', s', e, j1, j2, j3'⟩ := lpx (fun m b (r : hk_T) => nX12_findFirst_50 N m 69 (n3 L) (n3 (2 ^ L)) (n3 (gvS (agR (hk_A κ 71)) L nB b)) (n3 b) (hp r)) nB (fun b r => samJ [93, 94, 95, 96] [] κ r ∧ (∀ x, x < 2 ^ L → isB (hk_A r 93 x) (rc (agR (hk_A κ 71)) L nB b x)) ∧ ∀ b', b' < b → isB (hk_A r 96 b') (sureP (agR (hk_A κ 71)) L nB b') ∧ hk_A r 95 b' = n3 (its (agR (hk_A κ 71)) L nB b')) (by
    rintro m b r hb ⟨j1, j2, j3'⟩
    have r71 : hk_A r 71 = hk_A κ 71 := j1.1.1 71 (by decide)
    have r480 : hk_A r 71 480 = n3 nB := by rw [r71]; exact o1
    obtain ⟨r1, e2, k1, k2, k3, k4, k5⟩ := r_firstBook N r (b := b) (c50 := nX12_findFirst_50 N m) (by rw [r71]; exact ok') hb (by rw [r71, j1.1.1 90 (by decide)]; exact hT) (by rw [r71]; exact j2) hN
    rw [r71] at e2 k2 k4 k5
    refine ⟨r1, ?_, j1.trans k1, k2, ?_⟩
    · rw [nX12_findFirst_50]
      simp (maxSteps := 400000) (disch := omega) only [n3_l, n3_add, n3_mul, n3_sub, n3_subn, n3_lt, n3_le, n3_eq, n3_eqn, n3_neq, n3_and, n3_or, n3_shl, n3_i, n3_cl, ↓hbd_0, ↓hbd_1, ↓hbd_2, hk_ob_0, hk_rd_0, hk_rd_1, hk_rd_2, hk_al_0, hk_al_1, h3r_0, h3r_1, hk_wi_0, hk_wj_0, h3w_0, h3w_1, h3v_0, hk_kI, hk_kJ, hk_kA, hk_kB, A_eq, A_ne, A_row, B_eq, B_ne, B_row, I_eq, I_ne, J_eq, J_ne, Option.bind_some, Option.some.injEq, if_true, if_false, eq_self, true_or, or_true, true_and, and_true, false_or, or_false, not_true_eq_false, not_false_eq_true, Classical.not_not, nar_b0, nar_b1, rz_0, rz_1, rz_i, ite01, Nat.add_zero, Nat.zero_add, Nat.one_mul, mul12, reduceIte, ra_z0, Nat.reduceEqDiff, Nat.reduceLT, Nat.reduceLeDiff, Nat.reduceAdd, Nat.reduceMul, Nat.reduceSub, Nat.reduceDiv, Nat.reduceMod, Bool.false_eq_true, false_and, and_false, reduceCtorEq, r480, hb, dn_sub]
      exact e2
    · intro b' hb'
      by_cases ex : b' = b
      · rw [ex]; exact ⟨k4, k5⟩
      · rw [(k3 b' ex).1, (k3 b' ex).2]; exact j3' b' (by omega)) nB 0 N s0 (by omega) (by omega) ⟨i1.weak (by decide) (by decide), i2, fun b h => by omega⟩
  have e3 : nX12_findFirst_50 N N 69 (n3 L) (n3 (2 ^ L)) (n3 0) (n3 0) (hp s0) = nX12_findFirst_50 N (m' + 1) 69 (n3 L) (n3 (2 ^ L)) (n3 (gvS (agR (hk_A κ 71)) L nB nB)) (n3 nB) (hp s') := e
  refine ⟨s', ?_, j1, j3'⟩
  have r480 : hk_A s' 71 480 = n3 nB := by rw [j1.1.1 71 (by decide)]; exact o1
  unfold fX12_findFirst nX12_findFirst_0
  simp (maxSteps := 400000) (disch := omega) only [n3_l, n3_add, n3_mul, n3_sub, n3_subn, n3_lt, n3_le, n3_eq, n3_eqn, n3_neq, n3_and, n3_or, n3_shl, n3_i, n3_cl, ↓hbd_0, ↓hbd_1, ↓hbd_2, hk_ob_0, hk_rd_0, hk_rd_1, hk_rd_2, hk_al_0, hk_al_1, h3r_0, h3r_1, hk_wi_0, hk_wj_0, h3w_0, h3w_1, h3v_0, hk_kI, hk_kJ, hk_kA, hk_kB, A_eq, A_ne, A_row, B_eq, B_ne, B_row, I_eq, I_ne, J_eq, J_ne, Option.bind_some, Option.some.injEq, if_true, if_false, eq_self, true_or, or_true, true_and, and_true, false_or, or_false, not_true_eq_false, not_false_eq_true, Classical.not_not, nar_b0, nar_b1, rz_0, rz_1, rz_i, ite01, Nat.add_zero, Nat.zero_add, Nat.one_mul, mul12, reduceIte, ra_z0, Nat.reduceEqDiff, Nat.reduceLT, Nat.reduceLeDiff, Nat.reduceAdd, Nat.reduceMul, Nat.reduceSub, Nat.reduceDiv, Nat.reduceMod, Bool.false_eq_true, false_and, and_false, reduceCtorEq, o2, n3_shl]
  rw [e1, nX12_findFirst_18]
  simp (maxSteps := 400000) (disch := omega) only [n3_l, n3_add, n3_mul, n3_sub, n3_subn, n3_lt, n3_le, n3_eq, n3_eqn, n3_neq, n3_and, n3_or, n3_shl, n3_i, n3_cl, ↓hbd_0, ↓hbd_1, ↓hbd_2, hk_ob_0, hk_rd_0, hk_rd_1, hk_rd_2, hk_al_0, hk_al_1, h3r_0, h3r_1, hk_wi_0, hk_wj_0, h3w_0, h3w_1, h3v_0, hk_kI, hk_kJ, hk_kA, hk_kB, A_eq, A_ne, A_row, B_eq, B_ne, B_row, I_eq, I_ne, J_eq, J_ne, Option.bind_some, Option.some.injEq, if_true, if_false, eq_self, true_or, or_true, true_and, and_true, false_or, or_false, not_true_eq_false, not_false_eq_true, Classical.not_not, nar_b0, nar_b1, rz_0, rz_1, rz_i, ite01, Nat.add_zero, Nat.zero_add, Nat.one_mul, mul12, reduceIte, ra_z0, Nat.reduceEqDiff, Nat.reduceLT, Nat.reduceLeDiff, Nat.reduceAdd, Nat.reduceMul, Nat.reduceSub, Nat.reduceDiv, Nat.reduceMod, Bool.false_eq_true, false_and, and_false, reduceCtorEq, Nat.lt_irrefl]
  rw [e3, nX12_findFirst_50]
  simp (maxSteps := 400000) (disch := omega) only [n3_l, n3_add, n3_mul, n3_sub, n3_subn, n3_lt, n3_le, n3_eq, n3_eqn, n3_neq, n3_and, n3_or, n3_shl, n3_i, n3_cl, ↓hbd_0, ↓hbd_1, ↓hbd_2, hk_ob_0, hk_rd_0, hk_rd_1, hk_rd_2, hk_al_0, hk_al_1, h3r_0, h3r_1, hk_wi_0, hk_wj_0, h3w_0, h3w_1, h3v_0, hk_kI, hk_kJ, hk_kA, hk_kB, A_eq, A_ne, A_row, B_eq, B_ne, B_row, I_eq, I_ne, J_eq, J_ne, Option.bind_some, Option.some.injEq, if_true, if_false, eq_self, true_or, or_true, true_and, and_true, false_or, or_false, not_true_eq_false, not_false_eq_true, Classical.not_not, nar_b0, nar_b1, rz_0, rz_1, rz_i, ite01, Nat.add_zero, Nat.zero_add, Nat.one_mul, mul12, reduceIte, ra_z0, Nat.reduceEqDiff, Nat.reduceLT, Nat.reduceLeDiff, Nat.reduceAdd, Nat.reduceMul, Nat.reduceSub, Nat.reduceDiv, Nat.reduceMod, Bool.false_eq_true, false_and, and_false, reduceCtorEq, r480, Nat.lt_irrefl]
theorem r_matchAll {nB L : Nat} (ok : raOk (hk_A κ 71) nB L) (hN : 10000 < N) :
    ∃ κ', fX12_matchAll N 69 (hp κ) = some (hp κ') ∧ same [90, 91, 92, 93, 94, 95, 96] [] κ κ' ∧ hk_A κ' 90 0 = z3 (mS (agR (hk_A κ 71)) L nB nB 0) ∧ hk_J κ' 51 = j3 (mW (agR (hk_A κ 71)) L nB nB 0) ∧ ∀ b, b < nB → isB (hk_A κ' 96 b) (sureP (agR (hk_A κ 71)) L nB b) ∧ hk_A κ' 95 b = n3 (its (agR (hk_A κ 71)) L nB b) := by
  obtain ⟨m', κ1, e1, s1, t1, t2⟩ := r_tables N κ ok hN
  have ok' := ok
  obtain ⟨o1, o2, o3, o4, o5, o6⟩ := ok
  have q1 : 0 < 2 ^ L := Nat.two_pow_pos L
  have r71 : hk_A κ1 71 = hk_A κ 71 := s1.1 71 (by decide)
  have w0 := t2 0 q1
  obtain ⟨κ', e2, s2, t3⟩ := r_findFirst N (hk_wJ κ1 51 (j3 (mW (agR (hk_A κ 71)) L nB nB 0))) (nB := nB) (L := L) (by show raOk (hk_A κ1 71) nB L; rw [r71]; exact ok') (by show ∀ b, b ≤ nB → ∀ x, x < 2 ^ L → hk_A κ1 90 (4096 * b + x) = z3 (mS (agR (hk_A κ1 71)) L nB (nB - b) x); rw [r71]; exact t1) hN
  refine ⟨κ', ?_, (s1.weak (by decide) (by decide)).trans ((s2.1.weak (by decide) (by decide) : same [90, 91, 92, 93, 94, 95, 96] [] (hk_wJ κ1 51 (j3 (mW (agR (hk_A κ 71)) L nB nB 0))) κ')), ?_, ?_, ?_⟩
  · have dl : dn 0 < n3 0 := by decide
    unfold fX12_matchAll nX12_matchAll_0
    simp (maxSteps := 400000) (disch := omega) only [n3_l, n3_add, n3_mul, n3_sub, n3_subn, n3_lt, n3_le, n3_eq, n3_eqn, n3_neq, n3_and, n3_or, n3_shl, n3_i, n3_cl, ↓hbd_0, ↓hbd_1, ↓hbd_2, hk_ob_0, hk_rd_0, hk_rd_1, hk_rd_2, hk_al_0, hk_al_1, h3r_0, h3r_1, hk_wi_0, hk_wj_0, h3w_0, h3w_1, h3v_0, hk_kI, hk_kJ, hk_kA, hk_kB, A_eq, A_ne, A_row, B_eq, B_ne, B_row, I_eq, I_ne, J_eq, J_ne, Option.bind_some, Option.some.injEq, if_true, if_false, eq_self, true_or, or_true, true_and, and_true, false_or, or_false, not_true_eq_false, not_false_eq_true, Classical.not_not, nar_b0, nar_b1, rz_0, rz_1, rz_i, ite01, Nat.add_zero, Nat.zero_add, Nat.one_mul, mul12, reduceIte, ra_z0, Nat.reduceEqDiff, Nat.reduceLT, Nat.reduceLeDiff, Nat.reduceAdd, Nat.reduceMul, Nat.reduceSub, Nat.reduceDiv, Nat.reduceMod, Bool.false_eq_true, false_and, and_false, reduceCtorEq, o1, o2, n3_shl]
    rw [e1, nX12_matchAll_64]
    simp (maxSteps := 400000) (disch := omega) only [n3_l, n3_add, n3_mul, n3_sub, n3_subn, n3_lt, n3_le, n3_eq, n3_eqn, n3_neq, n3_and, n3_or, n3_shl, n3_i, n3_cl, ↓hbd_0, ↓hbd_1, ↓hbd_2, hk_ob_0, hk_rd_0, hk_rd_1, hk_rd_2, hk_al_0, hk_al_1, h3r_0, h3r_1, hk_wi_0, hk_wj_0, h3w_0, h3w_1, h3v_0, hk_kI, hk_kJ, hk_kA, hk_kB, A_eq, A_ne, A_row, B_eq, B_ne, B_row, I_eq, I_ne, J_eq, J_ne, Option.bind_some, Option.some.injEq, if_true, if_false, eq_self, true_or, or_true, true_and, and_true, false_or, or_false, not_true_eq_false, not_false_eq_true, Classical.not_not, nar_b0, nar_b1, rz_0, rz_1, rz_i, ite01, Nat.add_zero, Nat.zero_add, Nat.one_mul, mul12, reduceIte, ra_z0, Nat.reduceEqDiff, Nat.reduceLT, Nat.reduceLeDiff, Nat.reduceAdd, Nat.reduceMul, Nat.reduceSub, Nat.reduceDiv, Nat.reduceMod, Bool.false_eq_true, false_and, and_false, reduceCtorEq, dl, w0, e2]
  · rw [s2.1.1 90 (by decide)]
    have := t1 0 (Nat.zero_le _) 0 q1
    rw [Nat.sub_zero] at this
    exact this
  · rw [s2.2]; exact J_eq
  · intro b hb
    have := t3 b hb
    rw [show hk_A (hk_wJ κ1 51 (j3 (mW (agR (hk_A κ 71)) L nB nB 0))) 71 = hk_A κ 71 from r71] at this
    exact this
end
