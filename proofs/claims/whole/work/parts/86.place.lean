/-! a line gets its place -/
theorem n3_sur (x : Int32) : ∃ k, x = n3 k := ⟨x.toBitVec.toNat, Int32.toBitVec_inj.mp (by show x.toBitVec = BitVec.ofNat 32 _; rw [BitVec.ofNat_toNat, BitVec.setWidth_eq])⟩
theorem HI_congr {a : Nat → Nat → Int} {P i : Nat} {u v : Nat → Int} {t t' : Nat → Nat} (h : HI a P i u v t) (e : ∀ p, 1 ≤ p → t' p = t p) : HI a P i u v t' := by
  obtain ⟨h1, h2, h3, h4, h5, h6⟩ := h
  refine ⟨?_, ?_, ?_, ?_, h5, ?_⟩
  · intro l a1 a2
    obtain ⟨p, b1, b2, b3⟩ := h1 l a1 a2
    exact ⟨p, b1, b2, by rw [e p b1]; exact b3⟩
  · intro p q a1 a2 a3 a4; rw [e p a1, e q a3]; exact h2 p q a1 a2 a3 a4
  · intro p a1 a2; rw [e p a1]; exact h3 p a1 a2
  · intro p a1 a2; rw [e p a1]; exact h4 p a1 a2
  · intro p a1 a2; rw [e p a1]; exact h6 p a1 a2
theorem SI_HI {a : Nat → Nat → Int} {P i : Nat} {u v : Nat → Int} {t : Nat → Nat} {ov : Nat → Int} {bf q : Nat → Nat} {n o : Nat} (h : SI a P i u v t ov bf q n o) : HI a P i u v t := by
  obtain ⟨⟨h0, h3, h1, h2⟩, h4, h5, h6, -⟩ := h
  exact ⟨h1, h2, h3, h4, fun l p a1 a2 a3 a4 => h5 l p a1 (by omega) a3 a4, h6⟩
/-- what is known of the numbers -/
def aOk (a : Nat → Nat → Int) (P nB L : Nat) : Prop := P = nB + L + 1 ∧ L ≤ 12 ∧ P ≤ 53 ∧ (∀ l p, 1 ≤ p → p ≤ P → -1000 ≤ a l p ∧ a l p ≤ 17) ∧ ∀ l p, nB < p → p ≤ P → a l p = 0
theorem HI_b {a : Nat → Nat → Int} {P nB L i : Nat} {u v : Nat → Int} {t : Nat → Nat} (ok : aOk a P nB L) (hi : i ≤ L) (h : HI a P i u v t) : (∀ l, 1 ≤ l → l ≤ i → 0 ≤ u l ∧ u l ≤ 17) ∧ ∀ p, 1 ≤ p → p ≤ P → 0 ≤ v p ∧ v p ≤ 17 := by
  obtain ⟨o1, o2, o3, o4, o5⟩ := ok
  obtain ⟨p0, f1, f2, f3⟩ := HI_free h (n := nB) (by omega)
  obtain ⟨h1, h2, h3, h4, h5, h6⟩ := h
  have v0 := (h6 p0 (by omega) f2).2 f3
  have lo : ∀ l, 1 ≤ l → l ≤ i → 0 ≤ u l := by
    intro l a1 a2
    have := h5 l p0 a1 a2 (by omega) f2
    rw [o5 l p0 f1 f2] at this
    omega
  refine ⟨fun l a1 a2 => ⟨lo l a1 a2, ?_⟩, fun p a1 a2 => ⟨(h6 p a1 a2).1, ?_⟩⟩
  · obtain ⟨p, b1, b2, b3⟩ := h1 l a1 a2
    have c1 := h4 p b1 b2 (by omega)
    have c2 := (o4 (t p) p b1 b2).2
    have c3 := (h6 p b1 b2).1
    rw [b3] at c1 c2
    omega
  · by_cases e : t p = 0
    · rw [(h6 p a1 a2).2 e]; decide
    · have c1 := h4 p a1 a2 e
      have c2 := (o4 (t p) p a1 a2).2
      have c3 := lo (t p) (by omega) (h3 p a1 a2)
      omega
theorem SI_b {a : Nat → Nat → Int} {P nB L i : Nat} {u v : Nat → Int} {t : Nat → Nat} {ov : Nat → Int} {bf q : Nat → Nat} {n o : Nat} (ok : aOk a P nB L) (hi : i < L) (h : SI a P i u v t ov bf q n o) : (∀ l, 1 ≤ l → l ≤ i + 1 → 0 ≤ u l ∧ u l ≤ 17) ∧ (∀ p, 1 ≤ p → p ≤ P → 0 ≤ v p ∧ v p ≤ 17) ∧ ∃ p, nB < p ∧ p ≤ P ∧ t p = 0 := by
  have hh := SI_HI h
  have hb := HI_b ok (by omega) hh
  have hf := HI_free hh (n := nB) (by have := ok.1; omega)
  obtain ⟨p0, f1, f2, f3⟩ := hf
  have v0 := (hh.2.2.2.2.2 p0 (by omega) f2).2 f3
  obtain ⟨-, -, h5, -, -, -, -, -, -, s4⟩ := h
  refine ⟨?_, hb.2, p0, f1, f2, f3⟩
  intro l a1 a2
  by_cases e : l = i + 1
  · have := h5 l p0 a1 a2 (by omega) f2
    rw [ok.2.2.2.2 l p0 f1 f2] at this
    rw [e] at this ⊢
    omega
  · exact hb.1 l a1 (by omega)
section
variable (N : Nat) (κ : hk_T)
theorem c_place_a {P L i : Nat} {a : Nat → Nat → Int} {u v : Nat → Int} {t : Nat → Nat} (hw : wR κ P L a u v t) (hP5 : P ≤ 53) (hi : i < 12) (hN : 1000 < N) :
    ∃ κ1 bf, fX10_placeLine N 41 (n3 (i + 1)) (hp κ) = nX10_placeLine_42 N N 41 (n3 0) (n3 0) (hp κ1) ∧ same [44, 46, 47] [] κ κ1 ∧ wR κ1 P L a u v (fun p => if p = 0 then i + 1 else t p) ∧ wS κ1 P (fun _ => 1000000) bf ∧ ∀ p, p ≤ P → hk_A κ1 47 p = n3 0 := by
  obtain ⟨hP, hu, hv, h44, ha⟩ := hw
  obtain ⟨m', s', e, i1, i2⟩ := lpx (fun m p (s : hk_T) => nX10_placeLine_2 N m 41 (n3 (i + 1)) (n3 p) (hp s)) (P + 1) (fun p s => same [46, 47] [] κ s ∧ ∀ p', p' < p → hk_A s 46 p' = z3 1000000 ∧ hk_A s 47 p' = n3 0) (by
    rintro m p r hpp ⟨i1, i2⟩
    have hpP : p ≤ P := by omega
    have r7 : hk_I r 41 7 = n3 P := by rw [i1.2.2.1 41 7 (by decide)]; exact hP
    refine ⟨hk_wA (hk_wA r 46 p (n3 1000000)) 47 p (n3 0), ?_, (i1.wA (by decide)).wA (by decide), ?_⟩
    · rw [nX10_placeLine_2]
      simp (maxSteps := 400000) (disch := omega) only [n3_l, n3_add, n3_mul, n3_sub, n3_subn, n3_lt, n3_le, n3_eq, n3_eqn, n3_neq, n3_and, n3_or, n3_shl, n3_i, n3_cl, ↓hbd_0, ↓hbd_1, ↓hbd_2, hk_ob_0, hk_rd_0, hk_rd_1, hk_rd_2, hk_al_0, hk_al_1, h3r_0, h3r_1, hk_wi_0, hk_wj_0, h3w_0, h3w_1, h3v_0, hk_kI, hk_kJ, hk_kA, hk_kB, A_eq, A_ne, A_row, B_eq, B_ne, B_row, I_eq, I_ne, J_eq, J_ne, Option.bind_some, Option.some.injEq, if_true, if_false, eq_self, true_or, or_true, true_and, and_true, false_or, or_false, not_true_eq_false, not_false_eq_true, Classical.not_not, nar_b0, nar_b1, rz_0, rz_1, rz_i, ite01, Nat.add_zero, Nat.zero_add, Nat.one_mul, mul12, reduceIte, ra_z0, Nat.reduceEqDiff, Nat.reduceLT, Nat.reduceLeDiff, Nat.reduceAdd, Nat.reduceMul, Nat.reduceSub, Nat.reduceDiv, Nat.reduceMod, Bool.false_eq_true, false_and, and_false, reduceCtorEq, r7, hpP]
    · intro p' h
      by_cases e : p' = p
      · rw [e, A_eq rfl, A_ne (Or.inl (by decide)), A_eq rfl]; exact ⟨rfl, rfl⟩
      · rw [A_ne (Or.inl (by decide)), A_ne (Or.inr e), A_ne (Or.inr e), A_ne (Or.inl (by decide))]; exact i2 p' (by omega)) (P + 1) 0 N κ (by omega) (by omega) ⟨same.refl _ _ _, fun p' h => by omega⟩
  have hPP : ¬ P + 1 ≤ P := by omega
  have s1 : same [44, 46, 47] [] κ (hk_wA s' 44 0 (n3 (i + 1))) := (i1.weak (by decide) (by decide)).wA (by decide)
  have hbf : ∃ bf : Nat → Nat, ∀ p, hk_A s' 45 p = n3 (bf p) := ⟨fun p => Classical.choose (n3_sur (hk_A s' 45 p)), fun p => Classical.choose_spec (n3_sur (hk_A s' 45 p))⟩
  obtain ⟨bf, hbf⟩ := hbf
  refine ⟨hk_wA s' 44 0 (n3 (i + 1)), bf, ?_, s1, ⟨by rw [s1.2.2.1 41 7 (by decide)]; exact hP, by rw [s1.1 42 (by decide)]; exact hu, by rw [s1.1 43 (by decide)]; exact hv, ?_, by rw [s1.1 48 (by decide)]; exact ha⟩, ⟨?_, ?_⟩, ?_⟩
  · unfold fX10_placeLine nX10_placeLine_0
    simp (maxSteps := 400000) (disch := omega) only [n3_l, n3_add, n3_mul, n3_sub, n3_subn, n3_lt, n3_le, n3_eq, n3_eqn, n3_neq, n3_and, n3_or, n3_shl, n3_i, n3_cl, ↓hbd_0, ↓hbd_1, ↓hbd_2, hk_ob_0, hk_rd_0, hk_rd_1, hk_rd_2, hk_al_0, hk_al_1, h3r_0, h3r_1, hk_wi_0, hk_wj_0, h3w_0, h3w_1, h3v_0, hk_kI, hk_kJ, hk_kA, hk_kB, A_eq, A_ne, A_row, B_eq, B_ne, B_row, I_eq, I_ne, J_eq, J_ne, Option.bind_some, Option.some.injEq, if_true, if_false, eq_self, true_or, or_true, true_and, and_true, false_or, or_false, not_true_eq_false, not_false_eq_true, Classical.not_not, nar_b0, nar_b1, rz_0, rz_1, rz_i, ite01, Nat.add_zero, Nat.zero_add, Nat.one_mul, mul12, reduceIte, ra_z0, Nat.reduceEqDiff, Nat.reduceLT, Nat.reduceLeDiff, Nat.reduceAdd, Nat.reduceMul, Nat.reduceSub, Nat.reduceDiv, Nat.reduceMod, Bool.false_eq_true, false_and, and_false, reduceCtorEq]
    rw [e, nX10_placeLine_2]
    simp (maxSteps := 400000) (disch := omega) only [n3_l, n3_add, n3_mul, n3_sub, n3_subn, n3_lt, n3_le, n3_eq, n3_eqn, n3_neq, n3_and, n3_or, n3_shl, n3_i, n3_cl, ↓hbd_0, ↓hbd_1, ↓hbd_2, hk_ob_0, hk_rd_0, hk_rd_1, hk_rd_2, hk_al_0, hk_al_1, h3r_0, h3r_1, hk_wi_0, hk_wj_0, h3w_0, h3w_1, h3v_0, hk_kI, hk_kJ, hk_kA, hk_kB, A_eq, A_ne, A_row, B_eq, B_ne, B_row, I_eq, I_ne, J_eq, J_ne, Option.bind_some, Option.some.injEq, if_true, if_false, eq_self, true_or, or_true, true_and, and_true, false_or, or_false, not_true_eq_false, not_false_eq_true, Classical.not_not, nar_b0, nar_b1, rz_0, rz_1, rz_i, ite01, Nat.add_zero, Nat.zero_add, Nat.one_mul, mul12, reduceIte, ra_z0, Nat.reduceEqDiff, Nat.reduceLT, Nat.reduceLeDiff, Nat.reduceAdd, Nat.reduceMul, Nat.reduceSub, Nat.reduceDiv, Nat.reduceMod, Bool.false_eq_true, false_and, and_false, reduceCtorEq, i1.2.2.1 41 7 (by decide), hP, hPP]
  · intro p h
    show _ = n3 (if p = 0 then i + 1 else t p)
    by_cases e : p = 0
    · rw [e, A_eq rfl, if_pos rfl]
    · rw [A_ne (Or.inr e), if_neg e, i1.1 44 (by decide)]; exact h44 p h
  · intro p h; rw [A_ne (Or.inl (by decide))]; exact hbf p
  · intro p h; rw [A_ne (Or.inl (by decide))]; exact (i2 p (by omega)).1
  · intro p h; rw [A_ne (Or.inl (by decide))]; exact (i2 p (by omega)).2
end
