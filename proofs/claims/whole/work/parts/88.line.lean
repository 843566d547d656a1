/-! back, and a line placed -/
section
variable (N : Nat)
theorem c_back {P L i n : Nat} {a : Nat → Nat → Int} {u v : Nat → Int} {t bf q : Nat → Nat} (hP5 : P ≤ 53) (hL : L ≤ 12) (hi : i < L) (hn : n ≤ P) (Q0 : q 0 = 0) (Qle : ∀ j, j ≤ n → q j ≤ P ∧ (0 < j → 1 ≤ q j)) (Qne : ∀ k k', k < k' → k' ≤ n → q k ≠ q k') (Qbf : ∀ j, 0 < j → j ≤ n → ∃ k, k < j ∧ bf (q j) = q k ∧ u (t (q k)) + v (q j) = a (t (q k)) (q j) ∧ t (q k) ≠ 0)
    (hf : ∀ l p, 1 ≤ l → l ≤ i + 1 → 1 ≤ p → p ≤ P → a l p ≤ u l + v p) (hv : ∀ p, 1 ≤ p → p ≤ P → 0 ≤ v p) :
    ∀ j c m κ t', j ≤ n → c + j ≤ n → j < m → wR κ P L a u v t' → (∀ p, p ≤ P → hk_A κ 45 p = n3 (bf p)) → BI a P i u v t t' q j → t' 0 = i + 1 → (∀ p, p ≤ P → t' p ≤ i + 1) →
    ∃ κ' t'', nX10_placeLine_73 N m 41 (n3 (q j)) (n3 c) (hp κ) = some (hp κ') ∧ same [44] [] κ κ' ∧ wR κ' P L a u v t'' ∧ HI a P (i + 1) u v t'' ∧ ∀ p, p ≤ P → t'' p ≤ i + 1 := by
  intro j
  induction j using Nat.strongRecOn with
  | _ j ih =>
    intro c m κ t' hj hc hm hw h45 hB h0 hlt
    obtain ⟨m, rfl⟩ : ∃ k, m = k + 1 := ⟨m - 1, by omega⟩
    have hcP : c ≤ P := by omega
    rcases Nat.eq_zero_or_pos j with e | e
    · subst e
      refine ⟨κ, t', ?_, same.refl _ _ _, hw, BI_end hB Q0 hf hv, hlt⟩
      rw [nX10_placeLine_73, Q0]
      simp (maxSteps := 400000) (disch := omega) only [n3_l, n3_add, n3_mul, n3_sub, n3_subn, n3_lt, n3_le, n3_eq, n3_eqn, n3_neq, n3_and, n3_or, n3_shl, n3_i, n3_cl, ↓hbd_0, ↓hbd_1, ↓hbd_2, hk_ob_0, hk_rd_0, hk_rd_1, hk_rd_2, hk_al_0, hk_al_1, h3r_0, h3r_1, hk_wi_0, hk_wj_0, h3w_0, h3w_1, h3v_0, hk_kI, hk_kJ, hk_kA, hk_kB, A_eq, A_ne, A_row, B_eq, B_ne, B_row, I_eq, I_ne, J_eq, J_ne, Option.bind_some, Option.some.injEq, if_true, if_false, eq_self, true_or, or_true, true_and, and_true, false_or, or_false, not_true_eq_false, not_false_eq_true, Classical.not_not, nar_b0, nar_b1, rz_0, rz_1, rz_i, ite01, Nat.add_zero, Nat.zero_add, Nat.one_mul, mul12, reduceIte, ra_z0, Nat.reduceEqDiff, Nat.reduceLT, Nat.reduceLeDiff, Nat.reduceAdd, Nat.reduceMul, Nat.reduceSub, Nat.reduceDiv, Nat.reduceMod, Bool.false_eq_true, false_and, and_false, reduceCtorEq, hw.1, hcP, nX10_placeLine_115]
    · obtain ⟨b1, b2⟩ := Qle j hj
      have b3 := b2 e
      obtain ⟨k, k1, k2, k3, k4⟩ := Qbf j e hj
      have kP := (Qle k (by omega)).1
      have r45 := h45 (q j) b1
      rw [k2] at r45
      have r44 := hw.2.2.2.1 (q k) kP
      have hne : ¬ q j = 0 := by omega
      have tk := hlt (q k) kP
      have hB' := BI_next hB k1 b1 kP b3 (fun x y h1 h2 => Qne x y h1 (by omega)) k3 k4
      have s1 : same [44] [] κ (hk_wA κ 44 (q j) (n3 (t' (q k)))) := (same.refl _ _ _).wA (by decide)
      obtain ⟨κ', t'', e1, s2, w2, H2, l2⟩ := ih k k1 (c + 1) m (hk_wA κ 44 (q j) (n3 (t' (q k)))) (fun p => if p = q j then t' (q k) else t' p) (by omega) (by omega) (by omega) (by
        obtain ⟨w1, w2, w3, w4, w5⟩ := hw
        refine ⟨by rw [s1.2.2.1 41 7 (by decide)]; exact w1, by rw [s1.1 42 (by decide)]; exact w2, by rw [s1.1 43 (by decide)]; exact w3, ?_, by rw [s1.1 48 (by decide)]; exact w5⟩
        intro p h
        show _ = n3 (if p = q j then t' (q k) else t' p)
        by_cases e2 : p = q j
        · rw [e2, A_eq rfl, if_pos rfl]
        · rw [A_ne (Or.inr e2), if_neg e2]; exact w4 p h) (by rw [s1.1 45 (by decide)]; exact h45) hB' (by
        show (if 0 = q j then t' (q k) else t' 0) = i + 1
        rw [if_neg (by omega)]; exact h0) (by
        intro p h
        show (if p = q j then t' (q k) else t' p) ≤ i + 1
        split
        · exact tk
        · exact hlt p h)
      refine ⟨κ', t'', ?_, s1.trans s2, w2, H2, l2⟩
      rw [nX10_placeLine_73]
      simp (maxSteps := 400000) (disch := omega) only [n3_l, n3_add, n3_mul, n3_sub, n3_subn, n3_lt, n3_le, n3_eq, n3_eqn, n3_neq, n3_and, n3_or, n3_shl, n3_i, n3_cl, ↓hbd_0, ↓hbd_1, ↓hbd_2, hk_ob_0, hk_rd_0, hk_rd_1, hk_rd_2, hk_al_0, hk_al_1, h3r_0, h3r_1, hk_wi_0, hk_wj_0, h3w_0, h3w_1, h3v_0, hk_kI, hk_kJ, hk_kA, hk_kB, A_eq, A_ne, A_row, B_eq, B_ne, B_row, I_eq, I_ne, J_eq, J_ne, Option.bind_some, Option.some.injEq, if_true, if_false, eq_self, true_or, or_true, true_and, and_true, false_or, or_false, not_true_eq_false, not_false_eq_true, Classical.not_not, nar_b0, nar_b1, rz_0, rz_1, rz_i, ite01, Nat.add_zero, Nat.zero_add, Nat.one_mul, mul12, reduceIte, ra_z0, Nat.reduceEqDiff, Nat.reduceLT, Nat.reduceLeDiff, Nat.reduceAdd, Nat.reduceMul, Nat.reduceSub, Nat.reduceDiv, Nat.reduceMod, Bool.false_eq_true, false_and, and_false, reduceCtorEq, hw.1, hcP, hne, r45, r44]
      exact e1
theorem c_placeLine (κ : hk_T) {P nB L i : Nat} {a : Nat → Nat → Int} {u v : Nat → Int} {t : Nat → Nat} (ok : aOk a P nB L) (hi : i < L) (hw : wR κ P L a u v t) (hH : HI a P i u v t) (hu0 : ∀ l, i < l → u l = 0) (hN : 1000 < N) :
    ∃ κ' u' v' t', fX10_placeLine N 41 (n3 (i + 1)) (hp κ) = some (hp κ') ∧ same [42, 43, 44, 45, 46, 47] [] κ κ' ∧ wR κ' P L a u' v' t' ∧ HI a P (i + 1) u' v' t' ∧ ∀ l, i + 1 < l → u' l = 0 := by
  have okk := ok
  obtain ⟨o1, o2, o3, o4, o5⟩ := okk
  obtain ⟨κ1, bf, e1, s1, w1, w2, f47⟩ := c_place_a N κ hw o3 (i := i) (by omega) hN
  have hH1 : HI a P i u v (fun p => if p = 0 then i + 1 else t p) := HI_congr hH (fun p hp1 => if_neg (by omega))
  obtain ⟨T, eT⟩ : ∃ T : Nat → Nat, T = fun p => if p = 0 then i + 1 else t p := ⟨_, rfl⟩
  rw [← eT] at w1 hH1
  have T0 : T 0 = i + 1 := by rw [eT]; rfl
  have hb := HI_b ok (by omega) hH1
  have TL : ∀ p, p ≤ P → T p ≤ i + 1 := by
    intro p h
    rcases Nat.eq_zero_or_pos p with e | e
    · rw [e, T0]; exact Nat.le_refl _
    · have := hH1.2.2.1 p e h; omega
  have hu1 : u (i + 1) = 0 := hu0 _ (by omega)
  obtain ⟨κ2, b, w, u2, v2, ov2, bf2, e2, s2, w3, w4, g47, gR⟩ := c_goOn N κ1 (P := P) (L := L) (o := 0) (a := a) (u := u) (v := v) (ov := fun _ => 1000000) (t := T) (bf := bf) (fun p => p = 0) o2 w1 w2 o3 (by omega) (fun p h => by have := TL p h; omega) (by omega) rfl (by intro p p' _ _ h1 h2 _; omega) (by
    intro p h1 h2
    rw [if_neg h2]; exact f47 p h1) (by
    intro p a1 a2 _
    rw [T0, hu1]
    have c2 := hb.2 p a1 a2
    have c3 := o4 (i + 1) p a1 a2
    omega) (by intro p _ _ _; exact ⟨by decide, by decide⟩) ⟨1, by omega, by omega, by omega⟩ hN
  have hS := SI_first hH1 T0 hu1 (fun l p h1 h2 => (o4 l p h1 h2).2) (by
    intro p a1 a2
    rw [T0, hu1]
    have c2 := hb.2 p a1 a2
    have c3 := o4 (i + 1) p a1 a2
    show 0 + v p - a (i + 1) p < 1000000
    omega) gR
  obtain ⟨κ3, u3, v3, ov3, bf3, q, n, o, e3, s3, w5, w6, S3, z3', u30⟩ := c_way N ok hi hN i (N - 1) 1 κ2 u2 v2 ov2 bf2 _ b (by omega) (by omega) w3 w4 hS (by
    intro p h
    rw [g47 p h]
    by_cases c : p = 0
    · rw [if_pos c, if_pos ⟨0, by omega, c.symm⟩]
    · rw [if_neg c, if_neg (by rintro ⟨j, _, h⟩; exact c h.symm)]) (by
    intro l hl
    obtain ⟨-, -, -, -, -, g9, -⟩ := gR
    rw [g9 l (by
      rintro ⟨p, a1, a2, a3⟩
      have := TL p a1
      omega)]
    exact hu0 l (by omega))
  have hn := SI_n S3
  have hB := SI_back S3 z3'
  have hSS := S3
  obtain ⟨⟨h0, h3, h1, h2⟩, h4, h5, h6, ⟨q1, q2, q3, q4⟩, ⟨p1, p2, p3⟩, t1, t2, t3, t4⟩ := S3
  obtain ⟨κ4, t4', e4, s4, w7, H4, l4⟩ := c_back N (P := P) (L := L) (i := i) (n := n) (a := a) (u := u3) (v := v3) (t := T) (bf := bf3) (q := fun j => if j = n then o else q j) o3 o2 hi (by omega) (by
    show (if 0 = n then o else q 0) = 0
    rw [if_neg (by omega)]; exact q2) (by
    intro j hj
    show (if j = n then o else q j) ≤ P ∧ (0 < j → 1 ≤ (if j = n then o else q j))
    by_cases c : j = n
    · rw [if_pos c]; exact ⟨p2, fun _ => p1⟩
    · rw [if_neg c]; exact ⟨(q3 j (by omega)).1, (q3 j (by omega)).2.2⟩) (by
    intro k k' hk hk'
    show (if k = n then o else q k) ≠ (if k' = n then o else q k')
    rw [if_neg (by omega)]
    by_cases c : k' = n
    · rw [if_pos c]; exact p3 k (by omega)
    · rw [if_neg c]
      intro z
      have := q4 k k' (by omega) (by omega) z
      omega) (by
    intro j hj hjn
    show ∃ k, k < j ∧ bf3 (if j = n then o else q j) = (if k = n then o else q k) ∧ u3 (T (if k = n then o else q k)) + v3 (if j = n then o else q j) = a (T (if k = n then o else q k)) (if j = n then o else q j) ∧ T (if k = n then o else q k) ≠ 0
    by_cases c : j = n
    · simp only [if_pos c]
      obtain ⟨⟨k, hk, e⟩, -, -⟩ := t1 o p1 p2 p3
      refine ⟨k, by omega, ?_⟩
      rw [if_neg (by omega)]
      rw [e] at t3
      exact ⟨e, t3, (q3 k hk).2.1⟩
    · simp only [if_neg c]
      obtain ⟨⟨k, hk, e⟩, e2⟩ := t2 j hj (by omega)
      refine ⟨k, hk, ?_⟩
      rw [if_neg (by omega)]
      rw [e] at e2
      exact ⟨e, e2, (q3 k (by omega)).2.1⟩) h5 (fun p a1 a2 => (h6 p a1 a2).1) n 0 N κ3 T (Nat.le_refl _) (by omega) (by omega) w5 w6.1 hB T0 TL
  refine ⟨κ4, u3, v3, t4', ?_, (((s1.weak (by decide) (by decide)).trans (s2.weak (by decide) (by decide))).trans (s3.weak (by decide) (by decide))).trans (s4.weak (by decide) (by decide)), w7, H4, u30⟩
  have hN1 : N = N - 1 + 1 := by omega
  have r44 : hk_A κ1 44 0 = n3 (i + 1) := by rw [w1.2.2.2.1 0 (by omega), T0]
  have r7 := w1.1
  have hne : ¬ i + 1 = 0 := by omega
  have h00 : 0 ≤ P := by omega
  rw [e1]
  have st : nX10_placeLine_42 N N 41 (n3 0) (n3 0) (hp κ1) = nX10_placeLine_42 N (N - 1) 41 (n3 b) (n3 1) (hp κ2) := by
    have : nX10_placeLine_42 N (N - 1 + 1) 41 (n3 0) (n3 0) (hp κ1) = nX10_placeLine_42 N (N - 1) 41 (n3 b) (n3 1) (hp κ2) := by
      rw [nX10_placeLine_42]
      simp (maxSteps := 400000) (disch := omega) only [n3_l, n3_add, n3_mul, n3_sub, n3_subn, n3_lt, n3_le, n3_eq, n3_eqn, n3_neq, n3_and, n3_or, n3_shl, n3_i, n3_cl, ↓hbd_0, ↓hbd_1, ↓hbd_2, hk_ob_0, hk_rd_0, hk_rd_1, hk_rd_2, hk_al_0, hk_al_1, h3r_0, h3r_1, hk_wi_0, hk_wj_0, h3w_0, h3w_1, h3v_0, hk_kI, hk_kJ, hk_kA, hk_kB, A_eq, A_ne, A_row, B_eq, B_ne, B_row, I_eq, I_ne, J_eq, J_ne, Option.bind_some, Option.some.injEq, if_true, if_false, eq_self, true_or, or_true, true_and, and_true, false_or, or_false, not_true_eq_false, not_false_eq_true, Classical.not_not, nar_b0, nar_b1, rz_0, rz_1, rz_i, ite01, Nat.add_zero, Nat.zero_add, Nat.one_mul, mul12, reduceIte, ra_z0, Nat.reduceEqDiff, Nat.reduceLT, Nat.reduceLeDiff, Nat.reduceAdd, Nat.reduceMul, Nat.reduceSub, Nat.reduceDiv, Nat.reduceMod, Bool.false_eq_true, false_and, and_false, reduceCtorEq, r7, h00, r44, hne, e2]
    rw [← hN1] at this
    exact this
  rw [st, e3]
  unfold nX10_placeLine_71
  rw [if_pos rfl] at e4
  exact e4
end
