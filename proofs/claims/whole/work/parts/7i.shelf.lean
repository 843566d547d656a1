/-! shelves, as the reference looks at them -/
theorem pigeon : ∀ (i m : Nat) (f : Nat → Nat), (∀ x, x < m → f x < i) → (∀ x y, x < m → y < m → f x = f y → x = y) → m ≤ i := by
  intro i
  induction i with
  | zero =>
    intro m f h _
    rcases Nat.eq_zero_or_pos m with e | e
    · omega
    · have := h 0 e; omega
  | succ i ih =>
    intro m f h g
    rcases Nat.eq_zero_or_pos m with e | e
    · omega
    · -- the last one gives its place away
      have := ih (m - 1) (fun x => if f x = i then f (m - 1) else f x) (by
        intro x hx
        have h1 := h x (by omega)
        have h2 := h (m - 1) (by omega)
        split
        · rename_i e1
          have : f (m - 1) ≠ i := fun e2 => by
            have := g x (m - 1) (by omega) (by omega) (by omega)
            omega
          omega
        · rename_i e1; omega) (by
        intro x y hx hy hxy
        split at hxy
        · rename_i e1
          split at hxy
          · rename_i e2; exact g x y (by omega) (by omega) (by omega)
          · have := g (m - 1) y (by omega) (by omega) hxy; omega
        · split at hxy
          · have := g x (m - 1) (by omega) (by omega) hxy; omega
          · exact g x y (by omega) (by omega) hxy)
      omega
theorem LL_size {P : Nat → Prop} {f : Nat → Nat} {sz n : Nat} {g : Nat → Nat} (h : LL P f sz g) (hP : ∀ b, P b → b < n) : sz ≤ n := by
  refine pigeon n sz g (fun i hi => hP _ (h.1 i hi)) ?_
  intro i j hi hj e
  rcases Nat.lt_trichotomy i j with c | c | c
  · have := h.2.2 i j c hj; rw [e] at this; omega
  · exact c
  · have := h.2.2 j i c hi; rw [e] at this; omega
theorem LL_iff {P Q : Nat → Prop} {f : Nat → Nat} {sz : Nat} {g : Nat → Nat} (h : LL P f sz g) (e : ∀ b, P b ↔ Q b) : LL Q f sz g :=
  ⟨fun i hi => (e _).mp (h.1 i hi), fun b hb => h.2.1 b ((e b).mpr hb), h.2.2⟩
section
variable (N : Nat) (κ : hk_T)
theorem r_lookAt {H : Nat → Nat} {se : Nat → Option Nat} {n x : Nat} (ok : hOk H se) (hB : hk_A κ 71 480 = n3 n) (hn : n ≤ 40) (hx : x < 54) (hN : 1000 < N) (hr : ∀ b, b < n → hk_A κ 87 b = n3 (H b) ∧ hk_A κ 88 b = seatR (se b)) :
    ∃ κ' sz g, fX12_lookAt N 69 (n3 x) (hp κ) = some (hp κ') ∧ same [89] [(69, 43)] κ κ' ∧ hk_I κ' 69 43 = n3 sz ∧ (∀ i, i < sz → hk_A κ' 89 i = n3 (g i)) ∧ LL (fun b => b < n ∧ onS H se x b) (fun b => snO (se b)) sz g := by
  unfold fX12_lookAt nX12_lookAt_0
  simp (maxSteps := 400000) (disch := omega) only [n3_l, n3_add, n3_mul, n3_sub, n3_subn, n3_lt, n3_le, n3_eq, n3_eqn, n3_neq, n3_and, n3_or, n3_shl, n3_i, n3_cl, ↓hbd_0, ↓hbd_1, ↓hbd_2, hk_ob_0, hk_rd_0, hk_rd_1, hk_rd_2, hk_al_0, hk_al_1, h3r_0, h3r_1, hk_wi_0, hk_wj_0, h3w_0, h3w_1, h3v_0, hk_kI, hk_kJ, hk_kA, hk_kB, A_eq, A_ne, A_row, B_eq, B_ne, B_row, I_eq, I_ne, J_eq, J_ne, Option.bind_some, Option.some.injEq, if_true, if_false, eq_self, true_or, or_true, true_and, and_true, false_or, or_false, not_true_eq_false, not_false_eq_true, Classical.not_not, nar_b0, nar_b1, rz_0, rz_1, rz_i, ite01, Nat.add_zero, Nat.zero_add, Nat.one_mul, mul12, reduceIte, ra_z0, Nat.reduceEqDiff, Nat.reduceLT, Nat.reduceLeDiff, Nat.reduceAdd, Nat.reduceMul, Nat.reduceSub, Nat.reduceDiv, Nat.reduceMod, Bool.false_eq_true, false_and, and_false, reduceCtorEq]
  obtain ⟨m', ⟨s', sz, g⟩, e, i1, i2, i3, i4⟩ := lpx (fun m p (s : hk_T × Nat × (Nat → Nat)) => nX12_lookAt_7 N m 69 (n3 x) (n3 (p + 1)) (hp s.1)) 99 (fun p r => same [89] [(69, 43)] κ r.1 ∧ hk_I r.1 69 43 = n3 r.2.1 ∧ (∀ i, i < r.2.1 → hk_A r.1 89 i = n3 (r.2.2 i)) ∧ LL (fun b => (b < n ∧ onS H se x b) ∧ snO (se b) < 99 * x + p) (fun b => snO (se b)) r.2.1 r.2.2) (by
    rintro m p ⟨r, sz, g⟩ hp' ⟨i1, i2, i3, i4⟩
    dsimp only at i1 i2 i3 i4 ⊢
    obtain ⟨m2, ⟨r2, sz2, g2⟩, e2, j1, j2, j3, j4⟩ := lpx (fun m' b (s : hk_T × Nat × (Nat → Nat)) => nX12_lookAt_15 N (nX12_lookAt_7 N m) m' 69 (n3 x) (n3 (p + 1)) (n3 b) (hp s.1)) n (fun b r' => same [89] [(69, 43)] κ r'.1 ∧ hk_I r'.1 69 43 = n3 r'.2.1 ∧ (∀ i, i < r'.2.1 → hk_A r'.1 89 i = n3 (r'.2.2 i)) ∧ LL (fun b' => (b' < n ∧ onS H se x b') ∧ (snO (se b') < 99 * x + p ∨ (snO (se b') = 99 * x + p ∧ b' < b))) (fun b => snO (se b)) r'.2.1 r'.2.2) (by
      rintro m' b ⟨r', sz', g'⟩ hb ⟨j1, j2, j3, j4⟩
      dsimp only at j1 j2 j3 j4 ⊢
      have eR : hk_A r' 71 480 = n3 n := by rw [j1.1 71 (by decide)]; exact hB
      obtain ⟨hr1, hr2⟩ := hr b hb
      rw [← j1.1 87 (by decide)] at hr1
      rw [← j1.1 88 (by decide)] at hr2
      have hH := ok.1 b
      have hsz : sz' ≤ n := LL_size j4 (fun b h => h.1.1)
      by_cases c4 : H b = 4
      · obtain ⟨s, hs⟩ := ok.2.2.1 b c4
        have h5 := ok.2.1 b s hs
        have hrl := rnum_lt h5
        have es : snO (se b) = s := by rw [hs]; rfl
        rw [hs, seatR_some] at hr2
        by_cases c : s = 99 * x + p
        · have c' : rnum s = 100 * x + (p + 1) := by unfold rnum; omega
          have hsh : onS H se x b := ⟨c4, by rw [hs]; show s / 99 = x; omega⟩
          refine ⟨(hk_wI (hk_wA r' 89 sz' (n3 b)) 69 43 (n3 (sz' + 1)), sz' + 1, insG g' sz' b), ?_, (j1.wA (by decide)).wI (by decide), by simp (maxSteps := 400000) (disch := omega) only [n3_l, n3_add, n3_mul, n3_sub, n3_subn, n3_lt, n3_le, n3_eq, n3_eqn, n3_neq, n3_and, n3_or, n3_shl, n3_i, n3_cl, ↓hbd_0, ↓hbd_1, ↓hbd_2, hk_ob_0, hk_rd_0, hk_rd_1, hk_rd_2, hk_al_0, hk_al_1, h3r_0, h3r_1, hk_wi_0, hk_wj_0, h3w_0, h3w_1, h3v_0, hk_kI, hk_kJ, hk_kA, hk_kB, A_eq, A_ne, A_row, B_eq, B_ne, B_row, I_eq, I_ne, J_eq, J_ne, Option.bind_some, Option.some.injEq, if_true, if_false, eq_self, true_or, or_true, true_and, and_true, false_or, or_false, not_true_eq_false, not_false_eq_true, Classical.not_not, nar_b0, nar_b1, rz_0, rz_1, rz_i, ite01, Nat.add_zero, Nat.zero_add, Nat.one_mul, mul12, reduceIte, ra_z0, Nat.reduceEqDiff, Nat.reduceLT, Nat.reduceLeDiff, Nat.reduceAdd, Nat.reduceMul, Nat.reduceSub, Nat.reduceDiv, Nat.reduceMod, Bool.false_eq_true, false_and, and_false, reduceCtorEq], ?_, ?_⟩
          · rw [nX12_lookAt_15]
            simp (maxSteps := 400000) (disch := omega) only [n3_l, n3_add, n3_mul, n3_sub, n3_subn, n3_lt, n3_le, n3_eq, n3_eqn, n3_neq, n3_and, n3_or, n3_shl, n3_i, n3_cl, ↓hbd_0, ↓hbd_1, ↓hbd_2, hk_ob_0, hk_rd_0, hk_rd_1, hk_rd_2, hk_al_0, hk_al_1, h3r_0, h3r_1, hk_wi_0, hk_wj_0, h3w_0, h3w_1, h3v_0, hk_kI, hk_kJ, hk_kA, hk_kB, A_eq, A_ne, A_row, B_eq, B_ne, B_row, I_eq, I_ne, J_eq, J_ne, Option.bind_some, Option.some.injEq, if_true, if_false, eq_self, true_or, or_true, true_and, and_true, false_or, or_false, not_true_eq_false, not_false_eq_true, Classical.not_not, nar_b0, nar_b1, rz_0, rz_1, rz_i, ite01, Nat.add_zero, Nat.zero_add, Nat.one_mul, mul12, reduceIte, ra_z0, Nat.reduceEqDiff, Nat.reduceLT, Nat.reduceLeDiff, Nat.reduceAdd, Nat.reduceMul, Nat.reduceSub, Nat.reduceDiv, Nat.reduceMod, Bool.false_eq_true, false_and, and_false, reduceCtorEq, eR, hb, hr1, c4, hr2, c', j2, nX12_lookAt_72]
          · intro i hi
            dsimp only at hi ⊢
            unfold insG
            by_cases c1 : i < sz'
            · rw [if_pos c1]; simp (maxSteps := 400000) (disch := omega) only [n3_l, n3_add, n3_mul, n3_sub, n3_subn, n3_lt, n3_le, n3_eq, n3_eqn, n3_neq, n3_and, n3_or, n3_shl, n3_i, n3_cl, ↓hbd_0, ↓hbd_1, ↓hbd_2, hk_ob_0, hk_rd_0, hk_rd_1, hk_rd_2, hk_al_0, hk_al_1, h3r_0, h3r_1, hk_wi_0, hk_wj_0, h3w_0, h3w_1, h3v_0, hk_kI, hk_kJ, hk_kA, hk_kB, A_eq, A_ne, A_row, B_eq, B_ne, B_row, I_eq, I_ne, J_eq, J_ne, Option.bind_some, Option.some.injEq, if_true, if_false, eq_self, true_or, or_true, true_and, and_true, false_or, or_false, not_true_eq_false, not_false_eq_true, Classical.not_not, nar_b0, nar_b1, rz_0, rz_1, rz_i, ite01, Nat.add_zero, Nat.zero_add, Nat.one_mul, mul12, reduceIte, ra_z0, Nat.reduceEqDiff, Nat.reduceLT, Nat.reduceLeDiff, Nat.reduceAdd, Nat.reduceMul, Nat.reduceSub, Nat.reduceDiv, Nat.reduceMod, Bool.false_eq_true, false_and, and_false, reduceCtorEq]; exact j3 i c1
            · have : i = sz' := by omega
              rw [if_neg c1, if_pos this]; simp (maxSteps := 400000) (disch := omega) only [n3_l, n3_add, n3_mul, n3_sub, n3_subn, n3_lt, n3_le, n3_eq, n3_eqn, n3_neq, n3_and, n3_or, n3_shl, n3_i, n3_cl, ↓hbd_0, ↓hbd_1, ↓hbd_2, hk_ob_0, hk_rd_0, hk_rd_1, hk_rd_2, hk_al_0, hk_al_1, h3r_0, h3r_1, hk_wi_0, hk_wj_0, h3w_0, h3w_1, h3v_0, hk_kI, hk_kJ, hk_kA, hk_kB, A_eq, A_ne, A_row, B_eq, B_ne, B_row, I_eq, I_ne, J_eq, J_ne, Option.bind_some, Option.some.injEq, if_true, if_false, eq_self, true_or, or_true, true_and, and_true, false_or, or_false, not_true_eq_false, not_false_eq_true, Classical.not_not, nar_b0, nar_b1, rz_0, rz_1, rz_i, ite01, Nat.add_zero, Nat.zero_add, Nat.one_mul, mul12, reduceIte, ra_z0, Nat.reduceEqDiff, Nat.reduceLT, Nat.reduceLeDiff, Nat.reduceAdd, Nat.reduceMul, Nat.reduceSub, Nat.reduceDiv, Nat.reduceMod, Bool.false_eq_true, false_and, and_false, reduceCtorEq]
          · have := LL_ins (b := b) j4 (Nat.le_refl _) (fun i h1 h2 => by omega) (fun i hi => by
              obtain ⟨q1, q2⟩ := j4.1 i hi
              rw [es]
              rcases q2 with q2 | ⟨q2, q3⟩
              · omega
              · exfalso
                obtain ⟨s2, hs2⟩ := ok.2.2.1 (g' i) q1.2.1
                have e1 : snO (se (g' i)) = s2 := by rw [hs2]; rfl
                have := ok.2.2.2 (g' i) b q1.2.1 c4 (by rw [hs2, hs]; congr 1; omega)
                omega)
            refine LL_iff this (fun b' => ?_)
            constructor
            · rintro (⟨h1, h2⟩ | h)
              · exact ⟨h1, by rcases h2 with h2 | h2; exact Or.inl h2; exact Or.inr ⟨h2.1, by omega⟩⟩
              · rw [h]; exact ⟨⟨hb, hsh⟩, Or.inr ⟨by rw [es]; exact c, by omega⟩⟩
            · rintro ⟨h1, h2⟩
              by_cases e : b' = b
              · exact Or.inr e
              · exact Or.inl ⟨h1, by rcases h2 with h2 | h2; exact Or.inl h2; exact Or.inr ⟨h2.1, by omega⟩⟩
        · have c' : ¬ rnum s = 100 * x + (p + 1) := by unfold rnum; omega
          refine ⟨(r', sz', g'), ?_, j1, j2, j3, ?_⟩
          · rw [nX12_lookAt_15]
            simp (maxSteps := 400000) (disch := omega) only [n3_l, n3_add, n3_mul, n3_sub, n3_subn, n3_lt, n3_le, n3_eq, n3_eqn, n3_neq, n3_and, n3_or, n3_shl, n3_i, n3_cl, ↓hbd_0, ↓hbd_1, ↓hbd_2, hk_ob_0, hk_rd_0, hk_rd_1, hk_rd_2, hk_al_0, hk_al_1, h3r_0, h3r_1, hk_wi_0, hk_wj_0, h3w_0, h3w_1, h3v_0, hk_kI, hk_kJ, hk_kA, hk_kB, A_eq, A_ne, A_row, B_eq, B_ne, B_row, I_eq, I_ne, J_eq, J_ne, Option.bind_some, Option.some.injEq, if_true, if_false, eq_self, true_or, or_true, true_and, and_true, false_or, or_false, not_true_eq_false, not_false_eq_true, Classical.not_not, nar_b0, nar_b1, rz_0, rz_1, rz_i, ite01, Nat.add_zero, Nat.zero_add, Nat.one_mul, mul12, reduceIte, ra_z0, Nat.reduceEqDiff, Nat.reduceLT, Nat.reduceLeDiff, Nat.reduceAdd, Nat.reduceMul, Nat.reduceSub, Nat.reduceDiv, Nat.reduceMod, Bool.false_eq_true, false_and, and_false, reduceCtorEq, eR, hb, hr1, c4, hr2, c', nX12_lookAt_72]
          · refine LL_iff j4 (fun b' => ?_)
            constructor
            · rintro ⟨h1, h2⟩; exact ⟨h1, by rcases h2 with h2 | h2; exact Or.inl h2; exact Or.inr ⟨h2.1, by omega⟩⟩
            · rintro ⟨h1, h2⟩
              refine ⟨h1, ?_⟩
              rcases h2 with h2 | h2
              · exact Or.inl h2
              · by_cases e : b' = b
                · subst e; rw [es] at h2; exact absurd h2.1 c
                · exact Or.inr ⟨h2.1, by omega⟩
      · refine ⟨(r', sz', g'), ?_, j1, j2, j3, ?_⟩
        · rw [nX12_lookAt_15]
          simp (maxSteps := 400000) (disch := omega) only [n3_l, n3_add, n3_mul, n3_sub, n3_subn, n3_lt, n3_le, n3_eq, n3_eqn, n3_neq, n3_and, n3_or, n3_shl, n3_i, n3_cl, ↓hbd_0, ↓hbd_1, ↓hbd_2, hk_ob_0, hk_rd_0, hk_rd_1, hk_rd_2, hk_al_0, hk_al_1, h3r_0, h3r_1, hk_wi_0, hk_wj_0, h3w_0, h3w_1, h3v_0, hk_kI, hk_kJ, hk_kA, hk_kB, A_eq, A_ne, A_row, B_eq, B_ne, B_row, I_eq, I_ne, J_eq, J_ne, Option.bind_some, Option.some.injEq, if_true, if_false, eq_self, true_or, or_true, true_and, and_true, false_or, or_false, not_true_eq_false, not_false_eq_true, Classical.not_not, nar_b0, nar_b1, rz_0, rz_1, rz_i, ite01, Nat.add_zero, Nat.zero_add, Nat.one_mul, mul12, reduceIte, ra_z0, Nat.reduceEqDiff, Nat.reduceLT, Nat.reduceLeDiff, Nat.reduceAdd, Nat.reduceMul, Nat.reduceSub, Nat.reduceDiv, Nat.reduceMod, Bool.false_eq_true, false_and, and_false, reduceCtorEq, eR, hb, hr1, c4, nX12_lookAt_72]
        · refine LL_iff j4 (fun b' => ?_)
          constructor
          · rintro ⟨h1, h2⟩; exact ⟨h1, by rcases h2 with h2 | h2; exact Or.inl h2; exact Or.inr ⟨h2.1, by omega⟩⟩
          · rintro ⟨h1, h2⟩
            refine ⟨h1, ?_⟩
            rcases h2 with h2 | h2
            · exact Or.inl h2
            · by_cases e : b' = b
              · subst e; exact absurd h1.2.1 c4
              · exact Or.inr ⟨h2.1, by omega⟩) n 0 N (r, sz, g) (by omega) (by omega) ⟨i1, i2, i3, by
        refine LL_iff i4 (fun b' => ?_)
        constructor
        · rintro ⟨h1, h2⟩; exact ⟨h1, Or.inl h2⟩
        · rintro ⟨h1, h2⟩; exact ⟨h1, by rcases h2 with h2 | h2; exact h2; omega⟩⟩
    dsimp only at j1 j2 j3 j4
    have hp9 : p + 1 < 100 := by omega
    refine ⟨(r2, sz2, g2), ?_, j1, j2, j3, ?_⟩
    · rw [nX12_lookAt_7]
      simp (maxSteps := 400000) (disch := omega) only [n3_l, n3_add, n3_mul, n3_sub, n3_subn, n3_lt, n3_le, n3_eq, n3_eqn, n3_neq, n3_and, n3_or, n3_shl, n3_i, n3_cl, ↓hbd_0, ↓hbd_1, ↓hbd_2, hk_ob_0, hk_rd_0, hk_rd_1, hk_rd_2, hk_al_0, hk_al_1, h3r_0, h3r_1, hk_wi_0, hk_wj_0, h3w_0, h3w_1, h3v_0, hk_kI, hk_kJ, hk_kA, hk_kB, A_eq, A_ne, A_row, B_eq, B_ne, B_row, I_eq, I_ne, J_eq, J_ne, Option.bind_some, Option.some.injEq, if_true, if_false, eq_self, true_or, or_true, true_and, and_true, false_or, or_false, not_true_eq_false, not_false_eq_true, Classical.not_not, nar_b0, nar_b1, rz_0, rz_1, rz_i, ite01, Nat.add_zero, Nat.zero_add, Nat.one_mul, mul12, reduceIte, ra_z0, Nat.reduceEqDiff, Nat.reduceLT, Nat.reduceLeDiff, Nat.reduceAdd, Nat.reduceMul, Nat.reduceSub, Nat.reduceDiv, Nat.reduceMod, Bool.false_eq_true, false_and, and_false, reduceCtorEq, hp9]
      rw [e2, nX12_lookAt_15]
      have eR : hk_A r2 71 480 = n3 n := by rw [j1.1 71 (by decide)]; exact hB
      simp (maxSteps := 400000) (disch := omega) only [n3_l, n3_add, n3_mul, n3_sub, n3_subn, n3_lt, n3_le, n3_eq, n3_eqn, n3_neq, n3_and, n3_or, n3_shl, n3_i, n3_cl, ↓hbd_0, ↓hbd_1, ↓hbd_2, hk_ob_0, hk_rd_0, hk_rd_1, hk_rd_2, hk_al_0, hk_al_1, h3r_0, h3r_1, hk_wi_0, hk_wj_0, h3w_0, h3w_1, h3v_0, hk_kI, hk_kJ, hk_kA, hk_kB, A_eq, A_ne, A_row, B_eq, B_ne, B_row, I_eq, I_ne, J_eq, J_ne, Option.bind_some, Option.some.injEq, if_true, if_false, eq_self, true_or, or_true, true_and, and_true, false_or, or_false, not_true_eq_false, not_false_eq_true, Classical.not_not, nar_b0, nar_b1, rz_0, rz_1, rz_i, ite01, Nat.add_zero, Nat.zero_add, Nat.one_mul, mul12, reduceIte, ra_z0, Nat.reduceEqDiff, Nat.reduceLT, Nat.reduceLeDiff, Nat.reduceAdd, Nat.reduceMul, Nat.reduceSub, Nat.reduceDiv, Nat.reduceMod, Bool.false_eq_true, false_and, and_false, reduceCtorEq, eR, Nat.lt_irrefl]
    · refine LL_iff j4 (fun b' => ?_)
      constructor
      · rintro ⟨h1, h2⟩; exact ⟨h1, by rcases h2 with h2 | h2 <;> omega⟩
      · rintro ⟨h1, h2⟩; exact ⟨h1, by
          by_cases e : snO (se b') < 99 * x + p
          · exact Or.inl e
          · exact Or.inr ⟨by omega, h1.1⟩⟩) 99 0 N (hk_wI κ 69 43 (n3 0), 0, fun _ => 0) (by omega) (by omega) ⟨(same.refl _ _ _).wI (by decide), by simp (maxSteps := 400000) (disch := omega) only [n3_l, n3_add, n3_mul, n3_sub, n3_subn, n3_lt, n3_le, n3_eq, n3_eqn, n3_neq, n3_and, n3_or, n3_shl, n3_i, n3_cl, ↓hbd_0, ↓hbd_1, ↓hbd_2, hk_ob_0, hk_rd_0, hk_rd_1, hk_rd_2, hk_al_0, hk_al_1, h3r_0, h3r_1, hk_wi_0, hk_wj_0, h3w_0, h3w_1, h3v_0, hk_kI, hk_kJ, hk_kA, hk_kB, A_eq, A_ne, A_row, B_eq, B_ne, B_row, I_eq, I_ne, J_eq, J_ne, Option.bind_some, Option.some.injEq, if_true, if_false, eq_self, true_or, or_true, true_and, and_true, false_or, or_false, not_true_eq_false, not_false_eq_true, Classical.not_not, nar_b0, nar_b1, rz_0, rz_1, rz_i, ite01, Nat.add_zero, Nat.zero_add, Nat.one_mul, mul12, reduceIte, ra_z0, Nat.reduceEqDiff, Nat.reduceLT, Nat.reduceLeDiff, Nat.reduceAdd, Nat.reduceMul, Nat.reduceSub, Nat.reduceDiv, Nat.reduceMod, Bool.false_eq_true, false_and, and_false, reduceCtorEq], fun i hi => by dsimp only at hi; omega, ⟨fun i hi => by dsimp only at hi; omega, by
        rintro b ⟨⟨h1, h2, h3⟩, h4⟩
        exfalso
        obtain ⟨s, hs⟩ := ok.2.2.1 b h2
        rw [hs] at h3 h4
        have h3' : s / 99 = x := h3
        have h4' : s < 99 * x + 0 := h4
        omega, fun i j _ hj => by dsimp only at hj; omega⟩⟩
  dsimp only at i1 i2 i3 i4
  refine ⟨s', sz, g, ?_, i1, i2, i3, ?_⟩
  · rw [e, nX12_lookAt_7]
    simp (maxSteps := 400000) (disch := omega) only [n3_l, n3_add, n3_mul, n3_sub, n3_subn, n3_lt, n3_le, n3_eq, n3_eqn, n3_neq, n3_and, n3_or, n3_shl, n3_i, n3_cl, ↓hbd_0, ↓hbd_1, ↓hbd_2, hk_ob_0, hk_rd_0, hk_rd_1, hk_rd_2, hk_al_0, hk_al_1, h3r_0, h3r_1, hk_wi_0, hk_wj_0, h3w_0, h3w_1, h3v_0, hk_kI, hk_kJ, hk_kA, hk_kB, A_eq, A_ne, A_row, B_eq, B_ne, B_row, I_eq, I_ne, J_eq, J_ne, Option.bind_some, Option.some.injEq, if_true, if_false, eq_self, true_or, or_true, true_and, and_true, false_or, or_false, not_true_eq_false, not_false_eq_true, Classical.not_not, nar_b0, nar_b1, rz_0, rz_1, rz_i, ite01, Nat.add_zero, Nat.zero_add, Nat.one_mul, mul12, reduceIte, ra_z0, Nat.reduceEqDiff, Nat.reduceLT, Nat.reduceLeDiff, Nat.reduceAdd, Nat.reduceMul, Nat.reduceSub, Nat.reduceDiv, Nat.reduceMod, Bool.false_eq_true, false_and, and_false, reduceCtorEq]
  · refine LL_iff i4 (fun b => ?_)
    constructor
    · intro h; exact h.1
    · intro h
      refine ⟨h, ?_⟩
      obtain ⟨s, hs⟩ := ok.2.2.1 b h.2.1
      have h3 := h.2.2
      rw [hs] at h3 ⊢
      have h3' : s / 99 = x := h3
      show s < 99 * x + 99
      omega
end
