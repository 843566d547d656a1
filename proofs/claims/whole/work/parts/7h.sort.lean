/-! rows in order: g 0 .. g (sz - 1) are those that P holds of, by f -/
def LL (P : Nat → Prop) (f : Nat → Nat) (sz : Nat) (g : Nat → Nat) : Prop := (∀ i, i < sz → P (g i)) ∧ (∀ b, P b → ∃ i, i < sz ∧ g i = b) ∧ ∀ i j, i < j → j < sz → f (g i) < f (g j)
theorem LL_le {P : Nat → Prop} {f : Nat → Nat} {sz : Nat} {g : Nat → Nat} (h : LL P f sz g) {sz' : Nat} {g' : Nat → Nat} (h' : LL P f sz' g') : ∀ i, i < sz → i < sz' ∧ g i = g' i := by
  intro i
  induction i using Nat.strongRecOn with
  | _ i ih =>
    intro hi
    obtain ⟨h1, h2, h3⟩ := h
    obtain ⟨k1, k2, k3⟩ := h'
    obtain ⟨j, hj, ej⟩ := k2 (g i) (h1 i hi)
    have hji : i ≤ j := by
      rcases Nat.lt_or_ge j i with c | c
      · have := (ih j c (by omega)).2
        rw [ej] at this
        have h4 := h3 j i c hi
        rw [this] at h4
        omega
      · exact c
    have hi' : i < sz' := by omega
    refine ⟨hi', ?_⟩
    by_cases e : j = i
    · rw [← ej, e]
    · exfalso
      have a1 := k3 i j (by omega) hj
      obtain ⟨q, hq, eq⟩ := h2 (g' i) (k1 i hi')
      have hqi : i ≤ q := by
        rcases Nat.lt_or_ge q i with c | c
        · have h4 := ih q c (by omega)
          have a2 := k3 q i c hi'
          rw [← h4.2, eq] at a2
          omega
        · exact c
      rcases Nat.lt_or_ge i q with c | c
      · have a3 := h3 i q c hq
        rw [eq] at a3
        rw [ej] at a1
        omega
      · have : q = i := by omega
        subst this
        rw [ej, eq] at a1
        omega
theorem LL_uniq {P : Nat → Prop} {f : Nat → Nat} {sz sz' : Nat} {g g' : Nat → Nat} (h : LL P f sz g) (h' : LL P f sz' g') : sz = sz' ∧ ∀ i, i < sz → g i = g' i := by
  have a := LL_le h h'
  have b := LL_le h' h
  refine ⟨?_, fun i hi => (a i hi).2⟩
  rcases Nat.lt_trichotomy sz sz' with c | c | c
  · have := (b sz c).1; omega
  · exact c
  · have := (a sz' c).1; omega
/-- put in at place p -/
def insG (g : Nat → Nat) (p b : Nat) (i : Nat) : Nat := if i < p then g i else if i = p then b else g (i - 1)
theorem LL_ins {P : Nat → Prop} {f : Nat → Nat} {sz p b : Nat} {g : Nat → Nat} (h : LL P f sz g) (hp : p ≤ sz) (h1 : ∀ i, p ≤ i → i < sz → f b < f (g i)) (h2 : ∀ i, i < p → f (g i) < f b) : LL (fun x => P x ∨ x = b) f (sz + 1) (insG g p b) := by
  obtain ⟨a1, a2, a3⟩ := h
  refine ⟨?_, ?_, ?_⟩
  · intro i hi
    unfold insG
    split
    · exact Or.inl (a1 i (by omega))
    · split
      · exact Or.inr rfl
      · exact Or.inl (a1 (i - 1) (by omega))
  · rintro x (hx | hx)
    · obtain ⟨i, hi, e⟩ := a2 x hx
      by_cases c : i < p
      · exact ⟨i, by omega, by unfold insG; rw [if_pos c]; exact e⟩
      · exact ⟨i + 1, by omega, by unfold insG; rw [if_neg (by omega), if_neg (by omega)]; exact e⟩
    · exact ⟨p, by omega, by unfold insG; rw [if_neg (by omega), if_pos rfl]; exact hx.symm⟩
  · intro i j hij hj
    unfold insG
    by_cases c1 : i < p
    · rw [if_pos c1]
      by_cases c2 : j < p
      · rw [if_pos c2]; exact a3 i j hij (by omega)
      · rw [if_neg c2]
        by_cases c3 : j = p
        · rw [if_pos c3]; exact h2 i c1
        · rw [if_neg c3]
          have := h2 i c1
          have := h1 (j - 1) (by omega) (by omega)
          omega
    · rw [if_neg c1]
      by_cases c2 : i = p
      · rw [if_pos c2, if_neg (by omega), if_neg (by omega)]; exact h1 (j - 1) (by omega) (by omega)
      · rw [if_neg c2, if_neg (by omega), if_neg (by omega)]; exact a3 (i - 1) (j - 1) (by omega) (by omega)
/-- a row is moved up until there is room: k the row's address -/
theorem ins_loop {β : Type} (F : Nat → Nat → hk_T → Option β) (k : Nat) (out : Nat → hk_T → Option β) (κ : hk_T) (sz : Nat) (g : Nat → Nat) (up : Nat → Prop) [DecidablePred up]
    (hg : ∀ i, i < sz → hk_A κ k i = n3 (g i))
    (h0 : ∀ m r, same [k] [] κ r → F (m + 1) 0 r = out 0 r)
    (h1 : ∀ m p r, same [k] [] κ r → 0 < p → p ≤ sz → hk_A r k (p - 1) = n3 (g (p - 1)) → F (m + 1) p r = if up (g (p - 1)) then F m (p - 1) (hk_wA r k p (n3 (g (p - 1)))) else out p r) :
    ∀ p m r, p ≤ sz → p < m → same [k] [] κ r → (∀ i, i < p → hk_A r k i = n3 (g i)) → (∀ i, p < i → i ≤ sz → hk_A r k i = n3 (g (i - 1))) → (∀ i, p ≤ i → i < sz → up (g i)) →
    ∃ q r', q ≤ sz ∧ F m p r = out q r' ∧ same [k] [] κ r' ∧ (∀ i, i < q → hk_A r' k i = n3 (g i)) ∧ (∀ i, q < i → i ≤ sz → hk_A r' k i = n3 (g (i - 1))) ∧ (∀ i, q ≤ i → i < sz → up (g i)) ∧ (0 < q → ¬ up (g (q - 1))) := by
  intro p
  induction p with
  | zero =>
    intro m r hp hm hs a1 a2 a3
    obtain ⟨m, rfl⟩ : ∃ j, m = j + 1 := ⟨m - 1, by omega⟩
    exact ⟨0, r, by omega, h0 m r hs, hs, a1, a2, a3, fun z => by omega⟩
  | succ p ih =>
    intro m r hp hm hs a1 a2 a3
    obtain ⟨m, rfl⟩ : ∃ j, m = j + 1 := ⟨m - 1, by omega⟩
    rw [h1 m (p + 1) r hs (by omega) hp (by rw [Nat.add_sub_cancel]; exact a1 p (by omega))]
    rw [Nat.add_sub_cancel]
    by_cases c : up (g p)
    · rw [if_pos c]
      refine ih m (hk_wA r k (p + 1) (n3 (g p))) (by omega) (by omega) (hs.wA (List.mem_singleton.mpr rfl)) ?_ ?_ ?_
      · intro i hi; rw [A_ne (Or.inr (by omega))]; exact a1 i (by omega)
      · intro i h1 h2
        by_cases e : i = p + 1
        · subst e; rw [A_eq rfl, Nat.add_sub_cancel]
        · rw [A_ne (Or.inr e)]; exact a2 i (by omega) h2
      · intro i h1 h2
        by_cases e : i = p
        · subst e; exact c
        · exact a3 i (by omega) h2
    · rw [if_neg c]
      exact ⟨p + 1, r, hp, rfl, hs, a1, a2, a3, fun _ => by rw [Nat.add_sub_cancel]; exact c⟩
/-! those on a shelf, in order of places -/
def snO (o : Option Nat) : Nat := o.getD 0
/-- what is known of a history's rows: H how, se seats -/
def hOk (H : Nat → Nat) (se : Nat → Option Nat) : Prop := (∀ b, H b ≤ 4) ∧ (∀ b s, se b = some s → s < 5346) ∧ (∀ b, H b = 4 → ∃ s, se b = some s) ∧ ∀ b b', H b = 4 → H b' = 4 → se b = se b' → b = b'
theorem hOk_of {mk : Nat → Bool} {se : Nat → Option Nat} {rt : Nat → Nat → Bool} (hm : ∀ b, mk b = false → se b = none) (h5 : ∀ b s, se b = some s → s < 5346) : hOk (howG mk se rt) se := by
  have hr : ∀ b s, rsG se rt b = some s → se b = some s := by
    intro b s h
    unfold rsG at h
    cases hq : se b with
    | none => rw [hq] at h; cases h
    | some s' =>
      rw [hq] at h
      dsimp only at h
      split at h
      · exact h
      · cases h
  refine ⟨howG_le mk se rt, h5, ?_, ?_⟩
  · intro b h
    obtain ⟨s, a, -⟩ := (howG_4 hm).mp h
    exact ⟨s, hr b s a⟩
  · intro b b' h h' e
    obtain ⟨s, a1, a2⟩ := (howG_4 hm).mp h
    obtain ⟨s', a1', a2'⟩ := (howG_4 hm).mp h'
    have e1 := hr b s a1
    have e2 := hr b' s' a1'
    rw [e, e2] at e1
    cases e1
    rcases Nat.lt_trichotomy b b' with c | c | c
    · exact absurd ⟨b, c, a1⟩ a2'
    · exact c
    · exact absurd ⟨b', c, a1'⟩ a2
def onS (H : Nat → Nat) (se : Nat → Option Nat) (x b : Nat) : Prop := H b = 4 ∧ shO (se b) = x
section
variable (N : Nat) (κ : hk_T)
theorem c_standsOn {H : Nat → Nat} {se : Nat → Option Nat} {b x : Nat} (ok : hOk H se) (hb : b < 40) (hx : x < 54) (h1 : hk_A κ 35 b = n3 (H b)) (h2 : hk_A κ 36 b = seatI (se b)) : fX5_standsOn N 38 (n3 b) (n3 x) (hp κ) = some (if H b = 4 ∧ shO (se b) = x then n3 1 else n3 0, hp κ) := by
  obtain ⟨o1, o2, o3, -⟩ := ok
  have hH := o1 b
  unfold fX5_standsOn nX5_standsOn_0 nX5_standsOn_33 nX5_standsOn_34
  by_cases c : H b = 4
  · obtain ⟨s, hs⟩ := o3 b c
    have h5 := o2 b s hs
    have e : hk_A κ 36 b = n3 s := by rw [h2, hs]; rfl
    have e2 : shO (se b) = s / 99 := by rw [hs]; rfl
    simp (maxSteps := 400000) (disch := omega) only [n3_l, n3_add, n3_mul, n3_sub, n3_subn, n3_lt, n3_le, n3_eq, n3_eqn, n3_neq, n3_and, n3_or, n3_shl, n3_i, n3_cl, ↓hbd_0, ↓hbd_1, ↓hbd_2, hk_ob_0, hk_rd_0, hk_rd_1, hk_rd_2, hk_al_0, hk_al_1, h3r_0, h3r_1, hk_wi_0, hk_wj_0, h3w_0, h3w_1, h3v_0, hk_kI, hk_kJ, hk_kA, hk_kB, A_eq, A_ne, A_row, B_eq, B_ne, B_row, I_eq, I_ne, J_eq, J_ne, Option.bind_some, Option.some.injEq, if_true, if_false, eq_self, true_or, or_true, true_and, and_true, false_or, or_false, not_true_eq_false, not_false_eq_true, Classical.not_not, nar_b0, nar_b1, rz_0, rz_1, rz_i, ite01, Nat.add_zero, Nat.zero_add, Nat.one_mul, mul12, reduceIte, ra_z0, Nat.reduceEqDiff, Nat.reduceLT, Nat.reduceLeDiff, Nat.reduceAdd, Nat.reduceMul, Nat.reduceSub, Nat.reduceDiv, Nat.reduceMod, Bool.false_eq_true, false_and, and_false, reduceCtorEq, h1, c, e, n3_div, e2]
    split <;> rfl
  · simp (maxSteps := 400000) (disch := omega) only [n3_l, n3_add, n3_mul, n3_sub, n3_subn, n3_lt, n3_le, n3_eq, n3_eqn, n3_neq, n3_and, n3_or, n3_shl, n3_i, n3_cl, ↓hbd_0, ↓hbd_1, ↓hbd_2, hk_ob_0, hk_rd_0, hk_rd_1, hk_rd_2, hk_al_0, hk_al_1, h3r_0, h3r_1, hk_wi_0, hk_wj_0, h3w_0, h3w_1, h3v_0, hk_kI, hk_kJ, hk_kA, hk_kB, A_eq, A_ne, A_row, B_eq, B_ne, B_row, I_eq, I_ne, J_eq, J_ne, Option.bind_some, Option.some.injEq, if_true, if_false, eq_self, true_or, or_true, true_and, and_true, false_or, or_false, not_true_eq_false, not_false_eq_true, Classical.not_not, nar_b0, nar_b1, rz_0, rz_1, rz_i, ite01, Nat.add_zero, Nat.zero_add, Nat.one_mul, mul12, reduceIte, ra_z0, Nat.reduceEqDiff, Nat.reduceLT, Nat.reduceLeDiff, Nat.reduceAdd, Nat.reduceMul, Nat.reduceSub, Nat.reduceDiv, Nat.reduceMod, Bool.false_eq_true, false_and, and_false, reduceCtorEq, h1, c]
theorem c_lineUp {H : Nat → Nat} {se : Nat → Option Nat} {n x : Nat} (ok : hOk H se) (hB : hk_I κ 1 13 = n3 n) (hn : n ≤ 40) (hx : x < 54) (hN : 1000 < N) (hr : ∀ b, b < n → hk_A κ 35 b = n3 (H b) ∧ hk_A κ 36 b = seatI (se b)) :
    ∃ κ' sz g, fX5_lineUp N 38 (n3 x) (hp κ) = some (n3 sz, hp κ') ∧ same [39] [] κ κ' ∧ (∀ i, i < sz → hk_A κ' 39 i = n3 (g i)) ∧ LL (fun b => b < n ∧ onS H se x b) (fun b => snO (se b)) sz g ∧ sz ≤ n := by
  unfold fX5_lineUp nX5_lineUp_0
  simp (maxSteps := 400000) (disch := omega) only [n3_l, n3_add, n3_mul, n3_sub, n3_subn, n3_lt, n3_le, n3_eq, n3_eqn, n3_neq, n3_and, n3_or, n3_shl, n3_i, n3_cl, ↓hbd_0, ↓hbd_1, ↓hbd_2, hk_ob_0, hk_rd_0, hk_rd_1, hk_rd_2, hk_al_0, hk_al_1, h3r_0, h3r_1, hk_wi_0, hk_wj_0, h3w_0, h3w_1, h3v_0, hk_kI, hk_kJ, hk_kA, hk_kB, A_eq, A_ne, A_row, B_eq, B_ne, B_row, I_eq, I_ne, J_eq, J_ne, Option.bind_some, Option.some.injEq, if_true, if_false, eq_self, true_or, or_true, true_and, and_true, false_or, or_false, not_true_eq_false, not_false_eq_true, Classical.not_not, nar_b0, nar_b1, rz_0, rz_1, rz_i, ite01, Nat.add_zero, Nat.zero_add, Nat.one_mul, mul12, reduceIte, ra_z0, Nat.reduceEqDiff, Nat.reduceLT, Nat.reduceLeDiff, Nat.reduceAdd, Nat.reduceMul, Nat.reduceSub, Nat.reduceDiv, Nat.reduceMod, Bool.false_eq_true, false_and, and_false, reduceCtorEq]
  obtain ⟨m', ⟨x', s', sz, g⟩, e, i1, i2, i3, i4, i5⟩ := lpx (fun m b (s : Int32 × hk_T × Nat × (Nat → Nat)) => nX5_lineUp_4 N m 38 (n3 x) s.1 (n3 b) (hp s.2.1)) n (fun b r => same [39] [] κ r.2.1 ∧ r.1 = n3 r.2.2.1 ∧ (∀ i, i < r.2.2.1 → hk_A r.2.1 39 i = n3 (r.2.2.2 i)) ∧ LL (fun b' => b' < b ∧ onS H se x b') (fun b => snO (se b)) r.2.2.1 r.2.2.2 ∧ r.2.2.1 ≤ b) (by
    rintro m b ⟨y, r, sz, g⟩ hb ⟨i1, i2, i3, i4, i5⟩
    dsimp only at i1 i2 i3 i4 i5 ⊢
    subst i2
    have hB' : hk_I r 1 13 = n3 n := by rw [i1.2.2.1 1 13 (by decide)]; exact hB
    obtain ⟨hr1, hr2⟩ := hr b hb
    have so := c_standsOn N r (b := b) (x := x) ok (by omega) hx (by rw [i1.1 35 (by decide)]; exact hr1) (by rw [i1.1 36 (by decide)]; exact hr2)
    by_cases c : H b = 4 ∧ shO (se b) = x
    · obtain ⟨s, hs⟩ := ok.2.2.1 b c.1
      have h5 := ok.2.1 b s hs
      have es : snO (se b) = s := by rw [hs]; rfl
      have gs : ∀ i, i < sz → ∃ s', se (g i) = some s' ∧ s' < 5346 ∧ snO (se (g i)) = s' ∧ g i < 40 ∧ s' ≠ s := by
        intro i hi
        obtain ⟨q1, q2, q3⟩ := i4.1 i hi
        obtain ⟨s', hs'⟩ := ok.2.2.1 (g i) q2
        refine ⟨s', hs', ok.2.1 _ _ hs', by rw [hs']; rfl, by omega, fun z => ?_⟩
        have := ok.2.2.2 (g i) b q2 c.1 (by rw [hs', hs, z])
        omega
      obtain ⟨q, r', a1, a2, a3, a4, a5, a6, a7⟩ := ins_loop (fun m' p r' => nX5_lineUp_27 N (nX5_lineUp_4 N m) m' 38 (n3 x) (n3 sz) (n3 b) (n3 p) (hp r')) 39 (fun p r' => nX5_lineUp_83 N (nX5_lineUp_4 N m) 38 (n3 x) (n3 sz) (n3 b) (n3 p) (hp r')) r sz g (fun b' => s < snO (se b')) i3 (by
        intro m' r' hs'
        rw [nX5_lineUp_27]
        simp (maxSteps := 400000) (disch := omega) only [n3_l, n3_add, n3_mul, n3_sub, n3_subn, n3_lt, n3_le, n3_eq, n3_eqn, n3_neq, n3_and, n3_or, n3_shl, n3_i, n3_cl, ↓hbd_0, ↓hbd_1, ↓hbd_2, hk_ob_0, hk_rd_0, hk_rd_1, hk_rd_2, hk_al_0, hk_al_1, h3r_0, h3r_1, hk_wi_0, hk_wj_0, h3w_0, h3w_1, h3v_0, hk_kI, hk_kJ, hk_kA, hk_kB, A_eq, A_ne, A_row, B_eq, B_ne, B_row, I_eq, I_ne, J_eq, J_ne, Option.bind_some, Option.some.injEq, if_true, if_false, eq_self, true_or, or_true, true_and, and_true, false_or, or_false, not_true_eq_false, not_false_eq_true, Classical.not_not, nar_b0, nar_b1, rz_0, rz_1, rz_i, ite01, Nat.add_zero, Nat.zero_add, Nat.one_mul, mul12, reduceIte, ra_z0, Nat.reduceEqDiff, Nat.reduceLT, Nat.reduceLeDiff, Nat.reduceAdd, Nat.reduceMul, Nat.reduceSub, Nat.reduceDiv, Nat.reduceMod, Bool.false_eq_true, false_and, and_false, reduceCtorEq, Nat.le_refl]) (by
        intro m' p r' hs' hp0 hpz hv
        obtain ⟨s2, w1, w2, w3, w4, -⟩ := gs (p - 1) (by omega)
        have hp' : ¬ p ≤ 0 := by omega
        have v36 : hk_A r' 36 (g (p - 1)) = n3 s2 := by rw [hs'.1 36 (by decide), i1.1 36 (by decide), (hr _ (by have := (i4.1 (p - 1) (by omega)).1; omega)).2, w1]; rfl
        have v36b : hk_A r' 36 b = n3 s := by rw [hs'.1 36 (by decide), i1.1 36 (by decide), hr2, hs]; rfl
        rw [nX5_lineUp_27, w3]
        simp (maxSteps := 400000) (disch := omega) only [n3_l, n3_add, n3_mul, n3_sub, n3_subn, n3_lt, n3_le, n3_eq, n3_eqn, n3_neq, n3_and, n3_or, n3_shl, n3_i, n3_cl, ↓hbd_0, ↓hbd_1, ↓hbd_2, hk_ob_0, hk_rd_0, hk_rd_1, hk_rd_2, hk_al_0, hk_al_1, h3r_0, h3r_1, hk_wi_0, hk_wj_0, h3w_0, h3w_1, h3v_0, hk_kI, hk_kJ, hk_kA, hk_kB, A_eq, A_ne, A_row, B_eq, B_ne, B_row, I_eq, I_ne, J_eq, J_ne, Option.bind_some, Option.some.injEq, if_true, if_false, eq_self, true_or, or_true, true_and, and_true, false_or, or_false, not_true_eq_false, not_false_eq_true, Classical.not_not, nar_b0, nar_b1, rz_0, rz_1, rz_i, ite01, Nat.add_zero, Nat.zero_add, Nat.one_mul, mul12, reduceIte, ra_z0, Nat.reduceEqDiff, Nat.reduceLT, Nat.reduceLeDiff, Nat.reduceAdd, Nat.reduceMul, Nat.reduceSub, Nat.reduceDiv, Nat.reduceMod, Bool.false_eq_true, false_and, and_false, reduceCtorEq, hp', hv, v36, v36b]
        by_cases c2 : s2 ≤ s
        · rw [if_pos c2, if_neg (by omega)]
        · rw [if_neg c2, if_pos (by omega)]) sz N r (Nat.le_refl _) (by omega) (same.refl _ _ _) i3 (fun i h1 h2 => by omega) (fun i h1 h2 => by omega)
      refine ⟨(n3 (sz + 1), hk_wA r' 39 q (n3 b), sz + 1, insG g q b), ?_, ?_, rfl, ?_, ?_, ?_⟩
      · rw [nX5_lineUp_4]
        simp (maxSteps := 400000) (disch := omega) only [n3_l, n3_add, n3_mul, n3_sub, n3_subn, n3_lt, n3_le, n3_eq, n3_eqn, n3_neq, n3_and, n3_or, n3_shl, n3_i, n3_cl, ↓hbd_0, ↓hbd_1, ↓hbd_2, hk_ob_0, hk_rd_0, hk_rd_1, hk_rd_2, hk_al_0, hk_al_1, h3r_0, h3r_1, hk_wi_0, hk_wj_0, h3w_0, h3w_1, h3v_0, hk_kI, hk_kJ, hk_kA, hk_kB, A_eq, A_ne, A_row, B_eq, B_ne, B_row, I_eq, I_ne, J_eq, J_ne, Option.bind_some, Option.some.injEq, if_true, if_false, eq_self, true_or, or_true, true_and, and_true, false_or, or_false, not_true_eq_false, not_false_eq_true, Classical.not_not, nar_b0, nar_b1, rz_0, rz_1, rz_i, ite01, Nat.add_zero, Nat.zero_add, Nat.one_mul, mul12, reduceIte, ra_z0, Nat.reduceEqDiff, Nat.reduceLT, Nat.reduceLeDiff, Nat.reduceAdd, Nat.reduceMul, Nat.reduceSub, Nat.reduceDiv, Nat.reduceMod, Bool.false_eq_true, false_and, and_false, reduceCtorEq, hB', hb, so, c]
        rw [a2]
        unfold nX5_lineUp_83 nX5_lineUp_94
        simp (maxSteps := 400000) (disch := omega) only [n3_l, n3_add, n3_mul, n3_sub, n3_subn, n3_lt, n3_le, n3_eq, n3_eqn, n3_neq, n3_and, n3_or, n3_shl, n3_i, n3_cl, ↓hbd_0, ↓hbd_1, ↓hbd_2, hk_ob_0, hk_rd_0, hk_rd_1, hk_rd_2, hk_al_0, hk_al_1, h3r_0, h3r_1, hk_wi_0, hk_wj_0, h3w_0, h3w_1, h3v_0, hk_kI, hk_kJ, hk_kA, hk_kB, A_eq, A_ne, A_row, B_eq, B_ne, B_row, I_eq, I_ne, J_eq, J_ne, Option.bind_some, Option.some.injEq, if_true, if_false, eq_self, true_or, or_true, true_and, and_true, false_or, or_false, not_true_eq_false, not_false_eq_true, Classical.not_not, nar_b0, nar_b1, rz_0, rz_1, rz_i, ite01, Nat.add_zero, Nat.zero_add, Nat.one_mul, mul12, reduceIte, ra_z0, Nat.reduceEqDiff, Nat.reduceLT, Nat.reduceLeDiff, Nat.reduceAdd, Nat.reduceMul, Nat.reduceSub, Nat.reduceDiv, Nat.reduceMod, Bool.false_eq_true, false_and, and_false, reduceCtorEq]
      · exact (i1.trans (a3.weak (by decide) (by decide))).wA (by decide)
      · intro i hi
        dsimp only
        unfold insG
        by_cases c1 : i < q
        · rw [if_pos c1, A_ne (Or.inr (by omega))]; exact a4 i c1
        · rw [if_neg c1]
          by_cases c2 : i = q
          · rw [if_pos c2, A_eq c2]
          · rw [if_neg c2, A_ne (Or.inr c2)]; exact a5 i (by omega) (by dsimp only at hi; omega)
      · have := LL_ins (b := b) i4 a1 (fun i h1 h2 => by rw [es]; exact a6 i h1 h2) (fun i hi => by
          rw [es]
          have hq := a7 (by omega)
          obtain ⟨s1, u1, u2, u3, u4, u5⟩ := gs (q - 1) (by omega)
          rw [u3] at hq
          by_cases e : i = q - 1
          · subst e; rw [u3]; omega
          · have := i4.2.2 i (q - 1) (by omega) (by omega)
            dsimp only at this
            rw [u3] at this
            omega)
        obtain ⟨l1, l2, l3⟩ := this
        dsimp only at l1 l2 l3 ⊢
        refine ⟨?_, ?_, l3⟩
        · intro i hi
          rcases l1 i hi with h | h
          · exact ⟨by have := h.1; omega, h.2⟩
          · rw [h]; exact ⟨by omega, c⟩
        · rintro b' ⟨h1, h2⟩
          by_cases e : b' = b
          · exact l2 b' (Or.inr e)
          · exact l2 b' (Or.inl ⟨by omega, h2⟩)
      · dsimp only; omega
    · refine ⟨(n3 sz, r, sz, g), ?_, i1, rfl, i3, ?_, ?_⟩
      · rw [nX5_lineUp_4]
        simp (maxSteps := 400000) (disch := omega) only [n3_l, n3_add, n3_mul, n3_sub, n3_subn, n3_lt, n3_le, n3_eq, n3_eqn, n3_neq, n3_and, n3_or, n3_shl, n3_i, n3_cl, ↓hbd_0, ↓hbd_1, ↓hbd_2, hk_ob_0, hk_rd_0, hk_rd_1, hk_rd_2, hk_al_0, hk_al_1, h3r_0, h3r_1, hk_wi_0, hk_wj_0, h3w_0, h3w_1, h3v_0, hk_kI, hk_kJ, hk_kA, hk_kB, A_eq, A_ne, A_row, B_eq, B_ne, B_row, I_eq, I_ne, J_eq, J_ne, Option.bind_some, Option.some.injEq, if_true, if_false, eq_self, true_or, or_true, true_and, and_true, false_or, or_false, not_true_eq_false, not_false_eq_true, Classical.not_not, nar_b0, nar_b1, rz_0, rz_1, rz_i, ite01, Nat.add_zero, Nat.zero_add, Nat.one_mul, mul12, reduceIte, ra_z0, Nat.reduceEqDiff, Nat.reduceLT, Nat.reduceLeDiff, Nat.reduceAdd, Nat.reduceMul, Nat.reduceSub, Nat.reduceDiv, Nat.reduceMod, Bool.false_eq_true, false_and, and_false, reduceCtorEq, hB', hb, so, c, nX5_lineUp_94]
      · obtain ⟨l1, l2, l3⟩ := i4
        dsimp only at l1 l2 l3 ⊢
        refine ⟨fun i hi => ⟨by have := (l1 i hi).1; omega, (l1 i hi).2⟩, ?_, l3⟩
        rintro b' ⟨h1, h2⟩
        by_cases e : b' = b
        · subst e; exact absurd h2 c
        · exact l2 b' ⟨by omega, h2⟩
      · dsimp only; omega) n 0 N (n3 0, κ, 0, fun _ => 0) (by omega) (by omega) ⟨same.refl _ _ _, rfl, fun i hi => by dsimp only at hi; omega, ⟨fun i hi => by dsimp only at hi; omega, fun b hb => by omega, fun i j _ hj => by dsimp only at hj; omega⟩, by dsimp only; omega⟩
  dsimp only at i1 i2 i3 i4 i5
  subst i2
  refine ⟨s', sz, g, ?_, i1, i3, i4, i5⟩
  rw [e, nX5_lineUp_4]
  simp (maxSteps := 400000) (disch := omega) only [n3_l, n3_add, n3_mul, n3_sub, n3_subn, n3_lt, n3_le, n3_eq, n3_eqn, n3_neq, n3_and, n3_or, n3_shl, n3_i, n3_cl, ↓hbd_0, ↓hbd_1, ↓hbd_2, hk_ob_0, hk_rd_0, hk_rd_1, hk_rd_2, hk_al_0, hk_al_1, h3r_0, h3r_1, hk_wi_0, hk_wj_0, h3w_0, h3w_1, h3v_0, hk_kI, hk_kJ, hk_kA, hk_kB, A_eq, A_ne, A_row, B_eq, B_ne, B_row, I_eq, I_ne, J_eq, J_ne, Option.bind_some, Option.some.injEq, if_true, if_false, eq_self, true_or, or_true, true_and, and_true, false_or, or_false, not_true_eq_false, not_false_eq_true, Classical.not_not, nar_b0, nar_b1, rz_0, rz_1, rz_i, ite01, Nat.add_zero, Nat.zero_add, Nat.one_mul, mul12, reduceIte, ra_z0, Nat.reduceEqDiff, Nat.reduceLT, Nat.reduceLeDiff, Nat.reduceAdd, Nat.reduceMul, Nat.reduceSub, Nat.reduceDiv, Nat.reduceMod, Bool.false_eq_true, false_and, and_false, reduceCtorEq, i1.2.2.1 1 13 (by decide), hB, Nat.lt_irrefl]
end
