/-! the class's reader: all clauses -/
theorem tkK_le {B : Nat → Nat} {n j : Nat} : tkK B n j ≤ 3 := by
  unfold tkK
  split
  · omega
  · split
    · omega
    · split <;> omega
theorem ext3 (g : Nat → Int32) (K : Nat → Nat) (f : Nat) (h : ∀ x, x < f → g x = n3 (K x)) : ∃ K2 : Nat → Nat, (g = fun x => n3 (K2 x)) ∧ ∀ x, x < f → K2 x = K x := by
  refine ⟨fun x => if x < f then K x else Classical.choose (n3_sur (g x)), funext fun x => ?_, fun x hx => if_pos hx⟩
  dsimp only
  by_cases c : x < f
  · rw [if_pos c]; exact h x c
  · rw [if_neg c]; exact Classical.choose_spec (n3_sur (g x))
theorem tauC_cg {hd hd' : Nat → Nat} {sv tv sv' tv' : Nat → valT} : ∀ n, (∀ i, i < n → hd i = hd' i ∧ sv i = sv' i ∧ tv i = tv' i) → tauC hd sv tv n = tauC hd' sv' tv' n := by
  intro n
  induction n with
  | zero => intro _; rfl
  | succ n ih =>
    intro h
    funext hh X
    rw [tauC, tauC, ih (fun i hi => h i (by omega)), (h n (by omega)).1, (h n (by omega)).2.1, (h n (by omega)).2.2]
/-- a scheme of the class at q, its cells at c, h, b, tells so -/
def cTb (D : Nat → ra_C) (q c h b : Nat) (τ : tauT) : Prop := 101 ≤ q ∧ 101 ≤ c ∧ 101 ≤ h ∧ 101 ≤ b ∧ ra_isOb ((D, 0, 0, fun _ => (0, fun _ => 0)) : ra_H) q 4 = true ∧ ∀ (N : Nat) (κ : hk_T) (bk hd : Nat), 100000 < N → bk < 40 → hd < 5 → factsOk (fx (hk_A κ 2) bk) → hk_D κ q = D q → hk_D κ c = D c → hk_D κ h = D h → hk_D κ b = D b →
  ∃ κ', fX0_told N 21 q (n3 hd) 2 (n3 (12 * bk)) (hp κ) = some (tellI (τ hd (fx (hk_A κ 2) bk)), hp κ') ∧ same [22] [] κ κ'
theorem cTb.tx {D : Nat → ra_C} {q c h b : Nat} {τ : tauT} (g : cTb D q c h b τ) : cTx D q τ := ⟨c, h, b, g⟩
theorem cTb.cg {D D' : Nat → ra_C} {q c h b : Nat} {τ : tauT} (g : cTb D q c h b τ) (e1 : D' q = D q) (e2 : D' c = D c) (e3 : D' h = D h) (e4 : D' b = D b) : cTb D' q c h b τ := by
  obtain ⟨a1, a2, a3, a4, a5, a6⟩ := g
  refine ⟨a1, a2, a3, a4, ?_, ?_⟩
  · unfold ra_isOb at a5 ⊢
    show (match D' q with | .inr (c, _) => c == 4 | .inl _ => false) = true
    rw [e1]
    exact a5
  · intro N κ bk hd h1 h2 h3 h4
    rw [e1, e2, e3, e4]
    exact a6 N κ bk hd h1 h2 h3 h4
theorem c_tb {D : Nat → ra_C} {q c h b nC len : Nat} {K hd sf tf : Nat → Nat} {sv tv : Nat → valT} (hS : cSch D q c h b nC len K hd sf tf) (hs : ∀ i, i < nC → cPc K (sf i) (tf i) (sv i)) (ht : ∀ i, i < nC → cPc K (tf i) (sf (i + 1)) (tv i)) (hos : ∀ i, i < nC → vO (sv i)) (hot : ∀ i, i < nC → vT (tv i)) : cTb D q c h b (tauC hd sv tv nC) := by
  refine ⟨hS.1, hS.2.1, hS.2.2.1, hS.2.2.2.1, ?_, ?_⟩
  · unfold ra_isOb
    show (match D q with | .inr (c, _) => c == 4 | .inl _ => false) = true
    rw [hS.2.2.2.2.1]
    rfl
  · intro N κ bk hh hN hb hh5 hX e1 e2 e3 e4
    refine c_told N κ (c := c) (h := h) (b := b) (len := len) ?_ hs ht hos hot hb hh5 hX (by omega)
    unfold cSch
    rw [e1, e2, e3, e4]
    exact hS
def cTau (c : Nat → Nat × valT × valT) (nC : Nat) : tauT := tauC (fun x => (c x).1) (fun x => (c x).2.1) (fun x => (c x).2.2) nC
def cStt (κ : hk_T) (B : Nat → Nat) (n i j k f : Nat) (K : Nat → Nat) (c : Nat → Nat × valT × valT) (sf tf : Nat → Nat) : Prop := cP κ B n j k f K ∧ f ≤ j ∧ hk_I κ 16 7 = n3 i ∧ sf i = f ∧ ∀ x, x < i → hk_A κ 19 x = n3 (c x).1 ∧ (c x).1 ≤ 4 ∧ hk_A κ 20 (2 * x) = n3 (sf x) ∧ hk_A κ 20 (2 * x + 1) = n3 (tf x) ∧ sf x ≤ tf x ∧ tf x ≤ sf (x + 1) ∧ sf (x + 1) ≤ f ∧ cPc K (sf x) (tf x) (c x).2.1 ∧ cPc K (tf x) (sf (x + 1)) (c x).2.2 ∧ vO (c x).2.1 ∧ vT (c x).2.2
theorem cStt.next {κ κ' : hk_T} {B : Nat → Nat} {n i j k f j' k' t f' : Nat} {K K' : Nat → Nat} {c : Nat → Nat × valT × valT} {sf tf : Nat → Nat} {q : Nat × valT × valT} (h : cStt κ B n i j k f K c sf tf) (p : cP κ' B n j' k' f' K') (b1 : ∀ x, x < f → K' x = K x) (b2 : f ≤ t) (b3 : t ≤ f') (b4 : f' ≤ j') (b5 : q.1 ≤ 4) (b6 : cPc K' f t q.2.1) (b7 : cPc K' t f' q.2.2) (b8 : vO q.2.1) (b9 : vT q.2.2) (d1 : hk_I κ' 16 7 = n3 (i + 1)) (d2 : hk_A κ' 19 i = n3 q.1) (d3 : hk_A κ' 20 (2 * i) = n3 f) (d4 : hk_A κ' 20 (2 * i + 1) = n3 t) (d5 : ∀ x, x < i → hk_A κ' 19 x = hk_A κ 19 x) (d6 : ∀ x, x < 2 * i → hk_A κ' 20 x = hk_A κ 20 x) : cStt κ' B n (i + 1) j' k' f' K' (fun x => if x = i then q else c x) (fun x => if x = i + 1 then f' else sf x) (fun x => if x = i then t else tf x) := by
  obtain ⟨h1, h2, h3, h4, h5⟩ := h
  refine ⟨p, b4, d1, if_pos rfl, fun x hx => ?_⟩
  by_cases e : x = i
  · subst e
    dsimp only
    rw [if_pos rfl, if_pos rfl, if_pos rfl, if_neg (show ¬ x = x + 1 by omega), h4]
    exact ⟨d2, b5, d3, d4, b2, b3, Nat.le_refl _, b6, b7, b8, b9⟩
  · obtain ⟨a1, a2, a3, a4, a5, a6, a7, a8, a9, a10, a11⟩ := h5 x (by omega)
    dsimp only
    rw [if_neg e, if_neg e, if_neg (show ¬ x = i + 1 by omega), if_neg (show ¬ x + 1 = i + 1 by omega)]
    exact ⟨by rw [d5 x (by omega)]; exact a1, a2, by rw [d6 _ (by omega)]; exact a3, by rw [d6 _ (by omega)]; exact a4, a5, a6, by omega, a8.cg (fun y _ g => (b1 y (by omega)).symm), a9.cg (fun y _ g => (b1 y (by omega)).symm), a10, a11⟩
section
variable (N : Nat) (κ : hk_T)
abbrev cFl : List (Nat × Nat) := [(16, 2), (16, 6), (16, 7), (16, 8), (16, 9), (16, 10), (16, 11)]
/-- a scheme of what was read -/
theorem c_newSch {B : Nat → Nat} {n i j k f : Nat} {K : Nat → Nat} {c : Nat → Nat × valT × valT} {sf tf : Nat → Nat} (h : cStt κ B n i j k f K c sf tf) (hi : i ≤ 12) (hn : 101 ≤ hk_n κ) : ∃ κ', fX8_newScheme N 16 (hp κ) = some (hk_n κ, hp κ') ∧ sameN [20] [] 4 440 κ κ' ∧ hk_n κ' = hk_n κ + 4 ∧ cTb (hk_D κ') (hk_n κ) (hk_n κ + 1) (hk_n κ + 2) (hk_n κ + 3) (cTau c i) := by
  obtain ⟨h1, h2, h3, h4, h5⟩ := h
  obtain ⟨κ', g0, g1, g2, e, a0, a1, a2, a3, dq, dc, dh, db, hn', sN⟩ := c_newScheme N κ h1.2.2.2.2.1 h1.2.2.2.2.2.1 h3 hi hn
  refine ⟨κ', e, sN, hn', ?_⟩
  obtain ⟨K2, k1, k2⟩ := ext3 g0 K f (fun x hx => by rw [a0 x hx]; exact h1.2.2.2.2.2.2 x hx)
  obtain ⟨hd2, l1, l2⟩ := ext3 g1 (fun x => (c x).1) i (fun x hx => by rw [a1 x hx]; exact (h5 x hx).1)
  have mono : ∀ x, x ≤ i → sf x ≤ f := by
    intro x hx
    by_cases e : x = i
    · rw [e, h4]; exact Nat.le_refl _
    · obtain ⟨-, -, -, -, a5, a6, a7, -⟩ := h5 x (by omega)
      omega
  have tx := c_tb (D := hk_D κ') (q := hk_n κ) (c := hk_n κ + 1) (h := hk_n κ + 2) (b := hk_n κ + 3) (nC := i) (len := f) (K := K2) (hd := hd2) (sf := sf) (tf := tf) (sv := fun x => (c x).2.1) (tv := fun x => (c x).2.2) ⟨hn, by omega, by omega, by omega, dq, hi, h1.2.2.2.2.2.1, by rw [dc, k1], by rw [dh, l1], ⟨g2, db, fun x hx => ?_⟩, mono, fun x hx => ?_, fun x hx => ?_⟩ (fun x hx => ?_) (fun x hx => ?_) (fun x hx => (h5 x hx).2.2.2.2.2.2.2.2.2.1) (fun x hx => (h5 x hx).2.2.2.2.2.2.2.2.2.2)
  · unfold cTau
    rw [← tauC_cg (hd := hd2) (sv := fun x => (c x).2.1) (tv := fun x => (c x).2.2) i (fun x hx => ⟨l2 x hx, rfl, rfl⟩)]
    exact tx
  · obtain ⟨-, -, a4, a5, -⟩ := h5 x hx
    refine ⟨by rw [a2 _ (by omega)]; exact a4, by rw [a2 _ (by omega)]; exact a5, ?_⟩
    by_cases e : x + 1 = i
    · rw [show 2 * x + 2 = 2 * i by omega, a3, e, h4]
    · rw [a2 _ (by omega), show 2 * x + 2 = 2 * (x + 1) by omega]
      exact (h5 (x + 1) (by omega)).2.2.1
  · obtain ⟨-, -, -, -, a5, a6, a7, -⟩ := h5 x hx
    omega
  · rw [l2 x hx]
    exact (h5 x hx).2.1
  · have a := mono (x + 1) (by omega)
    obtain ⟨-, -, -, -, a5, a6, a7, a8, -⟩ := h5 x hx
    exact a8.cg (fun y _ g => (k2 y (by omega)).symm)
  · have a := mono (x + 1) (by omega)
    obtain ⟨-, -, -, -, a5, a6, a7, a8, a9, -⟩ := h5 x hx
    exact a9.cg (fun y _ g => (k2 y (by omega)).symm)
def cRd (κ : hk_T) (r : Sum Nat (Nat × (Nat → Nat × valT × valT))) (run : Option (Option Nat × ra_H)) : Prop := match r with
  | .inl e => ∃ κ', run = some (none, hp κ') ∧ cS2 κ κ' ∧ hk_I κ' 16 2 = n3 e
  | .inr (nC, c) => ∃ κ', run = some (some (hk_n κ), hp κ') ∧ sameN [18, 19, 20] cFl 4 440 κ κ' ∧ hk_n κ' = hk_n κ + 4 ∧ cTb (hk_D κ') (hk_n κ) (hk_n κ + 1) (hk_n κ + 2) (hk_n κ + 3) (cTau c nC)
theorem c_schemeL {B : Nat → Nat} {n : Nat} (hN : 1000 < N) (hn : 101 ≤ hk_n κ) : ∀ m i j k f K c sf tf m' κ1, m + i = 12 → m < m' → cS2 κ κ1 → cStt κ1 B n i j k f K c sf tf → cRd κ (pScheme B n m i j k c) (nX8_readScheme_26 N m' 16 (n3 i) (hp κ1)) := by
  intro m
  induction m with
  | zero =>
    intro i j k f K c sf tf m' κ1 hi hm s p
    obtain ⟨m', rfl⟩ : ∃ q, m' = q + 1 := ⟨m' - 1, by omega⟩
    have c12 : ¬ i < 12 := by omega
    refine ⟨κ1, ?_, s, p.1.2.1.2.1⟩
    rw [nX8_readScheme_26]
    simp (maxSteps := 400000) (disch := omega) only [n3_l, n3_add, n3_mul, n3_sub, n3_subn, n3_lt, n3_le, n3_eq, n3_eqn, n3_neq, n3_and, n3_or, n3_shl, n3_i, n3_cl, ↓hbd_0, ↓hbd_1, ↓hbd_2, hk_ob_0, hk_rd_0, hk_rd_1, hk_rd_2, hk_al_0, hk_al_1, h3r_0, h3r_1, hk_wi_0, hk_wj_0, h3w_0, h3w_1, h3v_0, hk_kI, hk_kJ, hk_kA, hk_kB, A_eq, A_ne, A_row, B_eq, B_ne, B_row, I_eq, I_ne, J_eq, J_ne, Option.bind_some, Option.some.injEq, if_true, if_false, eq_self, true_or, or_true, true_and, and_true, false_or, or_false, not_true_eq_false, not_false_eq_true, Classical.not_not, nar_b0, nar_b1, rz_0, rz_1, rz_i, ite01, Nat.add_zero, Nat.zero_add, Nat.one_mul, mul12, reduceIte, ra_z0, Nat.reduceEqDiff, Nat.reduceLT, Nat.reduceLeDiff, Nat.reduceAdd, Nat.reduceMul, Nat.reduceSub, Nat.reduceDiv, Nat.reduceMod, Bool.false_eq_true, false_and, and_false, reduceCtorEq, c12]
  | succ m ih =>
    intro i j k f K c sf tf m' κ1 hi hm s p
    obtain ⟨m', rfl⟩ : ∃ q, m' = q + 1 := ⟨m' - 1, by omega⟩
    have c12 : i < 12 := by omega
    have nn : hk_n κ1 = hk_n κ := s.2.2.2.2.2.2.1
    have r := c_readClause N κ1 p.1 p.2.1 c12 p.2.2.1 hN
    rw [pScheme]
    cases hq : pClause B n j k with
    | inl e =>
      rw [hq] at r
      obtain ⟨κ2, e2, s2, q2⟩ := r
      refine ⟨κ2, ?_, s.trans s2, q2⟩
      rw [nX8_readScheme_26]
      simp (maxSteps := 400000) (disch := omega) only [n3_l, n3_add, n3_mul, n3_sub, n3_subn, n3_lt, n3_le, n3_eq, n3_eqn, n3_neq, n3_and, n3_or, n3_shl, n3_i, n3_cl, ↓hbd_0, ↓hbd_1, ↓hbd_2, hk_ob_0, hk_rd_0, hk_rd_1, hk_rd_2, hk_al_0, hk_al_1, h3r_0, h3r_1, hk_wi_0, hk_wj_0, h3w_0, h3w_1, h3v_0, hk_kI, hk_kJ, hk_kA, hk_kB, A_eq, A_ne, A_row, B_eq, B_ne, B_row, I_eq, I_ne, J_eq, J_ne, Option.bind_some, Option.some.injEq, if_true, if_false, eq_self, true_or, or_true, true_and, and_true, false_or, or_false, not_true_eq_false, not_false_eq_true, Classical.not_not, nar_b0, nar_b1, rz_0, rz_1, rz_i, ite01, Nat.add_zero, Nat.zero_add, Nat.one_mul, mul12, reduceIte, ra_z0, Nat.reduceEqDiff, Nat.reduceLT, Nat.reduceLeDiff, Nat.reduceAdd, Nat.reduceMul, Nat.reduceSub, Nat.reduceDiv, Nat.reduceMod, Bool.false_eq_true, false_and, and_false, reduceCtorEq, c12, e2]
    | inr tt =>
      obtain ⟨j1, k1, hh, v, w⟩ := tt
      rw [hq] at r
      obtain ⟨κ2, t, f2, K2, e2, s2, p2, b1, b2, b3, b4, b5, b6, b7, b8, b9, d1, d2, d3, d4, d5, d6⟩ := r
      have st := p.next (q := (hh, v, w)) p2 b1 b2 b3 b4 b5 b6 b7 b8 b9 d1 d2 d3 d4 d5 d6
      have k9 := p2.2.1.2.2.2.1
      have tk3 : tkK B n j1 ≤ 3 := tkK_le
      have s12 := s.trans s2
      have n2 : hk_n κ2 = hk_n κ := s12.2.2.2.2.2.2.1
      dsimp only
      by_cases c0 : tkK B n j1 = 0
      · rw [if_pos c0]
        obtain ⟨κ3, e3, s3, n3', tx⟩ := c_newSch N κ2 st (by omega) (by omega)
        rw [n2] at e3 n3' tx
        refine ⟨κ3, ?_, ?_, n3', tx⟩
        · rw [nX8_readScheme_26]
          simp (maxSteps := 400000) (disch := omega) only [n3_l, n3_add, n3_mul, n3_sub, n3_subn, n3_lt, n3_le, n3_eq, n3_eqn, n3_neq, n3_and, n3_or, n3_shl, n3_i, n3_cl, ↓hbd_0, ↓hbd_1, ↓hbd_2, hk_ob_0, hk_rd_0, hk_rd_1, hk_rd_2, hk_al_0, hk_al_1, h3r_0, h3r_1, hk_wi_0, hk_wj_0, h3w_0, h3w_1, h3v_0, hk_kI, hk_kJ, hk_kA, hk_kB, A_eq, A_ne, A_row, B_eq, B_ne, B_row, I_eq, I_ne, J_eq, J_ne, Option.bind_some, Option.some.injEq, if_true, if_false, eq_self, true_or, or_true, true_and, and_true, false_or, or_false, not_true_eq_false, not_false_eq_true, Classical.not_not, nar_b0, nar_b1, rz_0, rz_1, rz_i, ite01, Nat.add_zero, Nat.zero_add, Nat.one_mul, mul12, reduceIte, ra_z0, Nat.reduceEqDiff, Nat.reduceLT, Nat.reduceLeDiff, Nat.reduceAdd, Nat.reduceMul, Nat.reduceSub, Nat.reduceDiv, Nat.reduceMod, Bool.false_eq_true, false_and, and_false, reduceCtorEq, c12, e2, k9, c0, e3]
        · have a := (same.toN (c := 0) (s := 0) s12).trans (s3.weak (ks' := [18, 19, 20]) (fs' := cFl) (by decide) (by decide) (Nat.le_refl _) (Nat.le_refl _))
          rw [Nat.zero_add, Nat.zero_add] at a
          exact a
      · rw [if_neg c0]
        have is := c_isSign N κ2 (c := 59) p2.1 p2.2.1 (by omega)
        by_cases cs : sg B n 59 j1
        · rw [if_pos cs] at is ⊢
          obtain ⟨κ3, e3, s3, p3⟩ := c_advP N κ2 p2 hN
          have nx2 := (nxt_le (B := B) p2.2.1.1).2 (sg_lt cs)
          have st3 : cStt κ3 B n (i + 1) (nxt B n j1) k1 f2 K2 (fun x => if x = i then (hh, v, w) else c x) (fun x => if x = i + 1 then f2 else sf x) (fun x => if x = i then t else tf x) := by
            obtain ⟨-, z2, z3, z4, z5⟩ := st
            refine ⟨p3, by omega, by rw [s3.2.2.1 16 7 (by decide)]; exact z3, z4, fun x hx => ?_⟩
            rw [s3.1 19 (by decide), s3.1 20 (by decide)]
            exact z5 x hx
          have r := ih (i + 1) _ _ _ _ _ _ _ m' κ3 (by omega) (by omega) (s12.trans s3.up) st3
          have e5 : nX8_readScheme_26 N (m' + 1) 16 (n3 i) (hp κ1) = nX8_readScheme_26 N m' 16 (n3 (i + 1)) (hp κ3) := by
            rw [nX8_readScheme_26]
            simp (maxSteps := 400000) (disch := omega) only [n3_l, n3_add, n3_mul, n3_sub, n3_subn, n3_lt, n3_le, n3_eq, n3_eqn, n3_neq, n3_and, n3_or, n3_shl, n3_i, n3_cl, ↓hbd_0, ↓hbd_1, ↓hbd_2, hk_ob_0, hk_rd_0, hk_rd_1, hk_rd_2, hk_al_0, hk_al_1, h3r_0, h3r_1, hk_wi_0, hk_wj_0, h3w_0, h3w_1, h3v_0, hk_kI, hk_kJ, hk_kA, hk_kB, A_eq, A_ne, A_row, B_eq, B_ne, B_row, I_eq, I_ne, J_eq, J_ne, Option.bind_some, Option.some.injEq, if_true, if_false, eq_self, true_or, or_true, true_and, and_true, false_or, or_false, not_true_eq_false, not_false_eq_true, Classical.not_not, nar_b0, nar_b1, rz_0, rz_1, rz_i, ite01, Nat.add_zero, Nat.zero_add, Nat.one_mul, mul12, reduceIte, ra_z0, Nat.reduceEqDiff, Nat.reduceLT, Nat.reduceLeDiff, Nat.reduceAdd, Nat.reduceMul, Nat.reduceSub, Nat.reduceDiv, Nat.reduceMod, Bool.false_eq_true, false_and, and_false, reduceCtorEq, c12, e2, k9, c0, is, e3]
          rw [e5]
          exact r
        · rw [if_neg cs] at is ⊢
          refine ⟨κ2, ?_, s12, p2.2.1.2.1⟩
          rw [nX8_readScheme_26]
          simp (maxSteps := 400000) (disch := omega) only [n3_l, n3_add, n3_mul, n3_sub, n3_subn, n3_lt, n3_le, n3_eq, n3_eqn, n3_neq, n3_and, n3_or, n3_shl, n3_i, n3_cl, ↓hbd_0, ↓hbd_1, ↓hbd_2, hk_ob_0, hk_rd_0, hk_rd_1, hk_rd_2, hk_al_0, hk_al_1, h3r_0, h3r_1, hk_wi_0, hk_wj_0, h3w_0, h3w_1, h3v_0, hk_kI, hk_kJ, hk_kA, hk_kB, A_eq, A_ne, A_row, B_eq, B_ne, B_row, I_eq, I_ne, J_eq, J_ne, Option.bind_some, Option.some.injEq, if_true, if_false, eq_self, true_or, or_true, true_and, and_true, false_or, or_false, not_true_eq_false, not_false_eq_true, Classical.not_not, nar_b0, nar_b1, rz_0, rz_1, rz_i, ite01, Nat.add_zero, Nat.zero_add, Nat.one_mul, mul12, reduceIte, ra_z0, Nat.reduceEqDiff, Nat.reduceLT, Nat.reduceLeDiff, Nat.reduceAdd, Nat.reduceMul, Nat.reduceSub, Nat.reduceDiv, Nat.reduceMod, Bool.false_eq_true, false_and, and_false, reduceCtorEq, c12, e2, k9, c0, is]
theorem c_readScheme {B : Nat → Nat} {n : Nat} (hT : cTape κ B n) (hN : 1000 < N) (hn : 101 ≤ hk_n κ) : cRd κ (pScheme B n 12 0 (tkS B n 0) 0 (fun _ => (0, vOne, vOne))) (fX8_readScheme N 16 (hp κ)) := by
  obtain ⟨κ1, e1⟩ : ∃ κ1, κ1 = hk_wI (hk_wI (hk_wI (hk_wI κ 16 6 (n3 0)) 16 7 (n3 0)) 16 8 (n3 0)) 16 11 (n3 0) := ⟨_, rfl⟩
  have s1 : same [] [(16, 6), (16, 7), (16, 8), (16, 11)] κ κ1 := by rw [e1]; exact ((((same.refl _ _ _).wI (by decide)).wI (by decide)).wI (by decide)).wI (by decide)
  have s1' : cS2 κ κ1 := same.weak s1 (by decide) (by decide)
  have a6 : hk_I κ1 16 6 = n3 0 := by
    rw [e1, I_ne (by decide), I_ne (by decide), I_ne (by decide), I_eq]
  have a7 : hk_I κ1 16 7 = n3 0 := by
    rw [e1, I_ne (by decide), I_ne (by decide), I_eq]
  have a8 : hk_I κ1 16 8 = n3 0 := by
    rw [e1, I_ne (by decide), I_eq]
  have a11 : hk_I κ1 16 11 = n3 0 := by
    rw [e1, I_eq]
  have hT1 : cTape κ1 B n := hT.same s1 (by decide) (by decide)
  obtain ⟨κ2, e2, s2, t2⟩ := c_advance N κ1 hT1 (Nat.zero_le _) a11 hN
  have s2' : cS2 κ1 κ2 := s2.weak (by decide) (by decide)
  have st : cStt κ2 B n 0 (tkS B n 0) 0 0 (fun _ => 0) (fun _ => (0, vOne, vOne)) (fun _ => 0) (fun _ => 0) := by
    refine ⟨⟨hT1.same s2 (by decide) (by decide), t2, by rw [s2.2.2.1 16 8 (by decide)]; exact a8, by omega, by rw [s2.2.2.1 16 6 (by decide)]; exact a6, by omega, fun i hi => absurd hi (by omega)⟩, by omega, by rw [s2.2.2.1 16 7 (by decide)]; exact a7, rfl, fun x hx => absurd hx (by omega)⟩
  have r := c_schemeL N κ hN hn 12 0 _ _ _ _ _ _ _ N κ2 (by omega) (by omega) (s1'.trans s2') st
  have e5 : fX8_readScheme N 16 (hp κ) = nX8_readScheme_26 N N 16 (n3 0) (hp κ2) := by
    unfold fX8_readScheme nX8_readScheme_0
    rw [e1] at e2
    simp (maxSteps := 400000) (disch := omega) only [n3_l, n3_add, n3_mul, n3_sub, n3_subn, n3_lt, n3_le, n3_eq, n3_eqn, n3_neq, n3_and, n3_or, n3_shl, n3_i, n3_cl, ↓hbd_0, ↓hbd_1, ↓hbd_2, hk_ob_0, hk_rd_0, hk_rd_1, hk_rd_2, hk_al_0, hk_al_1, h3r_0, h3r_1, hk_wi_0, hk_wj_0, h3w_0, h3w_1, h3v_0, hk_kI, hk_kJ, hk_kA, hk_kB, A_eq, A_ne, A_row, B_eq, B_ne, B_row, I_eq, I_ne, J_eq, J_ne, Option.bind_some, Option.some.injEq, if_true, if_false, eq_self, true_or, or_true, true_and, and_true, false_or, or_false, not_true_eq_false, not_false_eq_true, Classical.not_not, nar_b0, nar_b1, rz_0, rz_1, rz_i, ite01, Nat.add_zero, Nat.zero_add, Nat.one_mul, mul12, reduceIte, ra_z0, Nat.reduceEqDiff, Nat.reduceLT, Nat.reduceLeDiff, Nat.reduceAdd, Nat.reduceMul, Nat.reduceSub, Nat.reduceDiv, Nat.reduceMod, Bool.false_eq_true, false_and, and_false, reduceCtorEq, e2]
  rw [e5]
  exact r
end
