/-! pieces of the class's code -/
def cLo (N m cc T bk hg at' : Nat) (κ : hk_T) : Option (Int32 × ra_H) := nX0_reckonAll_6 N m 21 cc (n3 T) 2 (n3 (12 * bk)) (dn hg) (n3 at') (hp κ)
/-- what a piece comes to: v told, d how high it may go -/
def cRun (N m cc T bk hg f t : Nat) (v : valT) (κ κ' : hk_T) : Prop := same [22] [] κ κ' ∧ (∀ i, i < hg → hk_A κ' 22 i = hk_A κ 22 i) ∧
  (∀ a, v (fx (hk_A κ 2) bk) = some a → hk_A κ' 22 hg = z3 a ∧ ∃ m', m ≤ m' + (t - f) ∧ cLo N m cc T bk hg f κ = cLo N m' cc T bk (hg + 1) t κ') ∧
  (v (fx (hk_A κ 2) bk) = none → cLo N m cc T bk hg f κ = some (-n3 2000000000, hp κ'))
def cEnv (κ : hk_T) (K : Nat → Nat) (cc T bk f t : Nat) : Prop := 101 ≤ cc ∧ (∃ len Kc, hk_D κ cc = dC 0 len Kc ∧ len ≤ 400 ∧ T ≤ len ∧ ∀ i, f ≤ i → i < t → Kc i = n3 (K i)) ∧ t ≤ T ∧ bk < 40 ∧ factsOk (fx (hk_A κ 2) bk)
def cFr (K : Nat → Nat) (f t d : Nat) (v : valT) : Prop := f < t ∧ 1 ≤ d ∧ ∀ (N m : Nat) (κ : hk_T) (cc T bk hg : Nat), cEnv κ K cc T bk f t → hg + d ≤ 64 → t - f < m → ∃ κ', cRun N m cc T bk hg f t v κ κ'
theorem cEnv.sub {κ : hk_T} {K : Nat → Nat} {cc T bk f t f' t' : Nat} (h : cEnv κ K cc T bk f t) (h1 : f ≤ f') (h2 : t' ≤ t) : cEnv κ K cc T bk f' t' := by
  obtain ⟨a, ⟨len, Kc, b, c, d, e⟩, g, i, j⟩ := h
  exact ⟨a, ⟨len, Kc, b, c, d, fun i h3 h4 => e i (by omega) (by omega)⟩, by omega, i, j⟩
theorem cEnv.same {κ κ' : hk_T} {K : Nat → Nat} {cc T bk f t : Nat} (h : cEnv κ K cc T bk f t) (s : same [22] [] κ κ') : cEnv κ' K cc T bk f t := by
  obtain ⟨a, ⟨len, Kc, b, c, d, e⟩, g, i, j⟩ := h
  exact ⟨a, ⟨len, Kc, by rw [s.2.2.2.2.2.1]; exact b, c, d, e⟩, g, i, by rw [s.1 2 (by decide)]; exact j⟩
/-- the cell at hand -/
theorem cEnv.at {κ : hk_T} {K : Nat → Nat} {cc T bk f t i : Nat} (h : cEnv κ K cc T bk f t) (h1 : f ≤ i) (h2 : i < t) : ra_aI (hp κ) 0 cc (n3 i) = some (n3 (K i)) ∧ i < T ∧ T ≤ 400 := by
  obtain ⟨a, ⟨len, Kc, b, c, d, e⟩, g, i', j⟩ := h
  refine ⟨?_, by omega, by omega⟩
  rw [← e i h1 h2]
  exact d_r κ a b (by omega) (by omega)
theorem cFr.cg {K K' : Nat → Nat} {f t d : Nat} {v : valT} (h : cFr K f t d v) (e : ∀ i, f ≤ i → i < t → K i = K' i) : cFr K' f t d v := by
  refine ⟨h.1, h.2.1, fun N m κ cc T bk hg hE => h.2.2 N m κ cc T bk hg ?_⟩
  obtain ⟨a, ⟨len, Kc, b, c, d, g⟩, i⟩ := hE
  exact ⟨a, ⟨len, Kc, b, c, d, fun i h1 h2 => by rw [g i h1 h2, e i h1 h2]⟩, i⟩
theorem d16 {a : Nat} (h : a < 2147483648) : n3 a - n3 a / n3 16 * n3 16 = n3 (a % 16) := n3_rem h (by omega)
theorem cFr_num {K : Nat → Nat} {f n : Nat} (hK : K f = 16 * n) (hn : n ≤ 1000) : cFr K f (f + 1) 1 (fun _ => some (n : Int)) := by
  refine ⟨by omega, Nat.le_refl _, fun N m κ cc T bk hg hE hh hm => ?_⟩
  obtain ⟨e1, e2, e3⟩ := hE.at (i := f) (Nat.le_refl _) (by omega)
  obtain ⟨m, rfl⟩ : ∃ j, m = j + 1 := ⟨m - 1, by omega⟩
  rw [hK] at e1
  have r1 := d16 (a := 16 * n) (by omega)
  have r2 : n3 (16 * n) / n3 16 = n3 (16 * n / 16) := n3_div (by omega) (by omega)
  rw [show 16 * n % 16 = 0 by omega] at r1
  rw [show 16 * n / 16 = n by omega] at r2
  refine ⟨hk_wA κ 22 hg (n3 n), (same.refl _ _ _).wA (by decide), fun i hi => A_ne (Or.inr (by omega)), ?_, fun z => by cases z⟩
  intro a ha
  refine ⟨by rw [A_eq rfl]; have := Option.some.inj ha; rw [← this]; rfl, m, by omega, ?_⟩
  unfold cLo
  have d0 : dn hg + n3 1 = n3 hg := by
    unfold dn
    split
    · rename_i c; rw [c]; decide
    · rw [n3_add]; congr 1; omega
  have hl : hg < 64 := by omega
  have k1 : 16 * n - n * 16 = 0 := by omega
  rw [nX0_reckonAll_6, dn_succ]
  simp (maxSteps := 400000) (disch := omega) only [n3_l, n3_add, n3_mul, n3_sub, n3_subn, n3_lt, n3_le, n3_eq, n3_eqn, n3_neq, n3_and, n3_or, n3_shl, n3_i, n3_cl, ↓hbd_0, ↓hbd_1, ↓hbd_2, hk_ob_0, hk_rd_0, hk_rd_1, hk_rd_2, hk_al_0, hk_al_1, h3r_0, h3r_1, hk_wi_0, hk_wj_0, h3w_0, h3w_1, h3v_0, hk_kI, hk_kJ, hk_kA, hk_kB, A_eq, A_ne, A_row, B_eq, B_ne, B_row, I_eq, I_ne, J_eq, J_ne, Option.bind_some, Option.some.injEq, if_true, if_false, eq_self, true_or, or_true, true_and, and_true, false_or, or_false, not_true_eq_false, not_false_eq_true, Classical.not_not, nar_b0, nar_b1, rz_0, rz_1, rz_i, ite01, Nat.add_zero, Nat.zero_add, Nat.one_mul, mul12, reduceIte, ra_z0, Nat.reduceEqDiff, Nat.reduceLT, Nat.reduceLeDiff, Nat.reduceAdd, Nat.reduceMul, Nat.reduceSub, Nat.reduceDiv, Nat.reduceMod, Bool.false_eq_true, false_and, and_false, reduceCtorEq, e2, e1, r2, k1, nX0_reckonAll_41, d0, hl, nX0_reckonAll_78, nX0_reckonAll_254]
theorem cFr_fact {K : Nat → Nat} {f g : Nat} (hK : K f = 16 * g + 1) (hg' : g < 12) : cFr K f (f + 1) 1 (fun X => limV (X g).toInt) := by
  refine ⟨by omega, Nat.le_refl _, fun N m κ cc T bk hg hE hh hm => ?_⟩
  obtain ⟨e1, e2, e3⟩ := hE.at (i := f) (Nat.le_refl _) (by omega)
  obtain ⟨m, rfl⟩ : ∃ j, m = j + 1 := ⟨m - 1, by omega⟩
  have hb := hE.2.2.2.1
  rw [hK] at e1
  have r1 := d16 (a := 16 * g + 1) (by omega)
  have r2 : n3 (16 * g + 1) / n3 16 = n3 ((16 * g + 1) / 16) := n3_div (by omega) (by omega)
  rw [show (16 * g + 1) % 16 = 1 by omega] at r1
  rw [show (16 * g + 1) / 16 = g by omega] at r2
  have e2' : fx (hk_A κ 2) bk g = hk_A κ 2 (12 * bk + g) := if_pos hg'
  have fo' := vIn_iff.mp (hE.2.2.2.2 g hg')
  have lv : limV (fx (hk_A κ 2) bk g).toInt = some (fx (hk_A κ 2) bk g).toInt := if_pos (by omega)
  refine ⟨hk_wA κ 22 hg (hk_A κ 2 (12 * bk + g)), (same.refl _ _ _).wA (by decide), fun i hi => A_ne (Or.inr (by omega)), ?_, fun z => (by dsimp only at z; rw [lv] at z; cases z)⟩
  intro a ha
  dsimp only at ha
  rw [lv] at ha
  refine ⟨?_, m, by omega, ?_⟩
  · rw [A_eq rfl]
    have e := Option.some.inj ha
    rw [e2'] at e
    rw [← e]
    exact z3_of _
  · unfold cLo
    have d0 : dn hg + n3 1 = n3 hg := by
      unfold dn
      split
      · rename_i c; rw [c]; decide
      · rw [n3_add]; congr 1; omega
    have hl : hg < 64 := by omega
    have k1 : 16 * g + 1 - g * 16 = 1 := by omega
    rw [nX0_reckonAll_6, dn_succ]
    simp (maxSteps := 400000) (disch := omega) only [n3_l, n3_add, n3_mul, n3_sub, n3_subn, n3_lt, n3_le, n3_eq, n3_eqn, n3_neq, n3_and, n3_or, n3_shl, n3_i, n3_cl, ↓hbd_0, ↓hbd_1, ↓hbd_2, hk_ob_0, hk_rd_0, hk_rd_1, hk_rd_2, hk_al_0, hk_al_1, h3r_0, h3r_1, hk_wi_0, hk_wj_0, h3w_0, h3w_1, h3v_0, hk_kI, hk_kJ, hk_kA, hk_kB, A_eq, A_ne, A_row, B_eq, B_ne, B_row, I_eq, I_ne, J_eq, J_ne, Option.bind_some, Option.some.injEq, if_true, if_false, eq_self, true_or, or_true, true_and, and_true, false_or, or_false, not_true_eq_false, not_false_eq_true, Classical.not_not, nar_b0, nar_b1, rz_0, rz_1, rz_i, ite01, Nat.add_zero, Nat.zero_add, Nat.one_mul, mul12, reduceIte, ra_z0, Nat.reduceEqDiff, Nat.reduceLT, Nat.reduceLeDiff, Nat.reduceAdd, Nat.reduceMul, Nat.reduceSub, Nat.reduceDiv, Nat.reduceMod, Bool.false_eq_true, false_and, and_false, reduceCtorEq, e2, e1, r2, k1, nX0_reckonAll_41, d0, hl, nX0_reckonAll_78, nX0_reckonAll_254]
theorem cFr_bin {K : Nat → Nat} {f m1 t d1 d2 o : Nat} {v w : valT} (hv : cFr K f m1 d1 v) (hw : cFr K m1 t d2 w) (ov : vO v) (ow : vO w) (hK : K t = 2 + o) (ho : o ≤ 6) : cFr K f (t + 1) (d1 + d2) (vBin o v w) := by
  obtain ⟨a1, a2, a3⟩ := hv
  obtain ⟨b1, b2, b3⟩ := hw
  refine ⟨by omega, by omega, fun N m κ cc T bk hg hE hh hm => ?_⟩
  have hX := hE.2.2.2.2
  obtain ⟨κ1, r1, r2, r3, r4⟩ := a3 N m κ cc T bk hg (hE.sub (Nat.le_refl _) (by omega)) (by omega) (by omega)
  have x1 : hk_A κ1 2 = hk_A κ 2 := r1.1 2 (by decide)
  cases hv1 : v (fx (hk_A κ 2) bk) with
  | none =>
    refine ⟨κ1, r1, r2, ?_, fun _ => r4 hv1⟩
    intro a ha
    unfold vBin at ha
    rw [hv1] at ha
    cases ha
  | some a =>
    obtain ⟨r5, m', r6, r7⟩ := r3 a hv1
    obtain ⟨κ2, s1, s2, s3, s4⟩ := b3 N m' κ1 cc T bk (hg + 1) ((hE.sub (by omega) (by omega)).same r1) (by omega) (by omega)
    rw [x1] at s3 s4
    have sm : same [22] [] κ κ2 := r1.trans s1
    have low : ∀ i, i < hg → hk_A κ2 22 i = hk_A κ 22 i := fun i hi => by rw [s2 i (by omega), r2 i hi]
    cases hw1 : w (fx (hk_A κ 2) bk) with
    | none =>
      refine ⟨κ2, sm, low, ?_, fun _ => by rw [r7]; exact s4 hw1⟩
      intro c hc
      unfold vBin at hc
      rw [hv1] at hc
      dsimp only at hc
      rw [hw1] at hc
      cases hc
    | some b =>
      obtain ⟨s5, m'', s6, s7⟩ := s3 b hw1
      have s8 : hk_A κ2 22 hg = z3 a := by rw [s2 hg (by omega)]; exact r5
      obtain ⟨e1, e2, e3⟩ := ((hE.same r1).same s1).at (i := t) (by omega) (by omega)
      obtain ⟨m'', rfl⟩ : ∃ j, m'' = j + 1 := ⟨m'' - 1, by omega⟩
      rw [hK] at e1
      have q1 := d16 (a := 2 + o) (by omega)
      rw [show (2 + o) % 16 = 2 + o by omega] at q1
      have n0 : ¬ 2 + o = 0 := by omega
      have n1 : ¬ 2 + o = 1 := by omega
      have n9 : ¬ 2 + o = 9 := by omega
      have n10 : ¬ 2 + o = 10 := by omega
      have n11 : ¬ 2 + o = 11 := by omega
      have h0 : ¬ hg + 1 < 0 := by omega
      have h1 : ¬ hg + 1 < 1 := by omega
      obtain ⟨oa1, oa2⟩ := ov _ a hv1
      obtain ⟨ob1, ob2⟩ := ow _ b hw1
      have rk := c_reckon N (hp κ2) ho oa1 oa2 ob1 ob2
      have vb : vBin o v w (fx (hk_A κ 2) bk) = opV o a b := by
        unfold vBin
        rw [hv1]
        dsimp only
        rw [hw1]
      have step : cLo N (m'' + 1) cc T bk (hg + 1 + 1) t κ2 = (if tellI (opV o a b) = -n3 2000000000 then some (-n3 2000000000, hp (hk_wA κ2 22 hg (tellI (opV o a b)))) else cLo N m'' cc T bk (hg + 1) (t + 1) (hk_wA κ2 22 hg (tellI (opV o a b)))) := by
        unfold cLo
        have e5 : (-2000000000 : Int32) = -n3 2000000000 := by decide
        have k2 : hg + 1 - 1 = hg := by omega
        rw [nX0_reckonAll_6, dn_succ, dn_succ]
        simp (maxSteps := 400000) (disch := omega) only [n3_l, n3_add, n3_mul, n3_sub, n3_subn, n3_lt, n3_le, n3_eq, n3_eqn, n3_neq, n3_and, n3_or, n3_shl, n3_i, n3_cl, ↓hbd_0, ↓hbd_1, ↓hbd_2, hk_ob_0, hk_rd_0, hk_rd_1, hk_rd_2, hk_al_0, hk_al_1, h3r_0, h3r_1, hk_wi_0, hk_wj_0, h3w_0, h3w_1, h3v_0, hk_kI, hk_kJ, hk_kA, hk_kB, A_eq, A_ne, A_row, B_eq, B_ne, B_row, I_eq, I_ne, J_eq, J_ne, Option.bind_some, Option.some.injEq, if_true, if_false, eq_self, true_or, or_true, true_and, and_true, false_or, or_false, not_true_eq_false, not_false_eq_true, Classical.not_not, nar_b0, nar_b1, rz_0, rz_1, rz_i, ite01, Nat.add_zero, Nat.zero_add, Nat.one_mul, mul12, reduceIte, ra_z0, Nat.reduceEqDiff, Nat.reduceLT, Nat.reduceLeDiff, Nat.reduceAdd, Nat.reduceMul, Nat.reduceSub, Nat.reduceDiv, Nat.reduceMod, Bool.false_eq_true, false_and, and_false, reduceCtorEq, k2, e2, e1, q1, n0, n1, n9, n10, n11, h0, h1, s8, s5, rk, nX0_reckonAll_254, e5]
      rw [s7, step] at r7
      refine ⟨hk_wA κ2 22 hg (tellI (opV o a b)), sm.wA (by decide), fun i hi => by rw [A_ne (Or.inr (by omega))]; exact low i hi, ?_, ?_⟩
      · intro c hc
        rw [vb] at hc
        have oc := opV_ok hc
        rw [hc] at r7 ⊢
        have nb : ¬ tellI (some c) = -n3 2000000000 := by
          show ¬ z3 c = _
          rw [i_eq, z9_toInt (by omega) (by omega), n3_ntoInt (by omega)]
          omega
        rw [if_neg nb] at r7
        exact ⟨by rw [A_eq rfl]; rfl, m'', by omega, r7⟩
      · intro hc
        rw [vb] at hc
        rw [hc] at r7 ⊢
        rw [if_pos (show tellI none = -n3 2000000000 from rfl)] at r7
        exact r7
theorem cFr_not {K : Nat → Nat} {f t d : Nat} {v : valT} (hv : cFr K f t d v) (hK : K t = 9) : cFr K f (t + 1) d (vNot v) := by
  obtain ⟨a1, a2, a3⟩ := hv
  refine ⟨by omega, a2, fun N m κ cc T bk hg hE hh hm => ?_⟩
  obtain ⟨κ1, r1, r2, r3, r4⟩ := a3 N m κ cc T bk hg (hE.sub (Nat.le_refl _) (by omega)) (by omega) (by omega)
  cases hv1 : v (fx (hk_A κ 2) bk) with
  | none =>
    refine ⟨κ1, r1, r2, ?_, fun _ => r4 hv1⟩
    intro a ha
    unfold vNot at ha
    rw [hv1] at ha
    cases ha
  | some a =>
    obtain ⟨r5, m', r6, r7⟩ := r3 a hv1
    obtain ⟨e1, e2, e3⟩ := (hE.same r1).at (i := t) (by omega) (by omega)
    obtain ⟨m', rfl⟩ : ∃ j, m' = j + 1 := ⟨m' - 1, by omega⟩
    rw [hK] at e1
    have q1 := d16 (a := 9) (by omega)
    have h0 : ¬ hg < 0 := by omega
    have zs : n3 1 - z3 a = z3 (1 - a) := by rw [z3_n, z3_sub]; rfl
    refine ⟨hk_wA κ1 22 hg (z3 (1 - a)), r1.wA (by decide), fun i hi => by rw [A_ne (Or.inr (by omega))]; exact r2 i hi, ?_, ?_⟩
    · intro c hc
      unfold vNot at hc
      rw [hv1] at hc
      have hc' := Option.some.inj hc
      refine ⟨by rw [A_eq rfl, ← hc'], m', by omega, ?_⟩
      rw [r7]
      unfold cLo
      rw [nX0_reckonAll_6, dn_succ]
      simp (maxSteps := 400000) (disch := omega) only [n3_l, n3_add, n3_mul, n3_sub, n3_subn, n3_lt, n3_le, n3_eq, n3_eqn, n3_neq, n3_and, n3_or, n3_shl, n3_i, n3_cl, ↓hbd_0, ↓hbd_1, ↓hbd_2, hk_ob_0, hk_rd_0, hk_rd_1, hk_rd_2, hk_al_0, hk_al_1, h3r_0, h3r_1, hk_wi_0, hk_wj_0, h3w_0, h3w_1, h3v_0, hk_kI, hk_kJ, hk_kA, hk_kB, A_eq, A_ne, A_row, B_eq, B_ne, B_row, I_eq, I_ne, J_eq, J_ne, Option.bind_some, Option.some.injEq, if_true, if_false, eq_self, true_or, or_true, true_and, and_true, false_or, or_false, not_true_eq_false, not_false_eq_true, Classical.not_not, nar_b0, nar_b1, rz_0, rz_1, rz_i, ite01, Nat.add_zero, Nat.zero_add, Nat.one_mul, mul12, reduceIte, ra_z0, Nat.reduceEqDiff, Nat.reduceLT, Nat.reduceLeDiff, Nat.reduceAdd, Nat.reduceMul, Nat.reduceSub, Nat.reduceDiv, Nat.reduceMod, Bool.false_eq_true, false_and, and_false, reduceCtorEq, e2, e1, q1, h0, r5, zs, nX0_reckonAll_254]
    · intro hc
      unfold vNot at hc
      rw [hv1] at hc
      cases hc
theorem cFr_ao {K : Nat → Nat} {f m1 t d1 d2 o : Nat} {v w : valT} (hv : cFr K f m1 d1 v) (hw : cFr K (m1 + 1) t d2 w) (tv : vT v) (ho : o = 0 ∨ o = 1) (hK : K m1 = 16 * t + (11 - o)) : cFr K f t (d1 + d2) (vAO o v w) := by
  obtain ⟨a1, a2, a3⟩ := hv
  obtain ⟨b1, b2, b3⟩ := hw
  refine ⟨by omega, by omega, fun N m κ cc T bk hg hE hh hm => ?_⟩
  have hX := hE.2.2.2.2
  obtain ⟨κ1, r1, r2, r3, r4⟩ := a3 N m κ cc T bk hg (hE.sub (Nat.le_refl _) (by omega)) (by omega) (by omega)
  have x1 : hk_A κ1 2 = hk_A κ 2 := r1.1 2 (by decide)
  cases hv1 : v (fx (hk_A κ 2) bk) with
  | none =>
    refine ⟨κ1, r1, r2, ?_, fun _ => r4 hv1⟩
    intro a ha
    unfold vAO at ha
    rw [hv1] at ha
    cases ha
  | some a =>
    obtain ⟨r5, m', r6, r7⟩ := r3 a hv1
    obtain ⟨e1, e2, e3⟩ := (hE.same r1).at (i := m1) (by omega) (by omega)
    obtain ⟨m', rfl⟩ : ∃ j, m' = j + 1 := ⟨m' - 1, by omega⟩
    rw [hK] at e1
    have tT := hE.2.2.1
    have q1 := d16 (a := 16 * t + (11 - o)) (by omega)
    have q2 : n3 (16 * t + (11 - o)) / n3 16 = n3 ((16 * t + (11 - o)) / 16) := n3_div (by omega) (by omega)
    rw [show (16 * t + (11 - o)) % 16 = 11 - o by omega] at q1
    rw [show (16 * t + (11 - o)) / 16 = t by omega] at q2
    have h0 : ¬ hg < 0 := by omega
    have ta := tv _ a hv1
    have vb : vAO o v w (fx (hk_A κ 2) bk) = if a = (o : Int) then some a else w (fx (hk_A κ 2) bk) := by
      unfold vAO
      rw [hv1]
    have ze : z3 a = n3 o ↔ a = (o : Int) := by
      rw [i_eq, z9_toInt (by omega) (by omega), n3_toInt (by omega)]
    have mx : m1 < t - 1 ∨ m1 = t - 1 := by omega
    have step : cLo N (m' + 1) cc T bk (hg + 1) m1 κ1 = if a = (o : Int) then cLo N m' cc T bk (hg + 1) t κ1 else cLo N m' cc T bk hg (m1 + 1) κ1 := by
      unfold cLo
      rw [nX0_reckonAll_6, dn_succ]
      have es : (if m1 < t - 1 then n3 (t - 1) else n3 m1) = n3 (t - 1) := by
        rcases mx with z | z
        · rw [if_pos z]
        · rw [if_neg (by omega), z]
      have k0 : 16 * t + 11 - t * 16 = 11 := by omega
      have k1 : 16 * t + 10 - t * 16 = 10 := by omega
      have et : t - 1 + 1 = t := by omega
      have ed : n3 hg - n3 1 = dn hg := dn_sub hg
      by_cases c : a = (o : Int)
      · have c' := ze.mpr c
        rw [if_pos c]
        rcases ho with z | z
        · subst z
          simp (maxSteps := 400000) (disch := omega) only [n3_l, n3_add, n3_mul, n3_sub, n3_subn, n3_lt, n3_le, n3_eq, n3_eqn, n3_neq, n3_and, n3_or, n3_shl, n3_i, n3_cl, ↓hbd_0, ↓hbd_1, ↓hbd_2, hk_ob_0, hk_rd_0, hk_rd_1, hk_rd_2, hk_al_0, hk_al_1, h3r_0, h3r_1, hk_wi_0, hk_wj_0, h3w_0, h3w_1, h3v_0, hk_kI, hk_kJ, hk_kA, hk_kB, A_eq, A_ne, A_row, B_eq, B_ne, B_row, I_eq, I_ne, J_eq, J_ne, Option.bind_some, Option.some.injEq, if_true, if_false, eq_self, true_or, or_true, true_and, and_true, false_or, or_false, not_true_eq_false, not_false_eq_true, Classical.not_not, nar_b0, nar_b1, rz_0, rz_1, rz_i, ite01, Nat.add_zero, Nat.zero_add, Nat.one_mul, mul12, reduceIte, ra_z0, Nat.reduceEqDiff, Nat.reduceLT, Nat.reduceLeDiff, Nat.reduceAdd, Nat.reduceMul, Nat.reduceSub, Nat.reduceDiv, Nat.reduceMod, Bool.false_eq_true, false_and, and_false, reduceCtorEq, e2, e1, q2, k0, k1, h0, r5, c', nX0_reckonAll_130, nX0_reckonAll_149, nX0_reckonAll_157, nX0_reckonAll_178, nX0_reckonAll_194, nX0_reckonAll_254, es, et]
        · subst z
          simp (maxSteps := 400000) (disch := omega) only [n3_l, n3_add, n3_mul, n3_sub, n3_subn, n3_lt, n3_le, n3_eq, n3_eqn, n3_neq, n3_and, n3_or, n3_shl, n3_i, n3_cl, ↓hbd_0, ↓hbd_1, ↓hbd_2, hk_ob_0, hk_rd_0, hk_rd_1, hk_rd_2, hk_al_0, hk_al_1, h3r_0, h3r_1, hk_wi_0, hk_wj_0, h3w_0, h3w_1, h3v_0, hk_kI, hk_kJ, hk_kA, hk_kB, A_eq, A_ne, A_row, B_eq, B_ne, B_row, I_eq, I_ne, J_eq, J_ne, Option.bind_some, Option.some.injEq, if_true, if_false, eq_self, true_or, or_true, true_and, and_true, false_or, or_false, not_true_eq_false, not_false_eq_true, Classical.not_not, nar_b0, nar_b1, rz_0, rz_1, rz_i, ite01, Nat.add_zero, Nat.zero_add, Nat.one_mul, mul12, reduceIte, ra_z0, Nat.reduceEqDiff, Nat.reduceLT, Nat.reduceLeDiff, Nat.reduceAdd, Nat.reduceMul, Nat.reduceSub, Nat.reduceDiv, Nat.reduceMod, Bool.false_eq_true, false_and, and_false, reduceCtorEq, e2, e1, q2, k0, k1, h0, r5, c', nX0_reckonAll_130, nX0_reckonAll_149, nX0_reckonAll_157, nX0_reckonAll_178, nX0_reckonAll_194, nX0_reckonAll_254, es, et]
      · have c' : ¬ z3 a = n3 o := fun z => c (ze.mp z)
        rw [if_neg c]
        rcases ho with z | z
        · subst z
          simp (maxSteps := 400000) (disch := omega) only [n3_l, n3_add, n3_mul, n3_sub, n3_subn, n3_lt, n3_le, n3_eq, n3_eqn, n3_neq, n3_and, n3_or, n3_shl, n3_i, n3_cl, ↓hbd_0, ↓hbd_1, ↓hbd_2, hk_ob_0, hk_rd_0, hk_rd_1, hk_rd_2, hk_al_0, hk_al_1, h3r_0, h3r_1, hk_wi_0, hk_wj_0, h3w_0, h3w_1, h3v_0, hk_kI, hk_kJ, hk_kA, hk_kB, A_eq, A_ne, A_row, B_eq, B_ne, B_row, I_eq, I_ne, J_eq, J_ne, Option.bind_some, Option.some.injEq, if_true, if_false, eq_self, true_or, or_true, true_and, and_true, false_or, or_false, not_true_eq_false, not_false_eq_true, Classical.not_not, nar_b0, nar_b1, rz_0, rz_1, rz_i, ite01, Nat.add_zero, Nat.zero_add, Nat.one_mul, mul12, reduceIte, ra_z0, Nat.reduceEqDiff, Nat.reduceLT, Nat.reduceLeDiff, Nat.reduceAdd, Nat.reduceMul, Nat.reduceSub, Nat.reduceDiv, Nat.reduceMod, Bool.false_eq_true, false_and, and_false, reduceCtorEq, e2, e1, q2, k0, k1, h0, r5, c', nX0_reckonAll_130, nX0_reckonAll_149, nX0_reckonAll_157, nX0_reckonAll_178, nX0_reckonAll_194, nX0_reckonAll_254, ed]
        · subst z
          simp (maxSteps := 400000) (disch := omega) only [n3_l, n3_add, n3_mul, n3_sub, n3_subn, n3_lt, n3_le, n3_eq, n3_eqn, n3_neq, n3_and, n3_or, n3_shl, n3_i, n3_cl, ↓hbd_0, ↓hbd_1, ↓hbd_2, hk_ob_0, hk_rd_0, hk_rd_1, hk_rd_2, hk_al_0, hk_al_1, h3r_0, h3r_1, hk_wi_0, hk_wj_0, h3w_0, h3w_1, h3v_0, hk_kI, hk_kJ, hk_kA, hk_kB, A_eq, A_ne, A_row, B_eq, B_ne, B_row, I_eq, I_ne, J_eq, J_ne, Option.bind_some, Option.some.injEq, if_true, if_false, eq_self, true_or, or_true, true_and, and_true, false_or, or_false, not_true_eq_false, not_false_eq_true, Classical.not_not, nar_b0, nar_b1, rz_0, rz_1, rz_i, ite01, Nat.add_zero, Nat.zero_add, Nat.one_mul, mul12, reduceIte, ra_z0, Nat.reduceEqDiff, Nat.reduceLT, Nat.reduceLeDiff, Nat.reduceAdd, Nat.reduceMul, Nat.reduceSub, Nat.reduceDiv, Nat.reduceMod, Bool.false_eq_true, false_and, and_false, reduceCtorEq, e2, e1, q2, k0, k1, h0, r5, c', nX0_reckonAll_130, nX0_reckonAll_149, nX0_reckonAll_157, nX0_reckonAll_178, nX0_reckonAll_194, nX0_reckonAll_254, ed]
    rw [step] at r7
    by_cases c : a = (o : Int)
    · rw [if_pos c] at r7 vb
      refine ⟨κ1, r1, r2, ?_, fun hc => by rw [vb] at hc; cases hc⟩
      intro c' hc
      rw [vb] at hc
      have := Option.some.inj hc
      exact ⟨by rw [← this]; exact r5, m', by omega, r7⟩
    · rw [if_neg c] at r7 vb
      obtain ⟨κ2, s1, s2, s3, s4⟩ := b3 N m' κ1 cc T bk hg ((hE.sub (by omega) (Nat.le_refl _)).same r1) (by omega) (by omega)
      rw [x1] at s3 s4
      refine ⟨κ2, r1.trans s1, fun i hi => by rw [s2 i hi, r2 i hi], ?_, ?_⟩
      · intro c' hc
        rw [vb] at hc
        obtain ⟨s5, m'', s6, s7⟩ := s3 c' hc
        exact ⟨s5, m'', by omega, r7.trans s7⟩
      · intro hc
        rw [vb] at hc
        exact r7.trans (s4 hc)
