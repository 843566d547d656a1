/-! pieces of the reference's code: O what is done, G what with -/
theorem samJ.wB {ks : List Nat} {fs : List (Nat × Nat)} {κ κ' : hk_T} (h : samJ ks fs κ κ') {k i : Nat} {v : Int64} (hk : k ∈ ks) : samJ ks fs κ (hk_wB κ' k i v) := ⟨h.1.wB hk, h.2⟩
theorem samJ.wI {ks : List Nat} {fs : List (Nat × Nat)} {κ κ' : hk_T} (h : samJ ks fs κ κ') {k i : Nat} {v : Int32} (hk : (k, i) ∈ fs) : samJ ks fs κ (hk_wI κ' k i v) := ⟨h.1.wI hk, h.2⟩
def rLo (N m T n at' : Nat) (κ : hk_T) : Option ra_H := nX12_reckonAll_10 N m 69 (n3 T) (n3 n) (n3 at') (hp κ)
def rEnv (κ : hk_T) (O G : Nat → Nat) (T t0 f t : Nat) (X : Nat → Int32) : Prop := T ≤ 400 ∧ t ≤ T ∧ t0 < 8 ∧ hk_I κ 69 27 = n3 (760 + 900 * t0) ∧ (∀ i, f ≤ i → i < t → hk_A κ 71 (760 + 900 * t0 + 98 + 2 * i) = n3 (O i) ∧ hk_A κ 71 (760 + 900 * t0 + 98 + 2 * i + 1) = n3 (G i)) ∧ (∀ g, g < 12 → hk_B κ 82 (g + 1) = (X g).toInt64) ∧ factsOk X
/-- what a piece comes to -/
def rRun (N m T n f t : Nat) (v : valT) (X : Nat → Int32) (κ κ' : hk_T) : Prop := samJ [83] [(69, 30)] κ κ' ∧ (∀ i, i < n → hk_B κ' 83 i = hk_B κ 83 i) ∧
  (∀ a, v X = some a → hk_B κ' 83 n = Int64.ofInt a ∧ hk_I κ' 69 30 = n3 0 ∧ ∃ m', m ≤ m' + (t - f) ∧ rLo N m T n f κ = rLo N m' T (n + 1) t κ') ∧
  (v X = none → hk_I κ' 69 30 = n3 1 ∧ ∃ m' n' at', m ≤ m' + (t - f) ∧ n' ≤ 400 ∧ at' ≤ 400 ∧ rLo N m T n f κ = rLo N m' T n' at' κ')
def rFr (O G : Nat → Nat) (f t d : Nat) (v : valT) : Prop := f < t ∧ 1 ≤ d ∧ ∀ (N m : Nat) (κ : hk_T) (T t0 n : Nat) (X : Nat → Int32), rEnv κ O G T t0 f t X → hk_I κ 69 30 = n3 0 → n + d ≤ 400 → t - f < m → ∃ κ', rRun N m T n f t v X κ κ'
theorem rEnv.sub {κ : hk_T} {O G : Nat → Nat} {T t0 f t f' t' : Nat} {X : Nat → Int32} (h : rEnv κ O G T t0 f t X) (h1 : f ≤ f') (h2 : t' ≤ t) : rEnv κ O G T t0 f' t' X := by
  obtain ⟨a, b, c, d, e, g⟩ := h
  exact ⟨a, by omega, c, d, fun i h3 h4 => e i (by omega) (by omega), g⟩
theorem rEnv.same {κ κ' : hk_T} {O G : Nat → Nat} {T t0 f t : Nat} {X : Nat → Int32} (h : rEnv κ O G T t0 f t X) (s : samJ [83] [(69, 30)] κ κ') : rEnv κ' O G T t0 f t X := by
  obtain ⟨a, b, c, d, e, g, i⟩ := h
  exact ⟨a, b, c, by rw [s.1.2.2.1 69 27 (by decide)]; exact d, by rw [s.1.1 71 (by decide)]; exact e, by rw [s.1.2.1 82 (by decide)]; exact g, i⟩
theorem rFr.cg {O G O' G' : Nat → Nat} {f t d : Nat} {v : valT} (h : rFr O G f t d v) (e : ∀ i, f ≤ i → i < t → O i = O' i ∧ G i = G' i) : rFr O' G' f t d v := by
  refine ⟨h.1, h.2.1, fun N m κ T t0 n X hE => h.2.2 N m κ T t0 n X ?_⟩
  obtain ⟨a, b, c, d, g, i⟩ := hE
  exact ⟨a, b, c, d, fun i h1 h2 => by rw [(e i h1 h2).1, (e i h1 h2).2]; exact g i h1 h2, i⟩
/-- one step's beginning: the cell is read -/
theorem rEnv.step {N m : Nat} {κ : hk_T} {O G : Nat → Nat} {T t0 f t i n : Nat} {X : Nat → Int32} (h : rEnv κ O G T t0 f t X) (h1 : f ≤ i) (h2 : i < t) (hz : hk_I κ 69 30 = n3 0) : i < T ∧ T ≤ 400 ∧ ra_aI (hp κ) 0 71 (n3 (760 + 900 * t0 + 98 + 2 * i)) = some (n3 (O i)) ∧ ra_aI (hp κ) 0 71 (n3 (760 + 900 * t0 + 98 + 2 * i + 1)) = some (n3 (G i)) ∧ hk_I κ 69 27 = n3 (760 + 900 * t0) := by
  obtain ⟨a, b, c, d, e, g⟩ := h
  obtain ⟨e1, e2⟩ := e i h1 h2
  refine ⟨by omega, a, ?_, ?_, d⟩
  · rw [← e1]; simp (maxSteps := 400000) (disch := omega) only [n3_l, n3_add, n3_mul, n3_sub, n3_subn, n3_lt, n3_le, n3_eq, n3_eqn, n3_neq, n3_and, n3_or, n3_shl, n3_i, n3_cl, ↓hbd_0, ↓hbd_1, ↓hbd_2, hk_ob_0, hk_rd_0, hk_rd_1, hk_rd_2, hk_al_0, hk_al_1, h3r_0, h3r_1, hk_wi_0, hk_wj_0, h3w_0, h3w_1, h3v_0, hk_kI, hk_kJ, hk_kA, hk_kB, A_eq, A_ne, A_row, B_eq, B_ne, B_row, I_eq, I_ne, J_eq, J_ne, Option.bind_some, Option.some.injEq, if_true, if_false, eq_self, true_or, or_true, true_and, and_true, false_or, or_false, not_true_eq_false, not_false_eq_true, Classical.not_not, nar_b0, nar_b1, rz_0, rz_1, rz_i, ite01, Nat.add_zero, Nat.zero_add, Nat.one_mul, mul12, reduceIte, ra_z0, Nat.reduceEqDiff, Nat.reduceLT, Nat.reduceLeDiff, Nat.reduceAdd, Nat.reduceMul, Nat.reduceSub, Nat.reduceDiv, Nat.reduceMod, Bool.false_eq_true, false_and, and_false, reduceCtorEq]
  · rw [← e2]; simp (maxSteps := 400000) (disch := omega) only [n3_l, n3_add, n3_mul, n3_sub, n3_subn, n3_lt, n3_le, n3_eq, n3_eqn, n3_neq, n3_and, n3_or, n3_shl, n3_i, n3_cl, ↓hbd_0, ↓hbd_1, ↓hbd_2, hk_ob_0, hk_rd_0, hk_rd_1, hk_rd_2, hk_al_0, hk_al_1, h3r_0, h3r_1, hk_wi_0, hk_wj_0, h3w_0, h3w_1, h3v_0, hk_kI, hk_kJ, hk_kA, hk_kB, A_eq, A_ne, A_row, B_eq, B_ne, B_row, I_eq, I_ne, J_eq, J_ne, Option.bind_some, Option.some.injEq, if_true, if_false, eq_self, true_or, or_true, true_and, and_true, false_or, or_false, not_true_eq_false, not_false_eq_true, Classical.not_not, nar_b0, nar_b1, rz_0, rz_1, rz_i, ite01, Nat.add_zero, Nat.zero_add, Nat.one_mul, mul12, reduceIte, ra_z0, Nat.reduceEqDiff, Nat.reduceLT, Nat.reduceLeDiff, Nat.reduceAdd, Nat.reduceMul, Nat.reduceSub, Nat.reduceDiv, Nat.reduceMod, Bool.false_eq_true, false_and, and_false, reduceCtorEq]
theorem rFr_num {O G : Nat → Nat} {f n0 : Nat} (hO : O f = 0) (hG : G f = n0) (hn : n0 ≤ 1000) : rFr O G f (f + 1) 1 (fun _ => some (n0 : Int)) := by
  refine ⟨by omega, Nat.le_refl _, fun N m κ T t0 n X hE hz hh hm => ?_⟩
  obtain ⟨e1, e2, e3, e4, e5⟩ := hE.step (N := N) (m := m) (n := n) (i := f) (Nat.le_refl _) (by omega) hz
  obtain ⟨m, rfl⟩ : ∃ j, m = j + 1 := ⟨m - 1, by omega⟩
  rw [hO] at e3
  rw [hG] at e4
  have ej : (n3 n0).toInt64 = Int64.ofInt n0 := by rw [z3_n, z9_long (by omega) (by omega)]
  refine ⟨hk_wB κ 83 n (Int64.ofInt n0), (samJ.refl _ _ _).wB (by decide), fun i hi => B_ne (Or.inr (by omega)), ?_, fun z => by cases z⟩
  intro a ha
  have ha' := Option.some.inj ha
  refine ⟨by rw [B_eq rfl, ← ha'], hz, m, by omega, ?_⟩
  unfold rLo
  rw [nX12_reckonAll_10]
  simp (maxSteps := 400000) (disch := omega) only [n3_l, n3_add, n3_mul, n3_sub, n3_subn, n3_lt, n3_le, n3_eq, n3_eqn, n3_neq, n3_and, n3_or, n3_shl, n3_i, n3_cl, ↓hbd_0, ↓hbd_1, ↓hbd_2, hk_ob_0, hk_rd_0, hk_rd_1, hk_rd_2, hk_al_0, hk_al_1, h3r_0, h3r_1, hk_wi_0, hk_wj_0, h3w_0, h3w_1, h3v_0, hk_kI, hk_kJ, hk_kA, hk_kB, A_eq, A_ne, A_row, B_eq, B_ne, B_row, I_eq, I_ne, J_eq, J_ne, Option.bind_some, Option.some.injEq, if_true, if_false, eq_self, true_or, or_true, true_and, and_true, false_or, or_false, not_true_eq_false, not_false_eq_true, Classical.not_not, nar_b0, nar_b1, rz_0, rz_1, rz_i, ite01, Nat.add_zero, Nat.zero_add, Nat.one_mul, mul12, reduceIte, ra_z0, Nat.reduceEqDiff, Nat.reduceLT, Nat.reduceLeDiff, Nat.reduceAdd, Nat.reduceMul, Nat.reduceSub, Nat.reduceDiv, Nat.reduceMod, Bool.false_eq_true, false_and, and_false, reduceCtorEq, e1, hz, e5, e3, e4, ej, nX12_reckonAll_96, nX12_reckonAll_242]
theorem rFr_fact {O G : Nat → Nat} {f g : Nat} (hO : O f = g + 1) (hg : g < 12) : rFr O G f (f + 1) 1 (fun X => limV (X g).toInt) := by
  refine ⟨by omega, Nat.le_refl _, fun N m κ T t0 n X hE hz hh hm => ?_⟩
  obtain ⟨e1, e2, e3, e4, e5⟩ := hE.step (N := N) (m := m) (n := n) (i := f) (Nat.le_refl _) (by omega) hz
  obtain ⟨m, rfl⟩ : ∃ j, m = j + 1 := ⟨m - 1, by omega⟩
  rw [hO] at e3
  have fo' := vIn_iff.mp (hE.2.2.2.2.2.2 g hg)
  have lv : limV (X g).toInt = some (X g).toInt := if_pos (by omega)
  have ej : (X g).toInt64 = Int64.ofInt (X g).toInt := by rw [← z9_long (by omega) (by omega), ← z3_of]
  have b82 := hE.2.2.2.2.2.1 g hg
  have c20 : g + 1 < 20 := by omega
  have c0 : ¬ g + 1 = 0 := by omega
  refine ⟨hk_wB κ 83 n (X g).toInt64, (samJ.refl _ _ _).wB (by decide), fun i hi => B_ne (Or.inr (by omega)), ?_, fun z => (by dsimp only at z; rw [lv] at z; cases z)⟩
  intro a ha
  dsimp only at ha
  rw [lv] at ha
  have ha' := Option.some.inj ha
  refine ⟨by rw [B_eq rfl, ← ha', ej], hz, m, by omega, ?_⟩
  unfold rLo
  rw [nX12_reckonAll_10]
  simp (maxSteps := 400000) (disch := omega) only [n3_l, n3_add, n3_mul, n3_sub, n3_subn, n3_lt, n3_le, n3_eq, n3_eqn, n3_neq, n3_and, n3_or, n3_shl, n3_i, n3_cl, ↓hbd_0, ↓hbd_1, ↓hbd_2, hk_ob_0, hk_rd_0, hk_rd_1, hk_rd_2, hk_al_0, hk_al_1, h3r_0, h3r_1, hk_wi_0, hk_wj_0, h3w_0, h3w_1, h3v_0, hk_kI, hk_kJ, hk_kA, hk_kB, A_eq, A_ne, A_row, B_eq, B_ne, B_row, I_eq, I_ne, J_eq, J_ne, Option.bind_some, Option.some.injEq, if_true, if_false, eq_self, true_or, or_true, true_and, and_true, false_or, or_false, not_true_eq_false, not_false_eq_true, Classical.not_not, nar_b0, nar_b1, rz_0, rz_1, rz_i, ite01, Nat.add_zero, Nat.zero_add, Nat.one_mul, mul12, reduceIte, ra_z0, Nat.reduceEqDiff, Nat.reduceLT, Nat.reduceLeDiff, Nat.reduceAdd, Nat.reduceMul, Nat.reduceSub, Nat.reduceDiv, Nat.reduceMod, Bool.false_eq_true, false_and, and_false, reduceCtorEq, e1, hz, e5, e3, e4, c20, c0, b82, nX12_reckonAll_96, nX12_reckonAll_242]
