/-! histories: se the seats of books, rt whether right, mk whether marked -/
def rsG (se : Nat → Option Nat) (rt : Nat → Nat → Bool) (b : Nat) : Option Nat := match se b with
  | none => none
  | some s => if rt b s = true then some s else none
def howG (mk : Nat → Bool) (se : Nat → Option Nat) (rt : Nat → Nat → Bool) (b : Nat) : Nat := if mk b = false then 0 else match se b with
  | none => 1
  | some s => if rt b s = true then (if ∃ b', b' < b ∧ rsG se rt b' = some s then 3 else 4) else 2
theorem howG_4 {mk : Nat → Bool} {se : Nat → Option Nat} {rt : Nat → Nat → Bool} (hm : ∀ b, mk b = false → se b = none) {b : Nat} : howG mk se rt b = 4 ↔ ∃ s, rsG se rt b = some s ∧ ¬ ∃ b', b' < b ∧ rsG se rt b' = some s := by
  unfold howG
  by_cases h : mk b = false
  · rw [if_pos h]
    have e : rsG se rt b = none := by unfold rsG; rw [hm b h]
    constructor
    · intro z; omega
    · rintro ⟨s, z, -⟩; rw [e] at z; cases z
  · rw [if_neg h]
    cases e : se b with
    | none =>
      have e' : rsG se rt b = none := by unfold rsG; rw [e]
      constructor
      · intro z; cases z
      · rintro ⟨s, z, -⟩; rw [e'] at z; cases z
    | some s =>
      dsimp only
      by_cases hr : rt b s = true
      · have e' : rsG se rt b = some s := by unfold rsG; rw [e]; exact if_pos hr
        rw [if_pos hr]
        by_cases hx : ∃ b', b' < b ∧ rsG se rt b' = some s
        · rw [if_pos hx]
          constructor
          · intro z; omega
          · rintro ⟨s', z, w⟩; rw [e'] at z; cases z; exact absurd hx w
        · rw [if_neg hx]
          exact ⟨fun _ => ⟨s, e', hx⟩, fun _ => rfl⟩
      · have e' : rsG se rt b = none := by unfold rsG; rw [e]; exact if_neg hr
        rw [if_neg hr]
        constructor
        · intro z; omega
        · rintro ⟨s', z, -⟩; rw [e'] at z; cases z
theorem howG_le (mk : Nat → Bool) (se : Nat → Option Nat) (rt : Nat → Nat → Bool) (b : Nat) : howG mk se rt b ≤ 4 := by
  unfold howG
  split
  · omega
  · split
    · omega
    · split
      · split <;> omega
      · omega
def mkF (F : Nat → Int32) (b : Nat) : Bool := decide (¬ F (12 * b) = -n3 1)
def rnum (s : Nat) : Nat := 100 * (s / 99) + (s % 99 + 1)
theorem rnum_inj {a b : Nat} (h : rnum a = rnum b) : a = b := by unfold rnum at h; omega
theorem rnum_lt {s : Nat} (h : s < 5346) : rnum s < 5400 := by unfold rnum; omega
theorem seatR_some (s : Nat) : seatR (some s) = n3 (rnum s) := rfl
section
variable (N : Nat) (κ : hk_T)
theorem r_standing {n fi sc y u : Nat} {se : Nat → Option Nat} {rt : Nat → Nat → Bool} (hB : hk_A κ 71 480 = n3 n) (hn : n ≤ 40) (hfi : fi < 8) (hsc : sc < 8) (hN : 1000 < N) (hu : hk_I κ 69 38 = n3 u) (hu' : u < 1000000000) (ht : ∀ s, s < 5400 → ∃ k, k ≤ u ∧ hk_A κ 86 s = n3 k)
    (hse : ∀ b s, se b = some s → s < 5346) (hse0 : ∀ b, hk_A κ 71 (12 * b) = -n3 1 → se b = none) (hs : ∀ b, b < n → hk_A κ 84 (40 * (if hk_A κ 71 (12 * b + 2) < n3 y then fi else sc) + b) = seatR (se b) ∧ hk_A κ 85 (40 * (if hk_A κ 71 (12 * b + 2) < n3 y then fi else sc) + b) = (if rsG se rt b = none then n3 0 else n3 1)) :
    ∃ κ', fX12_standing N 69 (n3 fi) (n3 sc) (n3 y) (hp κ) = some (n3 (cnt (fun b => howG (mkF (hk_A κ 71)) se rt b = 4) n), hp κ') ∧ same [86, 87, 88] [(69, 38)] κ κ' ∧ hk_I κ' 69 38 = n3 (u + 1) ∧ (∀ s, s < 5400 → ∃ k, k ≤ u + 1 ∧ hk_A κ' 86 s = n3 k) ∧ (∀ b, b < n → hk_A κ' 87 b = n3 (howG (mkF (hk_A κ 71)) se rt b) ∧ hk_A κ' 88 b = seatR (se b)) := by
  unfold fX12_standing nX12_standing_0
  simp (maxSteps := 400000) (disch := omega) only [n3_l, n3_add, n3_mul, n3_sub, n3_subn, n3_lt, n3_le, n3_eq, n3_eqn, n3_neq, n3_and, n3_or, n3_shl, n3_i, n3_cl, ↓hbd_0, ↓hbd_1, ↓hbd_2, hk_ob_0, hk_rd_0, hk_rd_1, hk_rd_2, hk_al_0, hk_al_1, h3r_0, h3r_1, hk_wi_0, hk_wj_0, h3w_0, h3w_1, h3v_0, hk_kI, hk_kJ, hk_kA, hk_kB, A_eq, A_ne, A_row, B_eq, B_ne, B_row, I_eq, I_ne, J_eq, J_ne, Option.bind_some, Option.some.injEq, if_true, if_false, eq_self, true_or, or_true, true_and, and_true, false_or, or_false, not_true_eq_false, not_false_eq_true, Classical.not_not, nar_b0, nar_b1, rz_0, rz_1, rz_i, ite01, Nat.add_zero, Nat.zero_add, Nat.one_mul, mul12, reduceIte, ra_z0, Nat.reduceEqDiff, Nat.reduceLT, Nat.reduceLeDiff, Nat.reduceAdd, Nat.reduceMul, Nat.reduceSub, Nat.reduceDiv, Nat.reduceMod, Bool.false_eq_true, false_and, and_false, reduceCtorEq, hu]
  obtain ⟨m', ⟨x', s'⟩, e, i1, i2, i3, i4, i5⟩ := lpx (fun m b (s : Int32 × hk_T) => nX12_standing_16 N m 69 (n3 fi) (n3 sc) (n3 y) s.1 (n3 b) (hp s.2)) n
    (fun b r => same [86, 87, 88] [(69, 38)] κ r.2 ∧ hk_I r.2 69 38 = n3 (u + 1) ∧ (∀ s, s < 5400 → ∃ k, k ≤ u + 1 ∧ hk_A r.2 86 s = n3 k ∧ (k = u + 1 ↔ ∃ b' s', b' < b ∧ rsG se rt b' = some s' ∧ s = rnum s')) ∧ (∀ b', b' < b → hk_A r.2 87 b' = n3 (howG (mkF (hk_A κ 71)) se rt b') ∧ hk_A r.2 88 b' = seatR (se b')) ∧ r.1 = n3 (cnt (fun b => howG (mkF (hk_A κ 71)) se rt b = 4) b)) (by
      rintro m b ⟨x, r⟩ hb ⟨i1, i2, i3, i4, i5⟩
      dsimp only at i1 i2 i3 i4 i5 ⊢
      subst i5
      have c1 := cnt_le (fun b => howG (mkF (hk_A κ 71)) se rt b = 4) b
      have eR : hk_A r 71 = hk_A κ 71 := i1.1 71 (by decide)
      have e84 : hk_A r 84 = hk_A κ 84 := i1.1 84 (by decide)
      have e85 : hk_A r 85 = hk_A κ 85 := i1.1 85 (by decide)
      obtain ⟨hs1, hs2⟩ := hs b hb
      -- the scheme that counts
      obtain ⟨g, hg8, hg⟩ : ∃ g, g < 8 ∧ g = (if hk_A κ 71 (12 * b + 2) < n3 y then fi else sc) := ⟨_, by split <;> omega, rfl⟩
      rw [← hg] at hs1 hs2
      have step : nX12_standing_16 N (m + 1) 69 (n3 fi) (n3 sc) (n3 y) (n3 (cnt (fun b => howG (mkF (hk_A κ 71)) se rt b = 4) b)) (n3 b) (hp r) = nX12_standing_52 N (nX12_standing_16 N m) 69 (n3 fi) (n3 sc) (n3 y) (n3 (cnt (fun b => howG (mkF (hk_A κ 71)) se rt b = 4) b)) (n3 b) (n3 40) (n3 g) (hp r) := by
        rw [nX12_standing_16]
        simp (maxSteps := 400000) (disch := omega) only [n3_l, n3_add, n3_mul, n3_sub, n3_subn, n3_lt, n3_le, n3_eq, n3_eqn, n3_neq, n3_and, n3_or, n3_shl, n3_i, n3_cl, ↓hbd_0, ↓hbd_1, ↓hbd_2, hk_ob_0, hk_rd_0, hk_rd_1, hk_rd_2, hk_al_0, hk_al_1, h3r_0, h3r_1, hk_wi_0, hk_wj_0, h3w_0, h3w_1, h3v_0, hk_kI, hk_kJ, hk_kA, hk_kB, A_eq, A_ne, A_row, B_eq, B_ne, B_row, I_eq, I_ne, J_eq, J_ne, Option.bind_some, Option.some.injEq, if_true, if_false, eq_self, true_or, or_true, true_and, and_true, false_or, or_false, not_true_eq_false, not_false_eq_true, Classical.not_not, nar_b0, nar_b1, rz_0, rz_1, rz_i, ite01, Nat.add_zero, Nat.zero_add, Nat.one_mul, mul12, reduceIte, ra_z0, Nat.reduceEqDiff, Nat.reduceLT, Nat.reduceLeDiff, Nat.reduceAdd, Nat.reduceMul, Nat.reduceSub, Nat.reduceDiv, Nat.reduceMod, Bool.false_eq_true, false_and, and_false, reduceCtorEq, eR, hB, hb]
        rw [hg]
        split <;> rfl
      -- what is found
      have fin : ∀ hw : Nat, hw ≤ 4 → howG (mkF (hk_A κ 71)) se rt b = hw → (hw = 4 → ∃ s, se b = some s ∧ s < 5346 ∧ rsG se rt b = some s) → (hw ≠ 4 → ∀ s, rsG se rt b = some s → ∃ b', b' < b ∧ rsG se rt b' = some s) →
          nX12_standing_52 N (nX12_standing_16 N m) 69 (n3 fi) (n3 sc) (n3 y) (n3 (cnt (fun b => howG (mkF (hk_A κ 71)) se rt b = 4) b)) (n3 b) (n3 40) (n3 g) (hp r) = nX12_standing_147 N (nX12_standing_16 N m) 69 (n3 fi) (n3 sc) (n3 y) (n3 (cnt (fun b => howG (mkF (hk_A κ 71)) se rt b = 4) b)) (n3 b) (seatR (se b)) 87 (n3 b) (n3 hw) (hp (hk_wA r 88 b (seatR (se b)))) →
          ∃ s' : Int32 × hk_T, nX12_standing_16 N (m + 1) 69 (n3 fi) (n3 sc) (n3 y) (n3 (cnt (fun b => howG (mkF (hk_A κ 71)) se rt b = 4) b)) (n3 b) (hp r) = nX12_standing_16 N m 69 (n3 fi) (n3 sc) (n3 y) s'.1 (n3 (b + 1)) (hp s'.2) ∧ same [86, 87, 88] [(69, 38)] κ s'.2 ∧ hk_I s'.2 69 38 = n3 (u + 1) ∧ (∀ s, s < 5400 → ∃ k, k ≤ u + 1 ∧ hk_A s'.2 86 s = n3 k ∧ (k = u + 1 ↔ ∃ b' s', b' < b + 1 ∧ rsG se rt b' = some s' ∧ s = rnum s')) ∧ (∀ b', b' < b + 1 → hk_A s'.2 87 b' = n3 (howG (mkF (hk_A κ 71)) se rt b') ∧ hk_A s'.2 88 b' = seatR (se b')) ∧ s'.1 = n3 (cnt (fun b => howG (mkF (hk_A κ 71)) se rt b = 4) (b + 1)) := by
        intro hw hw4 hh h4 hn4 run
        rw [step, run]
        by_cases c4 : hw = 4
        · subst c4
          obtain ⟨s, q1, q2, q3⟩ := h4 rfl
          have hrl := rnum_lt q2
          refine ⟨(n3 (cnt (fun b => howG (mkF (hk_A κ 71)) se rt b = 4) b + 1), hk_wA (hk_wA (hk_wA r 88 b (seatR (se b))) 87 b (n3 4)) 86 (rnum s) (n3 (u + 1))), ?_, ((i1.wA (by decide)).wA (by decide)).wA (by decide), by simp (maxSteps := 400000) (disch := omega) only [n3_l, n3_add, n3_mul, n3_sub, n3_subn, n3_lt, n3_le, n3_eq, n3_eqn, n3_neq, n3_and, n3_or, n3_shl, n3_i, n3_cl, ↓hbd_0, ↓hbd_1, ↓hbd_2, hk_ob_0, hk_rd_0, hk_rd_1, hk_rd_2, hk_al_0, hk_al_1, h3r_0, h3r_1, hk_wi_0, hk_wj_0, h3w_0, h3w_1, h3v_0, hk_kI, hk_kJ, hk_kA, hk_kB, A_eq, A_ne, A_row, B_eq, B_ne, B_row, I_eq, I_ne, J_eq, J_ne, Option.bind_some, Option.some.injEq, if_true, if_false, eq_self, true_or, or_true, true_and, and_true, false_or, or_false, not_true_eq_false, not_false_eq_true, Classical.not_not, nar_b0, nar_b1, rz_0, rz_1, rz_i, ite01, Nat.add_zero, Nat.zero_add, Nat.one_mul, mul12, reduceIte, ra_z0, Nat.reduceEqDiff, Nat.reduceLT, Nat.reduceLeDiff, Nat.reduceAdd, Nat.reduceMul, Nat.reduceSub, Nat.reduceDiv, Nat.reduceMod, Bool.false_eq_true, false_and, and_false, reduceCtorEq, i2], ?_, ?_, ?_⟩
          · unfold nX12_standing_147 nX12_standing_173
            rw [q1, seatR_some]
            simp (maxSteps := 400000) (disch := omega) only [n3_l, n3_add, n3_mul, n3_sub, n3_subn, n3_lt, n3_le, n3_eq, n3_eqn, n3_neq, n3_and, n3_or, n3_shl, n3_i, n3_cl, ↓hbd_0, ↓hbd_1, ↓hbd_2, hk_ob_0, hk_rd_0, hk_rd_1, hk_rd_2, hk_al_0, hk_al_1, h3r_0, h3r_1, hk_wi_0, hk_wj_0, h3w_0, h3w_1, h3v_0, hk_kI, hk_kJ, hk_kA, hk_kB, A_eq, A_ne, A_row, B_eq, B_ne, B_row, I_eq, I_ne, J_eq, J_ne, Option.bind_some, Option.some.injEq, if_true, if_false, eq_self, true_or, or_true, true_and, and_true, false_or, or_false, not_true_eq_false, not_false_eq_true, Classical.not_not, nar_b0, nar_b1, rz_0, rz_1, rz_i, ite01, Nat.add_zero, Nat.zero_add, Nat.one_mul, mul12, reduceIte, ra_z0, Nat.reduceEqDiff, Nat.reduceLT, Nat.reduceLeDiff, Nat.reduceAdd, Nat.reduceMul, Nat.reduceSub, Nat.reduceDiv, Nat.reduceMod, Bool.false_eq_true, false_and, and_false, reduceCtorEq, i2]
          · intro z hz
            by_cases ez : z = rnum s
            · exact ⟨u + 1, by omega, by simp (maxSteps := 400000) (disch := omega) only [n3_l, n3_add, n3_mul, n3_sub, n3_subn, n3_lt, n3_le, n3_eq, n3_eqn, n3_neq, n3_and, n3_or, n3_shl, n3_i, n3_cl, ↓hbd_0, ↓hbd_1, ↓hbd_2, hk_ob_0, hk_rd_0, hk_rd_1, hk_rd_2, hk_al_0, hk_al_1, h3r_0, h3r_1, hk_wi_0, hk_wj_0, h3w_0, h3w_1, h3v_0, hk_kI, hk_kJ, hk_kA, hk_kB, A_eq, A_ne, A_row, B_eq, B_ne, B_row, I_eq, I_ne, J_eq, J_ne, Option.bind_some, Option.some.injEq, if_true, if_false, eq_self, true_or, or_true, true_and, and_true, false_or, or_false, not_true_eq_false, not_false_eq_true, Classical.not_not, nar_b0, nar_b1, rz_0, rz_1, rz_i, ite01, Nat.add_zero, Nat.zero_add, Nat.one_mul, mul12, reduceIte, ra_z0, Nat.reduceEqDiff, Nat.reduceLT, Nat.reduceLeDiff, Nat.reduceAdd, Nat.reduceMul, Nat.reduceSub, Nat.reduceDiv, Nat.reduceMod, Bool.false_eq_true, false_and, and_false, reduceCtorEq], by
                constructor
                · intro _; exact ⟨b, s, by omega, q3, ez⟩
                · intro _; rfl⟩
            · obtain ⟨k, k1, k2, k3⟩ := i3 z hz
              refine ⟨k, k1, by simp (maxSteps := 400000) (disch := omega) only [n3_l, n3_add, n3_mul, n3_sub, n3_subn, n3_lt, n3_le, n3_eq, n3_eqn, n3_neq, n3_and, n3_or, n3_shl, n3_i, n3_cl, ↓hbd_0, ↓hbd_1, ↓hbd_2, hk_ob_0, hk_rd_0, hk_rd_1, hk_rd_2, hk_al_0, hk_al_1, h3r_0, h3r_1, hk_wi_0, hk_wj_0, h3w_0, h3w_1, h3v_0, hk_kI, hk_kJ, hk_kA, hk_kB, A_eq, A_ne, A_row, B_eq, B_ne, B_row, I_eq, I_ne, J_eq, J_ne, Option.bind_some, Option.some.injEq, if_true, if_false, eq_self, true_or, or_true, true_and, and_true, false_or, or_false, not_true_eq_false, not_false_eq_true, Classical.not_not, nar_b0, nar_b1, rz_0, rz_1, rz_i, ite01, Nat.add_zero, Nat.zero_add, Nat.one_mul, mul12, reduceIte, ra_z0, Nat.reduceEqDiff, Nat.reduceLT, Nat.reduceLeDiff, Nat.reduceAdd, Nat.reduceMul, Nat.reduceSub, Nat.reduceDiv, Nat.reduceMod, Bool.false_eq_true, false_and, and_false, reduceCtorEq, k2], ?_⟩
              rw [k3]
              constructor
              · rintro ⟨b', s', a1, a2, a3⟩; exact ⟨b', s', by omega, a2, a3⟩
              · rintro ⟨b', s', a1, a2, a3⟩
                by_cases eb : b' = b
                · subst eb; rw [q3] at a2; cases a2; exact absurd a3 ez
                · exact ⟨b', s', by omega, a2, a3⟩
          · intro b' hb'
            by_cases eb : b' = b
            · subst eb; rw [hh]; constructor <;> simp (maxSteps := 400000) (disch := omega) only [n3_l, n3_add, n3_mul, n3_sub, n3_subn, n3_lt, n3_le, n3_eq, n3_eqn, n3_neq, n3_and, n3_or, n3_shl, n3_i, n3_cl, ↓hbd_0, ↓hbd_1, ↓hbd_2, hk_ob_0, hk_rd_0, hk_rd_1, hk_rd_2, hk_al_0, hk_al_1, h3r_0, h3r_1, hk_wi_0, hk_wj_0, h3w_0, h3w_1, h3v_0, hk_kI, hk_kJ, hk_kA, hk_kB, A_eq, A_ne, A_row, B_eq, B_ne, B_row, I_eq, I_ne, J_eq, J_ne, Option.bind_some, Option.some.injEq, if_true, if_false, eq_self, true_or, or_true, true_and, and_true, false_or, or_false, not_true_eq_false, not_false_eq_true, Classical.not_not, nar_b0, nar_b1, rz_0, rz_1, rz_i, ite01, Nat.add_zero, Nat.zero_add, Nat.one_mul, mul12, reduceIte, ra_z0, Nat.reduceEqDiff, Nat.reduceLT, Nat.reduceLeDiff, Nat.reduceAdd, Nat.reduceMul, Nat.reduceSub, Nat.reduceDiv, Nat.reduceMod, Bool.false_eq_true, false_and, and_false, reduceCtorEq]
            · have := i4 b' (by omega)
              constructor
              · simp (maxSteps := 400000) (disch := omega) only [n3_l, n3_add, n3_mul, n3_sub, n3_subn, n3_lt, n3_le, n3_eq, n3_eqn, n3_neq, n3_and, n3_or, n3_shl, n3_i, n3_cl, ↓hbd_0, ↓hbd_1, ↓hbd_2, hk_ob_0, hk_rd_0, hk_rd_1, hk_rd_2, hk_al_0, hk_al_1, h3r_0, h3r_1, hk_wi_0, hk_wj_0, h3w_0, h3w_1, h3v_0, hk_kI, hk_kJ, hk_kA, hk_kB, A_eq, A_ne, A_row, B_eq, B_ne, B_row, I_eq, I_ne, J_eq, J_ne, Option.bind_some, Option.some.injEq, if_true, if_false, eq_self, true_or, or_true, true_and, and_true, false_or, or_false, not_true_eq_false, not_false_eq_true, Classical.not_not, nar_b0, nar_b1, rz_0, rz_1, rz_i, ite01, Nat.add_zero, Nat.zero_add, Nat.one_mul, mul12, reduceIte, ra_z0, Nat.reduceEqDiff, Nat.reduceLT, Nat.reduceLeDiff, Nat.reduceAdd, Nat.reduceMul, Nat.reduceSub, Nat.reduceDiv, Nat.reduceMod, Bool.false_eq_true, false_and, and_false, reduceCtorEq, this.1]
              · simp (maxSteps := 400000) (disch := omega) only [n3_l, n3_add, n3_mul, n3_sub, n3_subn, n3_lt, n3_le, n3_eq, n3_eqn, n3_neq, n3_and, n3_or, n3_shl, n3_i, n3_cl, ↓hbd_0, ↓hbd_1, ↓hbd_2, hk_ob_0, hk_rd_0, hk_rd_1, hk_rd_2, hk_al_0, hk_al_1, h3r_0, h3r_1, hk_wi_0, hk_wj_0, h3w_0, h3w_1, h3v_0, hk_kI, hk_kJ, hk_kA, hk_kB, A_eq, A_ne, A_row, B_eq, B_ne, B_row, I_eq, I_ne, J_eq, J_ne, Option.bind_some, Option.some.injEq, if_true, if_false, eq_self, true_or, or_true, true_and, and_true, false_or, or_false, not_true_eq_false, not_false_eq_true, Classical.not_not, nar_b0, nar_b1, rz_0, rz_1, rz_i, ite01, Nat.add_zero, Nat.zero_add, Nat.one_mul, mul12, reduceIte, ra_z0, Nat.reduceEqDiff, Nat.reduceLT, Nat.reduceLeDiff, Nat.reduceAdd, Nat.reduceMul, Nat.reduceSub, Nat.reduceDiv, Nat.reduceMod, Bool.false_eq_true, false_and, and_false, reduceCtorEq, this.2]
          · rw [cnt, if_pos hh]
        · refine ⟨(n3 (cnt (fun b => howG (mkF (hk_A κ 71)) se rt b = 4) b), hk_wA (hk_wA r 88 b (seatR (se b))) 87 b (n3 hw)), ?_, (i1.wA (by decide)).wA (by decide), by simp (maxSteps := 400000) (disch := omega) only [n3_l, n3_add, n3_mul, n3_sub, n3_subn, n3_lt, n3_le, n3_eq, n3_eqn, n3_neq, n3_and, n3_or, n3_shl, n3_i, n3_cl, ↓hbd_0, ↓hbd_1, ↓hbd_2, hk_ob_0, hk_rd_0, hk_rd_1, hk_rd_2, hk_al_0, hk_al_1, h3r_0, h3r_1, hk_wi_0, hk_wj_0, h3w_0, h3w_1, h3v_0, hk_kI, hk_kJ, hk_kA, hk_kB, A_eq, A_ne, A_row, B_eq, B_ne, B_row, I_eq, I_ne, J_eq, J_ne, Option.bind_some, Option.some.injEq, if_true, if_false, eq_self, true_or, or_true, true_and, and_true, false_or, or_false, not_true_eq_false, not_false_eq_true, Classical.not_not, nar_b0, nar_b1, rz_0, rz_1, rz_i, ite01, Nat.add_zero, Nat.zero_add, Nat.one_mul, mul12, reduceIte, ra_z0, Nat.reduceEqDiff, Nat.reduceLT, Nat.reduceLeDiff, Nat.reduceAdd, Nat.reduceMul, Nat.reduceSub, Nat.reduceDiv, Nat.reduceMod, Bool.false_eq_true, false_and, and_false, reduceCtorEq, i2], ?_, ?_, ?_⟩
          · unfold nX12_standing_147 nX12_standing_173
            simp (maxSteps := 400000) (disch := omega) only [n3_l, n3_add, n3_mul, n3_sub, n3_subn, n3_lt, n3_le, n3_eq, n3_eqn, n3_neq, n3_and, n3_or, n3_shl, n3_i, n3_cl, ↓hbd_0, ↓hbd_1, ↓hbd_2, hk_ob_0, hk_rd_0, hk_rd_1, hk_rd_2, hk_al_0, hk_al_1, h3r_0, h3r_1, hk_wi_0, hk_wj_0, h3w_0, h3w_1, h3v_0, hk_kI, hk_kJ, hk_kA, hk_kB, A_eq, A_ne, A_row, B_eq, B_ne, B_row, I_eq, I_ne, J_eq, J_ne, Option.bind_some, Option.some.injEq, if_true, if_false, eq_self, true_or, or_true, true_and, and_true, false_or, or_false, not_true_eq_false, not_false_eq_true, Classical.not_not, nar_b0, nar_b1, rz_0, rz_1, rz_i, ite01, Nat.add_zero, Nat.zero_add, Nat.one_mul, mul12, reduceIte, ra_z0, Nat.reduceEqDiff, Nat.reduceLT, Nat.reduceLeDiff, Nat.reduceAdd, Nat.reduceMul, Nat.reduceSub, Nat.reduceDiv, Nat.reduceMod, Bool.false_eq_true, false_and, and_false, reduceCtorEq, c4]
          · intro z hz
            obtain ⟨k, k1, k2, k3⟩ := i3 z hz
            refine ⟨k, k1, by simp (maxSteps := 400000) (disch := omega) only [n3_l, n3_add, n3_mul, n3_sub, n3_subn, n3_lt, n3_le, n3_eq, n3_eqn, n3_neq, n3_and, n3_or, n3_shl, n3_i, n3_cl, ↓hbd_0, ↓hbd_1, ↓hbd_2, hk_ob_0, hk_rd_0, hk_rd_1, hk_rd_2, hk_al_0, hk_al_1, h3r_0, h3r_1, hk_wi_0, hk_wj_0, h3w_0, h3w_1, h3v_0, hk_kI, hk_kJ, hk_kA, hk_kB, A_eq, A_ne, A_row, B_eq, B_ne, B_row, I_eq, I_ne, J_eq, J_ne, Option.bind_some, Option.some.injEq, if_true, if_false, eq_self, true_or, or_true, true_and, and_true, false_or, or_false, not_true_eq_false, not_false_eq_true, Classical.not_not, nar_b0, nar_b1, rz_0, rz_1, rz_i, ite01, Nat.add_zero, Nat.zero_add, Nat.one_mul, mul12, reduceIte, ra_z0, Nat.reduceEqDiff, Nat.reduceLT, Nat.reduceLeDiff, Nat.reduceAdd, Nat.reduceMul, Nat.reduceSub, Nat.reduceDiv, Nat.reduceMod, Bool.false_eq_true, false_and, and_false, reduceCtorEq, k2], ?_⟩
            rw [k3]
            constructor
            · rintro ⟨b', s', a1, a2, a3⟩; exact ⟨b', s', by omega, a2, a3⟩
            · rintro ⟨b', s', a1, a2, a3⟩
              by_cases eb : b' = b
              · subst eb
                obtain ⟨b2, d1, d2⟩ := hn4 c4 s' a2
                exact ⟨b2, s', d1, d2, a3⟩
              · exact ⟨b', s', by omega, a2, a3⟩
          · intro b' hb'
            by_cases eb : b' = b
            · subst eb; rw [hh]; constructor <;> simp (maxSteps := 400000) (disch := omega) only [n3_l, n3_add, n3_mul, n3_sub, n3_subn, n3_lt, n3_le, n3_eq, n3_eqn, n3_neq, n3_and, n3_or, n3_shl, n3_i, n3_cl, ↓hbd_0, ↓hbd_1, ↓hbd_2, hk_ob_0, hk_rd_0, hk_rd_1, hk_rd_2, hk_al_0, hk_al_1, h3r_0, h3r_1, hk_wi_0, hk_wj_0, h3w_0, h3w_1, h3v_0, hk_kI, hk_kJ, hk_kA, hk_kB, A_eq, A_ne, A_row, B_eq, B_ne, B_row, I_eq, I_ne, J_eq, J_ne, Option.bind_some, Option.some.injEq, if_true, if_false, eq_self, true_or, or_true, true_and, and_true, false_or, or_false, not_true_eq_false, not_false_eq_true, Classical.not_not, nar_b0, nar_b1, rz_0, rz_1, rz_i, ite01, Nat.add_zero, Nat.zero_add, Nat.one_mul, mul12, reduceIte, ra_z0, Nat.reduceEqDiff, Nat.reduceLT, Nat.reduceLeDiff, Nat.reduceAdd, Nat.reduceMul, Nat.reduceSub, Nat.reduceDiv, Nat.reduceMod, Bool.false_eq_true, false_and, and_false, reduceCtorEq]
            · have := i4 b' (by omega)
              constructor
              · simp (maxSteps := 400000) (disch := omega) only [n3_l, n3_add, n3_mul, n3_sub, n3_subn, n3_lt, n3_le, n3_eq, n3_eqn, n3_neq, n3_and, n3_or, n3_shl, n3_i, n3_cl, ↓hbd_0, ↓hbd_1, ↓hbd_2, hk_ob_0, hk_rd_0, hk_rd_1, hk_rd_2, hk_al_0, hk_al_1, h3r_0, h3r_1, hk_wi_0, hk_wj_0, h3w_0, h3w_1, h3v_0, hk_kI, hk_kJ, hk_kA, hk_kB, A_eq, A_ne, A_row, B_eq, B_ne, B_row, I_eq, I_ne, J_eq, J_ne, Option.bind_some, Option.some.injEq, if_true, if_false, eq_self, true_or, or_true, true_and, and_true, false_or, or_false, not_true_eq_false, not_false_eq_true, Classical.not_not, nar_b0, nar_b1, rz_0, rz_1, rz_i, ite01, Nat.add_zero, Nat.zero_add, Nat.one_mul, mul12, reduceIte, ra_z0, Nat.reduceEqDiff, Nat.reduceLT, Nat.reduceLeDiff, Nat.reduceAdd, Nat.reduceMul, Nat.reduceSub, Nat.reduceDiv, Nat.reduceMod, Bool.false_eq_true, false_and, and_false, reduceCtorEq, this.1]
              · simp (maxSteps := 400000) (disch := omega) only [n3_l, n3_add, n3_mul, n3_sub, n3_subn, n3_lt, n3_le, n3_eq, n3_eqn, n3_neq, n3_and, n3_or, n3_shl, n3_i, n3_cl, ↓hbd_0, ↓hbd_1, ↓hbd_2, hk_ob_0, hk_rd_0, hk_rd_1, hk_rd_2, hk_al_0, hk_al_1, h3r_0, h3r_1, hk_wi_0, hk_wj_0, h3w_0, h3w_1, h3v_0, hk_kI, hk_kJ, hk_kA, hk_kB, A_eq, A_ne, A_row, B_eq, B_ne, B_row, I_eq, I_ne, J_eq, J_ne, Option.bind_some, Option.some.injEq, if_true, if_false, eq_self, true_or, or_true, true_and, and_true, false_or, or_false, not_true_eq_false, not_false_eq_true, Classical.not_not, nar_b0, nar_b1, rz_0, rz_1, rz_i, ite01, Nat.add_zero, Nat.zero_add, Nat.one_mul, mul12, reduceIte, ra_z0, Nat.reduceEqDiff, Nat.reduceLT, Nat.reduceLeDiff, Nat.reduceAdd, Nat.reduceMul, Nat.reduceSub, Nat.reduceDiv, Nat.reduceMod, Bool.false_eq_true, false_and, and_false, reduceCtorEq, this.2]
          · rw [cnt, if_neg (by rw [hh]; exact c4)]; rfl
      have base : nX12_standing_52 N (nX12_standing_16 N m) 69 (n3 fi) (n3 sc) (n3 y) (n3 (cnt (fun b => howG (mkF (hk_A κ 71)) se rt b = 4) b)) (n3 b) (n3 40) (n3 g) (hp r) = if hk_A κ 71 (12 * b) = -n3 1 then nX12_standing_147 N (nX12_standing_16 N m) 69 (n3 fi) (n3 sc) (n3 y) (n3 (cnt (fun b => howG (mkF (hk_A κ 71)) se rt b = 4) b)) (n3 b) (seatR (se b)) 87 (n3 b) (n3 0) (hp (hk_wA r 88 b (seatR (se b)))) else if seatR (se b) = -n3 1 then nX12_standing_147 N (nX12_standing_16 N m) 69 (n3 fi) (n3 sc) (n3 y) (n3 (cnt (fun b => howG (mkF (hk_A κ 71)) se rt b = 4) b)) (n3 b) (seatR (se b)) 87 (n3 b) (n3 1) (hp (hk_wA r 88 b (seatR (se b)))) else if rsG se rt b = none then nX12_standing_147 N (nX12_standing_16 N m) 69 (n3 fi) (n3 sc) (n3 y) (n3 (cnt (fun b => howG (mkF (hk_A κ 71)) se rt b = 4) b)) (n3 b) (seatR (se b)) 87 (n3 b) (n3 2) (hp (hk_wA r 88 b (seatR (se b)))) else (if seatR (se b) < n3 0 then nX12_standing_134 N (nX12_standing_16 N m) 69 (n3 fi) (n3 sc) (n3 y) (n3 (cnt (fun b => howG (mkF (hk_A κ 71)) se rt b = 4) b)) (n3 b) (seatR (se b)) 87 (n3 b) 86 (n3 0) (hp (hk_wA r 88 b (seatR (se b)))) else nX12_standing_134 N (nX12_standing_16 N m) 69 (n3 fi) (n3 sc) (n3 y) (n3 (cnt (fun b => howG (mkF (hk_A κ 71)) se rt b = 4) b)) (n3 b) (seatR (se b)) 87 (n3 b) 86 (seatR (se b)) (hp (hk_wA r 88 b (seatR (se b))))) := by
        unfold nX12_standing_52
        simp (maxSteps := 400000) (disch := omega) only [n3_l, n3_add, n3_mul, n3_sub, n3_subn, n3_lt, n3_le, n3_eq, n3_eqn, n3_neq, n3_and, n3_or, n3_shl, n3_i, n3_cl, ↓hbd_0, ↓hbd_1, ↓hbd_2, hk_ob_0, hk_rd_0, hk_rd_1, hk_rd_2, hk_al_0, hk_al_1, h3r_0, h3r_1, hk_wi_0, hk_wj_0, h3w_0, h3w_1, h3v_0, hk_kI, hk_kJ, hk_kA, hk_kB, A_eq, A_ne, A_row, B_eq, B_ne, B_row, I_eq, I_ne, J_eq, J_ne, Option.bind_some, Option.some.injEq, if_true, if_false, eq_self, true_or, or_true, true_and, and_true, false_or, or_false, not_true_eq_false, not_false_eq_true, Classical.not_not, nar_b0, nar_b1, rz_0, rz_1, rz_i, ite01, Nat.add_zero, Nat.zero_add, Nat.one_mul, mul12, reduceIte, ra_z0, Nat.reduceEqDiff, Nat.reduceLT, Nat.reduceLeDiff, Nat.reduceAdd, Nat.reduceMul, Nat.reduceSub, Nat.reduceDiv, Nat.reduceMod, Bool.false_eq_true, false_and, and_false, reduceCtorEq, e84, hs1, r_hasMark, eR, e85, hs2]
        split
        · rfl
        · split
          · rfl
          · by_cases q : rsG se rt b = none
            · simp (maxSteps := 400000) (disch := omega) only [n3_l, n3_add, n3_mul, n3_sub, n3_subn, n3_lt, n3_le, n3_eq, n3_eqn, n3_neq, n3_and, n3_or, n3_shl, n3_i, n3_cl, ↓hbd_0, ↓hbd_1, ↓hbd_2, hk_ob_0, hk_rd_0, hk_rd_1, hk_rd_2, hk_al_0, hk_al_1, h3r_0, h3r_1, hk_wi_0, hk_wj_0, h3w_0, h3w_1, h3v_0, hk_kI, hk_kJ, hk_kA, hk_kB, A_eq, A_ne, A_row, B_eq, B_ne, B_row, I_eq, I_ne, J_eq, J_ne, Option.bind_some, Option.some.injEq, if_true, if_false, eq_self, true_or, or_true, true_and, and_true, false_or, or_false, not_true_eq_false, not_false_eq_true, Classical.not_not, nar_b0, nar_b1, rz_0, rz_1, rz_i, ite01, Nat.add_zero, Nat.zero_add, Nat.one_mul, mul12, reduceIte, ra_z0, Nat.reduceEqDiff, Nat.reduceLT, Nat.reduceLeDiff, Nat.reduceAdd, Nat.reduceMul, Nat.reduceSub, Nat.reduceDiv, Nat.reduceMod, Bool.false_eq_true, false_and, and_false, reduceCtorEq, q]
            · simp (maxSteps := 400000) (disch := omega) only [n3_l, n3_add, n3_mul, n3_sub, n3_subn, n3_lt, n3_le, n3_eq, n3_eqn, n3_neq, n3_and, n3_or, n3_shl, n3_i, n3_cl, ↓hbd_0, ↓hbd_1, ↓hbd_2, hk_ob_0, hk_rd_0, hk_rd_1, hk_rd_2, hk_al_0, hk_al_1, h3r_0, h3r_1, hk_wi_0, hk_wj_0, h3w_0, h3w_1, h3v_0, hk_kI, hk_kJ, hk_kA, hk_kB, A_eq, A_ne, A_row, B_eq, B_ne, B_row, I_eq, I_ne, J_eq, J_ne, Option.bind_some, Option.some.injEq, if_true, if_false, eq_self, true_or, or_true, true_and, and_true, false_or, or_false, not_true_eq_false, not_false_eq_true, Classical.not_not, nar_b0, nar_b1, rz_0, rz_1, rz_i, ite01, Nat.add_zero, Nat.zero_add, Nat.one_mul, mul12, reduceIte, ra_z0, Nat.reduceEqDiff, Nat.reduceLT, Nat.reduceLeDiff, Nat.reduceAdd, Nat.reduceMul, Nat.reduceSub, Nat.reduceDiv, Nat.reduceMod, Bool.false_eq_true, false_and, and_false, reduceCtorEq, q]
      by_cases hm : hk_A κ 71 (12 * b) = -n3 1
      · rw [if_pos hm] at base
        have hw : howG (mkF (hk_A κ 71)) se rt b = 0 := by unfold howG; rw [if_pos (by simp [mkF, hm])]
        have hr : rsG se rt b = none := by unfold rsG; rw [hse0 b hm]
        exact fin 0 (by omega) hw (fun z => by omega) (fun _ s z => by rw [hr] at z; cases z) base
      · rw [if_neg hm] at base
        have hmk : ¬ mkF (hk_A κ 71) b = false := by simp [mkF, hm]
        cases hq : se b with
        | none =>
          have e1 : seatR (se b) = -n3 1 := by rw [hq]; rfl
          rw [if_pos e1] at base
          have hw : howG (mkF (hk_A κ 71)) se rt b = 1 := by unfold howG; rw [if_neg hmk, hq]
          have hr : rsG se rt b = none := by unfold rsG; rw [hq]
          exact fin 1 (by omega) hw (fun z => by omega) (fun _ s z => by rw [hr] at z; cases z) base
        | some s =>
          have hs5 := hse b s hq
          have hrl := rnum_lt hs5
          have e1 : seatR (se b) = n3 (rnum s) := by rw [hq]; rfl
          have e2 : ¬ seatR (se b) = -n3 1 := by rw [e1]; exact fun z => (n3_eqn (by omega) (by omega) (by omega)).mp z
          have e3 : ¬ seatR (se b) < n3 0 := by rw [e1, n3_lt (by omega) (by omega)]; omega
          rw [if_neg e2, if_neg e3] at base
          by_cases hrt : rt b s = true
          · have hr : rsG se rt b = some s := by unfold rsG; rw [hq]; exact if_pos hrt
            rw [if_neg (by rw [hr]; simp)] at base
            obtain ⟨k, k1, k2, k3⟩ := i3 (rnum s) hrl
            have kk : (k = u + 1) ↔ ∃ b', b' < b ∧ rsG se rt b' = some s := by
              rw [k3]
              constructor
              · rintro ⟨b', s', a1, a2, a3⟩; rw [rnum_inj a3]; exact ⟨b', a1, a2⟩
              · rintro ⟨b', a1, a2⟩; exact ⟨b', s, a1, a2, rfl⟩
            have r134 : nX12_standing_134 N (nX12_standing_16 N m) 69 (n3 fi) (n3 sc) (n3 y) (n3 (cnt (fun b => howG (mkF (hk_A κ 71)) se rt b = 4) b)) (n3 b) (seatR (se b)) 87 (n3 b) 86 (seatR (se b)) (hp (hk_wA r 88 b (seatR (se b)))) = if k = u + 1 then nX12_standing_147 N (nX12_standing_16 N m) 69 (n3 fi) (n3 sc) (n3 y) (n3 (cnt (fun b => howG (mkF (hk_A κ 71)) se rt b = 4) b)) (n3 b) (seatR (se b)) 87 (n3 b) (n3 3) (hp (hk_wA r 88 b (seatR (se b)))) else nX12_standing_147 N (nX12_standing_16 N m) 69 (n3 fi) (n3 sc) (n3 y) (n3 (cnt (fun b => howG (mkF (hk_A κ 71)) se rt b = 4) b)) (n3 b) (seatR (se b)) 87 (n3 b) (n3 4) (hp (hk_wA r 88 b (seatR (se b)))) := by
              unfold nX12_standing_134
              simp only [e1]
              simp (maxSteps := 400000) (disch := omega) only [n3_l, n3_add, n3_mul, n3_sub, n3_subn, n3_lt, n3_le, n3_eq, n3_eqn, n3_neq, n3_and, n3_or, n3_shl, n3_i, n3_cl, ↓hbd_0, ↓hbd_1, ↓hbd_2, hk_ob_0, hk_rd_0, hk_rd_1, hk_rd_2, hk_al_0, hk_al_1, h3r_0, h3r_1, hk_wi_0, hk_wj_0, h3w_0, h3w_1, h3v_0, hk_kI, hk_kJ, hk_kA, hk_kB, A_eq, A_ne, A_row, B_eq, B_ne, B_row, I_eq, I_ne, J_eq, J_ne, Option.bind_some, Option.some.injEq, if_true, if_false, eq_self, true_or, or_true, true_and, and_true, false_or, or_false, not_true_eq_false, not_false_eq_true, Classical.not_not, nar_b0, nar_b1, rz_0, rz_1, rz_i, ite01, Nat.add_zero, Nat.zero_add, Nat.one_mul, mul12, reduceIte, ra_z0, Nat.reduceEqDiff, Nat.reduceLT, Nat.reduceLeDiff, Nat.reduceAdd, Nat.reduceMul, Nat.reduceSub, Nat.reduceDiv, Nat.reduceMod, Bool.false_eq_true, false_and, and_false, reduceCtorEq, k2, i2]
            rw [r134] at base
            by_cases hx : ∃ b', b' < b ∧ rsG se rt b' = some s
            · rw [if_pos (kk.mpr hx)] at base
              have hw : howG (mkF (hk_A κ 71)) se rt b = 3 := by unfold howG; rw [if_neg hmk, hq]; dsimp only; rw [if_pos hrt, if_pos hx]
              exact fin 3 (by omega) hw (fun z => by omega) (fun _ s' z => by rw [hr] at z; cases z; exact hx) base
            · rw [if_neg (fun z => hx (kk.mp z))] at base
              have hw : howG (mkF (hk_A κ 71)) se rt b = 4 := by unfold howG; rw [if_neg hmk, hq]; dsimp only; rw [if_pos hrt, if_neg hx]
              exact fin 4 (by omega) hw (fun _ => ⟨s, hq, hs5, hr⟩) (fun z => absurd rfl z) base
          · have hr : rsG se rt b = none := by unfold rsG; rw [hq]; exact if_neg hrt
            rw [if_pos hr] at base
            have hw : howG (mkF (hk_A κ 71)) se rt b = 2 := by unfold howG; rw [if_neg hmk, hq]; dsimp only; rw [if_neg hrt]
            exact fin 2 (by omega) hw (fun z => by omega) (fun _ s' z => by rw [hr] at z; cases z) base) n 0 N (n3 0, hk_wI κ 69 38 (n3 (u + 1))) (by omega) (by omega) ⟨(same.refl _ _ _).wI (by decide), by simp (maxSteps := 400000) (disch := omega) only [n3_l, n3_add, n3_mul, n3_sub, n3_subn, n3_lt, n3_le, n3_eq, n3_eqn, n3_neq, n3_and, n3_or, n3_shl, n3_i, n3_cl, ↓hbd_0, ↓hbd_1, ↓hbd_2, hk_ob_0, hk_rd_0, hk_rd_1, hk_rd_2, hk_al_0, hk_al_1, h3r_0, h3r_1, hk_wi_0, hk_wj_0, h3w_0, h3w_1, h3v_0, hk_kI, hk_kJ, hk_kA, hk_kB, A_eq, A_ne, A_row, B_eq, B_ne, B_row, I_eq, I_ne, J_eq, J_ne, Option.bind_some, Option.some.injEq, if_true, if_false, eq_self, true_or, or_true, true_and, and_true, false_or, or_false, not_true_eq_false, not_false_eq_true, Classical.not_not, nar_b0, nar_b1, rz_0, rz_1, rz_i, ite01, Nat.add_zero, Nat.zero_add, Nat.one_mul, mul12, reduceIte, ra_z0, Nat.reduceEqDiff, Nat.reduceLT, Nat.reduceLeDiff, Nat.reduceAdd, Nat.reduceMul, Nat.reduceSub, Nat.reduceDiv, Nat.reduceMod, Bool.false_eq_true, false_and, and_false, reduceCtorEq], fun s hs => by
        obtain ⟨k, k1, k2⟩ := ht s hs
        exact ⟨k, by omega, by simp (maxSteps := 400000) (disch := omega) only [n3_l, n3_add, n3_mul, n3_sub, n3_subn, n3_lt, n3_le, n3_eq, n3_eqn, n3_neq, n3_and, n3_or, n3_shl, n3_i, n3_cl, ↓hbd_0, ↓hbd_1, ↓hbd_2, hk_ob_0, hk_rd_0, hk_rd_1, hk_rd_2, hk_al_0, hk_al_1, h3r_0, h3r_1, hk_wi_0, hk_wj_0, h3w_0, h3w_1, h3v_0, hk_kI, hk_kJ, hk_kA, hk_kB, A_eq, A_ne, A_row, B_eq, B_ne, B_row, I_eq, I_ne, J_eq, J_ne, Option.bind_some, Option.some.injEq, if_true, if_false, eq_self, true_or, or_true, true_and, and_true, false_or, or_false, not_true_eq_false, not_false_eq_true, Classical.not_not, nar_b0, nar_b1, rz_0, rz_1, rz_i, ite01, Nat.add_zero, Nat.zero_add, Nat.one_mul, mul12, reduceIte, ra_z0, Nat.reduceEqDiff, Nat.reduceLT, Nat.reduceLeDiff, Nat.reduceAdd, Nat.reduceMul, Nat.reduceSub, Nat.reduceDiv, Nat.reduceMod, Bool.false_eq_true, false_and, and_false, reduceCtorEq, k2], ⟨fun z => by omega, fun ⟨b', s', z, _⟩ => by omega⟩⟩, fun b' hb' => by omega, rfl⟩
  dsimp only at i1 i2 i3 i4 i5
  subst i5
  refine ⟨s', ?_, i1, i2, fun s hs => ?_, i4⟩
  · rw [e, nX12_standing_16]
    simp (maxSteps := 400000) (disch := omega) only [n3_l, n3_add, n3_mul, n3_sub, n3_subn, n3_lt, n3_le, n3_eq, n3_eqn, n3_neq, n3_and, n3_or, n3_shl, n3_i, n3_cl, ↓hbd_0, ↓hbd_1, ↓hbd_2, hk_ob_0, hk_rd_0, hk_rd_1, hk_rd_2, hk_al_0, hk_al_1, h3r_0, h3r_1, hk_wi_0, hk_wj_0, h3w_0, h3w_1, h3v_0, hk_kI, hk_kJ, hk_kA, hk_kB, A_eq, A_ne, A_row, B_eq, B_ne, B_row, I_eq, I_ne, J_eq, J_ne, Option.bind_some, Option.some.injEq, if_true, if_false, eq_self, true_or, or_true, true_and, and_true, false_or, or_false, not_true_eq_false, not_false_eq_true, Classical.not_not, nar_b0, nar_b1, rz_0, rz_1, rz_i, ite01, Nat.add_zero, Nat.zero_add, Nat.one_mul, mul12, reduceIte, ra_z0, Nat.reduceEqDiff, Nat.reduceLT, Nat.reduceLeDiff, Nat.reduceAdd, Nat.reduceMul, Nat.reduceSub, Nat.reduceDiv, Nat.reduceMod, Bool.false_eq_true, false_and, and_false, reduceCtorEq, i1.1 71 (by decide), hB, Nat.lt_irrefl]
  · obtain ⟨k, k1, k2, -⟩ := i3 s hs
    exact ⟨k, k1, k2⟩
end
