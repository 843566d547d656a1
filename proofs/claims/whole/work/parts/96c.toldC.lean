/-! told: the class -/
def vOne : valT := fun _ => some 1
/-- what clauses tell: hd heads, sv sums, tv tests; the last that tells -/
def tauC (hd : Nat → Nat) (sv tv : Nat → valT) : Nat → tauT
  | 0, _, _ => none
  | n + 1, h, X => if hd n = h ∧ tv n X = some 1 then (match sv n X with
    | some a => some a
    | none => tauC hd sv tv n h X) else tauC hd sv tv n h X
theorem tauC_ok {hd : Nat → Nat} {sv tv : Nat → valT} : ∀ n, (∀ i, i < n → vO (sv i)) → tauOk (tauC hd sv tv n) := by
  intro n
  induction n with
  | zero => intro _ h X v e; cases e
  | succ n ih =>
    intro ho h X v e
    have ih' := ih (fun i hi => ho i (by omega)) h X v
    rw [tauC] at e
    split at e
    · split at e
      · rename_i a ha
        have := Option.some.inj e
        have := ho n (by omega) X a ha
        omega
      · exact ih' e
    · exact ih' e
/-- a piece, or nothing -/
def cPc (K : Nat → Nat) (f t : Nat) (v : valT) : Prop := (∃ d, d ≤ 50 ∧ cFr K f t d v) ∨ (f = t ∧ v = vOne)
section
variable (N : Nat) (κ : hk_T)
theorem c_piece {K : Nat → Nat} {cc len bk f t : Nat} {v : valT} (hc : 101 ≤ cc) (hD : hk_D κ cc = dC 0 len (fun i => n3 (K i))) (hl : len ≤ 400) (ht : t ≤ len) (hb : bk < 40) (hX : factsOk (fx (hk_A κ 2) bk)) (hp' : cPc K f t v) (hN : 1000 < N) :
    ∃ κ', fX0_reckonAll N 21 cc (n3 f) (n3 t) 2 (n3 (12 * bk)) (hp κ) = some (tellI (v (fx (hk_A κ 2) bk)), hp κ') ∧ same [22] [] κ κ' := by
  have st : fX0_reckonAll N 21 cc (n3 f) (n3 t) 2 (n3 (12 * bk)) (hp κ) = cLo N N cc t bk 0 f κ := by
    unfold cLo fX0_reckonAll nX0_reckonAll_0
    have e : dn 0 = -n3 1 := rfl
    simp (maxSteps := 400000) (disch := omega) only [n3_l, n3_add, n3_mul, n3_sub, n3_subn, n3_lt, n3_le, n3_eq, n3_eqn, n3_neq, n3_and, n3_or, n3_shl, n3_i, n3_cl, ↓hbd_0, ↓hbd_1, ↓hbd_2, hk_ob_0, hk_rd_0, hk_rd_1, hk_rd_2, hk_al_0, hk_al_1, h3r_0, h3r_1, hk_wi_0, hk_wj_0, h3w_0, h3w_1, h3v_0, hk_kI, hk_kJ, hk_kA, hk_kB, A_eq, A_ne, A_row, B_eq, B_ne, B_row, I_eq, I_ne, J_eq, J_ne, Option.bind_some, Option.some.injEq, if_true, if_false, eq_self, true_or, or_true, true_and, and_true, false_or, or_false, not_true_eq_false, not_false_eq_true, Classical.not_not, nar_b0, nar_b1, rz_0, rz_1, rz_i, ite01, Nat.add_zero, Nat.zero_add, Nat.one_mul, mul12, reduceIte, ra_z0, Nat.reduceEqDiff, Nat.reduceLT, Nat.reduceLeDiff, Nat.reduceAdd, Nat.reduceMul, Nat.reduceSub, Nat.reduceDiv, Nat.reduceMod, Bool.false_eq_true, false_and, and_false, reduceCtorEq, e]
  rw [st]
  rcases hp' with ⟨d, hd, hF⟩ | ⟨e, e2⟩
  · obtain ⟨κ', r1, r2, r3, r4⟩ := hF.2.2 N N κ cc t bk 0 ⟨hc, ⟨len, _, hD, hl, ht, fun i _ _ => rfl⟩, Nat.le_refl _, hb, hX⟩ (by omega) (by omega)
    cases hv : v (fx (hk_A κ 2) bk) with
    | none => exact ⟨κ', r4 hv, r1⟩
    | some a =>
      obtain ⟨r5, m', r6, r7⟩ := r3 a hv
      obtain ⟨m', rfl⟩ : ∃ j, m' = j + 1 := ⟨m' - 1, by have := hF.1; omega⟩
      refine ⟨κ', ?_, r1⟩
      rw [r7]
      unfold cLo
      rw [nX0_reckonAll_6, dn_succ]
      have e : tellI (some a) = z3 a := rfl
      simp (maxSteps := 400000) (disch := omega) only [n3_l, n3_add, n3_mul, n3_sub, n3_subn, n3_lt, n3_le, n3_eq, n3_eqn, n3_neq, n3_and, n3_or, n3_shl, n3_i, n3_cl, ↓hbd_0, ↓hbd_1, ↓hbd_2, hk_ob_0, hk_rd_0, hk_rd_1, hk_rd_2, hk_al_0, hk_al_1, h3r_0, h3r_1, hk_wi_0, hk_wj_0, h3w_0, h3w_1, h3v_0, hk_kI, hk_kJ, hk_kA, hk_kB, A_eq, A_ne, A_row, B_eq, B_ne, B_row, I_eq, I_ne, J_eq, J_ne, Option.bind_some, Option.some.injEq, if_true, if_false, eq_self, true_or, or_true, true_and, and_true, false_or, or_false, not_true_eq_false, not_false_eq_true, Classical.not_not, nar_b0, nar_b1, rz_0, rz_1, rz_i, ite01, Nat.add_zero, Nat.zero_add, Nat.one_mul, mul12, reduceIte, ra_z0, Nat.reduceEqDiff, Nat.reduceLT, Nat.reduceLeDiff, Nat.reduceAdd, Nat.reduceMul, Nat.reduceSub, Nat.reduceDiv, Nat.reduceMod, Bool.false_eq_true, false_and, and_false, reduceCtorEq, Nat.lt_irrefl, r5, nX0_reckonAll_276, e]
  · subst e
    obtain ⟨N', hN'⟩ : ∃ N', N = N' + 1 := ⟨N - 1, by omega⟩
    refine ⟨κ, ?_, same.refl _ _ _⟩
    unfold cLo
    have e3 : nX0_reckonAll_6 N N 21 cc (n3 f) 2 (n3 (12 * bk)) (dn 0) (n3 f) (hp κ) = nX0_reckonAll_6 N (N' + 1) 21 cc (n3 f) 2 (n3 (12 * bk)) (dn 0) (n3 f) (hp κ) := by rw [← hN']
    have c0 : dn 0 < n3 0 := by decide
    rw [e3, nX0_reckonAll_6, e2]
    simp (maxSteps := 400000) (disch := omega) only [n3_l, n3_add, n3_mul, n3_sub, n3_subn, n3_lt, n3_le, n3_eq, n3_eqn, n3_neq, n3_and, n3_or, n3_shl, n3_i, n3_cl, ↓hbd_0, ↓hbd_1, ↓hbd_2, hk_ob_0, hk_rd_0, hk_rd_1, hk_rd_2, hk_al_0, hk_al_1, h3r_0, h3r_1, hk_wi_0, hk_wj_0, h3w_0, h3w_1, h3v_0, hk_kI, hk_kJ, hk_kA, hk_kB, A_eq, A_ne, A_row, B_eq, B_ne, B_row, I_eq, I_ne, J_eq, J_ne, Option.bind_some, Option.some.injEq, if_true, if_false, eq_self, true_or, or_true, true_and, and_true, false_or, or_false, not_true_eq_false, not_false_eq_true, Classical.not_not, nar_b0, nar_b1, rz_0, rz_1, rz_i, ite01, Nat.add_zero, Nat.zero_add, Nat.one_mul, mul12, reduceIte, ra_z0, Nat.reduceEqDiff, Nat.reduceLT, Nat.reduceLeDiff, Nat.reduceAdd, Nat.reduceMul, Nat.reduceSub, Nat.reduceDiv, Nat.reduceMod, Bool.false_eq_true, false_and, and_false, reduceCtorEq, Nat.lt_irrefl, c0, nX0_reckonAll_276]
    rfl
/-- a scheme as it lies: c code, h heads, b bounds -/
def cSch (D : Nat → ra_C) (q c h b nC len : Nat) (K hd sf tf : Nat → Nat) : Prop := 101 ≤ q ∧ 101 ≤ c ∧ 101 ≤ h ∧ 101 ≤ b ∧ D q = .inr (4, [.ref c, .ref h, .ref b]) ∧ nC ≤ 12 ∧ len ≤ 400 ∧ D c = dC 0 len (fun i => n3 (K i)) ∧ D h = dC 0 nC (fun i => n3 (hd i)) ∧
  (∃ Bf, D b = dC 0 (2 * nC + 1) Bf ∧ ∀ i, i < nC → Bf (2 * i) = n3 (sf i) ∧ Bf (2 * i + 1) = n3 (tf i) ∧ Bf (2 * i + 2) = n3 (sf (i + 1))) ∧ (∀ i, i ≤ nC → sf i ≤ len) ∧ (∀ i, i < nC → tf i ≤ len) ∧ ∀ i, i < nC → hd i ≤ 4
theorem c_told {q c h b nC len hh bk : Nat} {K hd sf tf : Nat → Nat} {sv tv : Nat → valT} (hS : cSch (hk_D κ) q c h b nC len K hd sf tf) (hs : ∀ i, i < nC → cPc K (sf i) (tf i) (sv i)) (ht : ∀ i, i < nC → cPc K (tf i) (sf (i + 1)) (tv i)) (hos : ∀ i, i < nC → vO (sv i)) (hot : ∀ i, i < nC → vT (tv i)) (hb : bk < 40) (hh5 : hh < 5) (hX : factsOk (fx (hk_A κ 2) bk)) (hN : 1000 < N) :
    ∃ κ', fX0_told N 21 q (n3 hh) 2 (n3 (12 * bk)) (hp κ) = some (tellI (tauC hd sv tv nC hh (fx (hk_A κ 2) bk)), hp κ') ∧ same [22] [] κ κ' := by
  obtain ⟨q1, c1, h1, b1, dq, n12, l4, dc, dh, ⟨Bf, db, hB⟩, sl, tl, hd4⟩ := hS
  have loop : ∀ i m κ1, i ≤ nC → i < m → same [22] [] κ κ1 → ∃ κ', nX0_told_16 N m 21 q (n3 hh) 2 (n3 (12 * bk)) (dn i) (hp κ1) = some (tellI (tauC hd sv tv i hh (fx (hk_A κ 2) bk)), hp κ') ∧ same [22] [] κ κ' := by
    intro i
    induction i with
    | zero =>
      intro m κ1 _ hm s
      obtain ⟨m, rfl⟩ : ∃ j, m = j + 1 := ⟨m - 1, by omega⟩
      refine ⟨κ1, ?_, s⟩
      have c0 : dn 0 < n3 0 := by decide
      have e5 : (-2000000000 : Int32) = -n3 2000000000 := by decide
      rw [nX0_told_16]
      simp (maxSteps := 400000) (disch := omega) only [n3_l, n3_add, n3_mul, n3_sub, n3_subn, n3_lt, n3_le, n3_eq, n3_eqn, n3_neq, n3_and, n3_or, n3_shl, n3_i, n3_cl, ↓hbd_0, ↓hbd_1, ↓hbd_2, hk_ob_0, hk_rd_0, hk_rd_1, hk_rd_2, hk_al_0, hk_al_1, h3r_0, h3r_1, hk_wi_0, hk_wj_0, h3w_0, h3w_1, h3v_0, hk_kI, hk_kJ, hk_kA, hk_kB, A_eq, A_ne, A_row, B_eq, B_ne, B_row, I_eq, I_ne, J_eq, J_ne, Option.bind_some, Option.some.injEq, if_true, if_false, eq_self, true_or, or_true, true_and, and_true, false_or, or_false, not_true_eq_false, not_false_eq_true, Classical.not_not, nar_b0, nar_b1, rz_0, rz_1, rz_i, ite01, Nat.add_zero, Nat.zero_add, Nat.one_mul, mul12, reduceIte, ra_z0, Nat.reduceEqDiff, Nat.reduceLT, Nat.reduceLeDiff, Nat.reduceAdd, Nat.reduceMul, Nat.reduceSub, Nat.reduceDiv, Nat.reduceMod, Bool.false_eq_true, false_and, and_false, reduceCtorEq, c0, e5]
      rfl
    | succ i ih =>
      intro m κ1 hi hm s
      obtain ⟨m, rfl⟩ : ∃ j, m = j + 1 := ⟨m - 1, by omega⟩
      have x2 : hk_A κ1 2 = hk_A κ 2 := s.1 2 (by decide)
      have xD : hk_D κ1 = hk_D κ := s.2.2.2.2.2.1
      have fr : ∀ κ', hk_D κ' = hk_D κ → ra_fR (hp κ') 4 q 0 = some c ∧ ra_fR (hp κ') 4 q 1 = some h ∧ ra_fR (hp κ') 4 q 2 = some b := by
        intro κ' e
        unfold ra_fR
        rw [d_at κ' q1, e, dq]
        exact ⟨rfl, rfl, rfl⟩
      obtain ⟨f0, f1, f2⟩ := fr κ1 xD
      obtain ⟨B0, B1, B2⟩ := hB i (by omega)
      have rh : ra_aI (hp κ1) 0 h (n3 i) = some (n3 (hd i)) := d_r κ1 (f := fun i => n3 (hd i)) h1 (by rw [xD]; exact dh) (by omega) (by omega)
      have r0 : ra_aI (hp κ1) 0 b (n3 (2 * i)) = some (n3 (sf i)) := by rw [← B0]; exact d_r κ1 b1 (by rw [xD]; exact db) (by omega) (by omega)
      have r1 : ra_aI (hp κ1) 0 b (n3 (2 * i + 1)) = some (n3 (tf i)) := by rw [← B1]; exact d_r κ1 b1 (by rw [xD]; exact db) (by omega) (by omega)
      have r2 : ra_aI (hp κ1) 0 b (n3 (2 * i + 2)) = some (n3 (sf (i + 1))) := by rw [← B2]; exact d_r κ1 b1 (by rw [xD]; exact db) (by omega) (by omega)
      have i0 : ¬ i < 0 := by omega
      have hdi := hd4 i (by omega)
      have e5 : (-2000000000 : Int32) = -n3 2000000000 := by decide
      rw [tauC]
      by_cases ch : hd i = hh
      · obtain ⟨κ2, t1, t2⟩ := c_piece N κ1 (v := tv i) c1 (by rw [xD]; exact dc) l4 (sl (i + 1) (by omega)) hb (by rw [x2]; exact hX) (ht i (by omega)) hN
        rw [x2] at t1
        have s2 : same [22] [] κ κ2 := s.trans t2
        have xD2 : hk_D κ2 = hk_D κ := s2.2.2.2.2.2.1
        have x22 : hk_A κ2 2 = hk_A κ 2 := s2.1 2 (by decide)
        have is1 : tellI (tv i (fx (hk_A κ 2) bk)) = n3 1 ↔ tv i (fx (hk_A κ 2) bk) = some 1 := by
          cases hv : tv i (fx (hk_A κ 2) bk) with
          | none => exact ⟨fun z => absurd z (by decide), fun z => by cases z⟩
          | some a =>
            rcases hot i (by omega) _ a hv with z | z
            · subst z; exact ⟨fun z => absurd z (by decide), fun z => by cases z⟩
            · subst z; exact ⟨fun _ => rfl, fun _ => rfl⟩
        by_cases ct : tv i (fx (hk_A κ 2) bk) = some 1
        · rw [if_pos ⟨ch, ct⟩]
          have ct' := is1.mpr ct
          rw [ct'] at t1
          obtain ⟨g0, -, -⟩ := fr κ2 xD2
          obtain ⟨κ3, u1, u2⟩ := c_piece N κ2 (v := sv i) c1 (by rw [xD2]; exact dc) l4 (tl i (by omega)) hb (by rw [x22]; exact hX) (hs i (by omega)) hN
          rw [x22] at u1
          have s3 : same [22] [] κ κ3 := s2.trans u2
          cases hv : sv i (fx (hk_A κ 2) bk) with
          | none =>
            rw [hv] at u1
            have e6 : tellI none = -n3 2000000000 := rfl
            rw [e6] at u1
            obtain ⟨κ', k1, k2⟩ := ih m κ3 (by omega) (by omega) s3
            refine ⟨κ', ?_, k2⟩
            rw [nX0_told_16, dn_succ]
            simp (maxSteps := 400000) (disch := omega) only [n3_l, n3_add, n3_mul, n3_sub, n3_subn, n3_lt, n3_le, n3_eq, n3_eqn, n3_neq, n3_and, n3_or, n3_shl, n3_i, n3_cl, ↓hbd_0, ↓hbd_1, ↓hbd_2, hk_ob_0, hk_rd_0, hk_rd_1, hk_rd_2, hk_al_0, hk_al_1, h3r_0, h3r_1, hk_wi_0, hk_wj_0, h3w_0, h3w_1, h3v_0, hk_kI, hk_kJ, hk_kA, hk_kB, A_eq, A_ne, A_row, B_eq, B_ne, B_row, I_eq, I_ne, J_eq, J_ne, Option.bind_some, Option.some.injEq, if_true, if_false, eq_self, true_or, or_true, true_and, and_true, false_or, or_false, not_true_eq_false, not_false_eq_true, Classical.not_not, nar_b0, nar_b1, rz_0, rz_1, rz_i, ite01, Nat.add_zero, Nat.zero_add, Nat.one_mul, mul12, reduceIte, ra_z0, Nat.reduceEqDiff, Nat.reduceLT, Nat.reduceLeDiff, Nat.reduceAdd, Nat.reduceMul, Nat.reduceSub, Nat.reduceDiv, Nat.reduceMod, Bool.false_eq_true, false_and, and_false, reduceCtorEq, i0, f1, rh, ch, f2, r0, r1, r2, f0, t1, g0, u1, e5, nX0_told_115, dn_next]
            exact k1
          | some a =>
            rw [hv] at u1
            have oa := hos i (by omega) _ a hv
            have nb : ¬ tellI (some a) = -n3 2000000000 := by
              show ¬ z3 a = _
              rw [i_eq, z9_toInt (by omega) (by omega), n3_ntoInt (by omega)]
              omega
            refine ⟨κ3, ?_, s3⟩
            rw [nX0_told_16, dn_succ]
            simp (maxSteps := 400000) (disch := omega) only [n3_l, n3_add, n3_mul, n3_sub, n3_subn, n3_lt, n3_le, n3_eq, n3_eqn, n3_neq, n3_and, n3_or, n3_shl, n3_i, n3_cl, ↓hbd_0, ↓hbd_1, ↓hbd_2, hk_ob_0, hk_rd_0, hk_rd_1, hk_rd_2, hk_al_0, hk_al_1, h3r_0, h3r_1, hk_wi_0, hk_wj_0, h3w_0, h3w_1, h3v_0, hk_kI, hk_kJ, hk_kA, hk_kB, A_eq, A_ne, A_row, B_eq, B_ne, B_row, I_eq, I_ne, J_eq, J_ne, Option.bind_some, Option.some.injEq, if_true, if_false, eq_self, true_or, or_true, true_and, and_true, false_or, or_false, not_true_eq_false, not_false_eq_true, Classical.not_not, nar_b0, nar_b1, rz_0, rz_1, rz_i, ite01, Nat.add_zero, Nat.zero_add, Nat.one_mul, mul12, reduceIte, ra_z0, Nat.reduceEqDiff, Nat.reduceLT, Nat.reduceLeDiff, Nat.reduceAdd, Nat.reduceMul, Nat.reduceSub, Nat.reduceDiv, Nat.reduceMod, Bool.false_eq_true, false_and, and_false, reduceCtorEq, i0, f1, rh, ch, f2, r0, r1, r2, f0, t1, g0, u1, e5, nb]
        · rw [if_neg (fun z => ct z.2)]
          have ct' : ¬ tellI (tv i (fx (hk_A κ 2) bk)) = n3 1 := fun z => ct (is1.mp z)
          obtain ⟨κ', k1, k2⟩ := ih m κ2 (by omega) (by omega) s2
          refine ⟨κ', ?_, k2⟩
          rw [nX0_told_16, dn_succ]
          simp (maxSteps := 400000) (disch := omega) only [n3_l, n3_add, n3_mul, n3_sub, n3_subn, n3_lt, n3_le, n3_eq, n3_eqn, n3_neq, n3_and, n3_or, n3_shl, n3_i, n3_cl, ↓hbd_0, ↓hbd_1, ↓hbd_2, hk_ob_0, hk_rd_0, hk_rd_1, hk_rd_2, hk_al_0, hk_al_1, h3r_0, h3r_1, hk_wi_0, hk_wj_0, h3w_0, h3w_1, h3v_0, hk_kI, hk_kJ, hk_kA, hk_kB, A_eq, A_ne, A_row, B_eq, B_ne, B_row, I_eq, I_ne, J_eq, J_ne, Option.bind_some, Option.some.injEq, if_true, if_false, eq_self, true_or, or_true, true_and, and_true, false_or, or_false, not_true_eq_false, not_false_eq_true, Classical.not_not, nar_b0, nar_b1, rz_0, rz_1, rz_i, ite01, Nat.add_zero, Nat.zero_add, Nat.one_mul, mul12, reduceIte, ra_z0, Nat.reduceEqDiff, Nat.reduceLT, Nat.reduceLeDiff, Nat.reduceAdd, Nat.reduceMul, Nat.reduceSub, Nat.reduceDiv, Nat.reduceMod, Bool.false_eq_true, false_and, and_false, reduceCtorEq, i0, f1, rh, ch, f2, r0, r1, r2, f0, t1, ct', nX0_told_115, dn_next]
          exact k1
      · rw [if_neg (fun z => ch z.1)]
        obtain ⟨κ', k1, k2⟩ := ih m κ1 (by omega) (by omega) s
        refine ⟨κ', ?_, k2⟩
        rw [nX0_told_16, dn_succ]
        simp (maxSteps := 400000) (disch := omega) only [n3_l, n3_add, n3_mul, n3_sub, n3_subn, n3_lt, n3_le, n3_eq, n3_eqn, n3_neq, n3_and, n3_or, n3_shl, n3_i, n3_cl, ↓hbd_0, ↓hbd_1, ↓hbd_2, hk_ob_0, hk_rd_0, hk_rd_1, hk_rd_2, hk_al_0, hk_al_1, h3r_0, h3r_1, hk_wi_0, hk_wj_0, h3w_0, h3w_1, h3v_0, hk_kI, hk_kJ, hk_kA, hk_kB, A_eq, A_ne, A_row, B_eq, B_ne, B_row, I_eq, I_ne, J_eq, J_ne, Option.bind_some, Option.some.injEq, if_true, if_false, eq_self, true_or, or_true, true_and, and_true, false_or, or_false, not_true_eq_false, not_false_eq_true, Classical.not_not, nar_b0, nar_b1, rz_0, rz_1, rz_i, ite01, Nat.add_zero, Nat.zero_add, Nat.one_mul, mul12, reduceIte, ra_z0, Nat.reduceEqDiff, Nat.reduceLT, Nat.reduceLeDiff, Nat.reduceAdd, Nat.reduceMul, Nat.reduceSub, Nat.reduceDiv, Nat.reduceMod, Bool.false_eq_true, false_and, and_false, reduceCtorEq, i0, f1, rh, ch, nX0_told_115, dn_next]
        exact k1
  obtain ⟨κ', k1, k2⟩ := loop nC N κ (Nat.le_refl _) (by omega) (same.refl _ _ _)
  refine ⟨κ', ?_, k2⟩
  have f1 : ra_fR (hp κ) 4 q 1 = some h := by
    unfold ra_fR
    rw [d_at κ q1, dq]
    rfl
  have al : ra_aL (hp κ) h = some (n3 nC) := d_l κ (f := fun i => n3 (hd i)) h1 dh (by omega)
  unfold fX0_told nX0_told_0
  simp (maxSteps := 400000) (disch := omega) only [n3_l, n3_add, n3_mul, n3_sub, n3_subn, n3_lt, n3_le, n3_eq, n3_eqn, n3_neq, n3_and, n3_or, n3_shl, n3_i, n3_cl, ↓hbd_0, ↓hbd_1, ↓hbd_2, hk_ob_0, hk_rd_0, hk_rd_1, hk_rd_2, hk_al_0, hk_al_1, h3r_0, h3r_1, hk_wi_0, hk_wj_0, h3w_0, h3w_1, h3v_0, hk_kI, hk_kJ, hk_kA, hk_kB, A_eq, A_ne, A_row, B_eq, B_ne, B_row, I_eq, I_ne, J_eq, J_ne, Option.bind_some, Option.some.injEq, if_true, if_false, eq_self, true_or, or_true, true_and, and_true, false_or, or_false, not_true_eq_false, not_false_eq_true, Classical.not_not, nar_b0, nar_b1, rz_0, rz_1, rz_i, ite01, Nat.add_zero, Nat.zero_add, Nat.one_mul, mul12, reduceIte, ra_z0, Nat.reduceEqDiff, Nat.reduceLT, Nat.reduceLeDiff, Nat.reduceAdd, Nat.reduceMul, Nat.reduceSub, Nat.reduceDiv, Nat.reduceMod, Bool.false_eq_true, false_and, and_false, reduceCtorEq, f1, al, dn_sub]
  exact k1
theorem c_tx {D : Nat → ra_C} {q c h b nC len : Nat} {K hd sf tf : Nat → Nat} {sv tv : Nat → valT} (hS : cSch D q c h b nC len K hd sf tf) (hs : ∀ i, i < nC → cPc K (sf i) (tf i) (sv i)) (ht : ∀ i, i < nC → cPc K (tf i) (sf (i + 1)) (tv i)) (hos : ∀ i, i < nC → vO (sv i)) (hot : ∀ i, i < nC → vT (tv i)) : cTx D q (tauC hd sv tv nC) := by
  refine ⟨c, h, b, hS.1, hS.2.1, hS.2.2.1, hS.2.2.2.1, ?_, ?_⟩
  · unfold ra_isOb
    show (match D q with | .inr (c, _) => c == 4 | .inl _ => false) = true
    rw [hS.2.2.2.2.1]
    rfl
  · intro N κ bk hh hN hb hh5 hX e1 e2 e3 e4
    refine c_told N κ (c := c) (h := h) (b := b) (len := len) ?_ hs ht hos hot hb hh5 hX (by omega)
    unfold cSch
    rw [e1, e2, e3, e4]
    exact hS
end
