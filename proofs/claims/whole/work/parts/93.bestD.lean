/-! best: the class, a pair of schemes -/
def moG (R : Nat → Nat → Option Nat) (p : Nat → Nat) (fi sc i b : Nat) : Option Nat := if ∃ j, j < i ∧ p j = b then R fi b else R sc b
def yrI (c : Nat → Nat) (p : Nat → Nat) : Nat → Nat
  | 0 => 0
  | i + 1 => c (p i) + 1
section
variable {c : Nat → Nat} {p : Nat → Nat} {n : Nat}
theorem so_le (hl : LL (fun b => b < n) (fun b => c b * 64 + b) n p) (hn : n ≤ 40) {i j : Nat} (hij : i ≤ j) (hj : j < n) : c (p i) ≤ c (p j) := by
  by_cases e : i = j
  · rw [e]; exact Nat.le_refl _
  · have h1 := hl.2.2 i j (by omega) hj
    have h2 := hl.1 j hj
    dsimp only at h1 h2
    omega
theorem so_inj (hl : LL (fun b => b < n) (fun b => c b * 64 + b) n p) {i j : Nat} (hi : i < n) (hj : j < n) (e : p i = p j) : i = j := by
  rcases Nat.lt_trichotomy i j with h | h | h
  · have := hl.2.2 i j h hj; dsimp only at this; rw [e] at this; omega
  · exact h
  · have := hl.2.2 j i h hi; dsimp only at this; rw [e] at this; omega
/-- in years between, those that have gone over are those that came earlier -/
theorem so_year (hl : LL (fun b => b < n) (fun b => c b * 64 + b) n p) (hn : n ≤ 40) {i y b : Nat} (hi : i ≤ n) (hy : yrI c p i ≤ y) (hy2 : i < n → y ≤ c (p i)) (hb : b < n) : c b < y ↔ ∃ j, j < i ∧ p j = b := by
  constructor
  · intro h
    obtain ⟨j, hj, e⟩ := hl.2.1 b hb
    refine ⟨j, ?_, e⟩
    rcases Nat.lt_or_ge j i with g | g
    · exact g
    · have h1 := so_le hl hn g hj
      have h2 := hy2 (by omega)
      rw [e] at h1
      omega
  · rintro ⟨j, hj, e⟩
    cases i with
    | zero => omega
    | succ i =>
      have h1 := so_le hl hn (i := j) (j := i) (by omega) (by omega)
      rw [e] at h1
      have h2 : c (p i) + 1 ≤ y := hy
      omega
theorem so_nst {R : Nat → Nat → Option Nat} (hl : LL (fun b => b < n) (fun b => c b * 64 + b) n p) (hn : n ≤ 40) {fi sc i y : Nat} (hi : i ≤ n) (hy : yrI c p i ≤ y) (hy2 : i < n → y ≤ c (p i)) : nst R c n fi sc y = occ (hc (moG R p fi sc i) n) := by
  unfold nst
  refine occ_cg (fun s _ => hc_cg (fun b hb => ?_) s)
  have h := so_year hl hn hi hy hy2 hb
  unfold moG
  by_cases g : c b < y
  · rw [if_pos g, if_pos (h.mp g)]
  · rw [if_neg g, if_neg (fun z => g (h.mpr z))]
theorem yr_le (hl : LL (fun b => b < n) (fun b => c b * 64 + b) n p) (hn : n ≤ 40) (hc2 : ∀ b, c b ≤ 199) {i : Nat} (hi : i ≤ n) : yrI c p i ≤ 200 ∧ (i < n → yrI c p i ≤ c (p i) + 1) := by
  cases i with
  | zero => exact ⟨Nat.zero_le _, fun _ => Nat.zero_le _⟩
  | succ i =>
    have := hc2 (p i)
    refine ⟨by show c (p i) + 1 ≤ 200; omega, fun h => ?_⟩
    have := so_le hl hn (i := i) (j := i + 1) (by omega) h
    show c (p i) + 1 ≤ _
    omega
end
section
variable (N : Nat) (κ : hk_T)
theorem c_pairIn {R : Nat → Nat → Option Nat} {n fi sc : Nat} (hB : hk_I κ 1 13 = n3 n) (hn : n ≤ 40) (hsc : sc < 8) (hR : ∀ b, b < n → hk_A κ 26 (sc * 40 + b) = seatI (R sc b)) (hs : ∀ t b s, R t b = some s → s < 5346) (h0 : ∀ s, s < 5346 → hk_A κ 27 s = n3 0) (hN : 1000 < N) :
    ∃ κ', nX1_weighPair_5 N N 23 (n3 fi) (n3 sc) (n3 0) (n3 0) (hp κ) = nX1_weighPair_48 N N 23 (n3 fi) (n3 sc) (n3 (occ (hc (R sc) n))) (n3 0) (n3 0) (hp κ') ∧ same [27] [] κ κ' ∧ ∀ s, s < 5346 → hk_A κ' 27 s = n3 (hc (R sc) n s) := by
  obtain ⟨m', s', e, i1, i2⟩ := lpx (fun m b (r : hk_T) => nX1_weighPair_5 N m 23 (n3 fi) (n3 sc) (n3 (occ (hc (R sc) b))) (n3 b) (hp r)) n (fun b r => same [27] [] κ r ∧ ∀ s, s < 5346 → hk_A r 27 s = n3 (hc (R sc) b s)) (by
    rintro m b r hb ⟨i1, i2⟩
    have r13 : hk_I r 1 13 = n3 n := by rw [i1.2.2.1 1 13 (by decide)]; exact hB
    have r26 : hk_A r 26 (sc * 40 + b) = seatI (R sc b) := by rw [i1.1 26 (by decide)]; exact hR b hb
    obtain ⟨r1, e1, s1, v1⟩ := c_enter N r (o := R sc b) (h := hc (R sc) b) (hs sc b) i2 (fun s => by have := hc_le (R sc) b s; omega)
    have st : ∀ s, enH (R sc b) (hc (R sc) b) s = hc (R sc) (b + 1) s := by
      intro s
      unfold enH
      show _ = hc (R sc) b s + if R sc b = some s then 1 else 0
      split <;> omega
    have oc : occ (hc (R sc) (b + 1)) = occ (hc (R sc) b) + enR (R sc b) (hc (R sc) b) := by
      rw [← en_occ (hs sc b)]
      exact occ_cg (fun s _ => (st s).symm)
    refine ⟨r1, ?_, i1.trans s1, fun s hs' => by rw [v1 s hs', st s]⟩
    rw [nX1_weighPair_5, oc]
    simp (maxSteps := 400000) (disch := omega) only [n3_l, n3_add, n3_mul, n3_sub, n3_subn, n3_lt, n3_le, n3_eq, n3_eqn, n3_neq, n3_and, n3_or, n3_shl, n3_i, n3_cl, ↓hbd_0, ↓hbd_1, ↓hbd_2, hk_ob_0, hk_rd_0, hk_rd_1, hk_rd_2, hk_al_0, hk_al_1, h3r_0, h3r_1, hk_wi_0, hk_wj_0, h3w_0, h3w_1, h3v_0, hk_kI, hk_kJ, hk_kA, hk_kB, A_eq, A_ne, A_row, B_eq, B_ne, B_row, I_eq, I_ne, J_eq, J_ne, Option.bind_some, Option.some.injEq, if_true, if_false, eq_self, true_or, or_true, true_and, and_true, false_or, or_false, not_true_eq_false, not_false_eq_true, Classical.not_not, nar_b0, nar_b1, rz_0, rz_1, rz_i, ite01, Nat.add_zero, Nat.zero_add, Nat.one_mul, mul12, reduceIte, ra_z0, Nat.reduceEqDiff, Nat.reduceLT, Nat.reduceLeDiff, Nat.reduceAdd, Nat.reduceMul, Nat.reduceSub, Nat.reduceDiv, Nat.reduceMod, Bool.false_eq_true, false_and, and_false, reduceCtorEq, r13, hb, r26, e1]) n 0 N κ (by omega) (by omega) ⟨same.refl _ _ _, fun s hs' => by rw [h0 s hs']; rfl⟩
  have z : occ (hc (R sc) 0) = 0 := cnt_zero 5346 (fun s _ h => absurd h (Nat.lt_irrefl _))
  have e0 : nX1_weighPair_5 N N 23 (n3 fi) (n3 sc) (n3 (occ (hc (R sc) 0))) (n3 0) (hp κ) = nX1_weighPair_5 N (m' + 1) 23 (n3 fi) (n3 sc) (n3 (occ (hc (R sc) n))) (n3 n) (hp s') := e
  rw [z] at e0
  refine ⟨s', ?_, i1, i2⟩
  have r13 : hk_I s' 1 13 = n3 n := by rw [i1.2.2.1 1 13 (by decide)]; exact hB
  rw [e0, nX1_weighPair_5]
  simp (maxSteps := 400000) (disch := omega) only [n3_l, n3_add, n3_mul, n3_sub, n3_subn, n3_lt, n3_le, n3_eq, n3_eqn, n3_neq, n3_and, n3_or, n3_shl, n3_i, n3_cl, ↓hbd_0, ↓hbd_1, ↓hbd_2, hk_ob_0, hk_rd_0, hk_rd_1, hk_rd_2, hk_al_0, hk_al_1, h3r_0, h3r_1, hk_wi_0, hk_wj_0, h3w_0, h3w_1, h3v_0, hk_kI, hk_kJ, hk_kA, hk_kB, A_eq, A_ne, A_row, B_eq, B_ne, B_row, I_eq, I_ne, J_eq, J_ne, Option.bind_some, Option.some.injEq, if_true, if_false, eq_self, true_or, or_true, true_and, and_true, false_or, or_false, not_true_eq_false, not_false_eq_true, Classical.not_not, nar_b0, nar_b1, rz_0, rz_1, rz_i, ite01, Nat.add_zero, Nat.zero_add, Nat.one_mul, mul12, reduceIte, ra_z0, Nat.reduceEqDiff, Nat.reduceLT, Nat.reduceLeDiff, Nat.reduceAdd, Nat.reduceMul, Nat.reduceSub, Nat.reduceDiv, Nat.reduceMod, Bool.false_eq_true, false_and, and_false, reduceCtorEq, r13, Nat.lt_irrefl]
theorem c_pairOut {R : Nat → Nat → Option Nat} {n fi : Nat} (hB : hk_I κ 1 13 = n3 n) (hn : n ≤ 40) (hfi : fi < 8) (hR : ∀ b, b < n → hk_A κ 26 (fi * 40 + b) = seatI (R fi b)) (hs : ∀ t b s, R t b = some s → s < 5346) (h0 : ∀ s, s < 5346 → hk_A κ 27 s = n3 (hc (R fi) n s)) (hN : 1000 < N) :
    ∃ κ', nX1_weighPair_170 N N 23 (n3 fi) (n3 0) (hp κ) = some (hp κ') ∧ same [27] [] κ κ' ∧ ∀ s, s < 5346 → hk_A κ' 27 s = n3 0 := by
  obtain ⟨m', s', e, i1, i2⟩ := lpx (fun m b (r : hk_T) => nX1_weighPair_170 N m 23 (n3 fi) (n3 b) (hp r)) n (fun b r => same [27] [] κ r ∧ ∀ s, s < 5346 → hk_A r 27 s = n3 (cnt (fun x => b ≤ x ∧ R fi x = some s) n)) (by
    rintro m b r hb ⟨i1, i2⟩
    have r13 : hk_I r 1 13 = n3 n := by rw [i1.2.2.1 1 13 (by decide)]; exact hB
    have r26 : hk_A r 26 (fi * 40 + b) = seatI (R fi b) := by rw [i1.1 26 (by decide)]; exact hR b hb
    have st : ∀ s, cnt (fun x => b ≤ x ∧ R fi x = some s) n = cnt (fun x => b + 1 ≤ x ∧ R fi x = some s) n + if R fi b = some s then 1 else 0 := by
      intro s
      by_cases c : R fi b = some s
      · rw [if_pos c]
        exact cnt_up n b hb (fun i _ hi => ⟨fun z => ⟨by omega, z.2⟩, fun z => ⟨by omega, z.2⟩⟩) (fun z => by omega) ⟨Nat.le_refl _, c⟩
      · rw [if_neg c, Nat.add_zero]
        refine cnt_cg0 n (fun i _ => ⟨fun z => ⟨?_, z.2⟩, fun z => ⟨by omega, z.2⟩⟩)
        by_cases e : i = b
        · rw [e] at z; exact absurd z.2 c
        · omega
    obtain ⟨r1, e1, s1, v1⟩ := c_leave N r (o := R fi b) (h := fun s => cnt (fun x => b ≤ x ∧ R fi x = some s) n) (hs fi b) i2 (fun s => by have := cnt_le (fun x => b ≤ x ∧ R fi x = some s) n; omega) (fun s hs' => by
      rw [st s, if_pos hs']
      omega)
    refine ⟨r1, ?_, i1.trans s1, ?_⟩
    · rw [nX1_weighPair_170]
      simp (maxSteps := 400000) (disch := omega) only [n3_l, n3_add, n3_mul, n3_sub, n3_subn, n3_lt, n3_le, n3_eq, n3_eqn, n3_neq, n3_and, n3_or, n3_shl, n3_i, n3_cl, ↓hbd_0, ↓hbd_1, ↓hbd_2, hk_ob_0, hk_rd_0, hk_rd_1, hk_rd_2, hk_al_0, hk_al_1, h3r_0, h3r_1, hk_wi_0, hk_wj_0, h3w_0, h3w_1, h3v_0, hk_kI, hk_kJ, hk_kA, hk_kB, A_eq, A_ne, A_row, B_eq, B_ne, B_row, I_eq, I_ne, J_eq, J_ne, Option.bind_some, Option.some.injEq, if_true, if_false, eq_self, true_or, or_true, true_and, and_true, false_or, or_false, not_true_eq_false, not_false_eq_true, Classical.not_not, nar_b0, nar_b1, rz_0, rz_1, rz_i, ite01, Nat.add_zero, Nat.zero_add, Nat.one_mul, mul12, reduceIte, ra_z0, Nat.reduceEqDiff, Nat.reduceLT, Nat.reduceLeDiff, Nat.reduceAdd, Nat.reduceMul, Nat.reduceSub, Nat.reduceDiv, Nat.reduceMod, Bool.false_eq_true, false_and, and_false, reduceCtorEq, r13, hb, r26, e1]
    · intro s hs'
      rw [v1 s hs']
      congr 1
      have := st s
      unfold lvH
      by_cases c : R fi b = some s
      · rw [if_pos c] at this ⊢; dsimp only; omega
      · rw [if_neg c] at this ⊢; dsimp only; omega) n 0 N κ (by omega) (by omega) ⟨same.refl _ _ _, fun s hs' => by
      rw [h0 s hs']
      congr 1
      exact cnt_cg0 n (fun i _ => ⟨fun z => ⟨Nat.zero_le _, z⟩, fun z => z.2⟩)⟩
  have e0 : nX1_weighPair_170 N N 23 (n3 fi) (n3 0) (hp κ) = nX1_weighPair_170 N (m' + 1) 23 (n3 fi) (n3 n) (hp s') := e
  refine ⟨s', ?_, i1, ?_⟩
  · have r13 : hk_I s' 1 13 = n3 n := by rw [i1.2.2.1 1 13 (by decide)]; exact hB
    rw [e0, nX1_weighPair_170]
    simp (maxSteps := 400000) (disch := omega) only [n3_l, n3_add, n3_mul, n3_sub, n3_subn, n3_lt, n3_le, n3_eq, n3_eqn, n3_neq, n3_and, n3_or, n3_shl, n3_i, n3_cl, ↓hbd_0, ↓hbd_1, ↓hbd_2, hk_ob_0, hk_rd_0, hk_rd_1, hk_rd_2, hk_al_0, hk_al_1, h3r_0, h3r_1, hk_wi_0, hk_wj_0, h3w_0, h3w_1, h3v_0, hk_kI, hk_kJ, hk_kA, hk_kB, A_eq, A_ne, A_row, B_eq, B_ne, B_row, I_eq, I_ne, J_eq, J_ne, Option.bind_some, Option.some.injEq, if_true, if_false, eq_self, true_or, or_true, true_and, and_true, false_or, or_false, not_true_eq_false, not_false_eq_true, Classical.not_not, nar_b0, nar_b1, rz_0, rz_1, rz_i, ite01, Nat.add_zero, Nat.zero_add, Nat.one_mul, mul12, reduceIte, ra_z0, Nat.reduceEqDiff, Nat.reduceLT, Nat.reduceLeDiff, Nat.reduceAdd, Nat.reduceMul, Nat.reduceSub, Nat.reduceDiv, Nat.reduceMod, Bool.false_eq_true, false_and, and_false, reduceCtorEq, r13, Nat.lt_irrefl]
  · intro s hs'
    rw [i2 s hs', cnt_zero n (fun b hb z => by omega)]
theorem c_weighPair {R : Nat → Nat → Option Nat} {c p : Nat → Nat} {n fi sc : Nat} {o : bsT} (hB : hk_I κ 1 13 = n3 n) (hn : n ≤ 40) (hfi : fi < 8) (hsc : sc < 8) (hR1 : ∀ b, b < n → hk_A κ 26 (fi * 40 + b) = seatI (R fi b)) (hR2 : ∀ b, b < n → hk_A κ 26 (sc * 40 + b) = seatI (R sc b)) (hs : ∀ t b s, R t b = some s → s < 5346)
    (hc' : ∀ b, b < n → hk_A κ 2 (12 * b + 2) = n3 (c b)) (hc2 : ∀ b, c b ≤ 199) (hp' : ∀ i, i < n → hk_A κ 28 i = n3 (p i)) (hl : LL (fun b => b < n) (fun b => c b * 64 + b) n p) (h0 : ∀ s, s < 5346 → hk_A κ 27 s = n3 0) (hb : bR κ o) (ho : oOk o) (hN : 1000 < N) :
    ∃ κ', fX1_weighPair N 23 (n3 fi) (n3 sc) (hp κ) = some (hp κ') ∧ same [27, 29] [] κ κ' ∧ (∀ s, s < 5346 → hk_A κ' 27 s = n3 0) ∧ bR κ' (pairF R c n fi sc o) ∧ oOk (pairF R c n fi sc o) := by
  obtain ⟨κ1, e1, s1, v1⟩ := c_pairIn N κ (fi := fi) hB hn hsc hR2 hs h0 hN
  have g0 : ∀ s, hc (R sc) n s = hc (moG R p fi sc 0) n s := fun s => hc_cg (fun b _ => by unfold moG; rw [if_neg (fun ⟨j, h, _⟩ => by omega)]) s
  have o0 : occ (hc (R sc) n) = occ (hc (moG R p fi sc 0) n) := occ_cg (fun s _ => g0 s)
  rw [o0] at e1
  have fok : ∀ d o, oOk o → oOk (fo (fun y => stB fi sc y (nst R c n fi sc y)) 0 d o) := by
    intro d
    induction d with
    | zero => intro o h; exact h
    | succ d ih => intro o h; rw [fo_last]; exact stB_ok (occ_le _) (ih o h)
  obtain ⟨m', s', e, i1, i2, i3⟩ := lpx (fun m i (r : hk_T) => nX1_weighPair_48 N m 23 (n3 fi) (n3 sc) (n3 (occ (hc (moG R p fi sc i) n))) (n3 (yrI c p i)) (n3 i) (hp r)) n (fun i r => same [27, 29] [] κ r ∧ (∀ s, s < 5346 → hk_A r 27 s = n3 (hc (moG R p fi sc i) n s)) ∧ bR r (fo (fun y => stB fi sc y (nst R c n fi sc y)) 0 (yrI c p i) o)) (by
    rintro m i r hi ⟨i1, i2, i3⟩
    have r13 : hk_I r 1 13 = n3 n := by rw [i1.2.2.1 1 13 (by decide)]; exact hB
    have r28 : hk_A r 28 i = n3 (p i) := by rw [i1.1 28 (by decide)]; exact hp' i hi
    have pb := hl.1 i hi
    try dsimp only at pb
    have r2 : hk_A r 2 (12 * p i + 2) = n3 (c (p i)) := by rw [i1.1 2 (by decide)]; exact hc' _ pb
    have fa := h_factOf N r (b := p i) (f := 2) (by omega) (by omega)
    rw [r2] at fa
    have cb := hc2 (p i)
    obtain ⟨y1, y2⟩ := yr_le hl hn hc2 (Nat.le_of_lt hi)
    have y2 := y2 hi
    have oc5 := occ_le (hc (moG R p fi sc i) n)
    -- the years up to the book's
    have weigh : ∃ r1, (if n3 (c (p i) + 1) ≤ n3 (yrI c p i) then some (hp r) else fX1_weighYears N 23 (n3 fi) (n3 sc) (n3 (yrI c p i)) (n3 (c (p i) + 1 - yrI c p i)) (n3 (occ (hc (moG R p fi sc i) n))) (hp r)) = some (hp r1) ∧ same [29] [] r r1 ∧ bR r1 (fo (fun y => stB fi sc y (nst R c n fi sc y)) 0 (yrI c p (i + 1)) o) := by
      by_cases cc : c (p i) + 1 ≤ yrI c p i
      · rw [if_pos ((n3_le (by omega) (by omega)).mpr cc)]
        refine ⟨r, rfl, same.refl _ _ _, ?_⟩
        have : yrI c p (i + 1) = yrI c p i := by show c (p i) + 1 = _; omega
        rw [this]; exact i3
      · rw [if_neg (fun z => cc ((n3_le (by omega) (by omega)).mp z))]
        obtain ⟨r1, w1, w2, w3⟩ := c_weighYears N r (fi := fi) (sc := sc) (y := yrI c p i) (d := c (p i) + 1 - yrI c p i) i3 (fok _ _ ho) oc5
        refine ⟨r1, w1, w2, ?_⟩
        obtain ⟨d, hd⟩ : ∃ d, c (p i) + 1 - yrI c p i = d + 1 := ⟨c (p i) - yrI c p i, by omega⟩
        have : yrI c p (i + 1) = yrI c p i + (d + 1) := by show c (p i) + 1 = _; omega
        rw [this, fo_add, Nat.zero_add, stD_fo fi sc (occ (hc (moG R p fi sc i) n)) _ _ _ d (fun j h1 h2 => so_nst hl hn (Nat.le_of_lt hi) h1 (fun _ => by omega)), ← hd]
        exact w3
    obtain ⟨r1, w1, w2, w3⟩ := weigh
    have gi : moG R p fi sc i (p i) = R sc (p i) := by
      unfold moG
      rw [if_neg]
      rintro ⟨j, h1, h2⟩
      have := so_inj hl (show j < n by omega) hi h2
      omega
    have gi2 : moG R p fi sc (i + 1) (p i) = R fi (p i) := by
      unfold moG
      rw [if_pos ⟨i, by omega, rfl⟩]
    have gx : ∀ b, b < n → b ≠ p i → moG R p fi sc i b = moG R p fi sc (i + 1) b := by
      intro b _ hne
      unfold moG
      have : (∃ j, j < i ∧ p j = b) ↔ ∃ j, j < i + 1 ∧ p j = b := by
        constructor
        · rintro ⟨j, h1, h2⟩; exact ⟨j, by omega, h2⟩
        · rintro ⟨j, h1, h2⟩
          refine ⟨j, ?_, h2⟩
          by_cases ej : j = i
          · rw [ej] at h2; exact absurd h2.symm hne
          · omega
      by_cases g : ∃ j, j < i ∧ p j = b
      · rw [if_pos g, if_pos (this.mp g)]
      · rw [if_neg g, if_neg (fun z => g (this.mpr z))]
    have hge : ∀ s, moG R p fi sc i (p i) = some s → 1 ≤ hc (moG R p fi sc i) n s := fun s hs' => (cnt_pos n).mpr ⟨p i, pb, hs'⟩
    have hbd : ∀ s, hc (moG R p fi sc i) n s ≤ 1000 := fun s => by have := hc_le (moG R p fi sc i) n s; omega
    obtain ⟨r2', e2, s2, v2⟩ := c_leave N r1 (o := moG R p fi sc i (p i)) (h := hc (moG R p fi sc i) n) (by rw [gi]; exact hs sc (p i)) (by rw [w2.1 27 (by decide)]; exact i2) hbd hge
    have lo := lv_occ (o := moG R p fi sc i (p i)) (h := hc (moG R p fi sc i) n) (by rw [gi]; exact hs sc (p i)) hge
    have hbd2 : ∀ s, lvH (moG R p fi sc i (p i)) (hc (moG R p fi sc i) n) s ≤ 1000 := fun s => by
      have := hbd s
      unfold lvH
      split <;> omega
    obtain ⟨r3, e3, s3, v3⟩ := c_enter N r2' (o := moG R p fi sc (i + 1) (p i)) (h := lvH (moG R p fi sc i (p i)) (hc (moG R p fi sc i) n)) (by rw [gi2]; exact hs fi (p i)) v2 hbd2
    have eo := en_occ (o := moG R p fi sc (i + 1) (p i)) (h := lvH (moG R p fi sc i (p i)) (hc (moG R p fi sc i) n)) (by rw [gi2]; exact hs fi (p i))
    have oo : occ (enH (moG R p fi sc (i + 1) (p i)) (lvH (moG R p fi sc i (p i)) (hc (moG R p fi sc i) n))) = occ (hc (moG R p fi sc (i + 1)) n) := occ_cg (fun s _ => hc_move pb gx s)
    rw [oo] at eo
    have r26a : hk_A r1 26 (sc * 40 + p i) = seatI (R sc (p i)) := by rw [w2.1 26 (by decide), i1.1 26 (by decide)]; exact hR2 _ pb
    have r26b : hk_A r2' 26 (fi * 40 + p i) = seatI (R fi (p i)) := by rw [s2.1 26 (by decide), w2.1 26 (by decide), i1.1 26 (by decide)]; exact hR1 _ pb
    rw [gi] at e2 lo
    rw [gi2] at e3
    rw [gi, gi2] at eo
    rw [gi] at e3
    refine ⟨r3, ?_, (i1.trans (w2.weak (by decide) (by decide))).trans ((s2.trans s3).weak (by decide) (by decide)), ?_, ?_⟩
    · have fin : nX1_weighPair_108 N (nX1_weighPair_48 N m) 23 (n3 fi) (n3 sc) (n3 (occ (hc (moG R p fi sc i) n))) (n3 (c (p i) + 1)) (n3 i) (n3 (p i)) (hp r1) = nX1_weighPair_48 N m 23 (n3 fi) (n3 sc) (n3 (occ (hc (moG R p fi sc (i + 1)) n))) (n3 (yrI c p (i + 1))) (n3 (i + 1)) (hp r3) := by
        have ey : yrI c p (i + 1) = c (p i) + 1 := rfl
        rw [nX1_weighPair_108, ey, eo, lo]
        simp (maxSteps := 400000) (disch := omega) only [n3_l, n3_add, n3_mul, n3_sub, n3_subn, n3_lt, n3_le, n3_eq, n3_eqn, n3_neq, n3_and, n3_or, n3_shl, n3_i, n3_cl, ↓hbd_0, ↓hbd_1, ↓hbd_2, hk_ob_0, hk_rd_0, hk_rd_1, hk_rd_2, hk_al_0, hk_al_1, h3r_0, h3r_1, hk_wi_0, hk_wj_0, h3w_0, h3w_1, h3v_0, hk_kI, hk_kJ, hk_kA, hk_kB, A_eq, A_ne, A_row, B_eq, B_ne, B_row, I_eq, I_ne, J_eq, J_ne, Option.bind_some, Option.some.injEq, if_true, if_false, eq_self, true_or, or_true, true_and, and_true, false_or, or_false, not_true_eq_false, not_false_eq_true, Classical.not_not, nar_b0, nar_b1, rz_0, rz_1, rz_i, ite01, Nat.add_zero, Nat.zero_add, Nat.one_mul, mul12, reduceIte, ra_z0, Nat.reduceEqDiff, Nat.reduceLT, Nat.reduceLeDiff, Nat.reduceAdd, Nat.reduceMul, Nat.reduceSub, Nat.reduceDiv, Nat.reduceMod, Bool.false_eq_true, false_and, and_false, reduceCtorEq, r26a, e2, r26b, e3]
        rw [Nat.add_sub_cancel]
      rw [nX1_weighPair_48]
      by_cases cc : c (p i) + 1 ≤ yrI c p i
      · have ey : yrI c p i = c (p i) + 1 := by omega
        rw [if_pos ((n3_le (by omega) (by omega)).mpr cc)] at w1
        have hrr : hp r1 = hp r := (Option.some.inj w1).symm
        rw [hrr] at fin
        simp (maxSteps := 400000) (disch := omega) only [n3_l, n3_add, n3_mul, n3_sub, n3_subn, n3_lt, n3_le, n3_eq, n3_eqn, n3_neq, n3_and, n3_or, n3_shl, n3_i, n3_cl, ↓hbd_0, ↓hbd_1, ↓hbd_2, hk_ob_0, hk_rd_0, hk_rd_1, hk_rd_2, hk_al_0, hk_al_1, h3r_0, h3r_1, hk_wi_0, hk_wj_0, h3w_0, h3w_1, h3v_0, hk_kI, hk_kJ, hk_kA, hk_kB, A_eq, A_ne, A_row, B_eq, B_ne, B_row, I_eq, I_ne, J_eq, J_ne, Option.bind_some, Option.some.injEq, if_true, if_false, eq_self, true_or, or_true, true_and, and_true, false_or, or_false, not_true_eq_false, not_false_eq_true, Classical.not_not, nar_b0, nar_b1, rz_0, rz_1, rz_i, ite01, Nat.add_zero, Nat.zero_add, Nat.one_mul, mul12, reduceIte, ra_z0, Nat.reduceEqDiff, Nat.reduceLT, Nat.reduceLeDiff, Nat.reduceAdd, Nat.reduceMul, Nat.reduceSub, Nat.reduceDiv, Nat.reduceMod, Bool.false_eq_true, false_and, and_false, reduceCtorEq, r13, hi, r28, fa, cc]
        rw [ey]
        exact fin
      · rw [if_neg (fun z => cc ((n3_le (by omega) (by omega)).mp z))] at w1
        simp (maxSteps := 400000) (disch := omega) only [n3_l, n3_add, n3_mul, n3_sub, n3_subn, n3_lt, n3_le, n3_eq, n3_eqn, n3_neq, n3_and, n3_or, n3_shl, n3_i, n3_cl, ↓hbd_0, ↓hbd_1, ↓hbd_2, hk_ob_0, hk_rd_0, hk_rd_1, hk_rd_2, hk_al_0, hk_al_1, h3r_0, h3r_1, hk_wi_0, hk_wj_0, h3w_0, h3w_1, h3v_0, hk_kI, hk_kJ, hk_kA, hk_kB, A_eq, A_ne, A_row, B_eq, B_ne, B_row, I_eq, I_ne, J_eq, J_ne, Option.bind_some, Option.some.injEq, if_true, if_false, eq_self, true_or, or_true, true_and, and_true, false_or, or_false, not_true_eq_false, not_false_eq_true, Classical.not_not, nar_b0, nar_b1, rz_0, rz_1, rz_i, ite01, Nat.add_zero, Nat.zero_add, Nat.one_mul, mul12, reduceIte, ra_z0, Nat.reduceEqDiff, Nat.reduceLT, Nat.reduceLeDiff, Nat.reduceAdd, Nat.reduceMul, Nat.reduceSub, Nat.reduceDiv, Nat.reduceMod, Bool.false_eq_true, false_and, and_false, reduceCtorEq, r13, hi, r28, fa, cc, w1]
        exact fin
    · intro s hs'
      rw [v3 s hs']
      congr 1
      exact hc_move pb gx s
    · exact w3.keep (by rw [s3.1 29 (by decide), s2.1 29 (by decide)])) n 0 N κ1 (by omega) (by omega) ⟨s1.weak (by decide) (by decide), fun s hs' => by rw [v1 s hs', g0 s], hb.keep (s1.1 29 (by decide))⟩
  have o5 := occ_le (hc (moG R p fi sc n) n)
  obtain ⟨y1, -⟩ := yr_le hl hn hc2 (Nat.le_refl n)
  obtain ⟨r1, w1, w2, w3⟩ := c_weighYears N s' (fi := fi) (sc := sc) (y := yrI c p n) (d := 201 - yrI c p n) i3 (fok _ _ ho) o5
  have gn : ∀ s, hc (moG R p fi sc n) n s = hc (R fi) n s := fun s => hc_cg (fun b hb => by
    unfold moG
    obtain ⟨j, h1, h2⟩ := hl.2.1 b hb
    rw [if_pos ⟨j, h1, h2⟩]) s
  obtain ⟨κ', e2, s2, v2⟩ := c_pairOut N r1 (R := R) (n := n) (fi := fi) (by rw [w2.2.2.1 1 13 (by decide), i1.2.2.1 1 13 (by decide)]; exact hB) hn hfi (by rw [w2.1 26 (by decide), i1.1 26 (by decide)]; exact hR1) hs (by
    intro s hs'
    rw [w2.1 27 (by decide), i2 s hs', gn s]) hN
  have fin : pairF R c n fi sc o = stD fi sc (yrI c p n) (201 - yrI c p n) (occ (hc (moG R p fi sc n) n)) (fo (fun y => stB fi sc y (nst R c n fi sc y)) 0 (yrI c p n) o) := by
    obtain ⟨d, hd⟩ : ∃ d, 201 - yrI c p n = d + 1 := ⟨200 - yrI c p n, by omega⟩
    unfold pairF
    rw [show 201 = yrI c p n + (d + 1) by omega, fo_add, Nat.zero_add, stD_fo fi sc (occ (hc (moG R p fi sc n) n)) _ _ _ d (fun j h1 h2 => so_nst hl hn (Nat.le_refl _) h1 (fun h => by omega)), show yrI c p n + (d + 1) - yrI c p n = d + 1 by omega]
  refine ⟨κ', ?_, (i1.trans (w2.weak (by decide) (by decide))).trans (s2.weak (by decide) (by decide)), v2, ?_, fok 201 o ho⟩
  · have e0 : nX1_weighPair_48 N N 23 (n3 fi) (n3 sc) (n3 (occ (hc (moG R p fi sc 0) n))) (n3 0) (n3 0) (hp κ1) = nX1_weighPair_48 N (m' + 1) 23 (n3 fi) (n3 sc) (n3 (occ (hc (moG R p fi sc n) n))) (n3 (yrI c p n)) (n3 n) (hp s') := e
    have r13 : hk_I s' 1 13 = n3 n := by rw [i1.2.2.1 1 13 (by decide)]; exact hB
    unfold fX1_weighPair nX1_weighPair_0
    simp (maxSteps := 400000) (disch := omega) only [n3_l, n3_add, n3_mul, n3_sub, n3_subn, n3_lt, n3_le, n3_eq, n3_eqn, n3_neq, n3_and, n3_or, n3_shl, n3_i, n3_cl, ↓hbd_0, ↓hbd_1, ↓hbd_2, hk_ob_0, hk_rd_0, hk_rd_1, hk_rd_2, hk_al_0, hk_al_1, h3r_0, h3r_1, hk_wi_0, hk_wj_0, h3w_0, h3w_1, h3v_0, hk_kI, hk_kJ, hk_kA, hk_kB, A_eq, A_ne, A_row, B_eq, B_ne, B_row, I_eq, I_ne, J_eq, J_ne, Option.bind_some, Option.some.injEq, if_true, if_false, eq_self, true_or, or_true, true_and, and_true, false_or, or_false, not_true_eq_false, not_false_eq_true, Classical.not_not, nar_b0, nar_b1, rz_0, rz_1, rz_i, ite01, Nat.add_zero, Nat.zero_add, Nat.one_mul, mul12, reduceIte, ra_z0, Nat.reduceEqDiff, Nat.reduceLT, Nat.reduceLeDiff, Nat.reduceAdd, Nat.reduceMul, Nat.reduceSub, Nat.reduceDiv, Nat.reduceMod, Bool.false_eq_true, false_and, and_false, reduceCtorEq]
    rw [e1, e0, nX1_weighPair_48]
    simp (maxSteps := 400000) (disch := omega) only [n3_l, n3_add, n3_mul, n3_sub, n3_subn, n3_lt, n3_le, n3_eq, n3_eqn, n3_neq, n3_and, n3_or, n3_shl, n3_i, n3_cl, ↓hbd_0, ↓hbd_1, ↓hbd_2, hk_ob_0, hk_rd_0, hk_rd_1, hk_rd_2, hk_al_0, hk_al_1, h3r_0, h3r_1, hk_wi_0, hk_wj_0, h3w_0, h3w_1, h3v_0, hk_kI, hk_kJ, hk_kA, hk_kB, A_eq, A_ne, A_row, B_eq, B_ne, B_row, I_eq, I_ne, J_eq, J_ne, Option.bind_some, Option.some.injEq, if_true, if_false, eq_self, true_or, or_true, true_and, and_true, false_or, or_false, not_true_eq_false, not_false_eq_true, Classical.not_not, nar_b0, nar_b1, rz_0, rz_1, rz_i, ite01, Nat.add_zero, Nat.zero_add, Nat.one_mul, mul12, reduceIte, ra_z0, Nat.reduceEqDiff, Nat.reduceLT, Nat.reduceLeDiff, Nat.reduceAdd, Nat.reduceMul, Nat.reduceSub, Nat.reduceDiv, Nat.reduceMod, Bool.false_eq_true, false_and, and_false, reduceCtorEq, r13, Nat.lt_irrefl, w1]
    exact e2
  · rw [fin]
    exact w3.keep (s2.1 29 (by decide))
end
