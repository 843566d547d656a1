/-! the machine reads what the pure reader reads: sums -/
/-- lv: what is still to be settled; t0, t1: turns before and behind; sp: what isn't there behind it -/
def rOk (B : Nat → Nat) (n : Nat) (tst : Bool) (lv t0 t1 : Nat) (sp : Nat → Prop) (m j k f : Nat) (O G : Nat → Nat) (P : List (Nat × Nat)) (r : pRT) : Prop := match r with
  | .inl e => prun B n tst m (t0, j, k, f, O, G, P) = some (.inl e)
  | .inr (j', k', v) => ∃ m' f' O' G' X F OO GG, prun B n tst m (t0, j, k, f, O, G, P) = prun B n tst m' (t1, j', k', f', O', G', X) ∧ 2 * (n - j') + t1 ≤ m' ∧ stl lv X f' O' G' = (F, OO, GG, P) ∧ rFr OO GG f F (k' - k) v ∧ (∀ x, x < f → OO x = O x ∧ GG x = G x) ∧ j < j' ∧ j' ≤ n ∧ k < k' ∧ vO v ∧ (t1 = 2 → vT v) ∧ sp j'
theorem rFr_grow {O1 G1 O2 G2 : Nat → Nat} {f F F2 k k1 k2 o : Nat} {v w : valT} (h1 : rFr O1 G1 f F (k1 - k) v) (e : ∀ x, x < F → O2 x = O1 x ∧ G2 x = G1 x) (h2 : rFr O2 G2 F F2 (k2 - k1) w) (ov : vO v) (ow : vO w) (ho : o ≤ 6) (hk : k < k1) (hk2 : k1 < k2) : rFr (up9 O2 F2 (20 + o)) (up9 G2 F2 0) f (F2 + 1) (k2 - k) (vBin o v w) := by
  have l1 := h1.1
  have l2 := h2.1
  have a := rFr_bin (O := up9 O2 F2 (20 + o)) (G := up9 G2 F2 0) (o := o) (h1.cg (fun x g1 g2 => by
    unfold up9
    rw [if_neg (by omega), if_neg (by omega)]
    exact ⟨(e x g2).1.symm, (e x g2).2.symm⟩)) (h2.cg (fun x g1 g2 => by
    unfold up9
    rw [if_neg (by omega), if_neg (by omega)]
    exact ⟨rfl, rfl⟩)) ov ow (by unfold up9; rw [if_pos rfl]) ho
  rw [show k1 - k + (k2 - k1) = k2 - k by omega] at a
  exact a
section
variable {B : Nat → Nat} {n : Nat} {tst : Bool}
theorem opA_mul {j : Nat} (h : sg B n 42 j ∨ sg B n 47 j) : opA B n j = some (if sg B n 42 j then 2 else 3) := by
  have e1 : ¬ sg B n 43 j := fun z => by
    rcases h with h | h
    · have a := h.2; have b := z.2; omega
    · have a := h.2; have b := z.2; omega
  have e2 : ¬ sg B n 45 j := fun z => by
    rcases h with h | h
    · have a := h.2; have b := z.2; omega
    · have a := h.2; have b := z.2; omega
  unfold opA
  rw [if_neg e1, if_neg e2]
  by_cases c : sg B n 42 j
  · rw [if_pos c, if_pos c]
  · rw [if_neg c, if_neg c, if_pos (h.resolve_left c)]
theorem opA_add {j : Nat} (h : sg B n 43 j ∨ sg B n 45 j) : opA B n j = some (if sg B n 43 j then 0 else 1) := by
  unfold opA
  by_cases c : sg B n 43 j
  · rw [if_pos c, if_pos c]
  · rw [if_neg c, if_neg c, if_pos (h.resolve_left c)]
theorem opA_no {j : Nat} (h1 : ¬ (sg B n 42 j ∨ sg B n 47 j)) (h2 : ¬ (sg B n 43 j ∨ sg B n 45 j)) : opA B n j = none := by
  unfold opA
  rw [if_neg (fun z => h2 (Or.inl z)), if_neg (fun z => h2 (Or.inr z)), if_neg (fun z => h1 (Or.inl z)), if_neg (fun z => h1 (Or.inr z))]
theorem numA_lt {j : Nat} (h : numA B n j) : j < n := by
  have a := h.1
  unfold tkK at a
  by_cases c : n ≤ j
  · rw [if_pos c] at a; omega
  · omega
theorem facA_num {j : Nat} (h : facA B n j < 12) : ¬ numA B n j := fun z => by
  have a := ((low_is (fun g => isW B n (5 + g) j) 12).2.1 h).1
  have b := z.1
  omega
abbrev sp6 (B : Nat → Nat) (n : Nat) (j : Nat) : Prop := ¬ (sg B n 42 j ∨ sg B n 47 j)
abbrev sp5 (B : Nat → Nat) (n : Nat) (j : Nat) : Prop := ¬ (sg B n 42 j ∨ sg B n 47 j) ∧ ¬ (sg B n 43 j ∨ sg B n 45 j)
abbrev hdB (l : Nat) (P : List (Nat × Nat)) : Prop := ∀ o a Q, P = (o, a) :: Q → bnd o < l
theorem hdB_nil {l : Nat} : hdB l [] := fun o a Q e => by cases e
theorem hdB_cons {l o a : Nat} {Q : List (Nat × Nat)} (h : bnd o < l) : hdB l ((o, a) :: Q) := fun o' a' Q' e => by cases e; exact h
theorem bnd_le (o : Nat) : bnd o ≤ 6 := by
  unfold bnd
  (repeat' split) <;> omega
theorem rp_leaf {m j k f : Nat} {O G : Nat → Nat} {P : List (Nat × Nat)} (h : (numA B n j ∨ facA B n j < 12) ∧ k < 50) : rFr (up9 O f (if numA B n j then 0 else facA B n j + 1)) (up9 G f (if numA B n j then tkV B n j else 0)) f (f + 1) 1 (leaV B n j) ∧ vO (leaV B n j) := by
  unfold leaV
  by_cases c : numA B n j
  · rw [if_pos c, if_pos c, if_pos c]
    refine ⟨rFr_num (by unfold up9; rw [if_pos rfl]) (by unfold up9; rw [if_pos rfl]) c.2, fun X a e => ?_⟩
    have := c.2
    have := Option.some.inj e
    omega
  · rw [if_neg c, if_neg c, if_neg c]
    refine ⟨rFr_fact (by unfold up9; rw [if_pos rfl]) (h.1.resolve_left c), fun X a e => ?_⟩
    exact (limV_ok e).2
theorem rp_part {b m j k f : Nat} {O G : Nat → Nat} {P : List (Nat × Nat)} {rp : Nat → Nat → pRT} (hb : b ≤ 8) (hbk : brk P = b) (hrp : b < 8 → ∀ m j k f O G P, brk P = b + 1 → hdB 5 P → inn P = 31 → j ≤ n → 2 * (n - j) + 3 ≤ m → rOk B n tst 5 1 3 (sp5 B n) m j k f O G P (rp j k)) (hj : j ≤ n) (hm : 2 * (n - j) + 3 ≤ m) : rOk B n tst 7 1 3 (fun _ => True) m j k f O G P (pPart B n rp b j k) := by
  obtain ⟨m, rfl⟩ : ∃ q, m = q + 1 := ⟨m - 1, by omega⟩
  unfold pPart
  by_cases cs : sg B n 91 j
  · rw [if_pos cs]
    have jl := sg_lt cs
    have nx := nxt_le (B := B) hj
    have nx2 := nx.2 jl
    by_cases cb : b < 8
    · rw [if_pos cb]
      have hr := hrp cb m (nxt B n j) k f O G ((31, 0) :: P) (by rw [brk, if_pos (by omega), hbk]) (hdB_cons (by decide)) (by rw [inn, if_pos (by omega)]) nx.1 (by omega)
      have st : prun B n tst (m + 1) (1, j, k, f, O, G, P) = prun B n tst m (1, nxt B n j, k, f, O, G, (31, 0) :: P) := by
        rw [prun_1, mPart, if_pos cs, hbk, if_pos cb, pnx_s]
      cases hq : rp (nxt B n j) k with
      | inl e =>
        rw [hq] at hr
        show prun B n tst (m + 1) _ = _
        rw [st]
        exact hr
      | inr t =>
        obtain ⟨j1, k1, v⟩ := t
        rw [hq] at hr
        obtain ⟨m', f', O', G', X, F, OO, GG, e1, e2, e3, e4, e5, e6, e7, e8, e9, e10, e11⟩ := hr
        obtain ⟨m', rfl⟩ : ∃ q, m' = q + 1 := ⟨m' - 1, by omega⟩
        have ix : inn X = 31 := by rw [(stl_inn (by omega) X f' O' G' e3).1, inn, if_pos (by omega)]
        dsimp only
        have oo := opA_no e11.1 e11.2
        by_cases c2 : sg B n 93 j1
        · rw [if_pos c2]
          have nx1 := nxt_le (B := B) e7
          have nx3 := nx1.2 (sg_lt c2)
          refine ⟨m', F, OO, GG, P, F, OO, GG, ?_, by omega, stl_stop (fun o a Q _ => by have := bnd_le o; omega), e4, e5, by omega, nx1.1, e8, e9, fun z => absurd z (by decide), trivial⟩
          rw [st, e1, prun_3, mSum, oo]
          dsimp only
          rw [if_pos ix, if_pos c2, e3, mPop, if_pos (by omega), pnx_s]
        · rw [if_neg c2]
          show prun B n tst (m + 1) _ = _
          rw [st, e1, prun_3, mSum, oo]
          dsimp only
          rw [if_pos ix, if_neg c2, pnx_e]
    · rw [if_neg cb]
      show prun B n tst (m + 1) _ = _
      rw [prun_1, mPart, if_pos cs, hbk, if_neg cb, pnx_e]
  · rw [if_neg cs]
    by_cases cl : (numA B n j ∨ facA B n j < 12) ∧ k < 50
    · rw [if_pos cl]
      have jl : j < n := by
        rcases cl.1 with z | z
        · exact numA_lt z
        · exact facA_lt z
      have nx := nxt_le (B := B) hj
      have nx2 := nx.2 jl
      obtain ⟨l1, l2⟩ := rp_leaf (O := O) (G := G) (P := P) (f := f) (m := m) cl
      refine ⟨m, f + 1, _, _, P, f + 1, _, _, ?_, by omega, stl_stop (fun o a Q _ => by have := bnd_le o; omega), by rw [show k + 1 - k = 1 by omega]; exact l1, fun x hx => ?_, by omega, nx.1, by omega, l2, fun z => absurd z (by decide), trivial⟩
      · rw [prun_1, mPart, if_neg cs, if_pos cl, pnx_s]
      · unfold up9
        rw [if_neg (by omega), if_neg (by omega)]
        exact ⟨rfl, rfl⟩
    · rw [if_neg cl]
      show prun B n tst (m + 1) _ = _
      rw [prun_1, mPart, if_neg cs, if_neg cl, pnx_e]
theorem bnd_at : bnd 20 = 5 ∧ bnd 21 = 5 ∧ bnd 22 = 6 ∧ bnd 23 = 6 ∧ bnd 24 = 4 ∧ bnd 25 = 4 ∧ bnd 26 = 4 ∧ bnd 27 = 3 ∧ bnd 28 = 2 ∧ bnd 29 = 1 ∧ bnd 30 = 0 ∧ bnd 31 = 0 := by decide
/-- one more operand: op o, settled at level l -/
theorem rp_more {l o F F2 k k1 k2 f f2 : Nat} {OO GG O2 G2 OO2 GG2 : Nat → Nat} {X P : List (Nat × Nat)} {v w : valT} (hl : bnd (20 + o) = l) (l5 : 4 ≤ l) (ho : o ≤ 6) (hP : hdB l P) (h1 : rFr OO GG f F (k1 - k) v) (hs : stl (l + 1) X f2 O2 G2 = (F2, OO2, GG2, (20 + o, 0) :: P)) (h2 : rFr OO2 GG2 F F2 (k2 - k1) w) (e : ∀ x, x < F → OO2 x = OO x ∧ GG2 x = GG x) (ov : vO v) (ow : vO w) (hk : k < k1) (hk2 : k1 < k2) : stl l X f2 O2 G2 = (F2 + 1, up9 OO2 F2 (20 + o), up9 GG2 F2 0, P) ∧ rFr (up9 OO2 F2 (20 + o)) (up9 GG2 F2 0) f (F2 + 1) (k2 - k) (vBin o v w) := by
  refine ⟨?_, rFr_grow h1 e h2 ov ow ho hk hk2⟩
  rw [stl_le (Nat.le_succ l) X f2 O2 G2 hs, stl, if_neg (by omega), if_neg (by omega)]
  exact stl_stop hP
theorem rp_termL {b : Nat} {rp : Nat → Nat → pRT} (hb : b ≤ 8) (hrp : b < 8 → ∀ m j k f O G P, brk P = b + 1 → hdB 5 P → inn P = 31 → j ≤ n → 2 * (n - j) + 3 ≤ m → rOk B n tst 5 1 3 (sp5 B n) m j k f O G P (rp j k)) (n4 : n ≤ 400) {m0 j k f : Nat} {O G : Nat → Nat} {P : List (Nat × Nat)} (hbk : brk P = b) (hP : hdB 6 P) :
    ∀ M m1 j1 k1 f1 O1 G1 X F OO GG v, 400 < M + j1 → prun B n tst m0 (1, j, k, f, O, G, P) = prun B n tst m1 (3, j1, k1, f1, O1, G1, X) → 2 * (n - j1) + 3 ≤ m1 → stl 6 X f1 O1 G1 = (F, OO, GG, P) → rFr OO GG f F (k1 - k) v → (∀ x, x < f → OO x = O x ∧ GG x = G x) → j < j1 → j1 ≤ n → k < k1 → vO v → rOk B n tst 6 1 3 (sp6 B n) m0 j k f O G P (pTermL B n rp b M j1 k1 v) := by
  intro M
  induction M with
  | zero =>
    intro m1 j1 k1 f1 O1 G1 X F OO GG v h4 e1 e2 e3 e4 e5 e6 e7 e8 e9
    omega
  | succ M ih =>
    intro m1 j1 k1 f1 O1 G1 X F OO GG v h4 e1 e2 e3 e4 e5 e6 e7 e8 e9
    rw [pTermL]
    by_cases cs : sg B n 42 j1 ∨ sg B n 47 j1
    · rw [if_pos cs]
      obtain ⟨m1, rfl⟩ : ∃ q, m1 = q + 1 := ⟨m1 - 1, by omega⟩
      have oa := opA_mul cs
      have jl : j1 < n := by
        rcases cs with z | z
        · exact sg_lt z
        · exact sg_lt z
      have nx := nxt_le (B := B) e7
      have nx2 := nx.2 jl
      have o6 : bnd (20 + (if sg B n 42 j1 then 2 else 3)) = 6 ∧ (if sg B n 42 j1 then 2 else 3) ≤ 6 := by
        split <;> exact ⟨by decide, by omega⟩
      generalize (if sg B n 42 j1 then 2 else 3) = o at oa o6 ⊢
      have lF := e4.1
      have hr := rp_part (tst := tst) (m := m1) (j := nxt B n j1) (k := k1) (f := F) (O := OO) (G := GG) (P := (20 + o, 0) :: P) hb (by rw [brk, if_neg (bnd_30 (by omega)), hbk]) hrp nx.1 (by omega)
      have st : prun B n tst (m1 + 1) (3, j1, k1, f1, O1, G1, X) = prun B n tst m1 (1, nxt B n j1, k1, F, OO, GG, (20 + o, 0) :: P) := by
        rw [prun_3, mSum, oa]
        dsimp only
        rw [o6.1, e3, pnx_s]
      cases hq : pPart B n rp b (nxt B n j1) k1 with
      | inl e =>
        rw [hq] at hr
        show prun B n tst m0 _ = _
        rw [e1, st]
        exact hr
      | inr t =>
        obtain ⟨j2, k2, w⟩ := t
        rw [hq] at hr
        obtain ⟨m', f', O', G', X2, F2, OO2, GG2, d1, d2, d3, d4, d5, d6, d7, d8, d9, -, -⟩ := hr
        dsimp only
        have r := rp_more (l := 6) o6.1 (by omega) o6.2 hP e4 d3 d4 d5 e9 d9 e8 d8
        exact ih m' j2 k2 f' O' G' X2 _ _ _ _ (by omega) (by rw [e1, st, d1]) d2 r.1 r.2 (fun x hx => by
          unfold up9
          have := d4.1
          rw [if_neg (by omega), if_neg (by omega), (d5 x (by omega)).1, (d5 x (by omega)).2]
          exact e5 x hx) (by omega) d7 (by omega) vBin_o
    · rw [if_neg cs]
      exact ⟨m1, f1, O1, G1, X, F, OO, GG, e1, e2, e3, e4, e5, e6, e7, e8, e9, fun z => absurd z (by decide), cs⟩
theorem rp_term {b : Nat} {rp : Nat → Nat → pRT} (hb : b ≤ 8) (hrp : b < 8 → ∀ m j k f O G P, brk P = b + 1 → hdB 5 P → inn P = 31 → j ≤ n → 2 * (n - j) + 3 ≤ m → rOk B n tst 5 1 3 (sp5 B n) m j k f O G P (rp j k)) (n4 : n ≤ 400) {m j k f : Nat} {O G : Nat → Nat} {P : List (Nat × Nat)} (hbk : brk P = b) (hP : hdB 6 P) (hj : j ≤ n) (hm : 2 * (n - j) + 3 ≤ m) : rOk B n tst 6 1 3 (sp6 B n) m j k f O G P (pTerm B n rp b j k) := by
  have hr := rp_part (tst := tst) (k := k) (f := f) (O := O) (G := G) hb hbk hrp hj hm
  unfold pTerm
  cases hq : pPart B n rp b j k with
  | inl e =>
    rw [hq] at hr
    exact hr
  | inr t =>
    obtain ⟨j2, k2, w⟩ := t
    rw [hq] at hr
    obtain ⟨m', f', O', G', X2, F2, OO2, GG2, d1, d2, d3, d4, d5, d6, d7, d8, d9, -, -⟩ := hr
    exact rp_termL hb hrp n4 hbk hP 400 m' j2 k2 f' O' G' X2 F2 OO2 GG2 w (by omega) d1 d2 (by rw [stl_le (Nat.le_succ 6) X2 f' O' G' d3]; exact stl_stop hP) d4 d5 d6 d7 d8 d9
theorem rp_sumL {b : Nat} {rp : Nat → Nat → pRT} (hb : b ≤ 8) (hrp : b < 8 → ∀ m j k f O G P, brk P = b + 1 → hdB 5 P → inn P = 31 → j ≤ n → 2 * (n - j) + 3 ≤ m → rOk B n tst 5 1 3 (sp5 B n) m j k f O G P (rp j k)) (n4 : n ≤ 400) {m0 j k f : Nat} {O G : Nat → Nat} {P : List (Nat × Nat)} (hbk : brk P = b) (hP : hdB 5 P) :
    ∀ M m1 j1 k1 f1 O1 G1 X F OO GG v, 400 < M + j1 → prun B n tst m0 (1, j, k, f, O, G, P) = prun B n tst m1 (3, j1, k1, f1, O1, G1, X) → 2 * (n - j1) + 3 ≤ m1 → stl 5 X f1 O1 G1 = (F, OO, GG, P) → rFr OO GG f F (k1 - k) v → (∀ x, x < f → OO x = O x ∧ GG x = G x) → j < j1 → j1 ≤ n → k < k1 → vO v → sp6 B n j1 → rOk B n tst 5 1 3 (sp5 B n) m0 j k f O G P (pSumL B n rp b M j1 k1 v) := by
  intro M
  induction M with
  | zero =>
    intro m1 j1 k1 f1 O1 G1 X F OO GG v h4 e1 e2 e3 e4 e5 e6 e7 e8 e9
    omega
  | succ M ih =>
    intro m1 j1 k1 f1 O1 G1 X F OO GG v h4 e1 e2 e3 e4 e5 e6 e7 e8 e9 e10
    rw [pSumL]
    by_cases cs : sg B n 43 j1 ∨ sg B n 45 j1
    · rw [if_pos cs]
      obtain ⟨m1, rfl⟩ : ∃ q, m1 = q + 1 := ⟨m1 - 1, by omega⟩
      have oa := opA_add cs
      have jl : j1 < n := by
        rcases cs with z | z
        · exact sg_lt z
        · exact sg_lt z
      have nx := nxt_le (B := B) e7
      have nx2 := nx.2 jl
      have o6 : bnd (20 + (if sg B n 43 j1 then 0 else 1)) = 5 ∧ (if sg B n 43 j1 then 0 else 1) ≤ 6 := by
        split <;> exact ⟨by decide, by omega⟩
      generalize (if sg B n 43 j1 then 0 else 1) = o at oa o6 ⊢
      have lF := e4.1
      have hr := rp_term (tst := tst) (m := m1) (j := nxt B n j1) (k := k1) (f := F) (O := OO) (G := GG) (P := (20 + o, 0) :: P) hb hrp n4 (by rw [brk, if_neg (bnd_30 (by omega)), hbk]) (hdB_cons (by omega)) nx.1 (by omega)
      have st : prun B n tst (m1 + 1) (3, j1, k1, f1, O1, G1, X) = prun B n tst m1 (1, nxt B n j1, k1, F, OO, GG, (20 + o, 0) :: P) := by
        rw [prun_3, mSum, oa]
        dsimp only
        rw [o6.1, e3, pnx_s]
      cases hq : pTerm B n rp b (nxt B n j1) k1 with
      | inl e =>
        rw [hq] at hr
        show prun B n tst m0 _ = _
        rw [e1, st]
        exact hr
      | inr t =>
        obtain ⟨j2, k2, w⟩ := t
        rw [hq] at hr
        obtain ⟨m', f', O', G', X2, F2, OO2, GG2, d1, d2, d3, d4, d5, d6, d7, d8, d9, -, d11⟩ := hr
        dsimp only
        have r := rp_more (l := 5) o6.1 (by omega) o6.2 hP e4 d3 d4 d5 e9 d9 e8 d8
        exact ih m' j2 k2 f' O' G' X2 _ _ _ _ (by omega) (by rw [e1, st, d1]) d2 r.1 r.2 (fun x hx => by
          unfold up9
          have := d4.1
          rw [if_neg (by omega), if_neg (by omega), (d5 x (by omega)).1, (d5 x (by omega)).2]
          exact e5 x hx) (by omega) d7 (by omega) vBin_o d11
    · rw [if_neg cs]
      exact ⟨m1, f1, O1, G1, X, F, OO, GG, e1, e2, e3, e4, e5, e6, e7, e8, e9, fun z => absurd z (by decide), e10, cs⟩
theorem rp_sumO {b : Nat} {rp : Nat → Nat → pRT} (hb : b ≤ 8) (hrp : b < 8 → ∀ m j k f O G P, brk P = b + 1 → hdB 5 P → inn P = 31 → j ≤ n → 2 * (n - j) + 3 ≤ m → rOk B n tst 5 1 3 (sp5 B n) m j k f O G P (rp j k)) (n4 : n ≤ 400) {m j k f : Nat} {O G : Nat → Nat} {P : List (Nat × Nat)} (hbk : brk P = b) (hP : hdB 5 P) (hj : j ≤ n) (hm : 2 * (n - j) + 3 ≤ m) : rOk B n tst 5 1 3 (sp5 B n) m j k f O G P (pSumO B n rp b j k) := by
  have hr := rp_term (tst := tst) (k := k) (f := f) (O := O) (G := G) hb hrp n4 hbk (fun o a Q e => by have := hP o a Q e; omega) hj hm
  unfold pSumO
  cases hq : pTerm B n rp b j k with
  | inl e =>
    rw [hq] at hr
    exact hr
  | inr t =>
    obtain ⟨j2, k2, w⟩ := t
    rw [hq] at hr
    obtain ⟨m', f', O', G', X2, F2, OO2, GG2, d1, d2, d3, d4, d5, d6, d7, d8, d9, -, d11⟩ := hr
    exact rp_sumL hb hrp n4 hbk hP 400 m' j2 k2 f' O' G' X2 F2 OO2 GG2 w (by omega) d1 d2 (by rw [stl_le (Nat.le_succ 5) X2 f' O' G' d3]; exact stl_stop hP) d4 d5 d6 d7 d8 d9 d11
theorem rp_sum (n4 : n ≤ 400) : ∀ d b, 9 ≤ d + b → b ≤ 8 → ∀ m j k f O G P, brk P = b → hdB 5 P → j ≤ n → 2 * (n - j) + 3 ≤ m → rOk B n tst 5 1 3 (sp5 B n) m j k f O G P (pSum B n d b j k) := by
  intro d
  induction d with
  | zero => intro b h1 h2; omega
  | succ d ih =>
    intro b h1 h2 m j k f O G P hbk hP hj hm
    rw [pSum]
    exact rp_sumO h2 (fun hb m j k f O G P q1 q2 _ q3 q4 => ih (b + 1) (by omega) (by omega) m j k f O G P q1 q2 q3 q4) n4 hbk hP hj hm
end
