/-! the machine reads what the pure reader reads: tests -/
def nts : Nat → List (Nat × Nat) → List (Nat × Nat)
  | 0, P => P
  | c + 1, P => (27, 0) :: nts c P
def nv : Nat → valT → valT
  | 0, v => v
  | c + 1, v => nv c (vNot v)
theorem nv_par : ∀ c v, nv c v = if (c % 2 == 1) = true then vNot v else v := by
  intro c
  induction c with
  | zero => intro v; rfl
  | succ c ih =>
    intro v
    rw [nv, ih]
    rcases Nat.mod_two_eq_zero_or_one c with e | e
    · have e2 : (c + 1) % 2 = 1 := by omega
      rw [e, e2]
      rfl
    · have e2 : (c + 1) % 2 = 0 := by omega
      rw [e, e2]
      show vNot (vNot v) = v
      exact vNot2 v
theorem nv_t : ∀ c v, vT v → vT (nv c v) := by
  intro c
  induction c with
  | zero => intro v h; exact h
  | succ c ih => intro v h; exact ih _ (vNot_t h)
theorem nts_brk (P : List (Nat × Nat)) : ∀ c, brk (nts c P) = brk P ∧ inn (nts c P) = inn P := by
  intro c
  induction c with
  | zero => exact ⟨rfl, rfl⟩
  | succ c ih =>
    rw [nts, brk, inn, if_neg (by omega), if_neg (by omega)]
    exact ih
theorem nts_hdB {P : List (Nat × Nat)} (h : hdB 3 P) (c : Nat) : hdB 4 (nts c P) ∧ (cmpd P = false → cmpd (nts c P) = false) := by
  cases c with
  | zero => exact ⟨fun o a Q e => by have := h o a Q e; omega, id⟩
  | succ c => exact ⟨hdB_cons (by decide), fun _ => rfl⟩
theorem stl_nts {P : List (Nat × Nat)} (h : hdB 3 P) : ∀ c f F d (OO GG : Nat → Nat) (v : valT), rFr OO GG f F d v → ∃ F' OO' GG', stl 3 (nts c P) F OO GG = (F', OO', GG', P) ∧ rFr OO' GG' f F' d (nv c v) ∧ ∀ x, x < F → OO' x = OO x ∧ GG' x = GG x := by
  intro c
  induction c with
  | zero => intro f F d OO GG v r; exact ⟨F, OO, GG, stl_stop h, r, fun _ _ => ⟨rfl, rfl⟩⟩
  | succ c ih =>
    intro f F d OO GG v r
    have r2 : rFr (up9 OO F 27) (up9 GG F 0) f (F + 1) d (vNot v) := rFr_not (r.cg (fun x g1 g2 => by
      unfold up9
      rw [if_neg (by omega), if_neg (by omega)]
      exact ⟨rfl, rfl⟩)) (by unfold up9; rw [if_pos rfl])
    obtain ⟨F', OO', GG', e1, e2, e3⟩ := ih f (F + 1) d _ _ _ r2
    refine ⟨F', OO', GG', ?_, e2, fun x hx => ?_⟩
    · rw [nts, stl, if_neg (by decide), if_neg (by decide)]
      exact e1
    · rw [(e3 x (by omega)).1, (e3 x (by omega)).2]
      unfold up9
      rw [if_neg (by omega), if_neg (by omega)]
      exact ⟨rfl, rfl⟩
section
variable {B : Nat → Nat} {n : Nat}
theorem rp_nots (n4 : n ≤ 400) {k f : Nat} {O G : Nat → Nat} {P : List (Nat × Nat)} : ∀ M m j c (t : Bool), 400 ≤ M + j → j ≤ n → 2 * (n - j) + 3 ≤ m → t = (c % 2 == 1) → ∃ m' c', prun B n true m (0, j, k, f, O, G, nts c P) = prun B n true m' (0, (pNots B n M j t).1, k, f, O, G, nts c' P) ∧ 2 * (n - (pNots B n M j t).1) + 3 ≤ m' ∧ j ≤ (pNots B n M j t).1 ∧ (pNots B n M j t).1 ≤ n ∧ ¬ isW B n 18 (pNots B n M j t).1 ∧ (pNots B n M j t).2 = (c' % 2 == 1) := by
  intro M
  induction M with
  | zero =>
    intro m j c t h1 h2 h3 h4
    exact ⟨m, c, rfl, h3, Nat.le_refl _, h2, fun z => by have : j < n := isW_lt z; omega, h4⟩
  | succ M ih =>
    intro m j c t h1 h2 h3 h4
    rw [pNots]
    by_cases cw : isW B n 18 j
    · rw [if_pos cw]
      obtain ⟨m, rfl⟩ : ∃ q, m = q + 1 := ⟨m - 1, by omega⟩
      have nx := nxt_le (B := B) h2
      have nx2 := nx.2 (isW_lt cw)
      obtain ⟨m', c', e1, e2, e3, e4, e5, e6⟩ := ih m (nxt B n j) (c + 1) (!t) (by omega) nx.1 (by omega) (by
        rw [h4]
        rcases Nat.mod_two_eq_zero_or_one c with e | e
        · have e2 : (c + 1) % 2 = 1 := by omega
          rw [e, e2]; rfl
        · have e2 : (c + 1) % 2 = 0 := by omega
          rw [e, e2]; rfl)
      refine ⟨m', c', ?_, e2, by omega, e4, e5, e6⟩
      rw [← e1, prun_0, mPlain, if_pos cw, pnx_s]
      rfl
    · rw [if_neg cw]
      exact ⟨m, c, rfl, h3, Nat.le_refl _, h2, cw, h4⟩
theorem rp_comp (n4 : n ≤ 400) {b m j k f : Nat} {O G : Nat → Nat} {P : List (Nat × Nat)} (hb : b ≤ 8) (hbk : brk P = b) (hP : hdB 4 P) (hc : cmpd P = false) (hi : inn P ≠ 31) (h1 : ¬ isW B n 18 j) (h2 : ¬ sg B n 40 j) (hj : j ≤ n) (hm : 2 * (n - j) + 3 ≤ m) : rOk B n true 4 0 2 (fun _ => True) m j k f O G P (pComp B n b j k) := by
  have hr := rp_sum (B := B) (tst := true) n4 9 b (by omega) hb m j k f O G P hbk (fun o a Q e => by have := hP o a Q e; omega) hj hm
  have st : prun B n true m (0, j, k, f, O, G, P) = prun B n true m (1, j, k, f, O, G, P) := by
    obtain ⟨m, rfl⟩ : ∃ q, m = q + 1 := ⟨m - 1, by omega⟩
    rw [prun_0, prun_1, mPlain, if_neg h1, if_neg h2]
  unfold pComp
  cases hq : pSum B n 9 b j k with
  | inl e =>
    rw [hq] at hr
    show prun B n true m _ = _
    rw [st]
    exact hr
  | inr t =>
    obtain ⟨j1, k1, v⟩ := t
    rw [hq] at hr
    obtain ⟨m', f', O', G', X, F, OO, GG, e1, e2, e3, e4, e5, e6, e7, e8, e9, -, e11⟩ := hr
    obtain ⟨m', rfl⟩ : ∃ q, m' = q + 1 := ⟨m' - 1, by omega⟩
    have ix : ¬ inn X = 31 := by rw [(stl_inn (by omega) X f' O' G' e3).1]; exact hi
    have cx : ¬ cmpd X = true := by rw [stl_cmp (by omega) X f' O' G' e3, hc]; decide
    have oo := opA_no e11.1 e11.2
    have nt : ¬ (inn X = 0 ∧ true = false) := fun z => absurd z.2 (by decide)
    dsimp only
    have st2 : prun B n true (m' + 1) (3, j1, k1, f', O', G', X) = pnx B n true m' (match cmpA B n j1 with
      | none => some (.inl j1)
      | some o => some (.inr (1, nxt B n j1, k1, F, OO, GG, (20 + o, 0) :: P))) := by
      rw [prun_3, mSum, oo]
      dsimp only
      rw [if_neg ix, if_neg nt, if_neg cx, e3]
      cases cmpA B n j1 <;> rfl
    cases hca : cmpA B n j1 with
    | none =>
      show prun B n true m _ = _
      rw [st, e1, st2, hca]
      rfl
    | some o =>
      dsimp only
      rw [hca] at st2
      have jl : j1 < n := by
        unfold cmpA at hca
        split at hca
        · exact sg_lt (by assumption)
        · split at hca
          · exact sg_lt (by assumption)
          · split at hca
            · exact sg_lt (by assumption)
            · cases hca
      have o46 : 4 ≤ o ∧ o ≤ 6 := by
        unfold cmpA at hca
        (repeat' split at hca) <;> first | (have := Option.some.inj hca; omega) | (cases hca)
      have b4 : bnd (20 + o) = 4 := by
        have : ∀ o, o < 7 → 4 ≤ o → bnd (20 + o) = 4 := by decide
        exact this o (by omega) o46.1
      have nx := nxt_le (B := B) e7
      have nx2 := nx.2 jl
      have hr2 := rp_sum (B := B) (tst := true) n4 9 b (by omega) hb m' (nxt B n j1) k1 F OO GG ((20 + o, 0) :: P) (by rw [brk, if_neg (by omega), hbk]) (hdB_cons (by omega)) nx.1 (by omega)
      have st3 : prun B n true m (0, j, k, f, O, G, P) = prun B n true m' (1, nxt B n j1, k1, F, OO, GG, (20 + o, 0) :: P) := by
        rw [st, e1, st2]
        rfl
      cases hq2 : pSum B n 9 b (nxt B n j1) k1 with
      | inl e =>
        rw [hq2] at hr2
        show prun B n true m _ = _
        rw [st3]
        exact hr2
      | inr t =>
        obtain ⟨j2, k2, w⟩ := t
        rw [hq2] at hr2
        obtain ⟨m2, f2, O2, G2, X2, F2, OO2, GG2, d1, d2, d3, d4, d5, d6, d7, d8, d9, -, d11⟩ := hr2
        obtain ⟨m2, rfl⟩ : ∃ q, m2 = q + 1 := ⟨m2 - 1, by omega⟩
        have ix2 : ¬ inn X2 = 31 := by rw [(stl_inn (by omega) X2 f2 O2 G2 d3).1, inn, if_neg (by omega)]; exact hi
        have cx2 : cmpd X2 = true := by rw [stl_cmp (by omega) X2 f2 O2 G2 d3, cmpd, if_neg (by omega), if_pos (by omega)]
        have oo2 := opA_no d11.1 d11.2
        have nt2 : ¬ (inn X2 = 0 ∧ true = false) := fun z => absurd z.2 (by decide)
        have r := rp_more (l := 4) b4 (by omega) o46.2 hP e4 d3 d4 d5 e9 d9 e8 d8
        have lF := e4.1
        refine ⟨m2, f2, O2, G2, X2, _, _, _, ?_, by omega, r.1, r.2, fun x hx => ?_, by omega, d7, by omega, vBin_o, fun _ => vBin_t o46.1, trivial⟩
        · rw [st3, d1, prun_3, mSum, oo2]
          dsimp only
          rw [if_neg ix2, if_neg nt2, if_pos cx2, pnx_s]
        · unfold up9
          have := d4.1
          rw [if_neg (by omega), if_neg (by omega), (d5 x (by omega)).1, (d5 x (by omega)).2]
          exact e5 x hx
abbrev sp1 (B : Nat → Nat) (n : Nat) (j : Nat) : Prop := ¬ isW B n 19 j ∧ ¬ isW B n 20 j
abbrev hRt (B : Nat → Nat) (n b : Nat) (rt : Nat → Nat → pRT) : Prop := b < 8 → ∀ m j k f O G P, brk P = b + 1 → hdB 1 P → inn P ≠ 31 → j ≤ n → 2 * (n - j) + 3 ≤ m → rOk B n true 1 0 2 (sp1 B n) m j k f O G P (rt j k)
theorem sg_isW {c k j : Nat} (h : sg B n c j) : ¬ isW B n k j := fun z => by
  have a := h.1
  have b := z.1
  omega
theorem rp_bra {b m j k f : Nat} {O G : Nat → Nat} {P : List (Nat × Nat)} {rt : Nat → Nat → pRT} (hb : b ≤ 8) (hrt : hRt B n b rt) (hbk : brk P = b) (hP : hdB 4 P) (h2 : sg B n 40 j) (hj : j ≤ n) (hm : 2 * (n - j) + 3 ≤ m) : rOk B n true 4 0 2 (fun _ => True) m j k f O G P (pBra B n rt b j k) := by
  obtain ⟨m, rfl⟩ : ∃ q, m = q + 1 := ⟨m - 1, by omega⟩
  have jl := sg_lt h2
  have nx := nxt_le (B := B) hj
  have nx2 := nx.2 jl
  unfold pBra
  by_cases cb : b < 8
  · rw [if_pos cb]
    have hr := hrt cb m (nxt B n j) k f O G ((30, 0) :: P) (by rw [brk, if_pos (by omega), hbk]) (hdB_cons (by decide)) (by rw [inn, if_pos (by omega)]; decide) nx.1 (by omega)
    have st : prun B n true (m + 1) (0, j, k, f, O, G, P) = prun B n true m (0, nxt B n j, k, f, O, G, (30, 0) :: P) := by
      rw [prun_0, mPlain, if_neg (sg_isW h2), if_pos h2, hbk, if_pos cb, pnx_s]
    cases hq : rt (nxt B n j) k with
    | inl e =>
      rw [hq] at hr
      show prun B n true (m + 1) _ = _
      rw [st]
      exact hr
    | inr t =>
      obtain ⟨j1, k1, v⟩ := t
      rw [hq] at hr
      obtain ⟨m', f', O', G', X, F, OO, GG, e1, e2, e3, e4, e5, e6, e7, e8, e9, e10, e11⟩ := hr
      obtain ⟨m', rfl⟩ : ∃ q, m' = q + 1 := ⟨m' - 1, by omega⟩
      have ix : ¬ inn X = 0 := by rw [(stl_inn (by omega) X f' O' G' e3).1, inn, if_pos (by omega)]; decide
      dsimp only
      by_cases c2 : sg B n 41 j1
      · rw [if_pos c2]
        have nx1 := nxt_le (B := B) e7
        have nx3 := nx1.2 (sg_lt c2)
        refine ⟨m', F, OO, GG, P, F, OO, GG, ?_, by omega, stl_stop hP, e4, e5, by omega, nx1.1, e8, e9, fun _ => e10 rfl, trivial⟩
        rw [st, e1, prun_2, mTold, if_neg e11.1, if_neg e11.2, if_neg ix, if_pos c2, e3, mPop, if_pos (by omega), pnx_s]
      · rw [if_neg c2]
        show prun B n true (m + 1) _ = _
        rw [st, e1, prun_2, mTold, if_neg e11.1, if_neg e11.2, if_neg ix, if_neg c2, pnx_e]
  · rw [if_neg cb]
    show prun B n true (m + 1) _ = _
    rw [prun_0, mPlain, if_neg (sg_isW h2), if_pos h2, hbk, if_neg cb, pnx_e]
theorem rp_plain (n4 : n ≤ 400) {b m j k f : Nat} {O G : Nat → Nat} {P : List (Nat × Nat)} {rt : Nat → Nat → pRT} (hb : b ≤ 8) (hrt : hRt B n b rt) (hbk : brk P = b) (hP : hdB 3 P) (hi : inn P ≠ 31) (hc : cmpd P = false) (hj : j ≤ n) (hm : 2 * (n - j) + 3 ≤ m) : rOk B n true 3 0 2 (fun _ => True) m j k f O G P (pPlain B n rt b j k) := by
  obtain ⟨m1, c, e1, e2, e3, e4, e5, e6⟩ := rp_nots (B := B) n4 (k := k) (f := f) (O := O) (G := G) (P := P) 400 m j 0 false (by omega) hj hm rfl
  have pp : pPlain B n rt b j k = pTurn (pNots B n 400 j false).2 (if sg B n 40 (pNots B n 400 j false).1 then pBra B n rt b (pNots B n 400 j false).1 k else pComp B n b (pNots B n 400 j false).1 k) := rfl
  rw [pp, e6]
  generalize (pNots B n 400 j false).1 = j1 at e1 e2 e3 e4 e5 ⊢
  have nb := nts_brk P c
  have nh := nts_hdB hP c
  have key : rOk B n true 4 0 2 (fun _ => True) m1 j1 k f O G (nts c P) (if sg B n 40 j1 then pBra B n rt b j1 k else pComp B n b j1 k) := by
    by_cases cs : sg B n 40 j1
    · rw [if_pos cs]
      exact rp_bra hb hrt (nb.1.trans hbk) nh.1 cs e4 e2
    · rw [if_neg cs]
      exact rp_comp n4 hb (nb.1.trans hbk) nh.1 (nh.2 hc) (by rw [nb.2]; exact hi) e5 cs e4 e2
  generalize (if sg B n 40 j1 then pBra B n rt b j1 k else pComp B n b j1 k) = r at key ⊢
  cases r with
  | inl e =>
    show prun B n true m _ = _
    rw [show (0, j, k, f, O, G, P) = ((0, j, k, f, O, G, nts 0 P) : rMs) from rfl, e1]
    exact key
  | inr t =>
    obtain ⟨j2, k2, v⟩ := t
    obtain ⟨m', f', O', G', X, F, OO, GG, d1, d2, d3, d4, d5, d6, d7, d8, d9, d10, -⟩ := key
    obtain ⟨F', OO', GG', s1, s2, s3⟩ := stl_nts hP c f F (k2 - k) OO GG v d4
    have lF := d4.1
    rw [nv_par] at s2
    have tt := nv_t c v (d10 rfl)
    rw [nv_par] at tt
    refine ⟨m', f', O', G', X, F', OO', GG', ?_, d2, ?_, s2, fun x hx => ?_, by omega, d7, d8, tt.o, fun _ => tt, trivial⟩
    · rw [show (0, j, k, f, O, G, P) = ((0, j, k, f, O, G, nts 0 P) : rMs) from rfl, e1, d1]
    · rw [stl_le (by omega) X f' O' G' d3, s1]
    · rw [(s3 x (by omega)).1, (s3 x (by omega)).2]
      exact d5 x hx
/-- one more plain test: o 0 and, 1 or -/
theorem rp_moreA {l o F F2 k k1 k2 f f2 : Nat} {OO GG O2 G2 OO2 GG2 : Nat → Nat} {X P : List (Nat × Nat)} {v w : valT} (hl : bnd (28 + o) = l) (ho : o = 0 ∨ o = 1) (hP : hdB l P) (h1 : rFr OO GG f F (k1 - k) v) (hs : stl (l + 1) X f2 O2 G2 = (F2, OO2, GG2, (28 + o, F) :: P)) (h2 : rFr OO2 GG2 (F + 1) F2 (k2 - k1) w) (e : ∀ x, x < F + 1 → OO2 x = up9 OO F (28 + o) x ∧ GG2 x = up9 GG F 0 x) (tv : vT v) (hk : k < k1) (hk2 : k1 < k2) : stl l X f2 O2 G2 = (F2, OO2, up9 GG2 F F2, P) ∧ rFr OO2 (up9 GG2 F F2) f F2 (k2 - k) (vAO o v w) ∧ ∀ x, x < F → OO2 x = OO x ∧ up9 GG2 F F2 x = GG x := by
  have ag : ∀ x, x < F → OO2 x = OO x ∧ up9 GG2 F F2 x = GG x := fun x hx => by
    obtain ⟨a, b⟩ := e x (by omega)
    unfold up9 at a b ⊢
    rw [if_neg (by omega)] at a b ⊢
    exact ⟨a, b⟩
  refine ⟨?_, ?_, ag⟩
  · rw [stl_le (Nat.le_succ l) X f2 O2 G2 hs, stl, if_neg (by omega), if_pos (by omega)]
    exact stl_stop hP
  · have a := rFr_ao (O := OO2) (G := up9 GG2 F F2) (o := o) (h1.cg (fun x g1 g2 => ⟨(ag x g2).1.symm, (ag x g2).2.symm⟩)) (h2.cg (fun x g1 g2 => ⟨rfl, by unfold up9; rw [if_neg (by omega)]⟩)) tv ho (by rw [(e F (by omega)).1]; unfold up9; rw [if_pos rfl]) (by unfold up9; rw [if_pos rfl])
    rw [show k1 - k + (k2 - k1) = k2 - k by omega] at a
    exact a
theorem hdB_cmp {P : List (Nat × Nat)} (h : hdB 3 P) : cmpd P = false := by
  cases P with
  | nil => rfl
  | cons q Q =>
    obtain ⟨o, a⟩ := q
    have := h o a Q rfl
    rw [cmpd]
    by_cases c : o ≤ 26
    · exfalso
      have : ∀ o, o < 27 → ¬ bnd o < 3 := by decide
      exact this o (by omega) (h o a Q rfl)
    · rw [if_neg (by omega), if_neg c]
theorem rp_bothL (n4 : n ≤ 400) {b : Nat} {rt : Nat → Nat → pRT} (hb : b ≤ 8) (hrt : hRt B n b rt) {m0 j k f : Nat} {O G : Nat → Nat} {P : List (Nat × Nat)} (hbk : brk P = b) (hP : hdB 2 P) (hi : inn P ≠ 31) :
    ∀ M m1 j1 k1 f1 O1 G1 X F OO GG v, 400 < M + j1 → prun B n true m0 (0, j, k, f, O, G, P) = prun B n true m1 (2, j1, k1, f1, O1, G1, X) → 2 * (n - j1) + 2 ≤ m1 → stl 2 X f1 O1 G1 = (F, OO, GG, P) → rFr OO GG f F (k1 - k) v → (∀ x, x < f → OO x = O x ∧ GG x = G x) → j < j1 → j1 ≤ n → k < k1 → vT v → rOk B n true 2 0 2 (fun j => ¬ isW B n 19 j) m0 j k f O G P (pBothL B n rt b M j1 k1 v) := by
  intro M
  induction M with
  | zero =>
    intro m1 j1 k1 f1 O1 G1 X F OO GG v h4 e1 e2 e3 e4 e5 e6 e7 e8 e9
    omega
  | succ M ih =>
    intro m1 j1 k1 f1 O1 G1 X F OO GG v h4 e1 e2 e3 e4 e5 e6 e7 e8 e9
    rw [pBothL]
    by_cases cs : isW B n 19 j1
    · rw [if_pos cs]
      obtain ⟨m1, rfl⟩ : ∃ q, m1 = q + 1 := ⟨m1 - 1, by omega⟩
      have jl : j1 < n := isW_lt cs
      have nx := nxt_le (B := B) e7
      have nx2 := nx.2 jl
      have lF := e4.1
      have hr := rp_plain (m := m1) (j := nxt B n j1) (k := k1) (f := F + 1) (O := up9 OO F 28) (G := up9 GG F 0) (P := (28, F) :: P) n4 hb hrt (by rw [brk, if_neg (by omega), hbk]) (hdB_cons (by decide)) (by rw [inn, if_neg (by omega)]; exact hi) rfl nx.1 (by omega)
      have st : prun B n true (m1 + 1) (2, j1, k1, f1, O1, G1, X) = prun B n true m1 (0, nxt B n j1, k1, F + 1, up9 OO F 28, up9 GG F 0, (28, F) :: P) := by
        rw [prun_2, mTold, if_pos cs, e3]
        rfl
      cases hq : pPlain B n rt b (nxt B n j1) k1 with
      | inl e =>
        rw [hq] at hr
        show prun B n true m0 _ = _
        rw [e1, st]
        exact hr
      | inr t =>
        obtain ⟨j2, k2, w⟩ := t
        rw [hq] at hr
        obtain ⟨m', f', O', G', X2, F2, OO2, GG2, d1, d2, d3, d4, d5, d6, d7, d8, d9, d10, -⟩ := hr
        dsimp only
        have r := rp_moreA (l := 2) (o := 0) (by decide) (by omega) hP e4 d3 d4 d5 e9 e8 d8
        exact ih m' j2 k2 f' O' G' X2 _ _ _ _ (by omega) (by rw [e1, st, d1]) d2 r.1 r.2.1 (fun x hx => by
          rw [(r.2.2 x (by omega)).1, (r.2.2 x (by omega)).2]
          exact e5 x hx) (by omega) d7 (by omega) (vAO_t e9 (d10 rfl))
    · rw [if_neg cs]
      exact ⟨m1, f1, O1, G1, X, F, OO, GG, e1, e2, e3, e4, e5, e6, e7, e8, e9.o, fun _ => e9, cs⟩
theorem rp_both (n4 : n ≤ 400) {b : Nat} {rt : Nat → Nat → pRT} (hb : b ≤ 8) (hrt : hRt B n b rt) {m j k f : Nat} {O G : Nat → Nat} {P : List (Nat × Nat)} (hbk : brk P = b) (hP : hdB 2 P) (hi : inn P ≠ 31) (hj : j ≤ n) (hm : 2 * (n - j) + 3 ≤ m) : rOk B n true 2 0 2 (fun j => ¬ isW B n 19 j) m j k f O G P (pBoth B n rt b j k) := by
  have hP3 : hdB 3 P := fun o a Q e => by have := hP o a Q e; omega
  have hr := rp_plain (k := k) (f := f) (O := O) (G := G) n4 hb hrt hbk hP3 hi (hdB_cmp hP3) hj hm
  unfold pBoth
  cases hq : pPlain B n rt b j k with
  | inl e =>
    rw [hq] at hr
    exact hr
  | inr t =>
    obtain ⟨j2, k2, w⟩ := t
    rw [hq] at hr
    obtain ⟨m', f', O', G', X2, F2, OO2, GG2, d1, d2, d3, d4, d5, d6, d7, d8, d9, d10, -⟩ := hr
    exact rp_bothL n4 hb hrt hbk hP hi 400 m' j2 k2 f' O' G' X2 F2 OO2 GG2 w (by omega) d1 d2 (by rw [stl_le (Nat.le_succ 2) X2 f' O' G' d3]; exact stl_stop hP) d4 d5 d6 d7 d8 (d10 rfl)
theorem rp_testL (n4 : n ≤ 400) {b : Nat} {rt : Nat → Nat → pRT} (hb : b ≤ 8) (hrt : hRt B n b rt) {m0 j k f : Nat} {O G : Nat → Nat} {P : List (Nat × Nat)} (hbk : brk P = b) (hP : hdB 1 P) (hi : inn P ≠ 31) :
    ∀ M m1 j1 k1 f1 O1 G1 X F OO GG v, 400 < M + j1 → prun B n true m0 (0, j, k, f, O, G, P) = prun B n true m1 (2, j1, k1, f1, O1, G1, X) → 2 * (n - j1) + 2 ≤ m1 → stl 1 X f1 O1 G1 = (F, OO, GG, P) → rFr OO GG f F (k1 - k) v → (∀ x, x < f → OO x = O x ∧ GG x = G x) → j < j1 → j1 ≤ n → k < k1 → vT v → ¬ isW B n 19 j1 → rOk B n true 1 0 2 (sp1 B n) m0 j k f O G P (pTestL B n rt b M j1 k1 v) := by
  intro M
  induction M with
  | zero =>
    intro m1 j1 k1 f1 O1 G1 X F OO GG v h4 e1 e2 e3 e4 e5 e6 e7 e8 e9
    omega
  | succ M ih =>
    intro m1 j1 k1 f1 O1 G1 X F OO GG v h4 e1 e2 e3 e4 e5 e6 e7 e8 e9 e10
    rw [pTestL]
    by_cases cs : isW B n 20 j1
    · rw [if_pos cs]
      obtain ⟨m1, rfl⟩ : ∃ q, m1 = q + 1 := ⟨m1 - 1, by omega⟩
      have jl : j1 < n := isW_lt cs
      have nx := nxt_le (B := B) e7
      have nx2 := nx.2 jl
      have lF := e4.1
      have hr := rp_both (m := m1) (j := nxt B n j1) (k := k1) (f := F + 1) (O := up9 OO F 29) (G := up9 GG F 0) (P := (29, F) :: P) n4 hb hrt (by rw [brk, if_neg (by omega), hbk]) (hdB_cons (by decide)) (by rw [inn, if_neg (by omega)]; exact hi) nx.1 (by omega)
      have st : prun B n true (m1 + 1) (2, j1, k1, f1, O1, G1, X) = prun B n true m1 (0, nxt B n j1, k1, F + 1, up9 OO F 29, up9 GG F 0, (29, F) :: P) := by
        rw [prun_2, mTold, if_neg e10, if_pos cs, e3]
        rfl
      cases hq : pBoth B n rt b (nxt B n j1) k1 with
      | inl e =>
        rw [hq] at hr
        show prun B n true m0 _ = _
        rw [e1, st]
        exact hr
      | inr t =>
        obtain ⟨j2, k2, w⟩ := t
        rw [hq] at hr
        obtain ⟨m', f', O', G', X2, F2, OO2, GG2, d1, d2, d3, d4, d5, d6, d7, d8, d9, d10, d11⟩ := hr
        dsimp only
        have r := rp_moreA (l := 1) (o := 1) (by decide) (by omega) hP e4 d3 d4 d5 e9 e8 d8
        exact ih m' j2 k2 f' O' G' X2 _ _ _ _ (by omega) (by rw [e1, st, d1]) d2 r.1 r.2.1 (fun x hx => by
          rw [(r.2.2 x (by omega)).1, (r.2.2 x (by omega)).2]
          exact e5 x hx) (by omega) d7 (by omega) (vAO_t e9 (d10 rfl)) d11
    · rw [if_neg cs]
      exact ⟨m1, f1, O1, G1, X, F, OO, GG, e1, e2, e3, e4, e5, e6, e7, e8, e9.o, fun _ => e9, e10, cs⟩
theorem rp_testO (n4 : n ≤ 400) {b : Nat} {rt : Nat → Nat → pRT} (hb : b ≤ 8) (hrt : hRt B n b rt) {m j k f : Nat} {O G : Nat → Nat} {P : List (Nat × Nat)} (hbk : brk P = b) (hP : hdB 1 P) (hi : inn P ≠ 31) (hj : j ≤ n) (hm : 2 * (n - j) + 3 ≤ m) : rOk B n true 1 0 2 (sp1 B n) m j k f O G P (pTestO B n rt b j k) := by
  have hP2 : hdB 2 P := fun o a Q e => by have := hP o a Q e; omega
  have hr := rp_both (k := k) (f := f) (O := O) (G := G) n4 hb hrt hbk hP2 hi hj hm
  unfold pTestO
  cases hq : pBoth B n rt b j k with
  | inl e =>
    rw [hq] at hr
    exact hr
  | inr t =>
    obtain ⟨j2, k2, w⟩ := t
    rw [hq] at hr
    obtain ⟨m', f', O', G', X2, F2, OO2, GG2, d1, d2, d3, d4, d5, d6, d7, d8, d9, d10, d11⟩ := hr
    exact rp_testL n4 hb hrt hbk hP hi 400 m' j2 k2 f' O' G' X2 F2 OO2 GG2 w (by omega) d1 d2 (by rw [stl_le (Nat.le_succ 1) X2 f' O' G' d3]; exact stl_stop hP) d4 d5 d6 d7 d8 (d10 rfl) d11
theorem rp_test (n4 : n ≤ 400) : ∀ d b, 9 ≤ d + b → b ≤ 8 → ∀ m j k f O G P, brk P = b → hdB 1 P → inn P ≠ 31 → j ≤ n → 2 * (n - j) + 3 ≤ m → rOk B n true 1 0 2 (sp1 B n) m j k f O G P (pTest B n d b j k) := by
  intro d
  induction d with
  | zero => intro b h1 h2; omega
  | succ d ih =>
    intro b h1 h2 m j k f O G P hbk hP hi hj hm
    rw [pTest]
    exact rp_testO n4 h2 (fun hb m j k f O G P q1 q2 q3 q4 q5 => ih (b + 1) (by omega) (by omega) m j k f O G P q1 q2 q3 q4 q5) hbk hP hi hj hm
/-- an expression alone: where the machine ends -/
def rEx (B : Nat → Nat) (n : Nat) (tst : Bool) (m j k f : Nat) (O G : Nat → Nat) (r : pRT) : Prop := match r with
  | .inl e => prun B n tst m (if tst = true then 0 else 1, j, k, f, O, G, []) = some (.inl e)
  | .inr (j', k', v) => ∃ f' O' G' X F OO GG, prun B n tst m (if tst = true then 0 else 1, j, k, f, O, G, []) = some (.inr (4, j', k', f', O', G', X)) ∧ stl 1 X f' O' G' = (F, OO, GG, []) ∧ rFr OO GG f F (k' - k) v ∧ (∀ x, x < f → OO x = O x ∧ GG x = G x) ∧ j < j' ∧ j' ≤ n ∧ k < k' ∧ vO v ∧ (tst = true → vT v)
theorem rp_exS (n4 : n ≤ 400) {m j k f : Nat} {O G : Nat → Nat} (hj : j ≤ n) (hm : 2 * (n - j) + 3 ≤ m) : rEx B n false m j k f O G (pSum B n 9 0 j k) := by
  have hr := rp_sum (B := B) (tst := false) n4 9 0 (by omega) (by omega) m j k f O G [] rfl hdB_nil hj hm
  cases hq : pSum B n 9 0 j k with
  | inl e =>
    rw [hq] at hr
    exact hr
  | inr t =>
    obtain ⟨j2, k2, w⟩ := t
    rw [hq] at hr
    obtain ⟨m', f', O', G', X, F, OO, GG, d1, d2, d3, d4, d5, d6, d7, d8, d9, -, d11⟩ := hr
    obtain ⟨m', rfl⟩ : ∃ q, m' = q + 2 := ⟨m' - 2, by omega⟩
    have ix : inn X = 0 := (stl_inn (by omega) X f' O' G' d3).1
    refine ⟨f', O', G', X, F, OO, GG, ?_, by rw [stl_le (by omega) X f' O' G' d3]; rfl, d4, d5, d6, d7, d8, d9, fun z => absurd z (by decide)⟩
    show prun B n false m (1, j, k, f, O, G, []) = _
    rw [d1, prun_3, mSum, opA_no d11.1 d11.2]
    dsimp only
    rw [if_neg (by omega), if_pos ⟨ix, rfl⟩, pnx_s, prun_4]
theorem rp_exT (n4 : n ≤ 400) {m j k f : Nat} {O G : Nat → Nat} (hj : j ≤ n) (hm : 2 * (n - j) + 3 ≤ m) : rEx B n true m j k f O G (pTest B n 9 0 j k) := by
  have hr := rp_test (B := B) n4 9 0 (by omega) (by omega) m j k f O G [] rfl hdB_nil (by decide) hj hm
  cases hq : pTest B n 9 0 j k with
  | inl e =>
    rw [hq] at hr
    exact hr
  | inr t =>
    obtain ⟨j2, k2, w⟩ := t
    rw [hq] at hr
    obtain ⟨m', f', O', G', X, F, OO, GG, d1, d2, d3, d4, d5, d6, d7, d8, d9, d10, d11⟩ := hr
    obtain ⟨m', rfl⟩ : ∃ q, m' = q + 2 := ⟨m' - 2, by omega⟩
    have ix : inn X = 0 := (stl_inn (by omega) X f' O' G' d3).1
    refine ⟨f', O', G', X, F, OO, GG, ?_, d3, d4, d5, d6, d7, d8, d9, fun _ => d10 rfl⟩
    show prun B n true m (0, j, k, f, O, G, []) = _
    rw [d1, prun_2, mTold, if_neg d11.1, if_neg d11.2, if_pos ix, pnx_s, prun_4]
end
