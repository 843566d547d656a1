/-! RedMarks$Matches.<init>(LRedMarks$Holdings;)V -/
def mX3_init : ra_M := (yX3_init, cX3_init, 2, none)
def tVX3_init (N : Nat) : Nat → List Value → ra_H → Option ra_H := (ra_c1 10 (fun av h => match av with
  | [.ref z0] => fX10_init N z0 h
  | _ => none) ra_c0)
theorem tVX3_init_ok (N : Nat) : ra_cok 2 ra_oV (tVX3_init N) := (ra_c1_ok (by
  intro av h a e
  split at e
  · exact fX10_init_co N _ _ _ e 2 (by omega)
  · cases e) ra_c0_ok)
def lX3_init_0 : List ra_I := [(0, .aload_n 0, 1, 0, 0, 0, 0, 0, []),
  (1, .invokespecial 3, 3, 0, 0, 23, 0, 0, []),
  (4, .aload_n 0, 1, 0, 0, 0, 0, 0, []),
  (5, .new 9, 3, 10, 8, 0, 0, 0, []),
  (8, .dup, 1, 0, 0, 0, 0, 0, []),
  (9, .invokespecial 11, 3, 10, 1, 10, 0, 0, []),
  (12, .putfield 12, 3, 3, 1, 2, 0, 0, []),
  (15, .aload_n 0, 1, 0, 0, 0, 0, 0, []),
  (16, .bipush (40), 2, 0, 0, 0, (40), 0, []),
  (18, .newarray .int, 2, 0, 0, 0, 0, 0, []),
  (20, .putfield 18, 3, 3, 2, 2, 0, 0, []),
  (23, .aload_n 0, 1, 0, 0, 0, 0, 0, []),
  (24, .bipush (41), 2, 0, 0, 0, (41), 0, []),
  (26, .newarray .int, 2, 0, 0, 0, 0, 0, []),
  (28, .putfield 22, 3, 3, 3, 2, 0, 0, []),
  (31, .aload_n 0, 1, 0, 0, 0, 0, 0, []),
  (32, .bipush (41), 2, 0, 0, 0, (41), 0, []),
  (34, .newarray .int, 2, 0, 0, 0, 0, 0, []),
  (36, .putfield 25, 3, 3, 4, 2, 0, 0, []),
  (39, .aload_n 0, 1, 0, 0, 0, 0, 0, []),
  (40, .bipush (12), 2, 0, 0, 0, (12), 0, []),
  (42, .newarray .int, 2, 0, 0, 0, 0, 0, []),
  (44, .putfield 28, 3, 3, 5, 2, 0, 0, []),
  (47, .aload_n 0, 1, 0, 0, 0, 0, 0, []),
  (48, .bipush (12), 2, 0, 0, 0, (12), 0, []),
  (50, .newarray .int, 2, 0, 0, 0, 0, 0, []),
  (52, .putfield 31, 3, 3, 6, 2, 0, 0, []),
  (55, .aload_n 0, 1, 0, 0, 0, 0, 0, []),
  (56, .sipush (361), 3, 0, 0, 0, (361), 0, []),
  (59, .newarray .int, 2, 0, 0, 0, 0, 0, []),
  (61, .putfield 34, 3, 3, 7, 2, 0, 0, []),
  (64, .aload_n 0, 1, 0, 0, 0, 0, 0, []),
  (65, .iconst (0), 1, 0, 0, 0, (0), 0, []),
  (66, .newarray .int, 2, 0, 0, 0, 0, 0, []),
  (68, .putfield 37, 3, 3, 8, 2, 0, 0, []),
  (71, .aload_n 0, 1, 0, 0, 0, 0, 0, []),
  (72, .iconst (0), 1, 0, 0, 0, (0), 0, []),
  (73, .newarray .int, 2, 0, 0, 0, 0, 0, []),
  (75, .putfield 40, 3, 3, 9, 2, 0, 0, []),
  (78, .aload_n 0, 1, 0, 0, 0, 0, 0, []),
  (79, .iconst (0), 1, 0, 0, 0, (0), 0, []),
  (80, .newarray .boolean, 2, 2, 0, 0, 0, 0, []),
  (82, .putfield 43, 3, 3, 10, 2, 0, 0, []),
  (85, .aload_n 0, 1, 0, 0, 0, 0, 0, []),
  (86, .iconst (0), 1, 0, 0, 0, (0), 0, []),
  (87, .newarray .short, 2, 3, 0, 0, 0, 0, []),
  (89, .putfield 47, 3, 3, 11, 2, 0, 0, []),
  (92, .aload_n 0, 1, 0, 0, 0, 0, 0, []),
  (93, .bipush (40), 2, 0, 0, 0, (40), 0, []),
  (95, .newarray .int, 2, 0, 0, 0, 0, 0, []),
  (97, .putfield 51, 3, 3, 13, 2, 0, 0, []),
  (100, .aload_n 0, 1, 0, 0, 0, 0, 0, []),
  (101, .bipush (40), 2, 0, 0, 0, (40), 0, []),
  (103, .newarray .boolean, 2, 2, 0, 0, 0, 0, []),
  (105, .putfield 54, 3, 3, 14, 2, 0, 0, []),
  (108, .aload_n 0, 1, 0, 0, 0, 0, 0, []),
  (109, .aload_n 1, 1, 1, 0, 0, 0, 0, []),
  (110, .putfield 57, 3, 3, 0, 2, 0, 0, []),
  (113, .return_, 1, 0, 0, 0, 0, 0, [])]
set_option maxRecDepth 100000 in
theorem lX3_init_0_ck : lX3_init_0.all (ra_ck mX3_init 3) = true := by decide +kernel
def nX3_init_0 (N : Nat) (a0 : Nat) (a1 : Nat) (h : ra_H) : Option ra_H :=
  let h1 := ra_mk h (.inr (10, ra_df 10)) 8
  (fX10_init N h.2.1 h1).bind fun h2 =>
  (ra_fW h2 3 a0 1 (.ref h.2.1)).bind fun h3 =>
  if ((40 : Int32)) < 0 ∨ 50000000 < (Int32.toNatClampNeg ((40 : Int32))) then none else
  let h4 := ra_mk h3 (ra_na 0 (Int32.toNatClampNeg ((40 : Int32)))) (Int32.toNatClampNeg ((40 : Int32)))
  (ra_fW h4 3 a0 2 (.ref h3.2.1)).bind fun h5 =>
  if ((41 : Int32)) < 0 ∨ 50000000 < (Int32.toNatClampNeg ((41 : Int32))) then none else
  let h6 := ra_mk h5 (ra_na 0 (Int32.toNatClampNeg ((41 : Int32)))) (Int32.toNatClampNeg ((41 : Int32)))
  (ra_fW h6 3 a0 3 (.ref h5.2.1)).bind fun h7 =>
  if ((41 : Int32)) < 0 ∨ 50000000 < (Int32.toNatClampNeg ((41 : Int32))) then none else
  let h8 := ra_mk h7 (ra_na 0 (Int32.toNatClampNeg ((41 : Int32)))) (Int32.toNatClampNeg ((41 : Int32)))
  (ra_fW h8 3 a0 4 (.ref h7.2.1)).bind fun h9 =>
  if ((12 : Int32)) < 0 ∨ 50000000 < (Int32.toNatClampNeg ((12 : Int32))) then none else
  let h10 := ra_mk h9 (ra_na 0 (Int32.toNatClampNeg ((12 : Int32)))) (Int32.toNatClampNeg ((12 : Int32)))
  (ra_fW h10 3 a0 5 (.ref h9.2.1)).bind fun h11 =>
  if ((12 : Int32)) < 0 ∨ 50000000 < (Int32.toNatClampNeg ((12 : Int32))) then none else
  let h12 := ra_mk h11 (ra_na 0 (Int32.toNatClampNeg ((12 : Int32)))) (Int32.toNatClampNeg ((12 : Int32)))
  (ra_fW h12 3 a0 6 (.ref h11.2.1)).bind fun h13 =>
  if ((361 : Int32)) < 0 ∨ 50000000 < (Int32.toNatClampNeg ((361 : Int32))) then none else
  let h14 := ra_mk h13 (ra_na 0 (Int32.toNatClampNeg ((361 : Int32)))) (Int32.toNatClampNeg ((361 : Int32)))
  (ra_fW h14 3 a0 7 (.ref h13.2.1)).bind fun h15 =>
  if ((0 : Int32)) < 0 ∨ 50000000 < (Int32.toNatClampNeg ((0 : Int32))) then none else
  let h16 := ra_mk h15 (ra_na 0 (Int32.toNatClampNeg ((0 : Int32)))) (Int32.toNatClampNeg ((0 : Int32)))
  (ra_fW h16 3 a0 8 (.ref h15.2.1)).bind fun h17 =>
  if ((0 : Int32)) < 0 ∨ 50000000 < (Int32.toNatClampNeg ((0 : Int32))) then none else
  let h18 := ra_mk h17 (ra_na 0 (Int32.toNatClampNeg ((0 : Int32)))) (Int32.toNatClampNeg ((0 : Int32)))
  (ra_fW h18 3 a0 9 (.ref h17.2.1)).bind fun h19 =>
  if ((0 : Int32)) < 0 ∨ 50000000 < (Int32.toNatClampNeg ((0 : Int32))) then none else
  let h20 := ra_mk h19 (ra_na 2 (Int32.toNatClampNeg ((0 : Int32)))) (Int32.toNatClampNeg ((0 : Int32)))
  (ra_fW h20 3 a0 10 (.ref h19.2.1)).bind fun h21 =>
  if ((0 : Int32)) < 0 ∨ 50000000 < (Int32.toNatClampNeg ((0 : Int32))) then none else
  let h22 := ra_mk h21 (ra_na 3 (Int32.toNatClampNeg ((0 : Int32)))) (Int32.toNatClampNeg ((0 : Int32)))
  (ra_fW h22 3 a0 11 (.ref h21.2.1)).bind fun h23 =>
  if ((40 : Int32)) < 0 ∨ 50000000 < (Int32.toNatClampNeg ((40 : Int32))) then none else
  let h24 := ra_mk h23 (ra_na 0 (Int32.toNatClampNeg ((40 : Int32)))) (Int32.toNatClampNeg ((40 : Int32)))
  (ra_fW h24 3 a0 13 (.ref h23.2.1)).bind fun h25 =>
  if ((40 : Int32)) < 0 ∨ 50000000 < (Int32.toNatClampNeg ((40 : Int32))) then none else
  let h26 := ra_mk h25 (ra_na 2 (Int32.toNatClampNeg ((40 : Int32)))) (Int32.toNatClampNeg ((40 : Int32)))
  (ra_fW h26 3 a0 14 (.ref h25.2.1)).bind fun h27 =>
  (ra_fW h27 3 a0 0 (.ref a1)).bind fun h28 =>
  some h28
def kX3_init_0 (N : Nat) : Nat → List (Option Value) → List Value → ra_H → Option ra_H := ra_k0
theorem kX3_init_0_ok (N : Nat) : ra_kok 2 mX3_init ra_oV (kX3_init_0 N) := ra_k0_ok
set_option maxRecDepth 100000 in
theorem nX3_init_0_ok (N : Nat) (a0 : Nat) (a1 : Nat) (h : ra_H) (r : ra_H) (e : nX3_init_0 N a0 a1 h = some r) : ra_Ru 2 mX3_init 0 [some (.ref a0), some (.ref a1)] [] h (ra_oV r) :=
  ra_sound (by omega) rfl ra_rV_ok (kX3_init_0_ok N) (fun m av h h1 e => (tVX3_init_ok N) m av h h1 e) (fun m av h x h1 e => (ra_c0_ok (ro := ra_oI)) m av h (x, h1) e) (fun m av h x h1 e => (ra_c0_ok (ro := ra_oJ)) m av h (x, h1) e) (fun m av h x h1 e => (ra_c0_ok (ro := ra_oR)) m av h (x, h1) e) (fun m av h x h1 e => (ra_c0_ok (ro := ra_oN)) m av h (x, h1) e) (fun m av h x h1 e => (ra_c0_ok (ro := ra_oF)) m av h (x, h1) e) 60 lX3_init_0 _ _ _ _ lX3_init_0_ck (show ra_run ra_rV (kX3_init_0 N) (tVX3_init N) ra_c0 ra_c0 ra_c0 ra_c0 ra_c0 60 lX3_init_0 [some (.ref a0), some (.ref a1)] [] h = some r from e) _ _ rfl
def fX3_init (N : Nat) (p0 : Nat) (p1 : Nat) (h : ra_H) : Option ra_H := nX3_init_0 N p0 p1 h
set_option maxRecDepth 100000 in
theorem mtX3_init : ra_MT[9]? = some (mX3_init, 2, 1, (1, 9), (2, 47), (0, 0)) := rfl
theorem fX3_init_co (N : Nat) (p0 : Nat) (p1 : Nat) (h : ra_H) (r : ra_H) (e : fX3_init N p0 p1 h = some r) (D : Nat) (hD : 3 ≤ D) : ra_CO D 9 [.ref p0, .ref p1] h (ra_oV r).1 (ra_oV r).2 := by
  have hw : ra_nw2 [.ref p0, .ref p1] ≤ 2 := Nat.le_of_ble_eq_true rfl
  have hdb : ∀ v ∈ ([.ref p0, .ref p1] : List Value), ∀ x, v ≠ .double x := by
    intro v hv x hx
    simp [hx] at hv
  unfold fX3_init at e
  have e1 := e
  exact ⟨2, _, mtX3_init, hD, ra_ev_of (by decide) hdb hw trivial (ra_Ru.weak (nX3_init_0_ok N p0 p1 h _ e1) ⟨rfl, ⟨rfl, trivial⟩⟩), (fun h => absurd h (by decide)), (fun _ => ⟨_, _, rfl⟩)⟩
/-! RedMarks$Tape.<init>()V -/
def mX8_init : ra_M := (yX8_init, cX8_init, 1, none)
def lX8_init_0 : List ra_I := [(0, .aload_n 0, 1, 0, 0, 0, 0, 0, []),
  (1, .invokespecial 3, 3, 0, 0, 23, 0, 0, []),
  (4, .aload_n 0, 1, 0, 0, 0, 0, 0, []),
  (5, .sipush (400), 3, 0, 0, 0, (400), 0, []),
  (8, .newarray .int, 2, 0, 0, 0, 0, 0, []),
  (10, .putfield 9, 3, 8, 0, 2, 0, 0, []),
  (13, .aload_n 0, 1, 0, 0, 0, 0, 0, []),
  (14, .sipush (400), 3, 0, 0, 0, (400), 0, []),
  (17, .newarray .int, 2, 0, 0, 0, 0, 0, []),
  (19, .putfield 15, 3, 8, 3, 2, 0, 0, []),
  (22, .aload_n 0, 1, 0, 0, 0, 0, 0, []),
  (23, .bipush (12), 2, 0, 0, 0, (12), 0, []),
  (25, .newarray .int, 2, 0, 0, 0, 0, 0, []),
  (27, .putfield 20, 3, 8, 4, 2, 0, 0, []),
  (30, .aload_n 0, 1, 0, 0, 0, 0, 0, []),
  (31, .bipush (25), 2, 0, 0, 0, (25), 0, []),
  (33, .newarray .int, 2, 0, 0, 0, 0, 0, []),
  (35, .putfield 23, 3, 8, 5, 2, 0, 0, []),
  (38, .return_, 1, 0, 0, 0, 0, 0, [])]
set_option maxRecDepth 100000 in
theorem lX8_init_0_ck : lX8_init_0.all (ra_ck mX8_init 8) = true := by decide +kernel
def nX8_init_0 (N : Nat) (a0 : Nat) (h : ra_H) : Option ra_H :=
  if ((400 : Int32)) < 0 ∨ 50000000 < (Int32.toNatClampNeg ((400 : Int32))) then none else
  let h1 := ra_mk h (ra_na 0 (Int32.toNatClampNeg ((400 : Int32)))) (Int32.toNatClampNeg ((400 : Int32)))
  (ra_fW h1 8 a0 0 (.ref h.2.1)).bind fun h2 =>
  if ((400 : Int32)) < 0 ∨ 50000000 < (Int32.toNatClampNeg ((400 : Int32))) then none else
  let h3 := ra_mk h2 (ra_na 0 (Int32.toNatClampNeg ((400 : Int32)))) (Int32.toNatClampNeg ((400 : Int32)))
  (ra_fW h3 8 a0 3 (.ref h2.2.1)).bind fun h4 =>
  if ((12 : Int32)) < 0 ∨ 50000000 < (Int32.toNatClampNeg ((12 : Int32))) then none else
  let h5 := ra_mk h4 (ra_na 0 (Int32.toNatClampNeg ((12 : Int32)))) (Int32.toNatClampNeg ((12 : Int32)))
  (ra_fW h5 8 a0 4 (.ref h4.2.1)).bind fun h6 =>
  if ((25 : Int32)) < 0 ∨ 50000000 < (Int32.toNatClampNeg ((25 : Int32))) then none else
  let h7 := ra_mk h6 (ra_na 0 (Int32.toNatClampNeg ((25 : Int32)))) (Int32.toNatClampNeg ((25 : Int32)))
  (ra_fW h7 8 a0 5 (.ref h6.2.1)).bind fun h8 =>
  some h8
def kX8_init_0 (N : Nat) : Nat → List (Option Value) → List Value → ra_H → Option ra_H := ra_k0
theorem kX8_init_0_ok (N : Nat) : ra_kok 1 mX8_init ra_oV (kX8_init_0 N) := ra_k0_ok
set_option maxRecDepth 100000 in
theorem nX8_init_0_ok (N : Nat) (a0 : Nat) (h : ra_H) (r : ra_H) (e : nX8_init_0 N a0 h = some r) : ra_Ru 1 mX8_init 0 [some (.ref a0)] [] h (ra_oV r) :=
  ra_sound (by omega) rfl ra_rV_ok (kX8_init_0_ok N) (fun m av h h1 e => (ra_c0_ok (ro := ra_oV)) m av h h1 e) (fun m av h x h1 e => (ra_c0_ok (ro := ra_oI)) m av h (x, h1) e) (fun m av h x h1 e => (ra_c0_ok (ro := ra_oJ)) m av h (x, h1) e) (fun m av h x h1 e => (ra_c0_ok (ro := ra_oR)) m av h (x, h1) e) (fun m av h x h1 e => (ra_c0_ok (ro := ra_oN)) m av h (x, h1) e) (fun m av h x h1 e => (ra_c0_ok (ro := ra_oF)) m av h (x, h1) e) 20 lX8_init_0 _ _ _ _ lX8_init_0_ck (show ra_run ra_rV (kX8_init_0 N) ra_c0 ra_c0 ra_c0 ra_c0 ra_c0 ra_c0 20 lX8_init_0 [some (.ref a0)] [] h = some r from e) _ _ rfl
def fX8_init (N : Nat) (p0 : Nat) (h : ra_H) : Option ra_H := nX8_init_0 N p0 h
set_option maxRecDepth 100000 in
theorem mtX8_init : ra_MT[4]? = some (mX8_init, 2, 0, (1, 4), (1, 142), (0, 0)) := rfl
theorem fX8_init_co (N : Nat) (p0 : Nat) (h : ra_H) (r : ra_H) (e : fX8_init N p0 h = some r) (D : Nat) (hD : 2 ≤ D) : ra_CO D 4 [.ref p0] h (ra_oV r).1 (ra_oV r).2 := by
  have hw : ra_nw2 [.ref p0] ≤ 1 := Nat.le_of_ble_eq_true rfl
  have hdb : ∀ v ∈ ([.ref p0] : List Value), ∀ x, v ≠ .double x := by
    intro v hv x hx
    simp [hx] at hv
  unfold fX8_init at e
  have e1 := e
  exact ⟨1, _, mtX8_init, hD, ra_ev_of (by decide) hdb hw trivial (ra_Ru.weak (nX8_init_0_ok N p0 h _ e1) ⟨rfl, trivial⟩), (fun h => absurd h (by decide)), (fun _ => ⟨_, _, rfl⟩)⟩
/-! RedMarks$Matches.forgetAll()V -/
def mX3_forgetAll : ra_M := (yX3_forgetAll, cX3_forgetAll, 1, none)
def lX3_forgetAll_0 : List ra_I := [(0, .aload_n 0, 1, 0, 0, 0, 0, 0, []),
  (1, .iconst (0), 1, 0, 0, 0, (0), 0, []),
  (2, .putfield 61, 3, 3, 12, 4, 0, 0, []),
  (5, .return_, 1, 0, 0, 0, 0, 0, [])]
set_option maxRecDepth 100000 in
theorem lX3_forgetAll_0_ck : lX3_forgetAll_0.all (ra_ck mX3_forgetAll 3) = true := by decide +kernel
def nX3_forgetAll_0 (N : Nat) (a0 : Nat) (h : ra_H) : Option ra_H :=
  if ((0 : Int32)) = 0 ∨ ((0 : Int32)) = 1 then
  (ra_fW h 3 a0 12 (.int ((0 : Int32)))).bind fun h1 =>
  some h1
  else none
def kX3_forgetAll_0 (N : Nat) : Nat → List (Option Value) → List Value → ra_H → Option ra_H := ra_k0
theorem kX3_forgetAll_0_ok (N : Nat) : ra_kok 1 mX3_forgetAll ra_oV (kX3_forgetAll_0 N) := ra_k0_ok
set_option maxRecDepth 100000 in
theorem nX3_forgetAll_0_ok (N : Nat) (a0 : Nat) (h : ra_H) (r : ra_H) (e : nX3_forgetAll_0 N a0 h = some r) : ra_Ru 1 mX3_forgetAll 0 [some (.ref a0)] [] h (ra_oV r) :=
  ra_sound (by omega) rfl ra_rV_ok (kX3_forgetAll_0_ok N) (fun m av h h1 e => (ra_c0_ok (ro := ra_oV)) m av h h1 e) (fun m av h x h1 e => (ra_c0_ok (ro := ra_oI)) m av h (x, h1) e) (fun m av h x h1 e => (ra_c0_ok (ro := ra_oJ)) m av h (x, h1) e) (fun m av h x h1 e => (ra_c0_ok (ro := ra_oR)) m av h (x, h1) e) (fun m av h x h1 e => (ra_c0_ok (ro := ra_oN)) m av h (x, h1) e) (fun m av h x h1 e => (ra_c0_ok (ro := ra_oF)) m av h (x, h1) e) 5 lX3_forgetAll_0 _ _ _ _ lX3_forgetAll_0_ck (show ra_run ra_rV (kX3_forgetAll_0 N) ra_c0 ra_c0 ra_c0 ra_c0 ra_c0 ra_c0 5 lX3_forgetAll_0 [some (.ref a0)] [] h = some r from e) _ _ rfl
def fX3_forgetAll (N : Nat) (p0 : Nat) (h : ra_H) : Option ra_H := match ra_isOb h p0 3 with
  | true => nX3_forgetAll_0 N p0 h
  | false => none
set_option maxRecDepth 100000 in
theorem mtX3_forgetAll : ra_MT[23]? = some (mX3_forgetAll, 1, 0, (1, 9), (3, 33), (3, 34)) := rfl
theorem fX3_forgetAll_co (N : Nat) (p0 : Nat) (h : ra_H) (r : ra_H) (e : fX3_forgetAll N p0 h = some r) (D : Nat) (hD : 2 ≤ D) : ra_CO D 23 [.ref p0] h (ra_oV r).1 (ra_oV r).2 := by
  have hw : ra_nw2 [.ref p0] ≤ 1 := Nat.le_of_ble_eq_true rfl
  have hdb : ∀ v ∈ ([.ref p0] : List Value), ∀ x, v ≠ .double x := by
    intro v hv x hx
    simp [hx] at hv
  unfold fX3_forgetAll at e
  split at e
  · rename_i ho
    have e1 := e
    exact ⟨1, _, mtX3_forgetAll, hD, ra_ev_of (by decide) hdb hw trivial (ra_Ru.weak (nX3_forgetAll_0_ok N p0 h _ e1) ⟨rfl, trivial⟩), (fun _ => ⟨_, _, rfl, ra_rcv_of ho (by decide) rfl⟩), (fun h => absurd h (by decide))⟩
  · cases e
/-! RedMarks$Matches.addToSets(I)V -/
def mX3_addToSets : ra_M := (yX3_addToSets, cX3_addToSets, 3, none)
def lX3_addToSets_4 : List ra_I := [(4, .iload_n 2, 1, 2, 0, 0, 0, 0, []),
  (5, .iload_n 1, 1, 1, 0, 0, 0, 0, []),
  (6, .if_icmp .lt (26), 3, 32, 0, 0, 0, 0, []),
  (9, .aload_n 0, 1, 0, 0, 0, 0, 0, []),
  (10, .getfield 34, 3, 3, 7, 2, 0, 0, []),
  (13, .iload_n 2, 1, 2, 0, 0, 0, 0, []),
  (14, .dup2, 1, 0, 0, 0, 0, 0, []),
  (15, .iaload, 1, 0, 0, 0, 0, 0, []),
  (16, .aload_n 0, 1, 0, 0, 0, 0, 0, []),
  (17, .getfield 34, 3, 3, 7, 2, 0, 0, []),
  (20, .iload_n 2, 1, 2, 0, 0, 0, 0, []),
  (21, .iload_n 1, 1, 1, 0, 0, 0, 0, []),
  (22, .isub, 1, 0, 0, 0, 0, 0, []),
  (23, .iaload, 1, 0, 0, 0, 0, 0, []),
  (24, .iadd, 1, 0, 0, 0, 0, 0, []),
  (25, .iastore, 1, 0, 0, 0, 0, 0, []),
  (26, .iinc 2 (-1), 3, 2, 0, 0, (-1), 0, []),
  (29, .goto (-25), 3, 4, 0, 0, 0, 0, []),
  (32, .return_, 1, 0, 0, 0, 0, 0, [])]
set_option maxRecDepth 100000 in
theorem lX3_addToSets_4_ck : lX3_addToSets_4.all (ra_ck mX3_addToSets 3) = true := by decide +kernel
def nX3_addToSets_4 (N : Nat) : Nat → Nat → Int32 → Int32 → ra_H → Option ra_H
  | 0, _, _, _, _ => none
  | n + 1, a0, a1, a2, h =>
  if a2 < a1 then
    some h
  else
    (ra_fR h 3 a0 7).bind fun x1 =>
    (ra_aI h 0 x1 a2).bind fun x2 =>
    (ra_fR h 3 a0 7).bind fun x3 =>
    (ra_aI h 0 x3 (a2 - a1)).bind fun x4 =>
    (ra_aW h 0 x1 a2 (x2 + x4)).bind fun h5 =>
    let y6 := a2 + (-1 : Int32)
    nX3_addToSets_4 N n a0 a1 y6 h5
def kX3_addToSets_4 (N : Nat) (cs : Nat → Int32 → Int32 → ra_H → Option ra_H) : Nat → List (Option Value) → List Value → ra_H → Option ra_H := (ra_k1 4 (fun L S h => match L, S with
  | [some (.ref a0), some (.int a1), some (.int a2)], [] => cs a0 a1 a2 h
  | _, _ => none) ra_k0)
theorem kX3_addToSets_4_ok (N : Nat) (cs : Nat → Int32 → Int32 → ra_H → Option ra_H) (hcs : ∀ a0 a1 a2 h r, cs a0 a1 a2 h = some r → ra_Ru 1 mX3_addToSets 4 [some (.ref a0), some (.int a1), some (.int a2)] [] h (ra_oV r)) : ra_kok 1 mX3_addToSets ra_oV (kX3_addToSets_4 N cs) := (ra_k1_ok (by
  intro L S h a e
  split at e
  · exact ra_Ru.weak (hcs _ _ _ _ _ e) ⟨rfl, ⟨rfl, ⟨rfl, trivial⟩⟩⟩
  · cases e) ra_k0_ok)
set_option maxRecDepth 100000 in
theorem nX3_addToSets_4_ok (N : Nat) : ∀ n a0 a1 a2 h r, nX3_addToSets_4 N n a0 a1 a2 h = some r → ra_Ru 1 mX3_addToSets 4 [some (.ref a0), some (.int a1), some (.int a2)] [] h (ra_oV r) := by
  intro n
  induction n with
  | zero => intro a0 a1 a2 h r e; cases e
  | succ n ih =>
    intro a0 a1 a2 h r e
    exact ra_sound (by omega) rfl ra_rV_ok (kX3_addToSets_4_ok N (nX3_addToSets_4 N n) ih) (fun m av h h1 e => (ra_c0_ok (ro := ra_oV)) m av h h1 e) (fun m av h x h1 e => (ra_c0_ok (ro := ra_oI)) m av h (x, h1) e) (fun m av h x h1 e => (ra_c0_ok (ro := ra_oJ)) m av h (x, h1) e) (fun m av h x h1 e => (ra_c0_ok (ro := ra_oR)) m av h (x, h1) e) (fun m av h x h1 e => (ra_c0_ok (ro := ra_oN)) m av h (x, h1) e) (fun m av h x h1 e => (ra_c0_ok (ro := ra_oF)) m av h (x, h1) e) 20 lX3_addToSets_4 _ _ _ _ lX3_addToSets_4_ck (show ra_run ra_rV (kX3_addToSets_4 N (nX3_addToSets_4 N n)) ra_c0 ra_c0 ra_c0 ra_c0 ra_c0 ra_c0 20 lX3_addToSets_4 [some (.ref a0), some (.int a1), some (.int a2)] [] h = some r from e) _ _ rfl
def lX3_addToSets_0 : List ra_I := [(0, .sipush (360), 3, 0, 0, 0, (360), 0, []),
  (3, .istore_n 2, 1, 2, 0, 0, 0, 0, [])]
set_option maxRecDepth 100000 in
theorem lX3_addToSets_0_ck : lX3_addToSets_0.all (ra_ck mX3_addToSets 3) = true := by decide +kernel
def nX3_addToSets_0 (N : Nat) (a0 : Nat) (a1 : Int32) (h : ra_H) : Option ra_H :=
  nX3_addToSets_4 N N a0 a1 ((360 : Int32)) h
def kX3_addToSets_0 (N : Nat) : Nat → List (Option Value) → List Value → ra_H → Option ra_H := (ra_k1 4 (fun L S h => match L, S with
  | [some (.ref a0), some (.int a1), some (.int a2)], [] => nX3_addToSets_4 N N a0 a1 a2 h
  | _, _ => none) ra_k0)
theorem kX3_addToSets_0_ok (N : Nat) : ra_kok 1 mX3_addToSets ra_oV (kX3_addToSets_0 N) := (ra_k1_ok (by
  intro L S h a e
  split at e
  · exact ra_Ru.weak (nX3_addToSets_4_ok N N _ _ _ _ _ e) ⟨rfl, ⟨rfl, ⟨rfl, trivial⟩⟩⟩
  · cases e) ra_k0_ok)
set_option maxRecDepth 100000 in
theorem nX3_addToSets_0_ok (N : Nat) (a0 : Nat) (a1 : Int32) (h : ra_H) (r : ra_H) (e : nX3_addToSets_0 N a0 a1 h = some r) : ra_Ru 1 mX3_addToSets 0 [some (.ref a0), some (.int a1), none] [] h (ra_oV r) :=
  ra_sound (by omega) rfl ra_rV_ok (kX3_addToSets_0_ok N) (fun m av h h1 e => (ra_c0_ok (ro := ra_oV)) m av h h1 e) (fun m av h x h1 e => (ra_c0_ok (ro := ra_oI)) m av h (x, h1) e) (fun m av h x h1 e => (ra_c0_ok (ro := ra_oJ)) m av h (x, h1) e) (fun m av h x h1 e => (ra_c0_ok (ro := ra_oR)) m av h (x, h1) e) (fun m av h x h1 e => (ra_c0_ok (ro := ra_oN)) m av h (x, h1) e) (fun m av h x h1 e => (ra_c0_ok (ro := ra_oF)) m av h (x, h1) e) 3 lX3_addToSets_0 _ _ _ _ lX3_addToSets_0_ck (show ra_run ra_rV (kX3_addToSets_0 N) ra_c0 ra_c0 ra_c0 ra_c0 ra_c0 ra_c0 3 lX3_addToSets_0 [some (.ref a0), some (.int a1), none] [] h = some r from e) _ _ rfl
def fX3_addToSets (N : Nat) (p0 : Nat) (p1 : Int32) (h : ra_H) : Option ra_H := match ra_isOb h p0 3 with
  | true => nX3_addToSets_0 N p0 p1 h
  | false => none
set_option maxRecDepth 100000 in
theorem mtX3_addToSets : ra_MT[144]? = some (mX3_addToSets, 1, 1, (1, 9), (5, 100), (0, 51)) := rfl
theorem fX3_addToSets_co (N : Nat) (p0 : Nat) (p1 : Int32) (h : ra_H) (r : ra_H) (e : fX3_addToSets N p0 p1 h = some r) (D : Nat) (hD : 2 ≤ D) : ra_CO D 144 [.ref p0, .int p1] h (ra_oV r).1 (ra_oV r).2 := by
  have hw : ra_nw2 [.ref p0, .int p1] ≤ 3 := Nat.le_of_ble_eq_true rfl
  have hdb : ∀ v ∈ ([.ref p0, .int p1] : List Value), ∀ x, v ≠ .double x := by
    intro v hv x hx
    simp [hx] at hv
  unfold fX3_addToSets at e
  split at e
  · rename_i ho
    have e1 := e
    exact ⟨1, _, mtX3_addToSets, hD, ra_ev_of (by decide) hdb hw trivial (ra_Ru.weak (nX3_addToSets_0_ok N p0 p1 h _ e1) ⟨rfl, ⟨rfl, trivial⟩⟩), (fun _ => ⟨_, _, rfl, ra_rcv_of ho (by decide) rfl⟩), (fun h => absurd h (by decide))⟩
  · cases e
/-! RedMarks$Matches.countMissingSets(III)I -/
def mX3_countMissingSets : ra_M := (yX3_countMissingSets, cX3_countMissingSets, 6, (some .int))
def tVX3_countMissingSets (N : Nat) : Nat → List Value → ra_H → Option ra_H := (ra_c1 3 (fun av h => match av with
  | [.ref z0, .int z1] => fJ7_fill_53178 N z0 z1 h
  | _ => none) (ra_c1 144 (fun av h => match av with
  | [.ref z0, .int z1] => fX3_addToSets N z0 z1 h
  | _ => none) ra_c0))
theorem tVX3_countMissingSets_ok (N : Nat) : ra_cok 2 ra_oV (tVX3_countMissingSets N) := (ra_c1_ok (by
  intro av h a e
  split at e
  · exact fJ7_fill_53178_co N _ _ _ _ e 2 (by omega)
  · cases e) (ra_c1_ok (by
  intro av h a e
  split at e
  · exact fX3_addToSets_co N _ _ _ _ e 2 (by omega)
  · cases e) ra_c0_ok))
def tIX3_countMissingSets (N : Nat) : Nat → List Value → ra_H → Option (Int32 × ra_H) := (ra_c1 123 (fun av h => match av with
  | [.ref z0, .int z1, .int z2] => fX2_lineFact N z0 z1 z2 h
  | _ => none) ra_c0)
theorem tIX3_countMissingSets_ok (N : Nat) : ra_cok 2 ra_oI (tIX3_countMissingSets N) := (ra_c1_ok (by
  intro av h a e
  split at e
  · exact fX2_lineFact_co N _ _ _ _ _ e 2 (by omega)
  · cases e) ra_c0_ok)
def lX3_countMissingSets_97 : List ra_I := [(97, .iinc 4 (1), 3, 4, 0, 0, (1), 0, []),
  (100, .goto (-47), 3, 53, 0, 0, 0, 0, [])]
set_option maxRecDepth 100000 in
theorem lX3_countMissingSets_97_ck : lX3_countMissingSets_97.all (ra_ck mX3_countMissingSets 3) = true := by decide +kernel
def nX3_countMissingSets_97 (N : Nat) (c53 : Nat → Int32 → Int32 → Int32 → Int32 → ra_H → Option (Int32 × ra_H)) (a0 : Nat) (a1 : Int32) (a2 : Int32) (a3 : Int32) (a4 : Int32) (h : ra_H) : Option (Int32 × ra_H) :=
  let y1 := a4 + (1 : Int32)
  c53 a0 a1 a2 a3 y1 h
def kX3_countMissingSets_97 (N : Nat) (c53 : Nat → Int32 → Int32 → Int32 → Int32 → ra_H → Option (Int32 × ra_H)) : Nat → List (Option Value) → List Value → ra_H → Option (Int32 × ra_H) := (ra_k1 53 (fun L S h => match L, S with
  | [some (.ref a0), some (.int a1), some (.int a2), some (.int a3), some (.int a4), _], [] => c53 a0 a1 a2 a3 a4 h
  | _, _ => none) ra_k0)
theorem kX3_countMissingSets_97_ok (N : Nat) (c53 : Nat → Int32 → Int32 → Int32 → Int32 → ra_H → Option (Int32 × ra_H)) (hc53 : ∀ a0 a1 a2 a3 a4 h r, c53 a0 a1 a2 a3 a4 h = some r → ra_Ru 2 mX3_countMissingSets 53 [some (.ref a0), some (.int a1), some (.int a2), some (.int a3), some (.int a4), none] [] h (ra_oI r)) : ra_kok 2 mX3_countMissingSets ra_oI (kX3_countMissingSets_97 N c53) := (ra_k1_ok (by
  intro L S h a e
  split at e
  · exact ra_Ru.weak (hc53 _ _ _ _ _ _ _ e) ⟨rfl, ⟨rfl, ⟨rfl, ⟨rfl, ⟨rfl, trivial⟩⟩⟩⟩⟩
  · cases e) ra_k0_ok)
set_option maxRecDepth 100000 in
theorem nX3_countMissingSets_97_ok (N : Nat) (c53 : Nat → Int32 → Int32 → Int32 → Int32 → ra_H → Option (Int32 × ra_H)) (hc53 : ∀ a0 a1 a2 a3 a4 h r, c53 a0 a1 a2 a3 a4 h = some r → ra_Ru 2 mX3_countMissingSets 53 [some (.ref a0), some (.int a1), some (.int a2), some (.int a3), some (.int a4), none] [] h (ra_oI r)) (a0 : Nat) (a1 : Int32) (a2 : Int32) (a3 : Int32) (a4 : Int32) (h : ra_H) (r : (Int32 × ra_H)) (e : nX3_countMissingSets_97 N c53 a0 a1 a2 a3 a4 h = some r) : ra_Ru 2 mX3_countMissingSets 97 [some (.ref a0), some (.int a1), some (.int a2), some (.int a3), some (.int a4), none] [] h (ra_oI r) :=
  ra_sound (by omega) rfl ra_rI_ok (kX3_countMissingSets_97_ok N c53 hc53) (fun m av h h1 e => (tVX3_countMissingSets_ok N) m av h h1 e) (fun m av h x h1 e => (tIX3_countMissingSets_ok N) m av h (x, h1) e) (fun m av h x h1 e => (ra_c0_ok (ro := ra_oJ)) m av h (x, h1) e) (fun m av h x h1 e => (ra_c0_ok (ro := ra_oR)) m av h (x, h1) e) (fun m av h x h1 e => (ra_c0_ok (ro := ra_oN)) m av h (x, h1) e) (fun m av h x h1 e => (ra_c0_ok (ro := ra_oF)) m av h (x, h1) e) 3 lX3_countMissingSets_97 _ _ _ _ lX3_countMissingSets_97_ck (show ra_run ra_rI (kX3_countMissingSets_97 N c53) (tVX3_countMissingSets N) (tIX3_countMissingSets N) ra_c0 ra_c0 ra_c0 ra_c0 3 lX3_countMissingSets_97 [some (.ref a0), some (.int a1), some (.int a2), some (.int a3), some (.int a4), none] [] h = some r from e) _ _ rfl
def lX3_countMissingSets_115 : List ra_I := [(115, .iload 5, 2, 5, 0, 0, 0, 0, []),
  (117, .iload_n 1, 1, 1, 0, 0, 0, 0, []),
  (118, .sipush (360), 3, 0, 0, 0, (360), 0, []),
  (121, .invokestatic 136, 3, 46, 0, 21, 0, 0, []),
  (124, .if_icmp .gt (21), 3, 145, 0, 0, 0, 0, []),
  (127, .iload 4, 2, 4, 0, 0, 0, 0, []),
  (129, .aload_n 0, 1, 0, 0, 0, 0, 0, []),
  (130, .getfield 34, 3, 3, 7, 2, 0, 0, []),
  (133, .iload 5, 2, 5, 0, 0, 0, 0, []),
  (135, .iaload, 1, 0, 0, 0, 0, 0, []),
  (136, .iadd, 1, 0, 0, 0, 0, 0, []),
  (137, .istore 4, 2, 4, 0, 0, 0, 0, []),
  (139, .iinc 5 (1), 3, 5, 0, 0, (1), 0, []),
  (142, .goto (-27), 3, 115, 0, 0, 0, 0, []),
  (145, .iload 4, 2, 4, 0, 0, 0, 0, []),
  (147, .ireturn, 1, 0, 0, 0, 0, 0, [])]
set_option maxRecDepth 100000 in
theorem lX3_countMissingSets_115_ck : lX3_countMissingSets_115.all (ra_ck mX3_countMissingSets 3) = true := by decide +kernel
def nX3_countMissingSets_115 (N : Nat) : Nat → Nat → Int32 → Int32 → Int32 → ra_H → Option (Int32 × ra_H)
  | 0, _, _, _, _, _ => none
  | n + 1, a0, a1, a4, a5, h =>
  if a5 ≤ (if ((360 : Int32)) < a1 then ((360 : Int32)) else a1) then
    (ra_fR h 3 a0 7).bind fun x1 =>
    (ra_aI h 0 x1 a5).bind fun x2 =>
    let y3 := a4 + x2
    let y4 := a5 + (1 : Int32)
    nX3_countMissingSets_115 N n a0 a1 y3 y4 h
  else
    some (a4, h)
def kX3_countMissingSets_115 (N : Nat) (cs : Nat → Int32 → Int32 → Int32 → ra_H → Option (Int32 × ra_H)) : Nat → List (Option Value) → List Value → ra_H → Option (Int32 × ra_H) := (ra_k1 115 (fun L S h => match L, S with
  | [some (.ref a0), some (.int a1), _, _, some (.int a4), some (.int a5)], [] => cs a0 a1 a4 a5 h
  | _, _ => none) ra_k0)
theorem kX3_countMissingSets_115_ok (N : Nat) (cs : Nat → Int32 → Int32 → Int32 → ra_H → Option (Int32 × ra_H)) (hcs : ∀ a0 a1 a4 a5 h r, cs a0 a1 a4 a5 h = some r → ra_Ru 2 mX3_countMissingSets 115 [some (.ref a0), some (.int a1), none, none, some (.int a4), some (.int a5)] [] h (ra_oI r)) : ra_kok 2 mX3_countMissingSets ra_oI (kX3_countMissingSets_115 N cs) := (ra_k1_ok (by
  intro L S h a e
  split at e
  · exact ra_Ru.weak (hcs _ _ _ _ _ _ e) ⟨rfl, ⟨rfl, ⟨rfl, ⟨rfl, trivial⟩⟩⟩⟩
  · cases e) ra_k0_ok)
set_option maxRecDepth 100000 in
theorem nX3_countMissingSets_115_ok (N : Nat) : ∀ n a0 a1 a4 a5 h r, nX3_countMissingSets_115 N n a0 a1 a4 a5 h = some r → ra_Ru 2 mX3_countMissingSets 115 [some (.ref a0), some (.int a1), none, none, some (.int a4), some (.int a5)] [] h (ra_oI r) := by
  intro n
  induction n with
  | zero => intro a0 a1 a4 a5 h r e; cases e
  | succ n ih =>
    intro a0 a1 a4 a5 h r e
    exact ra_sound (by omega) rfl ra_rI_ok (kX3_countMissingSets_115_ok N (nX3_countMissingSets_115 N n) ih) (fun m av h h1 e => (tVX3_countMissingSets_ok N) m av h h1 e) (fun m av h x h1 e => (tIX3_countMissingSets_ok N) m av h (x, h1) e) (fun m av h x h1 e => (ra_c0_ok (ro := ra_oJ)) m av h (x, h1) e) (fun m av h x h1 e => (ra_c0_ok (ro := ra_oR)) m av h (x, h1) e) (fun m av h x h1 e => (ra_c0_ok (ro := ra_oN)) m av h (x, h1) e) (fun m av h x h1 e => (ra_c0_ok (ro := ra_oF)) m av h (x, h1) e) 17 lX3_countMissingSets_115 _ _ _ _ lX3_countMissingSets_115_ck (show ra_run ra_rI (kX3_countMissingSets_115 N (nX3_countMissingSets_115 N n)) (tVX3_countMissingSets N) (tIX3_countMissingSets N) ra_c0 ra_c0 ra_c0 ra_c0 17 lX3_countMissingSets_115 [some (.ref a0), some (.int a1), none, none, some (.int a4), some (.int a5)] [] h = some r from e) _ _ rfl
def lX3_countMissingSets_53 : List ra_I := [(53, .iload 4, 2, 4, 0, 0, 0, 0, []),
  (55, .aload_n 0, 1, 0, 0, 0, 0, 0, []),
  (56, .getfield 57, 3, 3, 0, 2, 0, 0, []),
  (59, .getfield 65, 3, 2, 15, 0, 0, 0, []),
  (62, .if_icmp .ge (41), 3, 103, 0, 0, 0, 0, []),
  (65, .iload 4, 2, 4, 0, 0, 0, 0, []),
  (67, .iload_n 3, 1, 3, 0, 0, 0, 0, []),
  (68, .if_icmp .eq (29), 3, 97, 0, 0, 0, 0, []),
  (71, .aload_n 0, 1, 0, 0, 0, 0, 0, []),
  (72, .getfield 141, 3, 3, 15, 0, 0, 0, []),
  (75, .iconst (1), 1, 0, 0, 0, (1), 0, []),
  (76, .iload 4, 2, 4, 0, 0, 0, 0, []),
  (78, .ishl, 1, 0, 0, 0, 0, 0, []),
  (79, .iand, 1, 0, 0, 0, 0, 0, []),
  (80, .ifCond .ne (17), 3, 97, 0, 0, 0, 0, []),
  (83, .aload_n 0, 1, 0, 0, 0, 0, 0, []),
  (84, .aload_n 0, 1, 0, 0, 0, 0, 0, []),
  (85, .getfield 57, 3, 3, 0, 2, 0, 0, []),
  (88, .iload 4, 2, 4, 0, 0, 0, 0, []),
  (90, .iconst (3), 1, 0, 0, 0, (3), 0, []),
  (91, .invokevirtual 159, 3, 123, 3, 1, 0, 0, []),
  (94, .invokevirtual 162, 3, 144, 2, 0, 0, 0, []),
  (103, .iconst (0), 1, 0, 0, 0, (0), 0, []),
  (104, .istore 4, 2, 4, 0, 0, 0, 0, []),
  (106, .iconst (0), 1, 0, 0, 0, (0), 0, []),
  (107, .iload_n 1, 1, 1, 0, 0, 0, 0, []),
  (108, .iload_n 2, 1, 2, 0, 0, 0, 0, []),
  (109, .isub, 1, 0, 0, 0, 0, 0, []),
  (110, .invokestatic 165, 3, 87, 0, 20, 0, 0, []),
  (113, .istore 5, 2, 5, 0, 0, 0, 0, [])]
set_option maxRecDepth 100000 in
theorem lX3_countMissingSets_53_ck : lX3_countMissingSets_53.all (ra_ck mX3_countMissingSets 3) = true := by decide +kernel
def nX3_countMissingSets_53 (N : Nat) : Nat → Nat → Int32 → Int32 → Int32 → Int32 → ra_H → Option (Int32 × ra_H)
  | 0, _, _, _, _, _, _ => none
  | n + 1, a0, a1, a2, a3, a4, h =>
  (ra_fR h 3 a0 0).bind fun x1 =>
  (ra_fI h 2 x1 15).bind fun x2 =>
  if a4 < x2 then
    if a4 = a3 then
      nX3_countMissingSets_97 N (nX3_countMissingSets_53 N n) a0 a1 a2 a3 a4 h
    else
      (ra_fI h 3 a0 15).bind fun x4 =>
      if (x4 &&& (((1 : Int32)) <<< (a4 &&& 31))) = 0 then
        (ra_fR h 3 a0 0).bind fun x5 =>
        (fX2_lineFact N x5 a4 ((3 : Int32)) h).bind fun q6 =>
        (fX3_addToSets N a0 q6.1 q6.2).bind fun h7 =>
        nX3_countMissingSets_97 N (nX3_countMissingSets_53 N n) a0 a1 a2 a3 a4 h7
      else
        nX3_countMissingSets_97 N (nX3_countMissingSets_53 N n) a0 a1 a2 a3 a4 h
  else
    let y3 := if ((0 : Int32)) < (a1 - a2) then (a1 - a2) else ((0 : Int32))
    nX3_countMissingSets_115 N N a0 a1 ((0 : Int32)) y3 h
def kX3_countMissingSets_53 (N : Nat) (cs : Nat → Int32 → Int32 → Int32 → Int32 → ra_H → Option (Int32 × ra_H)) : Nat → List (Option Value) → List Value → ra_H → Option (Int32 × ra_H) := (ra_k1 97 (fun L S h => match L, S with
  | [some (.ref a0), some (.int a1), some (.int a2), some (.int a3), some (.int a4), _], [] => nX3_countMissingSets_97 N cs a0 a1 a2 a3 a4 h
  | _, _ => none) (ra_k1 115 (fun L S h => match L, S with
  | [some (.ref a0), some (.int a1), _, _, some (.int a4), some (.int a5)], [] => nX3_countMissingSets_115 N N a0 a1 a4 a5 h
  | _, _ => none) ra_k0))
theorem kX3_countMissingSets_53_ok (N : Nat) (cs : Nat → Int32 → Int32 → Int32 → Int32 → ra_H → Option (Int32 × ra_H)) (hcs : ∀ a0 a1 a2 a3 a4 h r, cs a0 a1 a2 a3 a4 h = some r → ra_Ru 2 mX3_countMissingSets 53 [some (.ref a0), some (.int a1), some (.int a2), some (.int a3), some (.int a4), none] [] h (ra_oI r)) : ra_kok 2 mX3_countMissingSets ra_oI (kX3_countMissingSets_53 N cs) := (ra_k1_ok (by
  intro L S h a e
  split at e
  · exact ra_Ru.weak (nX3_countMissingSets_97_ok N cs hcs _ _ _ _ _ _ _ e) ⟨rfl, ⟨rfl, ⟨rfl, ⟨rfl, ⟨rfl, trivial⟩⟩⟩⟩⟩
  · cases e) (ra_k1_ok (by
  intro L S h a e
  split at e
  · exact ra_Ru.weak (nX3_countMissingSets_115_ok N N _ _ _ _ _ _ e) ⟨rfl, ⟨rfl, ⟨rfl, ⟨rfl, trivial⟩⟩⟩⟩
  · cases e) ra_k0_ok))
set_option maxRecDepth 100000 in
theorem nX3_countMissingSets_53_ok (N : Nat) : ∀ n a0 a1 a2 a3 a4 h r, nX3_countMissingSets_53 N n a0 a1 a2 a3 a4 h = some r → ra_Ru 2 mX3_countMissingSets 53 [some (.ref a0), some (.int a1), some (.int a2), some (.int a3), some (.int a4), none] [] h (ra_oI r) := by
  intro n
  induction n with
  | zero => intro a0 a1 a2 a3 a4 h r e; cases e
  | succ n ih =>
    intro a0 a1 a2 a3 a4 h r e
    exact ra_sound (by omega) rfl ra_rI_ok (kX3_countMissingSets_53_ok N (nX3_countMissingSets_53 N n) ih) (fun m av h h1 e => (tVX3_countMissingSets_ok N) m av h h1 e) (fun m av h x h1 e => (tIX3_countMissingSets_ok N) m av h (x, h1) e) (fun m av h x h1 e => (ra_c0_ok (ro := ra_oJ)) m av h (x, h1) e) (fun m av h x h1 e => (ra_c0_ok (ro := ra_oR)) m av h (x, h1) e) (fun m av h x h1 e => (ra_c0_ok (ro := ra_oN)) m av h (x, h1) e) (fun m av h x h1 e => (ra_c0_ok (ro := ra_oF)) m av h (x, h1) e) 31 lX3_countMissingSets_53 _ _ _ _ lX3_countMissingSets_53_ck (show ra_run ra_rI (kX3_countMissingSets_53 N (nX3_countMissingSets_53 N n)) (tVX3_countMissingSets N) (tIX3_countMissingSets N) ra_c0 ra_c0 ra_c0 ra_c0 31 lX3_countMissingSets_53 [some (.ref a0), some (.int a1), some (.int a2), some (.int a3), some (.int a4), none] [] h = some r from e) _ _ rfl
def lX3_countMissingSets_48 : List ra_I := [(48, .iconst (1), 1, 0, 0, 0, (1), 0, []),
  (49, .iastore, 1, 0, 0, 0, 0, 0, []),
  (50, .iconst (0), 1, 0, 0, 0, (0), 0, []),
  (51, .istore 4, 2, 4, 0, 0, 0, 0, [])]
set_option maxRecDepth 100000 in
theorem lX3_countMissingSets_48_ck : lX3_countMissingSets_48.all (ra_ck mX3_countMissingSets 3) = true := by decide +kernel
def nX3_countMissingSets_48 (N : Nat) (a0 : Nat) (a1 : Int32) (a2 : Int32) (a3 : Int32) (b0 : Nat) (b1 : Int32) (h : ra_H) : Option (Int32 × ra_H) :=
  (ra_aW h 0 b0 b1 ((1 : Int32))).bind fun h1 =>
  nX3_countMissingSets_53 N N a0 a1 a2 a3 ((0 : Int32)) h1
def kX3_countMissingSets_48 (N : Nat) : Nat → List (Option Value) → List Value → ra_H → Option (Int32 × ra_H) := (ra_k1 53 (fun L S h => match L, S with
  | [some (.ref a0), some (.int a1), some (.int a2), some (.int a3), some (.int a4), _], [] => nX3_countMissingSets_53 N N a0 a1 a2 a3 a4 h
  | _, _ => none) ra_k0)
theorem kX3_countMissingSets_48_ok (N : Nat) : ra_kok 2 mX3_countMissingSets ra_oI (kX3_countMissingSets_48 N) := (ra_k1_ok (by
  intro L S h a e
  split at e
  · exact ra_Ru.weak (nX3_countMissingSets_53_ok N N _ _ _ _ _ _ _ e) ⟨rfl, ⟨rfl, ⟨rfl, ⟨rfl, ⟨rfl, trivial⟩⟩⟩⟩⟩
  · cases e) ra_k0_ok)
set_option maxRecDepth 100000 in
theorem nX3_countMissingSets_48_ok (N : Nat) (a0 : Nat) (a1 : Int32) (a2 : Int32) (a3 : Int32) (b0 : Nat) (b1 : Int32) (h : ra_H) (r : (Int32 × ra_H)) (e : nX3_countMissingSets_48 N a0 a1 a2 a3 b0 b1 h = some r) : ra_Ru 2 mX3_countMissingSets 48 [some (.ref a0), some (.int a1), some (.int a2), some (.int a3), none, none] [.int b1, .ref b0] h (ra_oI r) :=
  ra_sound (by omega) rfl ra_rI_ok (kX3_countMissingSets_48_ok N) (fun m av h h1 e => (tVX3_countMissingSets_ok N) m av h h1 e) (fun m av h x h1 e => (tIX3_countMissingSets_ok N) m av h (x, h1) e) (fun m av h x h1 e => (ra_c0_ok (ro := ra_oJ)) m av h (x, h1) e) (fun m av h x h1 e => (ra_c0_ok (ro := ra_oR)) m av h (x, h1) e) (fun m av h x h1 e => (ra_c0_ok (ro := ra_oN)) m av h (x, h1) e) (fun m av h x h1 e => (ra_c0_ok (ro := ra_oF)) m av h (x, h1) e) 5 lX3_countMissingSets_48 _ _ _ _ lX3_countMissingSets_48_ck (show ra_run ra_rI (kX3_countMissingSets_48 N) (tVX3_countMissingSets N) (tIX3_countMissingSets N) ra_c0 ra_c0 ra_c0 ra_c0 5 lX3_countMissingSets_48 [some (.ref a0), some (.int a1), some (.int a2), some (.int a3), none, none] [.int b1, .ref b0] h = some r from e) _ _ rfl
def lX3_countMissingSets_18 : List ra_I := [(18, .aload_n 0, 1, 0, 0, 0, 0, 0, []),
  (19, .getfield 34, 3, 3, 7, 2, 0, 0, []),
  (22, .iconst (0), 1, 0, 0, 0, (0), 0, []),
  (23, .invokestatic 153, 3, 3, 2, 0, 0, 0, []),
  (26, .aload_n 0, 1, 0, 0, 0, 0, 0, []),
  (27, .getfield 34, 3, 3, 7, 2, 0, 0, []),
  (30, .iload_n 3, 1, 3, 0, 0, 0, 0, []),
  (31, .iconst (-1), 1, 0, 0, 0, (-1), 0, []),
  (32, .if_icmp .ne (7), 3, 39, 0, 0, 0, 0, []),
  (35, .iconst (0), 1, 0, 0, 0, (0), 0, []),
  (36, .goto (12), 3, 48, 0, 0, 0, 0, []),
  (39, .aload_n 0, 1, 0, 0, 0, 0, 0, []),
  (40, .getfield 57, 3, 3, 0, 2, 0, 0, []),
  (43, .iload_n 3, 1, 3, 0, 0, 0, 0, []),
  (44, .iconst (3), 1, 0, 0, 0, (3), 0, []),
  (45, .invokevirtual 159, 3, 123, 3, 1, 0, 0, [])]
set_option maxRecDepth 100000 in
theorem lX3_countMissingSets_18_ck : lX3_countMissingSets_18.all (ra_ck mX3_countMissingSets 3) = true := by decide +kernel
def nX3_countMissingSets_18 (N : Nat) (a0 : Nat) (a1 : Int32) (a2 : Int32) (a3 : Int32) (h : ra_H) : Option (Int32 × ra_H) :=
  (ra_fR h 3 a0 7).bind fun x1 =>
  (fJ7_fill_53178 N x1 ((0 : Int32)) h).bind fun h2 =>
  (ra_fR h2 3 a0 7).bind fun x3 =>
  if a3 = ((-1 : Int32)) then
    nX3_countMissingSets_48 N a0 a1 a2 a3 x3 ((0 : Int32)) h2
  else
    (ra_fR h2 3 a0 0).bind fun x4 =>
    (fX2_lineFact N x4 a3 ((3 : Int32)) h2).bind fun q5 =>
    nX3_countMissingSets_48 N a0 a1 a2 a3 x3 q5.1 q5.2
def kX3_countMissingSets_18 (N : Nat) : Nat → List (Option Value) → List Value → ra_H → Option (Int32 × ra_H) := (ra_k1 48 (fun L S h => match L, S with
  | [some (.ref a0), some (.int a1), some (.int a2), some (.int a3), _, _], [.int b1, .ref b0] => nX3_countMissingSets_48 N a0 a1 a2 a3 b0 b1 h
  | _, _ => none) ra_k0)
theorem kX3_countMissingSets_18_ok (N : Nat) : ra_kok 2 mX3_countMissingSets ra_oI (kX3_countMissingSets_18 N) := (ra_k1_ok (by
  intro L S h a e
  split at e
  · exact ra_Ru.weak (nX3_countMissingSets_48_ok N _ _ _ _ _ _ _ _ e) ⟨rfl, ⟨rfl, ⟨rfl, ⟨rfl, trivial⟩⟩⟩⟩
  · cases e) ra_k0_ok)
set_option maxRecDepth 100000 in
theorem nX3_countMissingSets_18_ok (N : Nat) (a0 : Nat) (a1 : Int32) (a2 : Int32) (a3 : Int32) (h : ra_H) (r : (Int32 × ra_H)) (e : nX3_countMissingSets_18 N a0 a1 a2 a3 h = some r) : ra_Ru 2 mX3_countMissingSets 18 [some (.ref a0), some (.int a1), some (.int a2), some (.int a3), none, none] [] h (ra_oI r) :=
  ra_sound (by omega) rfl ra_rI_ok (kX3_countMissingSets_18_ok N) (fun m av h h1 e => (tVX3_countMissingSets_ok N) m av h h1 e) (fun m av h x h1 e => (tIX3_countMissingSets_ok N) m av h (x, h1) e) (fun m av h x h1 e => (ra_c0_ok (ro := ra_oJ)) m av h (x, h1) e) (fun m av h x h1 e => (ra_c0_ok (ro := ra_oR)) m av h (x, h1) e) (fun m av h x h1 e => (ra_c0_ok (ro := ra_oN)) m av h (x, h1) e) (fun m av h x h1 e => (ra_c0_ok (ro := ra_oF)) m av h (x, h1) e) 17 lX3_countMissingSets_18 _ _ _ _ lX3_countMissingSets_18_ck (show ra_run ra_rI (kX3_countMissingSets_18 N) (tVX3_countMissingSets N) (tIX3_countMissingSets N) ra_c0 ra_c0 ra_c0 ra_c0 17 lX3_countMissingSets_18 [some (.ref a0), some (.int a1), some (.int a2), some (.int a3), none, none] [] h = some r from e) _ _ rfl
def lX3_countMissingSets_0 : List ra_I := [(0, .iload_n 3, 1, 3, 0, 0, 0, 0, []),
  (1, .iconst (-1), 1, 0, 0, 0, (-1), 0, []),
  (2, .if_icmp .eq (16), 3, 18, 0, 0, 0, 0, []),
  (5, .aload_n 0, 1, 0, 0, 0, 0, 0, []),
  (6, .getfield 141, 3, 3, 15, 0, 0, 0, []),
  (9, .iconst (1), 1, 0, 0, 0, (1), 0, []),
  (10, .iload_n 3, 1, 3, 0, 0, 0, 0, []),
  (11, .ishl, 1, 0, 0, 0, 0, 0, []),
  (12, .iand, 1, 0, 0, 0, 0, 0, []),
  (13, .ifCond .eq (5), 3, 18, 0, 0, 0, 0, []),
  (16, .iconst (0), 1, 0, 0, 0, (0), 0, []),
  (17, .ireturn, 1, 0, 0, 0, 0, 0, [])]
set_option maxRecDepth 100000 in
theorem lX3_countMissingSets_0_ck : lX3_countMissingSets_0.all (ra_ck mX3_countMissingSets 3) = true := by decide +kernel
def nX3_countMissingSets_0 (N : Nat) (a0 : Nat) (a1 : Int32) (a2 : Int32) (a3 : Int32) (h : ra_H) : Option (Int32 × ra_H) :=
  if a3 = ((-1 : Int32)) then
    nX3_countMissingSets_18 N a0 a1 a2 a3 h
  else
    (ra_fI h 3 a0 15).bind fun x1 =>
    if (x1 &&& (((1 : Int32)) <<< (a3 &&& 31))) = 0 then
      nX3_countMissingSets_18 N a0 a1 a2 a3 h
    else
      some ((0 : Int32), h)
def kX3_countMissingSets_0 (N : Nat) : Nat → List (Option Value) → List Value → ra_H → Option (Int32 × ra_H) := (ra_k1 18 (fun L S h => match L, S with
  | [some (.ref a0), some (.int a1), some (.int a2), some (.int a3), _, _], [] => nX3_countMissingSets_18 N a0 a1 a2 a3 h
  | _, _ => none) ra_k0)
theorem kX3_countMissingSets_0_ok (N : Nat) : ra_kok 2 mX3_countMissingSets ra_oI (kX3_countMissingSets_0 N) := (ra_k1_ok (by
  intro L S h a e
  split at e
  · exact ra_Ru.weak (nX3_countMissingSets_18_ok N _ _ _ _ _ _ e) ⟨rfl, ⟨rfl, ⟨rfl, ⟨rfl, trivial⟩⟩⟩⟩
  · cases e) ra_k0_ok)
set_option maxRecDepth 100000 in
theorem nX3_countMissingSets_0_ok (N : Nat) (a0 : Nat) (a1 : Int32) (a2 : Int32) (a3 : Int32) (h : ra_H) (r : (Int32 × ra_H)) (e : nX3_countMissingSets_0 N a0 a1 a2 a3 h = some r) : ra_Ru 2 mX3_countMissingSets 0 [some (.ref a0), some (.int a1), some (.int a2), some (.int a3), none, none] [] h (ra_oI r) :=
  ra_sound (by omega) rfl ra_rI_ok (kX3_countMissingSets_0_ok N) (fun m av h h1 e => (tVX3_countMissingSets_ok N) m av h h1 e) (fun m av h x h1 e => (tIX3_countMissingSets_ok N) m av h (x, h1) e) (fun m av h x h1 e => (ra_c0_ok (ro := ra_oJ)) m av h (x, h1) e) (fun m av h x h1 e => (ra_c0_ok (ro := ra_oR)) m av h (x, h1) e) (fun m av h x h1 e => (ra_c0_ok (ro := ra_oN)) m av h (x, h1) e) (fun m av h x h1 e => (ra_c0_ok (ro := ra_oF)) m av h (x, h1) e) 13 lX3_countMissingSets_0 _ _ _ _ lX3_countMissingSets_0_ck (show ra_run ra_rI (kX3_countMissingSets_0 N) (tVX3_countMissingSets N) (tIX3_countMissingSets N) ra_c0 ra_c0 ra_c0 ra_c0 13 lX3_countMissingSets_0 [some (.ref a0), some (.int a1), some (.int a2), some (.int a3), none, none] [] h = some r from e) _ _ rfl
def fX3_countMissingSets (N : Nat) (p0 : Nat) (p1 : Int32) (p2 : Int32) (p3 : Int32) (h : ra_H) : Option (Int32 × ra_H) := match ra_isOb h p0 3 with
  | true => nX3_countMissingSets_0 N p0 p1 p2 p3 h
  | false => none
set_option maxRecDepth 100000 in
theorem mtX3_countMissingSets : ra_MT[143]? = some (mX3_countMissingSets, 1, 3, (1, 9), (5, 93), (5, 94)) := rfl
theorem fX3_countMissingSets_co (N : Nat) (p0 : Nat) (p1 : Int32) (p2 : Int32) (p3 : Int32) (h : ra_H) (r : (Int32 × ra_H)) (e : fX3_countMissingSets N p0 p1 p2 p3 h = some r) (D : Nat) (hD : 3 ≤ D) : ra_CO D 143 [.ref p0, .int p1, .int p2, .int p3] h (ra_oI r).1 (ra_oI r).2 := by
  have hw : ra_nw2 [.ref p0, .int p1, .int p2, .int p3] ≤ 6 := Nat.le_of_ble_eq_true rfl
  have hdb : ∀ v ∈ ([.ref p0, .int p1, .int p2, .int p3] : List Value), ∀ x, v ≠ .double x := by
    intro v hv x hx
    simp [hx] at hv
  unfold fX3_countMissingSets at e
  split at e
  · rename_i ho
    have e1 := e
    exact ⟨2, _, mtX3_countMissingSets, hD, ra_ev_of (by decide) hdb hw trivial (ra_Ru.weak (nX3_countMissingSets_0_ok N p0 p1 p2 p3 h _ e1) ⟨rfl, ⟨rfl, ⟨rfl, ⟨rfl, trivial⟩⟩⟩⟩), (fun _ => ⟨_, _, rfl, ra_rcv_of ho (by decide) rfl⟩), (fun h => absurd h (by decide))⟩
  · cases e
/-! RedMarks$Matches.openAt(I)I -/
def mX3_openAt : ra_M := (yX3_openAt, cX3_openAt, 2, (some .int))
def lX3_openAt_0 : List ra_I := [(0, .aload_n 0, 1, 0, 0, 0, 0, 0, []),
  (1, .getfield 22, 3, 3, 3, 2, 0, 0, []),
  (4, .iload_n 1, 1, 1, 0, 0, 0, 0, []),
  (5, .iaload, 1, 0, 0, 0, 0, 0, []),
  (6, .aload_n 0, 1, 0, 0, 0, 0, 0, []),
  (7, .getfield 25, 3, 3, 4, 2, 0, 0, []),
  (10, .iload_n 1, 1, 1, 0, 0, 0, 0, []),
  (11, .iaload, 1, 0, 0, 0, 0, 0, []),
  (12, .iconst (-1), 1, 0, 0, 0, (-1), 0, []),
  (13, .ixor, 1, 0, 0, 0, 0, 0, []),
  (14, .iand, 1, 0, 0, 0, 0, 0, []),
  (15, .ireturn, 1, 0, 0, 0, 0, 0, [])]
set_option maxRecDepth 100000 in
theorem lX3_openAt_0_ck : lX3_openAt_0.all (ra_ck mX3_openAt 3) = true := by decide +kernel
def nX3_openAt_0 (N : Nat) (a0 : Nat) (a1 : Int32) (h : ra_H) : Option (Int32 × ra_H) :=
  (ra_fR h 3 a0 3).bind fun x1 =>
  (ra_aI h 0 x1 a1).bind fun x2 =>
  (ra_fR h 3 a0 4).bind fun x3 =>
  (ra_aI h 0 x3 a1).bind fun x4 =>
  some (x2 &&& (x4 ^^^ ((-1 : Int32))), h)
def kX3_openAt_0 (N : Nat) : Nat → List (Option Value) → List Value → ra_H → Option (Int32 × ra_H) := ra_k0
theorem kX3_openAt_0_ok (N : Nat) : ra_kok 1 mX3_openAt ra_oI (kX3_openAt_0 N) := ra_k0_ok
set_option maxRecDepth 100000 in
theorem nX3_openAt_0_ok (N : Nat) (a0 : Nat) (a1 : Int32) (h : ra_H) (r : (Int32 × ra_H)) (e : nX3_openAt_0 N a0 a1 h = some r) : ra_Ru 1 mX3_openAt 0 [some (.ref a0), some (.int a1)] [] h (ra_oI r) :=
  ra_sound (by omega) rfl ra_rI_ok (kX3_openAt_0_ok N) (fun m av h h1 e => (ra_c0_ok (ro := ra_oV)) m av h h1 e) (fun m av h x h1 e => (ra_c0_ok (ro := ra_oI)) m av h (x, h1) e) (fun m av h x h1 e => (ra_c0_ok (ro := ra_oJ)) m av h (x, h1) e) (fun m av h x h1 e => (ra_c0_ok (ro := ra_oR)) m av h (x, h1) e) (fun m av h x h1 e => (ra_c0_ok (ro := ra_oN)) m av h (x, h1) e) (fun m av h x h1 e => (ra_c0_ok (ro := ra_oF)) m av h (x, h1) e) 13 lX3_openAt_0 _ _ _ _ lX3_openAt_0_ck (show ra_run ra_rI (kX3_openAt_0 N) ra_c0 ra_c0 ra_c0 ra_c0 ra_c0 ra_c0 13 lX3_openAt_0 [some (.ref a0), some (.int a1)] [] h = some r from e) _ _ rfl
def fX3_openAt (N : Nat) (p0 : Nat) (p1 : Int32) (h : ra_H) : Option (Int32 × ra_H) := match ra_isOb h p0 3 with
  | true => nX3_openAt_0 N p0 p1 h
  | false => none
set_option maxRecDepth 100000 in
theorem mtX3_openAt : ra_MT[133]? = some (mX3_openAt, 1, 1, (1, 9), (5, 48), (0, 42)) := rfl
theorem fX3_openAt_co (N : Nat) (p0 : Nat) (p1 : Int32) (h : ra_H) (r : (Int32 × ra_H)) (e : fX3_openAt N p0 p1 h = some r) (D : Nat) (hD : 2 ≤ D) : ra_CO D 133 [.ref p0, .int p1] h (ra_oI r).1 (ra_oI r).2 := by
  have hw : ra_nw2 [.ref p0, .int p1] ≤ 2 := Nat.le_of_ble_eq_true rfl
  have hdb : ∀ v ∈ ([.ref p0, .int p1] : List Value), ∀ x, v ≠ .double x := by
    intro v hv x hx
    simp [hx] at hv
  unfold fX3_openAt at e
  split at e
  · rename_i ho
    have e1 := e
    exact ⟨1, _, mtX3_openAt, hD, ra_ev_of (by decide) hdb hw trivial (ra_Ru.weak (nX3_openAt_0_ok N p0 p1 h _ e1) ⟨rfl, ⟨rfl, trivial⟩⟩), (fun _ => ⟨_, _, rfl, ra_rcv_of ho (by decide) rfl⟩), (fun h => absurd h (by decide))⟩
  · cases e
/-! RedMarks$Matches.beginBehindAll()V -/
def mX3_beginBehindAll : ra_M := (yX3_beginBehindAll, cX3_beginBehindAll, 5, none)
def tIX3_beginBehindAll (N : Nat) : Nat → List Value → ra_H → Option (Int32 × ra_H) := (ra_c1 133 (fun av h => match av with
  | [.ref z0, .int z1] => fX3_openAt N z0 z1 h
  | _ => none) (ra_c1 134 (fun av h => match av with
  | [.int z0] => fJ6_bitCount_0f7a4 N z0 h
  | _ => none) ra_c0))
theorem tIX3_beginBehindAll_ok (N : Nat) : ra_cok 2 ra_oI (tIX3_beginBehindAll N) := (ra_c1_ok (by
  intro av h a e
  split at e
  · exact fX3_openAt_co N _ _ _ _ e 2 (by omega)
  · cases e) (ra_c1_ok (by
  intro av h a e
  split at e
  · exact fJ6_bitCount_0f7a4_co N _ _ _ e 2 (by omega)
  · cases e) ra_c0_ok))
def lX3_beginBehindAll_35 : List ra_I := [(35, .iload 4, 2, 4, 0, 0, 0, 0, []),
  (37, .ifCond .le (42), 3, 79, 0, 0, 0, 0, []),
  (40, .aload_n 0, 1, 0, 0, 0, 0, 0, []),
  (41, .getfield 37, 3, 3, 8, 2, 0, 0, []),
  (44, .iload_n 1, 1, 1, 0, 0, 0, 0, []),
  (45, .iload_n 3, 1, 3, 0, 0, 0, 0, []),
  (46, .ior, 1, 0, 0, 0, 0, 0, []),
  (47, .iconst (0), 1, 0, 0, 0, (0), 0, []),
  (48, .iastore, 1, 0, 0, 0, 0, 0, []),
  (49, .aload_n 0, 1, 0, 0, 0, 0, 0, []),
  (50, .getfield 40, 3, 3, 9, 2, 0, 0, []),
  (53, .iload_n 1, 1, 1, 0, 0, 0, 0, []),
  (54, .iload_n 3, 1, 3, 0, 0, 0, 0, []),
  (55, .ior, 1, 0, 0, 0, 0, 0, []),
  (56, .iconst (1), 1, 0, 0, 0, (1), 0, []),
  (57, .iastore, 1, 0, 0, 0, 0, 0, []),
  (58, .aload_n 0, 1, 0, 0, 0, 0, 0, []),
  (59, .getfield 43, 3, 3, 10, 2, 0, 0, []),
  (62, .iload_n 1, 1, 1, 0, 0, 0, 0, []),
  (63, .iload_n 3, 1, 3, 0, 0, 0, 0, []),
  (64, .ior, 1, 0, 0, 0, 0, 0, []),
  (65, .iconst (0), 1, 0, 0, 0, (0), 0, []),
  (66, .bastore, 1, 0, 0, 0, 0, 0, []),
  (67, .iload_n 3, 1, 3, 0, 0, 0, 0, []),
  (68, .iload_n 2, 1, 2, 0, 0, 0, 0, []),
  (69, .isub, 1, 0, 0, 0, 0, 0, []),
  (70, .iload_n 2, 1, 2, 0, 0, 0, 0, []),
  (71, .iand, 1, 0, 0, 0, 0, 0, []),
  (72, .istore_n 3, 1, 3, 0, 0, 0, 0, []),
  (73, .iinc 4 (-1), 3, 4, 0, 0, (-1), 0, []),
  (76, .goto (-41), 3, 35, 0, 0, 0, 0, []),
  (79, .return_, 1, 0, 0, 0, 0, 0, [])]
set_option maxRecDepth 100000 in
theorem lX3_beginBehindAll_35_ck : lX3_beginBehindAll_35.all (ra_ck mX3_beginBehindAll 3) = true := by decide +kernel
def nX3_beginBehindAll_35 (N : Nat) : Nat → Nat → Int32 → Int32 → Int32 → Int32 → ra_H → Option ra_H
  | 0, _, _, _, _, _, _ => none
  | n + 1, a0, a1, a2, a3, a4, h =>
  if a4 ≤ 0 then
    some h
  else
    (ra_fR h 3 a0 8).bind fun x1 =>
    (ra_aW h 0 x1 (a1 ||| a3) ((0 : Int32))).bind fun h2 =>
    (ra_fR h2 3 a0 9).bind fun x3 =>
    (ra_aW h2 0 x3 (a1 ||| a3) ((1 : Int32))).bind fun h4 =>
    (ra_fR h4 3 a0 10).bind fun x5 =>
    (ra_aW h4 2 x5 (a1 ||| a3) (vp_nar .boolean ((0 : Int32)))).bind fun h6 =>
    let y7 := (a3 - a2) &&& a2
    let y8 := a4 + (-1 : Int32)
    nX3_beginBehindAll_35 N n a0 a1 a2 y7 y8 h6
def kX3_beginBehindAll_35 (N : Nat) (cs : Nat → Int32 → Int32 → Int32 → Int32 → ra_H → Option ra_H) : Nat → List (Option Value) → List Value → ra_H → Option ra_H := (ra_k1 35 (fun L S h => match L, S with
  | [some (.ref a0), some (.int a1), some (.int a2), some (.int a3), some (.int a4)], [] => cs a0 a1 a2 a3 a4 h
  | _, _ => none) ra_k0)
theorem kX3_beginBehindAll_35_ok (N : Nat) (cs : Nat → Int32 → Int32 → Int32 → Int32 → ra_H → Option ra_H) (hcs : ∀ a0 a1 a2 a3 a4 h r, cs a0 a1 a2 a3 a4 h = some r → ra_Ru 2 mX3_beginBehindAll 35 [some (.ref a0), some (.int a1), some (.int a2), some (.int a3), some (.int a4)] [] h (ra_oV r)) : ra_kok 2 mX3_beginBehindAll ra_oV (kX3_beginBehindAll_35 N cs) := (ra_k1_ok (by
  intro L S h a e
  split at e
  · exact ra_Ru.weak (hcs _ _ _ _ _ _ _ e) ⟨rfl, ⟨rfl, ⟨rfl, ⟨rfl, ⟨rfl, trivial⟩⟩⟩⟩⟩
  · cases e) ra_k0_ok)
set_option maxRecDepth 100000 in
theorem nX3_beginBehindAll_35_ok (N : Nat) : ∀ n a0 a1 a2 a3 a4 h r, nX3_beginBehindAll_35 N n a0 a1 a2 a3 a4 h = some r → ra_Ru 2 mX3_beginBehindAll 35 [some (.ref a0), some (.int a1), some (.int a2), some (.int a3), some (.int a4)] [] h (ra_oV r) := by
  intro n
  induction n with
  | zero => intro a0 a1 a2 a3 a4 h r e; cases e
  | succ n ih =>
    intro a0 a1 a2 a3 a4 h r e
    exact ra_sound (by omega) rfl ra_rV_ok (kX3_beginBehindAll_35_ok N (nX3_beginBehindAll_35 N n) ih) (fun m av h h1 e => (ra_c0_ok (ro := ra_oV)) m av h h1 e) (fun m av h x h1 e => (tIX3_beginBehindAll_ok N) m av h (x, h1) e) (fun m av h x h1 e => (ra_c0_ok (ro := ra_oJ)) m av h (x, h1) e) (fun m av h x h1 e => (ra_c0_ok (ro := ra_oR)) m av h (x, h1) e) (fun m av h x h1 e => (ra_c0_ok (ro := ra_oN)) m av h (x, h1) e) (fun m av h x h1 e => (ra_c0_ok (ro := ra_oF)) m av h (x, h1) e) 33 lX3_beginBehindAll_35 _ _ _ _ lX3_beginBehindAll_35_ck (show ra_run ra_rV (kX3_beginBehindAll_35 N (nX3_beginBehindAll_35 N n)) ra_c0 (tIX3_beginBehindAll N) ra_c0 ra_c0 ra_c0 ra_c0 33 lX3_beginBehindAll_35 [some (.ref a0), some (.int a1), some (.int a2), some (.int a3), some (.int a4)] [] h = some r from e) _ _ rfl
def lX3_beginBehindAll_0 : List ra_I := [(0, .aload_n 0, 1, 0, 0, 0, 0, 0, []),
  (1, .getfield 25, 3, 3, 4, 2, 0, 0, []),
  (4, .aload_n 0, 1, 0, 0, 0, 0, 0, []),
  (5, .getfield 57, 3, 3, 0, 2, 0, 0, []),
  (8, .getfield 88, 3, 2, 13, 0, 0, 0, []),
  (11, .iaload, 1, 0, 0, 0, 0, 0, []),
  (12, .istore_n 1, 1, 1, 0, 0, 0, 0, []),
  (13, .aload_n 0, 1, 0, 0, 0, 0, 0, []),
  (14, .aload_n 0, 1, 0, 0, 0, 0, 0, []),
  (15, .getfield 57, 3, 3, 0, 2, 0, 0, []),
  (18, .getfield 88, 3, 2, 13, 0, 0, 0, []),
  (21, .invokevirtual 114, 3, 133, 2, 1, 0, 0, []),
  (24, .istore_n 2, 1, 2, 0, 0, 0, 0, []),
  (25, .iconst (0), 1, 0, 0, 0, (0), 0, []),
  (26, .istore_n 3, 1, 3, 0, 0, 0, 0, []),
  (27, .iconst (1), 1, 0, 0, 0, (1), 0, []),
  (28, .iload_n 2, 1, 2, 0, 0, 0, 0, []),
  (29, .invokestatic 118, 3, 134, 1, 1, 0, 0, []),
  (32, .ishl, 1, 0, 0, 0, 0, 0, []),
  (33, .istore 4, 2, 4, 0, 0, 0, 0, [])]
set_option maxRecDepth 100000 in
theorem lX3_beginBehindAll_0_ck : lX3_beginBehindAll_0.all (ra_ck mX3_beginBehindAll 3) = true := by decide +kernel
def nX3_beginBehindAll_0 (N : Nat) (a0 : Nat) (h : ra_H) : Option ra_H :=
  (ra_fR h 3 a0 4).bind fun x1 =>
  (ra_fR h 3 a0 0).bind fun x2 =>
  (ra_fI h 2 x2 13).bind fun x3 =>
  (ra_aI h 0 x1 x3).bind fun x4 =>
  (ra_fR h 3 a0 0).bind fun x5 =>
  (ra_fI h 2 x5 13).bind fun x6 =>
  (fX3_openAt N a0 x6 h).bind fun q7 =>
  (fJ6_bitCount_0f7a4 N q7.1 q7.2).bind fun q8 =>
  let y9 := ((1 : Int32)) <<< (q8.1 &&& 31)
  nX3_beginBehindAll_35 N N a0 x4 q7.1 ((0 : Int32)) y9 q8.2
def kX3_beginBehindAll_0 (N : Nat) : Nat → List (Option Value) → List Value → ra_H → Option ra_H := (ra_k1 35 (fun L S h => match L, S with
  | [some (.ref a0), some (.int a1), some (.int a2), some (.int a3), some (.int a4)], [] => nX3_beginBehindAll_35 N N a0 a1 a2 a3 a4 h
  | _, _ => none) ra_k0)
theorem kX3_beginBehindAll_0_ok (N : Nat) : ra_kok 2 mX3_beginBehindAll ra_oV (kX3_beginBehindAll_0 N) := (ra_k1_ok (by
  intro L S h a e
  split at e
  · exact ra_Ru.weak (nX3_beginBehindAll_35_ok N N _ _ _ _ _ _ _ e) ⟨rfl, ⟨rfl, ⟨rfl, ⟨rfl, ⟨rfl, trivial⟩⟩⟩⟩⟩
  · cases e) ra_k0_ok)
set_option maxRecDepth 100000 in
theorem nX3_beginBehindAll_0_ok (N : Nat) (a0 : Nat) (h : ra_H) (r : ra_H) (e : nX3_beginBehindAll_0 N a0 h = some r) : ra_Ru 2 mX3_beginBehindAll 0 [some (.ref a0), none, none, none, none] [] h (ra_oV r) :=
  ra_sound (by omega) rfl ra_rV_ok (kX3_beginBehindAll_0_ok N) (fun m av h h1 e => (ra_c0_ok (ro := ra_oV)) m av h h1 e) (fun m av h x h1 e => (tIX3_beginBehindAll_ok N) m av h (x, h1) e) (fun m av h x h1 e => (ra_c0_ok (ro := ra_oJ)) m av h (x, h1) e) (fun m av h x h1 e => (ra_c0_ok (ro := ra_oR)) m av h (x, h1) e) (fun m av h x h1 e => (ra_c0_ok (ro := ra_oN)) m av h (x, h1) e) (fun m av h x h1 e => (ra_c0_ok (ro := ra_oF)) m av h (x, h1) e) 21 lX3_beginBehindAll_0 _ _ _ _ lX3_beginBehindAll_0_ck (show ra_run ra_rV (kX3_beginBehindAll_0 N) ra_c0 (tIX3_beginBehindAll N) ra_c0 ra_c0 ra_c0 ra_c0 21 lX3_beginBehindAll_0 [some (.ref a0), none, none, none, none] [] h = some r from e) _ _ rfl
def fX3_beginBehindAll (N : Nat) (p0 : Nat) (h : ra_H) : Option ra_H := match ra_isOb h p0 3 with
  | true => nX3_beginBehindAll_0 N p0 h
  | false => none
set_option maxRecDepth 100000 in
theorem mtX3_beginBehindAll : ra_MT[132]? = some (mX3_beginBehindAll, 1, 0, (1, 9), (5, 44), (0, 41)) := rfl
theorem fX3_beginBehindAll_co (N : Nat) (p0 : Nat) (h : ra_H) (r : ra_H) (e : fX3_beginBehindAll N p0 h = some r) (D : Nat) (hD : 3 ≤ D) : ra_CO D 132 [.ref p0] h (ra_oV r).1 (ra_oV r).2 := by
  have hw : ra_nw2 [.ref p0] ≤ 5 := Nat.le_of_ble_eq_true rfl
  have hdb : ∀ v ∈ ([.ref p0] : List Value), ∀ x, v ≠ .double x := by
    intro v hv x hx
    simp [hx] at hv
  unfold fX3_beginBehindAll at e
  split at e
  · rename_i ho
    have e1 := e
    exact ⟨2, _, mtX3_beginBehindAll, hD, ra_ev_of (by decide) hdb hw trivial (ra_Ru.weak (nX3_beginBehindAll_0_ok N p0 h _ e1) ⟨rfl, trivial⟩), (fun _ => ⟨_, _, rfl, ra_rcv_of ho (by decide) rfl⟩), (fun h => absurd h (by decide))⟩
  · cases e
/-! RedMarks$Matches.bestFor(II)I -/
def mX3_bestFor : ra_M := (yX3_bestFor, cX3_bestFor, 3, (some .int))
def lX3_bestFor_31 : List ra_I := [(31, .ireturn, 1, 0, 0, 0, 0, 0, [])]
set_option maxRecDepth 100000 in
theorem lX3_bestFor_31_ck : lX3_bestFor_31.all (ra_ck mX3_bestFor 3) = true := by decide +kernel
def nX3_bestFor_31 (N : Nat) (b0 : Int32) (h : ra_H) : Option (Int32 × ra_H) :=
  some (b0, h)
def kX3_bestFor_31 (N : Nat) : Nat → List (Option Value) → List Value → ra_H → Option (Int32 × ra_H) := ra_k0
theorem kX3_bestFor_31_ok (N : Nat) : ra_kok 1 mX3_bestFor ra_oI (kX3_bestFor_31 N) := ra_k0_ok
set_option maxRecDepth 100000 in
theorem nX3_bestFor_31_ok (N : Nat) (b0 : Int32) (h : ra_H) (r : (Int32 × ra_H)) (e : nX3_bestFor_31 N b0 h = some r) : ra_Ru 1 mX3_bestFor 31 [none, none, none] [.int b0] h (ra_oI r) :=
  ra_sound (by omega) rfl ra_rI_ok (kX3_bestFor_31_ok N) (fun m av h h1 e => (ra_c0_ok (ro := ra_oV)) m av h h1 e) (fun m av h x h1 e => (ra_c0_ok (ro := ra_oI)) m av h (x, h1) e) (fun m av h x h1 e => (ra_c0_ok (ro := ra_oJ)) m av h (x, h1) e) (fun m av h x h1 e => (ra_c0_ok (ro := ra_oR)) m av h (x, h1) e) (fun m av h x h1 e => (ra_c0_ok (ro := ra_oN)) m av h (x, h1) e) (fun m av h x h1 e => (ra_c0_ok (ro := ra_oF)) m av h (x, h1) e) 2 lX3_bestFor_31 _ _ _ _ lX3_bestFor_31_ck (show ra_run ra_rI (kX3_bestFor_31 N) ra_c0 ra_c0 ra_c0 ra_c0 ra_c0 ra_c0 2 lX3_bestFor_31 [none, none, none] [.int b0] h = some r from e) _ _ rfl
def lX3_bestFor_0 : List ra_I := [(0, .aload_n 0, 1, 0, 0, 0, 0, 0, []),
  (1, .getfield 18, 3, 3, 2, 2, 0, 0, []),
  (4, .iload_n 1, 1, 1, 0, 0, 0, 0, []),
  (5, .iaload, 1, 0, 0, 0, 0, 0, []),
  (6, .ifCond .ne (9), 3, 15, 0, 0, 0, 0, []),
  (9, .sipush (4096), 3, 0, 0, 0, (4096), 0, []),
  (12, .goto (19), 3, 31, 0, 0, 0, 0, []),
  (15, .aload_n 0, 1, 0, 0, 0, 0, 0, []),
  (16, .getfield 47, 3, 3, 11, 2, 0, 0, []),
  (19, .iload_n 1, 1, 1, 0, 0, 0, 0, []),
  (20, .aload_n 0, 1, 0, 0, 0, 0, 0, []),
  (21, .getfield 57, 3, 3, 0, 2, 0, 0, []),
  (24, .getfield 65, 3, 2, 15, 0, 0, 0, []),
  (27, .ishl, 1, 0, 0, 0, 0, 0, []),
  (28, .iload_n 2, 1, 2, 0, 0, 0, 0, []),
  (29, .iadd, 1, 0, 0, 0, 0, 0, []),
  (30, .saload, 1, 0, 0, 0, 0, 0, [])]
set_option maxRecDepth 100000 in
theorem lX3_bestFor_0_ck : lX3_bestFor_0.all (ra_ck mX3_bestFor 3) = true := by decide +kernel
def nX3_bestFor_0 (N : Nat) (a0 : Nat) (a1 : Int32) (a2 : Int32) (h : ra_H) : Option (Int32 × ra_H) :=
  (ra_fR h 3 a0 2).bind fun x1 =>
  (ra_aI h 0 x1 a1).bind fun x2 =>
  if x2 = 0 then
    nX3_bestFor_31 N ((4096 : Int32)) h
  else
    (ra_fR h 3 a0 11).bind fun x3 =>
    (ra_fR h 3 a0 0).bind fun x4 =>
    (ra_fI h 2 x4 15).bind fun x5 =>
    (ra_aI h 3 x3 ((a1 <<< (x5 &&& 31)) + a2)).bind fun x6 =>
    nX3_bestFor_31 N x6 h
def kX3_bestFor_0 (N : Nat) : Nat → List (Option Value) → List Value → ra_H → Option (Int32 × ra_H) := (ra_k1 31 (fun L S h => match L, S with
  | [_, _, _], [.int b0] => nX3_bestFor_31 N b0 h
  | _, _ => none) ra_k0)
theorem kX3_bestFor_0_ok (N : Nat) : ra_kok 1 mX3_bestFor ra_oI (kX3_bestFor_0 N) := (ra_k1_ok (by
  intro L S h a e
  split at e
  · exact ra_Ru.weak (nX3_bestFor_31_ok N _ _ _ e) trivial
  · cases e) ra_k0_ok)
set_option maxRecDepth 100000 in
theorem nX3_bestFor_0_ok (N : Nat) (a0 : Nat) (a1 : Int32) (a2 : Int32) (h : ra_H) (r : (Int32 × ra_H)) (e : nX3_bestFor_0 N a0 a1 a2 h = some r) : ra_Ru 1 mX3_bestFor 0 [some (.ref a0), some (.int a1), some (.int a2)] [] h (ra_oI r) :=
  ra_sound (by omega) rfl ra_rI_ok (kX3_bestFor_0_ok N) (fun m av h h1 e => (ra_c0_ok (ro := ra_oV)) m av h h1 e) (fun m av h x h1 e => (ra_c0_ok (ro := ra_oI)) m av h (x, h1) e) (fun m av h x h1 e => (ra_c0_ok (ro := ra_oJ)) m av h (x, h1) e) (fun m av h x h1 e => (ra_c0_ok (ro := ra_oR)) m av h (x, h1) e) (fun m av h x h1 e => (ra_c0_ok (ro := ra_oN)) m av h (x, h1) e) (fun m av h x h1 e => (ra_c0_ok (ro := ra_oF)) m av h (x, h1) e) 18 lX3_bestFor_0 _ _ _ _ lX3_bestFor_0_ck (show ra_run ra_rI (kX3_bestFor_0 N) ra_c0 ra_c0 ra_c0 ra_c0 ra_c0 ra_c0 18 lX3_bestFor_0 [some (.ref a0), some (.int a1), some (.int a2)] [] h = some r from e) _ _ rfl
def fX3_bestFor (N : Nat) (p0 : Nat) (p1 : Int32) (p2 : Int32) (h : ra_H) : Option (Int32 × ra_H) := match ra_isOb h p0 3 with
  | true => nX3_bestFor_0 N p0 p1 p2 h
  | false => none
set_option maxRecDepth 100000 in
theorem mtX3_bestFor : ra_MT[139]? = some (mX3_bestFor, 1, 2, (1, 9), (5, 78), (0, 47)) := rfl
theorem fX3_bestFor_co (N : Nat) (p0 : Nat) (p1 : Int32) (p2 : Int32) (h : ra_H) (r : (Int32 × ra_H)) (e : fX3_bestFor N p0 p1 p2 h = some r) (D : Nat) (hD : 2 ≤ D) : ra_CO D 139 [.ref p0, .int p1, .int p2] h (ra_oI r).1 (ra_oI r).2 := by
  have hw : ra_nw2 [.ref p0, .int p1, .int p2] ≤ 3 := Nat.le_of_ble_eq_true rfl
  have hdb : ∀ v ∈ ([.ref p0, .int p1, .int p2] : List Value), ∀ x, v ≠ .double x := by
    intro v hv x hx
    simp [hx] at hv
  unfold fX3_bestFor at e
  split at e
  · rename_i ho
    have e1 := e
    exact ⟨1, _, mtX3_bestFor, hD, ra_ev_of (by decide) hdb hw trivial (ra_Ru.weak (nX3_bestFor_0_ok N p0 p1 p2 h _ e1) ⟨rfl, ⟨rfl, ⟨rfl, trivial⟩⟩⟩), (fun _ => ⟨_, _, rfl, ra_rcv_of ho (by decide) rfl⟩), (fun h => absurd h (by decide))⟩
  · cases e
/-! RedMarks$Matches.goOver(I)I -/
def mX3_goOver : ra_M := (yX3_goOver, cX3_goOver, 10, (some .int))
def tIX3_goOver (N : Nat) : Nat → List Value → ra_H → Option (Int32 × ra_H) := (ra_c1 133 (fun av h => match av with
  | [.ref z0, .int z1] => fX3_openAt N z0 z1 h
  | _ => none) (ra_c1 134 (fun av h => match av with
  | [.int z0] => fJ6_bitCount_0f7a4 N z0 h
  | _ => none) (ra_c1 139 (fun av h => match av with
  | [.ref z0, .int z1, .int z2] => fX3_bestFor N z0 z1 z2 h
  | _ => none) ra_c0)))
theorem tIX3_goOver_ok (N : Nat) : ra_cok 2 ra_oI (tIX3_goOver N) := (ra_c1_ok (by
  intro av h a e
  split at e
  · exact fX3_openAt_co N _ _ _ _ e 2 (by omega)
  · cases e) (ra_c1_ok (by
  intro av h a e
  split at e
  · exact fJ6_bitCount_0f7a4_co N _ _ _ e 2 (by omega)
  · cases e) (ra_c1_ok (by
  intro av h a e
  split at e
  · exact fX3_bestFor_co N _ _ _ _ _ e 2 (by omega)
  · cases e) ra_c0_ok)))
def lX3_goOver_123 : List ra_I := [(123, .iinc 9 (1), 3, 9, 0, 0, (1), 0, []),
  (126, .goto (-38), 3, 88, 0, 0, 0, 0, [])]
set_option maxRecDepth 100000 in
theorem lX3_goOver_123_ck : lX3_goOver_123.all (ra_ck mX3_goOver 3) = true := by decide +kernel
def nX3_goOver_123 (N : Nat) (c27 : Nat → Int32 → Int32 → Int32 → Int32 → Int32 → Int32 → ra_H → Option (Int32 × ra_H)) (c88 : Nat → Int32 → Int32 → Int32 → Int32 → Int32 → Int32 → Int32 → Int32 → Int32 → ra_H → Option (Int32 × ra_H)) (a0 : Nat) (a1 : Int32) (a2 : Int32) (a3 : Int32) (a4 : Int32) (a5 : Int32) (a6 : Int32) (a7 : Int32) (a8 : Int32) (a9 : Int32) (h : ra_H) : Option (Int32 × ra_H) :=
  let y1 := a9 + (1 : Int32)
  c88 a0 a1 a2 a3 a4 a5 a6 a7 a8 y1 h
def kX3_goOver_123 (N : Nat) (c27 : Nat → Int32 → Int32 → Int32 → Int32 → Int32 → Int32 → ra_H → Option (Int32 × ra_H)) (c88 : Nat → Int32 → Int32 → Int32 → Int32 → Int32 → Int32 → Int32 → Int32 → Int32 → ra_H → Option (Int32 × ra_H)) : Nat → List (Option Value) → List Value → ra_H → Option (Int32 × ra_H) := (ra_k1 88 (fun L S h => match L, S with
  | [some (.ref a0), some (.int a1), some (.int a2), some (.int a3), some (.int a4), some (.int a5), some (.int a6), some (.int a7), some (.int a8), some (.int a9)], [] => c88 a0 a1 a2 a3 a4 a5 a6 a7 a8 a9 h
  | _, _ => none) ra_k0)
theorem kX3_goOver_123_ok (N : Nat) (c27 : Nat → Int32 → Int32 → Int32 → Int32 → Int32 → Int32 → ra_H → Option (Int32 × ra_H)) (c88 : Nat → Int32 → Int32 → Int32 → Int32 → Int32 → Int32 → Int32 → Int32 → Int32 → ra_H → Option (Int32 × ra_H)) (hc27 : ∀ a0 a1 a2 a3 a4 a5 a6 h r, c27 a0 a1 a2 a3 a4 a5 a6 h = some r → ra_Ru 2 mX3_goOver 27 [some (.ref a0), some (.int a1), some (.int a2), some (.int a3), some (.int a4), some (.int a5), some (.int a6), none, none, none] [] h (ra_oI r)) (hc88 : ∀ a0 a1 a2 a3 a4 a5 a6 a7 a8 a9 h r, c88 a0 a1 a2 a3 a4 a5 a6 a7 a8 a9 h = some r → ra_Ru 2 mX3_goOver 88 [some (.ref a0), some (.int a1), some (.int a2), some (.int a3), some (.int a4), some (.int a5), some (.int a6), some (.int a7), some (.int a8), some (.int a9)] [] h (ra_oI r)) : ra_kok 2 mX3_goOver ra_oI (kX3_goOver_123 N c27 c88) := (ra_k1_ok (by
  intro L S h a e
  split at e
  · exact ra_Ru.weak (hc88 _ _ _ _ _ _ _ _ _ _ _ _ e) ⟨rfl, ⟨rfl, ⟨rfl, ⟨rfl, ⟨rfl, ⟨rfl, ⟨rfl, ⟨rfl, ⟨rfl, ⟨rfl, trivial⟩⟩⟩⟩⟩⟩⟩⟩⟩⟩
  · cases e) ra_k0_ok)
set_option maxRecDepth 100000 in
theorem nX3_goOver_123_ok (N : Nat) (c27 : Nat → Int32 → Int32 → Int32 → Int32 → Int32 → Int32 → ra_H → Option (Int32 × ra_H)) (c88 : Nat → Int32 → Int32 → Int32 → Int32 → Int32 → Int32 → Int32 → Int32 → Int32 → ra_H → Option (Int32 × ra_H)) (hc27 : ∀ a0 a1 a2 a3 a4 a5 a6 h r, c27 a0 a1 a2 a3 a4 a5 a6 h = some r → ra_Ru 2 mX3_goOver 27 [some (.ref a0), some (.int a1), some (.int a2), some (.int a3), some (.int a4), some (.int a5), some (.int a6), none, none, none] [] h (ra_oI r)) (hc88 : ∀ a0 a1 a2 a3 a4 a5 a6 a7 a8 a9 h r, c88 a0 a1 a2 a3 a4 a5 a6 a7 a8 a9 h = some r → ra_Ru 2 mX3_goOver 88 [some (.ref a0), some (.int a1), some (.int a2), some (.int a3), some (.int a4), some (.int a5), some (.int a6), some (.int a7), some (.int a8), some (.int a9)] [] h (ra_oI r)) (a0 : Nat) (a1 : Int32) (a2 : Int32) (a3 : Int32) (a4 : Int32) (a5 : Int32) (a6 : Int32) (a7 : Int32) (a8 : Int32) (a9 : Int32) (h : ra_H) (r : (Int32 × ra_H)) (e : nX3_goOver_123 N c27 c88 a0 a1 a2 a3 a4 a5 a6 a7 a8 a9 h = some r) : ra_Ru 2 mX3_goOver 123 [some (.ref a0), some (.int a1), some (.int a2), some (.int a3), some (.int a4), some (.int a5), some (.int a6), some (.int a7), some (.int a8), some (.int a9)] [] h (ra_oI r) :=
  ra_sound (by omega) rfl ra_rI_ok (kX3_goOver_123_ok N c27 c88 hc27 hc88) (fun m av h h1 e => (ra_c0_ok (ro := ra_oV)) m av h h1 e) (fun m av h x h1 e => (tIX3_goOver_ok N) m av h (x, h1) e) (fun m av h x h1 e => (ra_c0_ok (ro := ra_oJ)) m av h (x, h1) e) (fun m av h x h1 e => (ra_c0_ok (ro := ra_oR)) m av h (x, h1) e) (fun m av h x h1 e => (ra_c0_ok (ro := ra_oN)) m av h (x, h1) e) (fun m av h x h1 e => (ra_c0_ok (ro := ra_oF)) m av h (x, h1) e) 3 lX3_goOver_123 _ _ _ _ lX3_goOver_123_ck (show ra_run ra_rI (kX3_goOver_123 N c27 c88) ra_c0 (tIX3_goOver N) ra_c0 ra_c0 ra_c0 ra_c0 3 lX3_goOver_123 [some (.ref a0), some (.int a1), some (.int a2), some (.int a3), some (.int a4), some (.int a5), some (.int a6), some (.int a7), some (.int a8), some (.int a9)] [] h = some r from e) _ _ rfl
def lX3_goOver_129 : List ra_I := [(129, .iload 4, 2, 4, 0, 0, 0, 0, []),
  (131, .iconst (1), 1, 0, 0, 0, (1), 0, []),
  (132, .isub, 1, 0, 0, 0, 0, 0, []),
  (133, .iload_n 3, 1, 3, 0, 0, 0, 0, []),
  (134, .iand, 1, 0, 0, 0, 0, 0, []),
  (135, .istore 4, 2, 4, 0, 0, 0, 0, []),
  (137, .iinc 6 (-1), 3, 6, 0, 0, (-1), 0, []),
  (140, .goto (-113), 3, 27, 0, 0, 0, 0, [])]
set_option maxRecDepth 100000 in
theorem lX3_goOver_129_ck : lX3_goOver_129.all (ra_ck mX3_goOver 3) = true := by decide +kernel
def nX3_goOver_129 (N : Nat) (c27 : Nat → Int32 → Int32 → Int32 → Int32 → Int32 → Int32 → ra_H → Option (Int32 × ra_H)) (a0 : Nat) (a1 : Int32) (a2 : Int32) (a3 : Int32) (a4 : Int32) (a5 : Int32) (a6 : Int32) (h : ra_H) : Option (Int32 × ra_H) :=
  let y1 := (a4 - ((1 : Int32))) &&& a3
  let y2 := a6 + (-1 : Int32)
  c27 a0 a1 a2 a3 y1 a5 y2 h
def kX3_goOver_129 (N : Nat) (c27 : Nat → Int32 → Int32 → Int32 → Int32 → Int32 → Int32 → ra_H → Option (Int32 × ra_H)) : Nat → List (Option Value) → List Value → ra_H → Option (Int32 × ra_H) := (ra_k1 27 (fun L S h => match L, S with
  | [some (.ref a0), some (.int a1), some (.int a2), some (.int a3), some (.int a4), some (.int a5), some (.int a6), _, _, _], [] => c27 a0 a1 a2 a3 a4 a5 a6 h
  | _, _ => none) ra_k0)
theorem kX3_goOver_129_ok (N : Nat) (c27 : Nat → Int32 → Int32 → Int32 → Int32 → Int32 → Int32 → ra_H → Option (Int32 × ra_H)) (hc27 : ∀ a0 a1 a2 a3 a4 a5 a6 h r, c27 a0 a1 a2 a3 a4 a5 a6 h = some r → ra_Ru 2 mX3_goOver 27 [some (.ref a0), some (.int a1), some (.int a2), some (.int a3), some (.int a4), some (.int a5), some (.int a6), none, none, none] [] h (ra_oI r)) : ra_kok 2 mX3_goOver ra_oI (kX3_goOver_129 N c27) := (ra_k1_ok (by
  intro L S h a e
  split at e
  · exact ra_Ru.weak (hc27 _ _ _ _ _ _ _ _ _ e) ⟨rfl, ⟨rfl, ⟨rfl, ⟨rfl, ⟨rfl, ⟨rfl, ⟨rfl, trivial⟩⟩⟩⟩⟩⟩⟩
  · cases e) ra_k0_ok)
set_option maxRecDepth 100000 in
theorem nX3_goOver_129_ok (N : Nat) (c27 : Nat → Int32 → Int32 → Int32 → Int32 → Int32 → Int32 → ra_H → Option (Int32 × ra_H)) (hc27 : ∀ a0 a1 a2 a3 a4 a5 a6 h r, c27 a0 a1 a2 a3 a4 a5 a6 h = some r → ra_Ru 2 mX3_goOver 27 [some (.ref a0), some (.int a1), some (.int a2), some (.int a3), some (.int a4), some (.int a5), some (.int a6), none, none, none] [] h (ra_oI r)) (a0 : Nat) (a1 : Int32) (a2 : Int32) (a3 : Int32) (a4 : Int32) (a5 : Int32) (a6 : Int32) (h : ra_H) (r : (Int32 × ra_H)) (e : nX3_goOver_129 N c27 a0 a1 a2 a3 a4 a5 a6 h = some r) : ra_Ru 2 mX3_goOver 129 [some (.ref a0), some (.int a1), some (.int a2), some (.int a3), some (.int a4), some (.int a5), some (.int a6), none, none, none] [] h (ra_oI r) :=
  ra_sound (by omega) rfl ra_rI_ok (kX3_goOver_129_ok N c27 hc27) (fun m av h h1 e => (ra_c0_ok (ro := ra_oV)) m av h h1 e) (fun m av h x h1 e => (tIX3_goOver_ok N) m av h (x, h1) e) (fun m av h x h1 e => (ra_c0_ok (ro := ra_oJ)) m av h (x, h1) e) (fun m av h x h1 e => (ra_c0_ok (ro := ra_oR)) m av h (x, h1) e) (fun m av h x h1 e => (ra_c0_ok (ro := ra_oN)) m av h (x, h1) e) (fun m av h x h1 e => (ra_c0_ok (ro := ra_oF)) m av h (x, h1) e) 9 lX3_goOver_129 _ _ _ _ lX3_goOver_129_ck (show ra_run ra_rI (kX3_goOver_129 N c27) ra_c0 (tIX3_goOver N) ra_c0 ra_c0 ra_c0 ra_c0 9 lX3_goOver_129 [some (.ref a0), some (.int a1), some (.int a2), some (.int a3), some (.int a4), some (.int a5), some (.int a6), none, none, none] [] h = some r from e) _ _ rfl
def lX3_goOver_88 : List ra_I := [(88, .iload 9, 2, 9, 0, 0, 0, 0, []),
  (90, .aload_n 0, 1, 0, 0, 0, 0, 0, []),
  (91, .getfield 57, 3, 3, 0, 2, 0, 0, []),
  (94, .getfield 65, 3, 2, 15, 0, 0, 0, []),
  (97, .if_icmp .ge (32), 3, 129, 0, 0, 0, 0, []),
  (100, .iload 8, 2, 8, 0, 0, 0, 0, []),
  (102, .iconst (1), 1, 0, 0, 0, (1), 0, []),
  (103, .iload 9, 2, 9, 0, 0, 0, 0, []),
  (105, .ishl, 1, 0, 0, 0, 0, 0, []),
  (106, .iand, 1, 0, 0, 0, 0, 0, []),
  (107, .ifCond .eq (16), 3, 123, 0, 0, 0, 0, []),
  (110, .aload_n 0, 1, 0, 0, 0, 0, 0, []),
  (111, .getfield 43, 3, 3, 10, 2, 0, 0, []),
  (114, .iload 7, 2, 7, 0, 0, 0, 0, []),
  (116, .iconst (1), 1, 0, 0, 0, (1), 0, []),
  (117, .iload 9, 2, 9, 0, 0, 0, 0, []),
  (119, .ishl, 1, 0, 0, 0, 0, 0, []),
  (120, .ior, 1, 0, 0, 0, 0, 0, []),
  (121, .iconst (1), 1, 0, 0, 0, (1), 0, []),
  (122, .bastore, 1, 0, 0, 0, 0, 0, [])]
set_option maxRecDepth 100000 in
theorem lX3_goOver_88_ck : lX3_goOver_88.all (ra_ck mX3_goOver 3) = true := by decide +kernel
def nX3_goOver_88 (N : Nat) (c27 : Nat → Int32 → Int32 → Int32 → Int32 → Int32 → Int32 → ra_H → Option (Int32 × ra_H)) : Nat → Nat → Int32 → Int32 → Int32 → Int32 → Int32 → Int32 → Int32 → Int32 → Int32 → ra_H → Option (Int32 × ra_H)
  | 0, _, _, _, _, _, _, _, _, _, _, _ => none
  | n + 1, a0, a1, a2, a3, a4, a5, a6, a7, a8, a9, h =>
  (ra_fR h 3 a0 0).bind fun x1 =>
  (ra_fI h 2 x1 15).bind fun x2 =>
  if a9 < x2 then
    if (a8 &&& (((1 : Int32)) <<< (a9 &&& 31))) = 0 then
      nX3_goOver_123 N c27 (nX3_goOver_88 N c27 n) a0 a1 a2 a3 a4 a5 a6 a7 a8 a9 h
    else
      (ra_fR h 3 a0 10).bind fun x3 =>
      (ra_aW h 2 x3 (a7 ||| (((1 : Int32)) <<< (a9 &&& 31))) (vp_nar .boolean ((1 : Int32)))).bind fun h4 =>
      nX3_goOver_123 N c27 (nX3_goOver_88 N c27 n) a0 a1 a2 a3 a4 a5 a6 a7 a8 a9 h4
  else
    nX3_goOver_129 N c27 a0 a1 a2 a3 a4 a5 a6 h
def kX3_goOver_88 (N : Nat) (c27 : Nat → Int32 → Int32 → Int32 → Int32 → Int32 → Int32 → ra_H → Option (Int32 × ra_H)) (cs : Nat → Int32 → Int32 → Int32 → Int32 → Int32 → Int32 → Int32 → Int32 → Int32 → ra_H → Option (Int32 × ra_H)) : Nat → List (Option Value) → List Value → ra_H → Option (Int32 × ra_H) := (ra_k1 123 (fun L S h => match L, S with
  | [some (.ref a0), some (.int a1), some (.int a2), some (.int a3), some (.int a4), some (.int a5), some (.int a6), some (.int a7), some (.int a8), some (.int a9)], [] => nX3_goOver_123 N c27 cs a0 a1 a2 a3 a4 a5 a6 a7 a8 a9 h
  | _, _ => none) (ra_k1 129 (fun L S h => match L, S with
  | [some (.ref a0), some (.int a1), some (.int a2), some (.int a3), some (.int a4), some (.int a5), some (.int a6), _, _, _], [] => nX3_goOver_129 N c27 a0 a1 a2 a3 a4 a5 a6 h
  | _, _ => none) ra_k0))
theorem kX3_goOver_88_ok (N : Nat) (c27 : Nat → Int32 → Int32 → Int32 → Int32 → Int32 → Int32 → ra_H → Option (Int32 × ra_H)) (hc27 : ∀ a0 a1 a2 a3 a4 a5 a6 h r, c27 a0 a1 a2 a3 a4 a5 a6 h = some r → ra_Ru 2 mX3_goOver 27 [some (.ref a0), some (.int a1), some (.int a2), some (.int a3), some (.int a4), some (.int a5), some (.int a6), none, none, none] [] h (ra_oI r)) (cs : Nat → Int32 → Int32 → Int32 → Int32 → Int32 → Int32 → Int32 → Int32 → Int32 → ra_H → Option (Int32 × ra_H)) (hcs : ∀ a0 a1 a2 a3 a4 a5 a6 a7 a8 a9 h r, cs a0 a1 a2 a3 a4 a5 a6 a7 a8 a9 h = some r → ra_Ru 2 mX3_goOver 88 [some (.ref a0), some (.int a1), some (.int a2), some (.int a3), some (.int a4), some (.int a5), some (.int a6), some (.int a7), some (.int a8), some (.int a9)] [] h (ra_oI r)) : ra_kok 2 mX3_goOver ra_oI (kX3_goOver_88 N c27 cs) := (ra_k1_ok (by
  intro L S h a e
  split at e
  · exact ra_Ru.weak (nX3_goOver_123_ok N c27 cs hc27 hcs _ _ _ _ _ _ _ _ _ _ _ _ e) ⟨rfl, ⟨rfl, ⟨rfl, ⟨rfl, ⟨rfl, ⟨rfl, ⟨rfl, ⟨rfl, ⟨rfl, ⟨rfl, trivial⟩⟩⟩⟩⟩⟩⟩⟩⟩⟩
  · cases e) (ra_k1_ok (by
  intro L S h a e
  split at e
  · exact ra_Ru.weak (nX3_goOver_129_ok N c27 hc27 _ _ _ _ _ _ _ _ _ e) ⟨rfl, ⟨rfl, ⟨rfl, ⟨rfl, ⟨rfl, ⟨rfl, ⟨rfl, trivial⟩⟩⟩⟩⟩⟩⟩
  · cases e) ra_k0_ok))
set_option maxRecDepth 100000 in
theorem nX3_goOver_88_ok (N : Nat) (c27 : Nat → Int32 → Int32 → Int32 → Int32 → Int32 → Int32 → ra_H → Option (Int32 × ra_H)) (hc27 : ∀ a0 a1 a2 a3 a4 a5 a6 h r, c27 a0 a1 a2 a3 a4 a5 a6 h = some r → ra_Ru 2 mX3_goOver 27 [some (.ref a0), some (.int a1), some (.int a2), some (.int a3), some (.int a4), some (.int a5), some (.int a6), none, none, none] [] h (ra_oI r)) : ∀ n a0 a1 a2 a3 a4 a5 a6 a7 a8 a9 h r, nX3_goOver_88 N c27 n a0 a1 a2 a3 a4 a5 a6 a7 a8 a9 h = some r → ra_Ru 2 mX3_goOver 88 [some (.ref a0), some (.int a1), some (.int a2), some (.int a3), some (.int a4), some (.int a5), some (.int a6), some (.int a7), some (.int a8), some (.int a9)] [] h (ra_oI r) := by
  intro n
  induction n with
  | zero => intro a0 a1 a2 a3 a4 a5 a6 a7 a8 a9 h r e; cases e
  | succ n ih =>
    intro a0 a1 a2 a3 a4 a5 a6 a7 a8 a9 h r e
    exact ra_sound (by omega) rfl ra_rI_ok (kX3_goOver_88_ok N c27 hc27 (nX3_goOver_88 N c27 n) ih) (fun m av h h1 e => (ra_c0_ok (ro := ra_oV)) m av h h1 e) (fun m av h x h1 e => (tIX3_goOver_ok N) m av h (x, h1) e) (fun m av h x h1 e => (ra_c0_ok (ro := ra_oJ)) m av h (x, h1) e) (fun m av h x h1 e => (ra_c0_ok (ro := ra_oR)) m av h (x, h1) e) (fun m av h x h1 e => (ra_c0_ok (ro := ra_oN)) m av h (x, h1) e) (fun m av h x h1 e => (ra_c0_ok (ro := ra_oF)) m av h (x, h1) e) 21 lX3_goOver_88 _ _ _ _ lX3_goOver_88_ck (show ra_run ra_rI (kX3_goOver_88 N c27 (nX3_goOver_88 N c27 n)) ra_c0 (tIX3_goOver N) ra_c0 ra_c0 ra_c0 ra_c0 21 lX3_goOver_88 [some (.ref a0), some (.int a1), some (.int a2), some (.int a3), some (.int a4), some (.int a5), some (.int a6), some (.int a7), some (.int a8), some (.int a9)] [] h = some r from e) _ _ rfl
def lX3_goOver_84 : List ra_I := [(84, .bastore, 1, 0, 0, 0, 0, 0, []),
  (85, .iconst (0), 1, 0, 0, 0, (0), 0, []),
  (86, .istore 9, 2, 9, 0, 0, 0, 0, [])]
set_option maxRecDepth 100000 in
theorem lX3_goOver_84_ck : lX3_goOver_84.all (ra_ck mX3_goOver 3) = true := by decide +kernel
def nX3_goOver_84 (N : Nat) (c27 : Nat → Int32 → Int32 → Int32 → Int32 → Int32 → Int32 → ra_H → Option (Int32 × ra_H)) (a0 : Nat) (a1 : Int32) (a2 : Int32) (a3 : Int32) (a4 : Int32) (a5 : Int32) (a6 : Int32) (a7 : Int32) (a8 : Int32) (b0 : Nat) (b1 : Int32) (b2 : Int32) (h : ra_H) : Option (Int32 × ra_H) :=
  (ra_aW h 2 b0 b1 (vp_nar .boolean b2)).bind fun h1 =>
  nX3_goOver_88 N c27 N a0 a1 a2 a3 a4 a5 a6 a7 a8 ((0 : Int32)) h1
def kX3_goOver_84 (N : Nat) (c27 : Nat → Int32 → Int32 → Int32 → Int32 → Int32 → Int32 → ra_H → Option (Int32 × ra_H)) : Nat → List (Option Value) → List Value → ra_H → Option (Int32 × ra_H) := (ra_k1 88 (fun L S h => match L, S with
  | [some (.ref a0), some (.int a1), some (.int a2), some (.int a3), some (.int a4), some (.int a5), some (.int a6), some (.int a7), some (.int a8), some (.int a9)], [] => nX3_goOver_88 N c27 N a0 a1 a2 a3 a4 a5 a6 a7 a8 a9 h
  | _, _ => none) ra_k0)
theorem kX3_goOver_84_ok (N : Nat) (c27 : Nat → Int32 → Int32 → Int32 → Int32 → Int32 → Int32 → ra_H → Option (Int32 × ra_H)) (hc27 : ∀ a0 a1 a2 a3 a4 a5 a6 h r, c27 a0 a1 a2 a3 a4 a5 a6 h = some r → ra_Ru 2 mX3_goOver 27 [some (.ref a0), some (.int a1), some (.int a2), some (.int a3), some (.int a4), some (.int a5), some (.int a6), none, none, none] [] h (ra_oI r)) : ra_kok 2 mX3_goOver ra_oI (kX3_goOver_84 N c27) := (ra_k1_ok (by
  intro L S h a e
  split at e
  · exact ra_Ru.weak (nX3_goOver_88_ok N c27 hc27 N _ _ _ _ _ _ _ _ _ _ _ _ e) ⟨rfl, ⟨rfl, ⟨rfl, ⟨rfl, ⟨rfl, ⟨rfl, ⟨rfl, ⟨rfl, ⟨rfl, ⟨rfl, trivial⟩⟩⟩⟩⟩⟩⟩⟩⟩⟩
  · cases e) ra_k0_ok)
set_option maxRecDepth 100000 in
theorem nX3_goOver_84_ok (N : Nat) (c27 : Nat → Int32 → Int32 → Int32 → Int32 → Int32 → Int32 → ra_H → Option (Int32 × ra_H)) (hc27 : ∀ a0 a1 a2 a3 a4 a5 a6 h r, c27 a0 a1 a2 a3 a4 a5 a6 h = some r → ra_Ru 2 mX3_goOver 27 [some (.ref a0), some (.int a1), some (.int a2), some (.int a3), some (.int a4), some (.int a5), some (.int a6), none, none, none] [] h (ra_oI r)) (a0 : Nat) (a1 : Int32) (a2 : Int32) (a3 : Int32) (a4 : Int32) (a5 : Int32) (a6 : Int32) (a7 : Int32) (a8 : Int32) (b0 : Nat) (b1 : Int32) (b2 : Int32) (h : ra_H) (r : (Int32 × ra_H)) (e : nX3_goOver_84 N c27 a0 a1 a2 a3 a4 a5 a6 a7 a8 b0 b1 b2 h = some r) : ra_Ru 2 mX3_goOver 84 [some (.ref a0), some (.int a1), some (.int a2), some (.int a3), some (.int a4), some (.int a5), some (.int a6), some (.int a7), some (.int a8), none] [.int b2, .int b1, .ref b0] h (ra_oI r) :=
  ra_sound (by omega) rfl ra_rI_ok (kX3_goOver_84_ok N c27 hc27) (fun m av h h1 e => (ra_c0_ok (ro := ra_oV)) m av h h1 e) (fun m av h x h1 e => (tIX3_goOver_ok N) m av h (x, h1) e) (fun m av h x h1 e => (ra_c0_ok (ro := ra_oJ)) m av h (x, h1) e) (fun m av h x h1 e => (ra_c0_ok (ro := ra_oR)) m av h (x, h1) e) (fun m av h x h1 e => (ra_c0_ok (ro := ra_oN)) m av h (x, h1) e) (fun m av h x h1 e => (ra_c0_ok (ro := ra_oF)) m av h (x, h1) e) 4 lX3_goOver_84 _ _ _ _ lX3_goOver_84_ck (show ra_run ra_rI (kX3_goOver_84 N c27) ra_c0 (tIX3_goOver N) ra_c0 ra_c0 ra_c0 ra_c0 4 lX3_goOver_84 [some (.ref a0), some (.int a1), some (.int a2), some (.int a3), some (.int a4), some (.int a5), some (.int a6), some (.int a7), some (.int a8), none] [.int b2, .int b1, .ref b0] h = some r from e) _ _ rfl
def lX3_goOver_27 : List ra_I := [(27, .iload 6, 2, 6, 0, 0, 0, 0, []),
  (29, .ifCond .le (114), 3, 143, 0, 0, 0, 0, []),
  (32, .iload_n 2, 1, 2, 0, 0, 0, 0, []),
  (33, .iload 4, 2, 4, 0, 0, 0, 0, []),
  (35, .ior, 1, 0, 0, 0, 0, 0, []),
  (36, .istore 7, 2, 7, 0, 0, 0, 0, []),
  (38, .aload_n 0, 1, 0, 0, 0, 0, 0, []),
  (39, .getfield 43, 3, 3, 10, 2, 0, 0, []),
  (42, .iload 7, 2, 7, 0, 0, 0, 0, []),
  (44, .baload, 1, 0, 0, 0, 0, 0, []),
  (45, .ifCond .eq (84), 3, 129, 0, 0, 0, 0, []),
  (48, .aload_n 0, 1, 0, 0, 0, 0, 0, []),
  (49, .iload_n 1, 1, 1, 0, 0, 0, 0, []),
  (50, .iload 7, 2, 7, 0, 0, 0, 0, []),
  (52, .invokevirtual 144, 3, 139, 3, 1, 0, 0, []),
  (55, .istore 8, 2, 8, 0, 0, 0, 0, []),
  (57, .iload 5, 2, 5, 0, 0, 0, 0, []),
  (59, .iload 8, 2, 8, 0, 0, 0, 0, []),
  (61, .ior, 1, 0, 0, 0, 0, 0, []),
  (62, .istore 5, 2, 5, 0, 0, 0, 0, []),
  (64, .aload_n 0, 1, 0, 0, 0, 0, 0, []),
  (65, .getfield 43, 3, 3, 10, 2, 0, 0, []),
  (68, .iload 7, 2, 7, 0, 0, 0, 0, []),
  (70, .iload 8, 2, 8, 0, 0, 0, 0, []),
  (72, .sipush (4096), 3, 0, 0, 0, (4096), 0, []),
  (75, .iand, 1, 0, 0, 0, 0, 0, []),
  (76, .ifCond .eq (7), 3, 83, 0, 0, 0, 0, []),
  (79, .iconst (1), 1, 0, 0, 0, (1), 0, []),
  (80, .goto (4), 3, 84, 0, 0, 0, 0, []),
  (83, .iconst (0), 1, 0, 0, 0, (0), 0, []),
  (143, .iload 5, 2, 5, 0, 0, 0, 0, []),
  (145, .ireturn, 1, 0, 0, 0, 0, 0, [])]
set_option maxRecDepth 100000 in
theorem lX3_goOver_27_ck : lX3_goOver_27.all (ra_ck mX3_goOver 3) = true := by decide +kernel
def nX3_goOver_27 (N : Nat) : Nat → Nat → Int32 → Int32 → Int32 → Int32 → Int32 → Int32 → ra_H → Option (Int32 × ra_H)
  | 0, _, _, _, _, _, _, _, _ => none
  | n + 1, a0, a1, a2, a3, a4, a5, a6, h =>
  if a6 ≤ 0 then
    some (a5, h)
  else
    let y1 := a2 ||| a4
    (ra_fR h 3 a0 10).bind fun x2 =>
    (ra_aI h 2 x2 y1).bind fun x3 =>
    if x3 = 0 then
      nX3_goOver_129 N (nX3_goOver_27 N n) a0 a1 a2 a3 a4 a5 a6 h
    else
      (fX3_bestFor N a0 a1 y1 h).bind fun q4 =>
      let y5 := a5 ||| q4.1
      (ra_fR q4.2 3 a0 10).bind fun x6 =>
      if (q4.1 &&& ((4096 : Int32))) = 0 then
        nX3_goOver_84 N (nX3_goOver_27 N n) a0 a1 a2 a3 a4 y5 a6 y1 q4.1 x6 y1 ((0 : Int32)) q4.2
      else
        nX3_goOver_84 N (nX3_goOver_27 N n) a0 a1 a2 a3 a4 y5 a6 y1 q4.1 x6 y1 ((1 : Int32)) q4.2
def kX3_goOver_27 (N : Nat) (cs : Nat → Int32 → Int32 → Int32 → Int32 → Int32 → Int32 → ra_H → Option (Int32 × ra_H)) : Nat → List (Option Value) → List Value → ra_H → Option (Int32 × ra_H) := (ra_k1 84 (fun L S h => match L, S with
  | [some (.ref a0), some (.int a1), some (.int a2), some (.int a3), some (.int a4), some (.int a5), some (.int a6), some (.int a7), some (.int a8), _], [.int b2, .int b1, .ref b0] => nX3_goOver_84 N cs a0 a1 a2 a3 a4 a5 a6 a7 a8 b0 b1 b2 h
  | _, _ => none) (ra_k1 129 (fun L S h => match L, S with
  | [some (.ref a0), some (.int a1), some (.int a2), some (.int a3), some (.int a4), some (.int a5), some (.int a6), _, _, _], [] => nX3_goOver_129 N cs a0 a1 a2 a3 a4 a5 a6 h
  | _, _ => none) ra_k0))
theorem kX3_goOver_27_ok (N : Nat) (cs : Nat → Int32 → Int32 → Int32 → Int32 → Int32 → Int32 → ra_H → Option (Int32 × ra_H)) (hcs : ∀ a0 a1 a2 a3 a4 a5 a6 h r, cs a0 a1 a2 a3 a4 a5 a6 h = some r → ra_Ru 2 mX3_goOver 27 [some (.ref a0), some (.int a1), some (.int a2), some (.int a3), some (.int a4), some (.int a5), some (.int a6), none, none, none] [] h (ra_oI r)) : ra_kok 2 mX3_goOver ra_oI (kX3_goOver_27 N cs) := (ra_k1_ok (by
  intro L S h a e
  split at e
  · exact ra_Ru.weak (nX3_goOver_84_ok N cs hcs _ _ _ _ _ _ _ _ _ _ _ _ _ _ e) ⟨rfl, ⟨rfl, ⟨rfl, ⟨rfl, ⟨rfl, ⟨rfl, ⟨rfl, ⟨rfl, ⟨rfl, trivial⟩⟩⟩⟩⟩⟩⟩⟩⟩
  · cases e) (ra_k1_ok (by
  intro L S h a e
  split at e
  · exact ra_Ru.weak (nX3_goOver_129_ok N cs hcs _ _ _ _ _ _ _ _ _ e) ⟨rfl, ⟨rfl, ⟨rfl, ⟨rfl, ⟨rfl, ⟨rfl, ⟨rfl, trivial⟩⟩⟩⟩⟩⟩⟩
  · cases e) ra_k0_ok))
set_option maxRecDepth 100000 in
theorem nX3_goOver_27_ok (N : Nat) : ∀ n a0 a1 a2 a3 a4 a5 a6 h r, nX3_goOver_27 N n a0 a1 a2 a3 a4 a5 a6 h = some r → ra_Ru 2 mX3_goOver 27 [some (.ref a0), some (.int a1), some (.int a2), some (.int a3), some (.int a4), some (.int a5), some (.int a6), none, none, none] [] h (ra_oI r) := by
  intro n
  induction n with
  | zero => intro a0 a1 a2 a3 a4 a5 a6 h r e; cases e
  | succ n ih =>
    intro a0 a1 a2 a3 a4 a5 a6 h r e
    exact ra_sound (by omega) rfl ra_rI_ok (kX3_goOver_27_ok N (nX3_goOver_27 N n) ih) (fun m av h h1 e => (ra_c0_ok (ro := ra_oV)) m av h h1 e) (fun m av h x h1 e => (tIX3_goOver_ok N) m av h (x, h1) e) (fun m av h x h1 e => (ra_c0_ok (ro := ra_oJ)) m av h (x, h1) e) (fun m av h x h1 e => (ra_c0_ok (ro := ra_oR)) m av h (x, h1) e) (fun m av h x h1 e => (ra_c0_ok (ro := ra_oN)) m av h (x, h1) e) (fun m av h x h1 e => (ra_c0_ok (ro := ra_oF)) m av h (x, h1) e) 33 lX3_goOver_27 _ _ _ _ lX3_goOver_27_ck (show ra_run ra_rI (kX3_goOver_27 N (nX3_goOver_27 N n)) ra_c0 (tIX3_goOver N) ra_c0 ra_c0 ra_c0 ra_c0 33 lX3_goOver_27 [some (.ref a0), some (.int a1), some (.int a2), some (.int a3), some (.int a4), some (.int a5), some (.int a6), none, none, none] [] h = some r from e) _ _ rfl
def lX3_goOver_0 : List ra_I := [(0, .aload_n 0, 1, 0, 0, 0, 0, 0, []),
  (1, .getfield 25, 3, 3, 4, 2, 0, 0, []),
  (4, .iload_n 1, 1, 1, 0, 0, 0, 0, []),
  (5, .iaload, 1, 0, 0, 0, 0, 0, []),
  (6, .istore_n 2, 1, 2, 0, 0, 0, 0, []),
  (7, .aload_n 0, 1, 0, 0, 0, 0, 0, []),
  (8, .iload_n 1, 1, 1, 0, 0, 0, 0, []),
  (9, .invokevirtual 114, 3, 133, 2, 1, 0, 0, []),
  (12, .istore_n 3, 1, 3, 0, 0, 0, 0, []),
  (13, .iload_n 3, 1, 3, 0, 0, 0, 0, []),
  (14, .istore 4, 2, 4, 0, 0, 0, 0, []),
  (16, .iconst (0), 1, 0, 0, 0, (0), 0, []),
  (17, .istore 5, 2, 5, 0, 0, 0, 0, []),
  (19, .iconst (1), 1, 0, 0, 0, (1), 0, []),
  (20, .iload_n 3, 1, 3, 0, 0, 0, 0, []),
  (21, .invokestatic 118, 3, 134, 1, 1, 0, 0, []),
  (24, .ishl, 1, 0, 0, 0, 0, 0, []),
  (25, .istore 6, 2, 6, 0, 0, 0, 0, [])]
set_option maxRecDepth 100000 in
theorem lX3_goOver_0_ck : lX3_goOver_0.all (ra_ck mX3_goOver 3) = true := by decide +kernel
def nX3_goOver_0 (N : Nat) (a0 : Nat) (a1 : Int32) (h : ra_H) : Option (Int32 × ra_H) :=
  (ra_fR h 3 a0 4).bind fun x1 =>
  (ra_aI h 0 x1 a1).bind fun x2 =>
  (fX3_openAt N a0 a1 h).bind fun q3 =>
  (fJ6_bitCount_0f7a4 N q3.1 q3.2).bind fun q4 =>
  let y5 := ((1 : Int32)) <<< (q4.1 &&& 31)
  nX3_goOver_27 N N a0 a1 x2 q3.1 q3.1 ((0 : Int32)) y5 q4.2
def kX3_goOver_0 (N : Nat) : Nat → List (Option Value) → List Value → ra_H → Option (Int32 × ra_H) := (ra_k1 27 (fun L S h => match L, S with
  | [some (.ref a0), some (.int a1), some (.int a2), some (.int a3), some (.int a4), some (.int a5), some (.int a6), _, _, _], [] => nX3_goOver_27 N N a0 a1 a2 a3 a4 a5 a6 h
  | _, _ => none) ra_k0)
theorem kX3_goOver_0_ok (N : Nat) : ra_kok 2 mX3_goOver ra_oI (kX3_goOver_0 N) := (ra_k1_ok (by
  intro L S h a e
  split at e
  · exact ra_Ru.weak (nX3_goOver_27_ok N N _ _ _ _ _ _ _ _ _ e) ⟨rfl, ⟨rfl, ⟨rfl, ⟨rfl, ⟨rfl, ⟨rfl, ⟨rfl, trivial⟩⟩⟩⟩⟩⟩⟩
  · cases e) ra_k0_ok)
set_option maxRecDepth 100000 in
theorem nX3_goOver_0_ok (N : Nat) (a0 : Nat) (a1 : Int32) (h : ra_H) (r : (Int32 × ra_H)) (e : nX3_goOver_0 N a0 a1 h = some r) : ra_Ru 2 mX3_goOver 0 [some (.ref a0), some (.int a1), none, none, none, none, none, none, none, none] [] h (ra_oI r) :=
  ra_sound (by omega) rfl ra_rI_ok (kX3_goOver_0_ok N) (fun m av h h1 e => (ra_c0_ok (ro := ra_oV)) m av h h1 e) (fun m av h x h1 e => (tIX3_goOver_ok N) m av h (x, h1) e) (fun m av h x h1 e => (ra_c0_ok (ro := ra_oJ)) m av h (x, h1) e) (fun m av h x h1 e => (ra_c0_ok (ro := ra_oR)) m av h (x, h1) e) (fun m av h x h1 e => (ra_c0_ok (ro := ra_oN)) m av h (x, h1) e) (fun m av h x h1 e => (ra_c0_ok (ro := ra_oF)) m av h (x, h1) e) 19 lX3_goOver_0 _ _ _ _ lX3_goOver_0_ck (show ra_run ra_rI (kX3_goOver_0 N) ra_c0 (tIX3_goOver N) ra_c0 ra_c0 ra_c0 ra_c0 19 lX3_goOver_0 [some (.ref a0), some (.int a1), none, none, none, none, none, none, none, none] [] h = some r from e) _ _ rfl
def fX3_goOver (N : Nat) (p0 : Nat) (p1 : Int32) (h : ra_H) : Option (Int32 × ra_H) := match ra_isOb h p0 3 with
  | true => nX3_goOver_0 N p0 p1 h
  | false => none
set_option maxRecDepth 100000 in
theorem mtX3_goOver : ra_MT[142]? = some (mX3_goOver, 1, 1, (1, 9), (5, 90), (0, 50)) := rfl
theorem fX3_goOver_co (N : Nat) (p0 : Nat) (p1 : Int32) (h : ra_H) (r : (Int32 × ra_H)) (e : fX3_goOver N p0 p1 h = some r) (D : Nat) (hD : 3 ≤ D) : ra_CO D 142 [.ref p0, .int p1] h (ra_oI r).1 (ra_oI r).2 := by
  have hw : ra_nw2 [.ref p0, .int p1] ≤ 10 := Nat.le_of_ble_eq_true rfl
  have hdb : ∀ v ∈ ([.ref p0, .int p1] : List Value), ∀ x, v ≠ .double x := by
    intro v hv x hx
    simp [hx] at hv
  unfold fX3_goOver at e
  split at e
  · rename_i ho
    have e1 := e
    exact ⟨2, _, mtX3_goOver, hD, ra_ev_of (by decide) hdb hw trivial (ra_Ru.weak (nX3_goOver_0_ok N p0 p1 h _ e1) ⟨rfl, ⟨rfl, trivial⟩⟩), (fun _ => ⟨_, _, rfl, ra_rcv_of ho (by decide) rfl⟩), (fun h => absurd h (by decide))⟩
  · cases e
/-! RedMarks$Matches.findSure()V -/
def mX3_findSure : ra_M := (yX3_findSure, cX3_findSure, 2, none)
def tIX3_findSure (N : Nat) : Nat → List Value → ra_H → Option (Int32 × ra_H) := (ra_c1 134 (fun av h => match av with
  | [.int z0] => fJ6_bitCount_0f7a4 N z0 h
  | _ => none) (ra_c1 142 (fun av h => match av with
  | [.ref z0, .int z1] => fX3_goOver N z0 z1 h
  | _ => none) ra_c0))
theorem tIX3_findSure_ok (N : Nat) : ra_cok 3 ra_oI (tIX3_findSure N) := (ra_c1_ok (by
  intro av h a e
  split at e
  · exact fJ6_bitCount_0f7a4_co N _ _ _ e 3 (by omega)
  · cases e) (ra_c1_ok (by
  intro av h a e
  split at e
  · exact fX3_goOver_co N _ _ _ _ e 3 (by omega)
  · cases e) ra_c0_ok))
def lX3_findSure_51 : List ra_I := [(51, .bastore, 1, 0, 0, 0, 0, 0, []),
  (52, .iinc 1 (1), 3, 1, 0, 0, (1), 0, []),
  (55, .goto (-46), 3, 9, 0, 0, 0, 0, [])]
set_option maxRecDepth 100000 in
theorem lX3_findSure_51_ck : lX3_findSure_51.all (ra_ck mX3_findSure 3) = true := by decide +kernel
def nX3_findSure_51 (N : Nat) (c9 : Nat → Int32 → ra_H → Option ra_H) (a0 : Nat) (a1 : Int32) (b0 : Nat) (b1 : Int32) (b2 : Int32) (h : ra_H) : Option ra_H :=
  (ra_aW h 2 b0 b1 (vp_nar .boolean b2)).bind fun h1 =>
  let y2 := a1 + (1 : Int32)
  c9 a0 y2 h1
def kX3_findSure_51 (N : Nat) (c9 : Nat → Int32 → ra_H → Option ra_H) : Nat → List (Option Value) → List Value → ra_H → Option ra_H := (ra_k1 9 (fun L S h => match L, S with
  | [some (.ref a0), some (.int a1)], [] => c9 a0 a1 h
  | _, _ => none) ra_k0)
theorem kX3_findSure_51_ok (N : Nat) (c9 : Nat → Int32 → ra_H → Option ra_H) (hc9 : ∀ a0 a1 h r, c9 a0 a1 h = some r → ra_Ru 3 mX3_findSure 9 [some (.ref a0), some (.int a1)] [] h (ra_oV r)) : ra_kok 3 mX3_findSure ra_oV (kX3_findSure_51 N c9) := (ra_k1_ok (by
  intro L S h a e
  split at e
  · exact ra_Ru.weak (hc9 _ _ _ _ e) ⟨rfl, ⟨rfl, trivial⟩⟩
  · cases e) ra_k0_ok)
set_option maxRecDepth 100000 in
theorem nX3_findSure_51_ok (N : Nat) (c9 : Nat → Int32 → ra_H → Option ra_H) (hc9 : ∀ a0 a1 h r, c9 a0 a1 h = some r → ra_Ru 3 mX3_findSure 9 [some (.ref a0), some (.int a1)] [] h (ra_oV r)) (a0 : Nat) (a1 : Int32) (b0 : Nat) (b1 : Int32) (b2 : Int32) (h : ra_H) (r : ra_H) (e : nX3_findSure_51 N c9 a0 a1 b0 b1 b2 h = some r) : ra_Ru 3 mX3_findSure 51 [some (.ref a0), some (.int a1)] [.int b2, .int b1, .ref b0] h (ra_oV r) :=
  ra_sound (by omega) rfl ra_rV_ok (kX3_findSure_51_ok N c9 hc9) (fun m av h h1 e => (ra_c0_ok (ro := ra_oV)) m av h h1 e) (fun m av h x h1 e => (tIX3_findSure_ok N) m av h (x, h1) e) (fun m av h x h1 e => (ra_c0_ok (ro := ra_oJ)) m av h (x, h1) e) (fun m av h x h1 e => (ra_c0_ok (ro := ra_oR)) m av h (x, h1) e) (fun m av h x h1 e => (ra_c0_ok (ro := ra_oN)) m av h (x, h1) e) (fun m av h x h1 e => (ra_c0_ok (ro := ra_oF)) m av h (x, h1) e) 4 lX3_findSure_51 _ _ _ _ lX3_findSure_51_ck (show ra_run ra_rV (kX3_findSure_51 N c9) ra_c0 (tIX3_findSure N) ra_c0 ra_c0 ra_c0 ra_c0 4 lX3_findSure_51 [some (.ref a0), some (.int a1)] [.int b2, .int b1, .ref b0] h = some r from e) _ _ rfl
def lX3_findSure_46 : List ra_I := [(46, .iconst (1), 1, 0, 0, 0, (1), 0, []),
  (47, .goto (4), 3, 51, 0, 0, 0, 0, [])]
set_option maxRecDepth 100000 in
theorem lX3_findSure_46_ck : lX3_findSure_46.all (ra_ck mX3_findSure 3) = true := by decide +kernel
def nX3_findSure_46 (N : Nat) (c9 : Nat → Int32 → ra_H → Option ra_H) (a0 : Nat) (a1 : Int32) (b0 : Nat) (b1 : Int32) (h : ra_H) : Option ra_H :=
  nX3_findSure_51 N c9 a0 a1 b0 b1 ((1 : Int32)) h
def kX3_findSure_46 (N : Nat) (c9 : Nat → Int32 → ra_H → Option ra_H) : Nat → List (Option Value) → List Value → ra_H → Option ra_H := (ra_k1 51 (fun L S h => match L, S with
  | [some (.ref a0), some (.int a1)], [.int b2, .int b1, .ref b0] => nX3_findSure_51 N c9 a0 a1 b0 b1 b2 h
  | _, _ => none) ra_k0)
theorem kX3_findSure_46_ok (N : Nat) (c9 : Nat → Int32 → ra_H → Option ra_H) (hc9 : ∀ a0 a1 h r, c9 a0 a1 h = some r → ra_Ru 3 mX3_findSure 9 [some (.ref a0), some (.int a1)] [] h (ra_oV r)) : ra_kok 3 mX3_findSure ra_oV (kX3_findSure_46 N c9) := (ra_k1_ok (by
  intro L S h a e
  split at e
  · exact ra_Ru.weak (nX3_findSure_51_ok N c9 hc9 _ _ _ _ _ _ _ e) ⟨rfl, ⟨rfl, trivial⟩⟩
  · cases e) ra_k0_ok)
set_option maxRecDepth 100000 in
theorem nX3_findSure_46_ok (N : Nat) (c9 : Nat → Int32 → ra_H → Option ra_H) (hc9 : ∀ a0 a1 h r, c9 a0 a1 h = some r → ra_Ru 3 mX3_findSure 9 [some (.ref a0), some (.int a1)] [] h (ra_oV r)) (a0 : Nat) (a1 : Int32) (b0 : Nat) (b1 : Int32) (h : ra_H) (r : ra_H) (e : nX3_findSure_46 N c9 a0 a1 b0 b1 h = some r) : ra_Ru 3 mX3_findSure 46 [some (.ref a0), some (.int a1)] [.int b1, .ref b0] h (ra_oV r) :=
  ra_sound (by omega) rfl ra_rV_ok (kX3_findSure_46_ok N c9 hc9) (fun m av h h1 e => (ra_c0_ok (ro := ra_oV)) m av h h1 e) (fun m av h x h1 e => (tIX3_findSure_ok N) m av h (x, h1) e) (fun m av h x h1 e => (ra_c0_ok (ro := ra_oJ)) m av h (x, h1) e) (fun m av h x h1 e => (ra_c0_ok (ro := ra_oR)) m av h (x, h1) e) (fun m av h x h1 e => (ra_c0_ok (ro := ra_oN)) m av h (x, h1) e) (fun m av h x h1 e => (ra_c0_ok (ro := ra_oF)) m av h (x, h1) e) 3 lX3_findSure_46 _ _ _ _ lX3_findSure_46_ck (show ra_run ra_rV (kX3_findSure_46 N c9) ra_c0 (tIX3_findSure N) ra_c0 ra_c0 ra_c0 ra_c0 3 lX3_findSure_46 [some (.ref a0), some (.int a1)] [.int b1, .ref b0] h = some r from e) _ _ rfl
def lX3_findSure_9 : List ra_I := [(9, .iload_n 1, 1, 1, 0, 0, 0, 0, []),
  (10, .aload_n 0, 1, 0, 0, 0, 0, 0, []),
  (11, .getfield 57, 3, 3, 0, 2, 0, 0, []),
  (14, .getfield 88, 3, 2, 13, 0, 0, 0, []),
  (17, .if_icmp .ge (41), 3, 58, 0, 0, 0, 0, []),
  (20, .aload_n 0, 1, 0, 0, 0, 0, 0, []),
  (21, .getfield 54, 3, 3, 14, 2, 0, 0, []),
  (24, .iload_n 1, 1, 1, 0, 0, 0, 0, []),
  (25, .aload_n 0, 1, 0, 0, 0, 0, 0, []),
  (26, .getfield 18, 3, 3, 2, 2, 0, 0, []),
  (29, .iload_n 1, 1, 1, 0, 0, 0, 0, []),
  (30, .iaload, 1, 0, 0, 0, 0, 0, []),
  (31, .ifCond .eq (15), 3, 46, 0, 0, 0, 0, []),
  (34, .aload_n 0, 1, 0, 0, 0, 0, 0, []),
  (35, .iload_n 1, 1, 1, 0, 0, 0, 0, []),
  (36, .invokevirtual 150, 3, 142, 2, 1, 0, 0, []),
  (39, .invokestatic 118, 3, 134, 1, 1, 0, 0, []),
  (42, .iconst (1), 1, 0, 0, 0, (1), 0, []),
  (43, .if_icmp .ne (7), 3, 50, 0, 0, 0, 0, []),
  (50, .iconst (0), 1, 0, 0, 0, (0), 0, []),
  (58, .return_, 1, 0, 0, 0, 0, 0, [])]
set_option maxRecDepth 100000 in
theorem lX3_findSure_9_ck : lX3_findSure_9.all (ra_ck mX3_findSure 3) = true := by decide +kernel
def nX3_findSure_9 (N : Nat) : Nat → Nat → Int32 → ra_H → Option ra_H
  | 0, _, _, _ => none
  | n + 1, a0, a1, h =>
  (ra_fR h 3 a0 0).bind fun x1 =>
  (ra_fI h 2 x1 13).bind fun x2 =>
  if a1 < x2 then
    (ra_fR h 3 a0 14).bind fun x3 =>
    (ra_fR h 3 a0 2).bind fun x4 =>
    (ra_aI h 0 x4 a1).bind fun x5 =>
    if x5 = 0 then
      nX3_findSure_46 N (nX3_findSure_9 N n) a0 a1 x3 a1 h
    else
      (fX3_goOver N a0 a1 h).bind fun q6 =>
      (fJ6_bitCount_0f7a4 N q6.1 q6.2).bind fun q7 =>
      if q7.1 = ((1 : Int32)) then
        nX3_findSure_46 N (nX3_findSure_9 N n) a0 a1 x3 a1 q7.2
      else
        nX3_findSure_51 N (nX3_findSure_9 N n) a0 a1 x3 a1 ((0 : Int32)) q7.2
  else
    some h
def kX3_findSure_9 (N : Nat) (cs : Nat → Int32 → ra_H → Option ra_H) : Nat → List (Option Value) → List Value → ra_H → Option ra_H := (ra_k1 46 (fun L S h => match L, S with
  | [some (.ref a0), some (.int a1)], [.int b1, .ref b0] => nX3_findSure_46 N cs a0 a1 b0 b1 h
  | _, _ => none) (ra_k1 51 (fun L S h => match L, S with
  | [some (.ref a0), some (.int a1)], [.int b2, .int b1, .ref b0] => nX3_findSure_51 N cs a0 a1 b0 b1 b2 h
  | _, _ => none) ra_k0))
theorem kX3_findSure_9_ok (N : Nat) (cs : Nat → Int32 → ra_H → Option ra_H) (hcs : ∀ a0 a1 h r, cs a0 a1 h = some r → ra_Ru 3 mX3_findSure 9 [some (.ref a0), some (.int a1)] [] h (ra_oV r)) : ra_kok 3 mX3_findSure ra_oV (kX3_findSure_9 N cs) := (ra_k1_ok (by
  intro L S h a e
  split at e
  · exact ra_Ru.weak (nX3_findSure_46_ok N cs hcs _ _ _ _ _ _ e) ⟨rfl, ⟨rfl, trivial⟩⟩
  · cases e) (ra_k1_ok (by
  intro L S h a e
  split at e
  · exact ra_Ru.weak (nX3_findSure_51_ok N cs hcs _ _ _ _ _ _ _ e) ⟨rfl, ⟨rfl, trivial⟩⟩
  · cases e) ra_k0_ok))
set_option maxRecDepth 100000 in
theorem nX3_findSure_9_ok (N : Nat) : ∀ n a0 a1 h r, nX3_findSure_9 N n a0 a1 h = some r → ra_Ru 3 mX3_findSure 9 [some (.ref a0), some (.int a1)] [] h (ra_oV r) := by
  intro n
  induction n with
  | zero => intro a0 a1 h r e; cases e
  | succ n ih =>
    intro a0 a1 h r e
    exact ra_sound (by omega) rfl ra_rV_ok (kX3_findSure_9_ok N (nX3_findSure_9 N n) ih) (fun m av h h1 e => (ra_c0_ok (ro := ra_oV)) m av h h1 e) (fun m av h x h1 e => (tIX3_findSure_ok N) m av h (x, h1) e) (fun m av h x h1 e => (ra_c0_ok (ro := ra_oJ)) m av h (x, h1) e) (fun m av h x h1 e => (ra_c0_ok (ro := ra_oR)) m av h (x, h1) e) (fun m av h x h1 e => (ra_c0_ok (ro := ra_oN)) m av h (x, h1) e) (fun m av h x h1 e => (ra_c0_ok (ro := ra_oF)) m av h (x, h1) e) 22 lX3_findSure_9 _ _ _ _ lX3_findSure_9_ck (show ra_run ra_rV (kX3_findSure_9 N (nX3_findSure_9 N n)) ra_c0 (tIX3_findSure N) ra_c0 ra_c0 ra_c0 ra_c0 22 lX3_findSure_9 [some (.ref a0), some (.int a1)] [] h = some r from e) _ _ rfl
def lX3_findSure_0 : List ra_I := [(0, .aload_n 0, 1, 0, 0, 0, 0, 0, []),
  (1, .getfield 43, 3, 3, 10, 2, 0, 0, []),
  (4, .iconst (0), 1, 0, 0, 0, (0), 0, []),
  (5, .iconst (1), 1, 0, 0, 0, (1), 0, []),
  (6, .bastore, 1, 0, 0, 0, 0, 0, []),
  (7, .iconst (0), 1, 0, 0, 0, (0), 0, []),
  (8, .istore_n 1, 1, 1, 0, 0, 0, 0, [])]
set_option maxRecDepth 100000 in
theorem lX3_findSure_0_ck : lX3_findSure_0.all (ra_ck mX3_findSure 3) = true := by decide +kernel
def nX3_findSure_0 (N : Nat) (a0 : Nat) (h : ra_H) : Option ra_H :=
  (ra_fR h 3 a0 10).bind fun x1 =>
  (ra_aW h 2 x1 ((0 : Int32)) (vp_nar .boolean ((1 : Int32)))).bind fun h2 =>
  nX3_findSure_9 N N a0 ((0 : Int32)) h2
def kX3_findSure_0 (N : Nat) : Nat → List (Option Value) → List Value → ra_H → Option ra_H := (ra_k1 9 (fun L S h => match L, S with
  | [some (.ref a0), some (.int a1)], [] => nX3_findSure_9 N N a0 a1 h
  | _, _ => none) ra_k0)
theorem kX3_findSure_0_ok (N : Nat) : ra_kok 3 mX3_findSure ra_oV (kX3_findSure_0 N) := (ra_k1_ok (by
  intro L S h a e
  split at e
  · exact ra_Ru.weak (nX3_findSure_9_ok N N _ _ _ _ e) ⟨rfl, ⟨rfl, trivial⟩⟩
  · cases e) ra_k0_ok)
set_option maxRecDepth 100000 in
theorem nX3_findSure_0_ok (N : Nat) (a0 : Nat) (h : ra_H) (r : ra_H) (e : nX3_findSure_0 N a0 h = some r) : ra_Ru 3 mX3_findSure 0 [some (.ref a0), none] [] h (ra_oV r) :=
  ra_sound (by omega) rfl ra_rV_ok (kX3_findSure_0_ok N) (fun m av h h1 e => (ra_c0_ok (ro := ra_oV)) m av h h1 e) (fun m av h x h1 e => (tIX3_findSure_ok N) m av h (x, h1) e) (fun m av h x h1 e => (ra_c0_ok (ro := ra_oJ)) m av h (x, h1) e) (fun m av h x h1 e => (ra_c0_ok (ro := ra_oR)) m av h (x, h1) e) (fun m av h x h1 e => (ra_c0_ok (ro := ra_oN)) m av h (x, h1) e) (fun m av h x h1 e => (ra_c0_ok (ro := ra_oF)) m av h (x, h1) e) 8 lX3_findSure_0 _ _ _ _ lX3_findSure_0_ck (show ra_run ra_rV (kX3_findSure_0 N) ra_c0 (tIX3_findSure N) ra_c0 ra_c0 ra_c0 ra_c0 8 lX3_findSure_0 [some (.ref a0), none] [] h = some r from e) _ _ rfl
def fX3_findSure (N : Nat) (p0 : Nat) (h : ra_H) : Option ra_H := match ra_isOb h p0 3 with
  | true => nX3_findSure_0 N p0 h
  | false => none
set_option maxRecDepth 100000 in
theorem mtX3_findSure : ra_MT[141]? = some (mX3_findSure, 1, 0, (1, 9), (5, 86), (0, 49)) := rfl
theorem fX3_findSure_co (N : Nat) (p0 : Nat) (h : ra_H) (r : ra_H) (e : fX3_findSure N p0 h = some r) (D : Nat) (hD : 4 ≤ D) : ra_CO D 141 [.ref p0] h (ra_oV r).1 (ra_oV r).2 := by
  have hw : ra_nw2 [.ref p0] ≤ 2 := Nat.le_of_ble_eq_true rfl
  have hdb : ∀ v ∈ ([.ref p0] : List Value), ∀ x, v ≠ .double x := by
    intro v hv x hx
    simp [hx] at hv
  unfold fX3_findSure at e
  split at e
  · rename_i ho
    have e1 := e
    exact ⟨3, _, mtX3_findSure, hD, ra_ev_of (by decide) hdb hw trivial (ra_Ru.weak (nX3_findSure_0_ok N p0 h _ e1) ⟨rfl, trivial⟩), (fun _ => ⟨_, _, rfl, ra_rcv_of ho (by decide) rfl⟩), (fun h => absurd h (by decide))⟩
  · cases e
/-! RedMarks$Matches.lookAhead()V -/
def mX3_lookAhead : ra_M := (yX3_lookAhead, cX3_lookAhead, 3, none)
def tIX3_lookAhead (N : Nat) : Nat → List Value → ra_H → Option (Int32 × ra_H) := (ra_c1 128 (fun av h => match av with
  | [.ref z0, .int z1, .int z2] => fX10_canBeBest N z0 z1 z2 h
  | _ => none) ra_c0)
theorem tIX3_lookAhead_ok (N : Nat) : ra_cok 3 ra_oI (tIX3_lookAhead N) := (ra_c1_ok (by
  intro av h a e
  split at e
  · exact fX10_canBeBest_co N _ _ _ _ _ e 3 (by omega)
  · cases e) ra_c0_ok)
def lX3_lookAhead_64 : List ra_I := [(64, .iinc 2 (1), 3, 2, 0, 0, (1), 0, []),
  (67, .goto (-38), 3, 29, 0, 0, 0, 0, [])]
set_option maxRecDepth 100000 in
theorem lX3_lookAhead_64_ck : lX3_lookAhead_64.all (ra_ck mX3_lookAhead 3) = true := by decide +kernel
def nX3_lookAhead_64 (N : Nat) (c9 : Nat → Int32 → ra_H → Option ra_H) (c29 : Nat → Int32 → Int32 → ra_H → Option ra_H) (a0 : Nat) (a1 : Int32) (a2 : Int32) (h : ra_H) : Option ra_H :=
  let y1 := a2 + (1 : Int32)
  c29 a0 a1 y1 h
def kX3_lookAhead_64 (N : Nat) (c9 : Nat → Int32 → ra_H → Option ra_H) (c29 : Nat → Int32 → Int32 → ra_H → Option ra_H) : Nat → List (Option Value) → List Value → ra_H → Option ra_H := (ra_k1 29 (fun L S h => match L, S with
  | [some (.ref a0), some (.int a1), some (.int a2)], [] => c29 a0 a1 a2 h
  | _, _ => none) ra_k0)
theorem kX3_lookAhead_64_ok (N : Nat) (c9 : Nat → Int32 → ra_H → Option ra_H) (c29 : Nat → Int32 → Int32 → ra_H → Option ra_H) (hc9 : ∀ a0 a1 h r, c9 a0 a1 h = some r → ra_Ru 3 mX3_lookAhead 9 [some (.ref a0), some (.int a1), none] [] h (ra_oV r)) (hc29 : ∀ a0 a1 a2 h r, c29 a0 a1 a2 h = some r → ra_Ru 3 mX3_lookAhead 29 [some (.ref a0), some (.int a1), some (.int a2)] [] h (ra_oV r)) : ra_kok 3 mX3_lookAhead ra_oV (kX3_lookAhead_64 N c9 c29) := (ra_k1_ok (by
  intro L S h a e
  split at e
  · exact ra_Ru.weak (hc29 _ _ _ _ _ e) ⟨rfl, ⟨rfl, ⟨rfl, trivial⟩⟩⟩
  · cases e) ra_k0_ok)
set_option maxRecDepth 100000 in
theorem nX3_lookAhead_64_ok (N : Nat) (c9 : Nat → Int32 → ra_H → Option ra_H) (c29 : Nat → Int32 → Int32 → ra_H → Option ra_H) (hc9 : ∀ a0 a1 h r, c9 a0 a1 h = some r → ra_Ru 3 mX3_lookAhead 9 [some (.ref a0), some (.int a1), none] [] h (ra_oV r)) (hc29 : ∀ a0 a1 a2 h r, c29 a0 a1 a2 h = some r → ra_Ru 3 mX3_lookAhead 29 [some (.ref a0), some (.int a1), some (.int a2)] [] h (ra_oV r)) (a0 : Nat) (a1 : Int32) (a2 : Int32) (h : ra_H) (r : ra_H) (e : nX3_lookAhead_64 N c9 c29 a0 a1 a2 h = some r) : ra_Ru 3 mX3_lookAhead 64 [some (.ref a0), some (.int a1), some (.int a2)] [] h (ra_oV r) :=
  ra_sound (by omega) rfl ra_rV_ok (kX3_lookAhead_64_ok N c9 c29 hc9 hc29) (fun m av h h1 e => (ra_c0_ok (ro := ra_oV)) m av h h1 e) (fun m av h x h1 e => (tIX3_lookAhead_ok N) m av h (x, h1) e) (fun m av h x h1 e => (ra_c0_ok (ro := ra_oJ)) m av h (x, h1) e) (fun m av h x h1 e => (ra_c0_ok (ro := ra_oR)) m av h (x, h1) e) (fun m av h x h1 e => (ra_c0_ok (ro := ra_oN)) m av h (x, h1) e) (fun m av h x h1 e => (ra_c0_ok (ro := ra_oF)) m av h (x, h1) e) 3 lX3_lookAhead_64 _ _ _ _ lX3_lookAhead_64_ck (show ra_run ra_rV (kX3_lookAhead_64 N c9 c29) ra_c0 (tIX3_lookAhead N) ra_c0 ra_c0 ra_c0 ra_c0 3 lX3_lookAhead_64 [some (.ref a0), some (.int a1), some (.int a2)] [] h = some r from e) _ _ rfl
def lX3_lookAhead_29 : List ra_I := [(29, .iload_n 2, 1, 2, 0, 0, 0, 0, []),
  (30, .aload_n 0, 1, 0, 0, 0, 0, 0, []),
  (31, .getfield 57, 3, 3, 0, 2, 0, 0, []),
  (34, .getfield 65, 3, 2, 15, 0, 0, 0, []),
  (37, .if_icmp .ge (33), 3, 70, 0, 0, 0, 0, []),
  (40, .aload_n 0, 1, 0, 0, 0, 0, 0, []),
  (41, .getfield 12, 3, 3, 1, 2, 0, 0, []),
  (44, .iload_n 2, 1, 2, 0, 0, 0, 0, []),
  (45, .iload_n 1, 1, 1, 0, 0, 0, 0, []),
  (46, .invokevirtual 106, 3, 128, 3, 1, 0, 0, []),
  (49, .ifCond .eq (15), 3, 64, 0, 0, 0, 0, []),
  (52, .aload_n 0, 1, 0, 0, 0, 0, 0, []),
  (53, .getfield 18, 3, 3, 2, 2, 0, 0, []),
  (56, .iload_n 1, 1, 1, 0, 0, 0, 0, []),
  (57, .dup2, 1, 0, 0, 0, 0, 0, []),
  (58, .iaload, 1, 0, 0, 0, 0, 0, []),
  (59, .iconst (1), 1, 0, 0, 0, (1), 0, []),
  (60, .iload_n 2, 1, 2, 0, 0, 0, 0, []),
  (61, .ishl, 1, 0, 0, 0, 0, 0, []),
  (62, .ior, 1, 0, 0, 0, 0, 0, []),
  (63, .iastore, 1, 0, 0, 0, 0, 0, []),
  (70, .aload_n 0, 1, 0, 0, 0, 0, 0, []),
  (71, .getfield 22, 3, 3, 3, 2, 0, 0, []),
  (74, .iload_n 1, 1, 1, 0, 0, 0, 0, []),
  (75, .iconst (1), 1, 0, 0, 0, (1), 0, []),
  (76, .iadd, 1, 0, 0, 0, 0, 0, []),
  (77, .aload_n 0, 1, 0, 0, 0, 0, 0, []),
  (78, .getfield 22, 3, 3, 3, 2, 0, 0, []),
  (81, .iload_n 1, 1, 1, 0, 0, 0, 0, []),
  (82, .iaload, 1, 0, 0, 0, 0, 0, []),
  (83, .aload_n 0, 1, 0, 0, 0, 0, 0, []),
  (84, .getfield 18, 3, 3, 2, 2, 0, 0, []),
  (87, .iload_n 1, 1, 1, 0, 0, 0, 0, []),
  (88, .iaload, 1, 0, 0, 0, 0, 0, []),
  (89, .ior, 1, 0, 0, 0, 0, 0, []),
  (90, .iastore, 1, 0, 0, 0, 0, 0, []),
  (91, .iinc 1 (1), 3, 1, 0, 0, (1), 0, []),
  (94, .goto (-85), 3, 9, 0, 0, 0, 0, [])]
set_option maxRecDepth 100000 in
theorem lX3_lookAhead_29_ck : lX3_lookAhead_29.all (ra_ck mX3_lookAhead 3) = true := by decide +kernel
def nX3_lookAhead_29 (N : Nat) (c9 : Nat → Int32 → ra_H → Option ra_H) : Nat → Nat → Int32 → Int32 → ra_H → Option ra_H
  | 0, _, _, _, _ => none
  | n + 1, a0, a1, a2, h =>
  (ra_fR h 3 a0 0).bind fun x1 =>
  (ra_fI h 2 x1 15).bind fun x2 =>
  if a2 < x2 then
    (ra_fR h 3 a0 1).bind fun x10 =>
    (fX10_canBeBest N x10 a2 a1 h).bind fun q11 =>
    if q11.1 = 0 then
      nX3_lookAhead_64 N c9 (nX3_lookAhead_29 N c9 n) a0 a1 a2 q11.2
    else
      (ra_fR q11.2 3 a0 2).bind fun x12 =>
      (ra_aI q11.2 0 x12 a1).bind fun x13 =>
      (ra_aW q11.2 0 x12 a1 (x13 ||| (((1 : Int32)) <<< (a2 &&& 31)))).bind fun h14 =>
      nX3_lookAhead_64 N c9 (nX3_lookAhead_29 N c9 n) a0 a1 a2 h14
  else
    (ra_fR h 3 a0 3).bind fun x3 =>
    (ra_fR h 3 a0 3).bind fun x4 =>
    (ra_aI h 0 x4 a1).bind fun x5 =>
    (ra_fR h 3 a0 2).bind fun x6 =>
    (ra_aI h 0 x6 a1).bind fun x7 =>
    (ra_aW h 0 x3 (a1 + ((1 : Int32))) (x5 ||| x7)).bind fun h8 =>
    let y9 := a1 + (1 : Int32)
    c9 a0 y9 h8
def kX3_lookAhead_29 (N : Nat) (c9 : Nat → Int32 → ra_H → Option ra_H) (cs : Nat → Int32 → Int32 → ra_H → Option ra_H) : Nat → List (Option Value) → List Value → ra_H → Option ra_H := (ra_k1 9 (fun L S h => match L, S with
  | [some (.ref a0), some (.int a1), _], [] => c9 a0 a1 h
  | _, _ => none) (ra_k1 64 (fun L S h => match L, S with
  | [some (.ref a0), some (.int a1), some (.int a2)], [] => nX3_lookAhead_64 N c9 cs a0 a1 a2 h
  | _, _ => none) ra_k0))
theorem kX3_lookAhead_29_ok (N : Nat) (c9 : Nat → Int32 → ra_H → Option ra_H) (hc9 : ∀ a0 a1 h r, c9 a0 a1 h = some r → ra_Ru 3 mX3_lookAhead 9 [some (.ref a0), some (.int a1), none] [] h (ra_oV r)) (cs : Nat → Int32 → Int32 → ra_H → Option ra_H) (hcs : ∀ a0 a1 a2 h r, cs a0 a1 a2 h = some r → ra_Ru 3 mX3_lookAhead 29 [some (.ref a0), some (.int a1), some (.int a2)] [] h (ra_oV r)) : ra_kok 3 mX3_lookAhead ra_oV (kX3_lookAhead_29 N c9 cs) := (ra_k1_ok (by
  intro L S h a e
  split at e
  · exact ra_Ru.weak (hc9 _ _ _ _ e) ⟨rfl, ⟨rfl, trivial⟩⟩
  · cases e) (ra_k1_ok (by
  intro L S h a e
  split at e
  · exact ra_Ru.weak (nX3_lookAhead_64_ok N c9 cs hc9 hcs _ _ _ _ _ e) ⟨rfl, ⟨rfl, ⟨rfl, trivial⟩⟩⟩
  · cases e) ra_k0_ok))
set_option maxRecDepth 100000 in
theorem nX3_lookAhead_29_ok (N : Nat) (c9 : Nat → Int32 → ra_H → Option ra_H) (hc9 : ∀ a0 a1 h r, c9 a0 a1 h = some r → ra_Ru 3 mX3_lookAhead 9 [some (.ref a0), some (.int a1), none] [] h (ra_oV r)) : ∀ n a0 a1 a2 h r, nX3_lookAhead_29 N c9 n a0 a1 a2 h = some r → ra_Ru 3 mX3_lookAhead 29 [some (.ref a0), some (.int a1), some (.int a2)] [] h (ra_oV r) := by
  intro n
  induction n with
  | zero => intro a0 a1 a2 h r e; cases e
  | succ n ih =>
    intro a0 a1 a2 h r e
    exact ra_sound (by omega) rfl ra_rV_ok (kX3_lookAhead_29_ok N c9 hc9 (nX3_lookAhead_29 N c9 n) ih) (fun m av h h1 e => (ra_c0_ok (ro := ra_oV)) m av h h1 e) (fun m av h x h1 e => (tIX3_lookAhead_ok N) m av h (x, h1) e) (fun m av h x h1 e => (ra_c0_ok (ro := ra_oJ)) m av h (x, h1) e) (fun m av h x h1 e => (ra_c0_ok (ro := ra_oR)) m av h (x, h1) e) (fun m av h x h1 e => (ra_c0_ok (ro := ra_oN)) m av h (x, h1) e) (fun m av h x h1 e => (ra_c0_ok (ro := ra_oF)) m av h (x, h1) e) 39 lX3_lookAhead_29 _ _ _ _ lX3_lookAhead_29_ck (show ra_run ra_rV (kX3_lookAhead_29 N c9 (nX3_lookAhead_29 N c9 n)) ra_c0 (tIX3_lookAhead N) ra_c0 ra_c0 ra_c0 ra_c0 39 lX3_lookAhead_29 [some (.ref a0), some (.int a1), some (.int a2)] [] h = some r from e) _ _ rfl
def lX3_lookAhead_9 : List ra_I := [(9, .iload_n 1, 1, 1, 0, 0, 0, 0, []),
  (10, .aload_n 0, 1, 0, 0, 0, 0, 0, []),
  (11, .getfield 57, 3, 3, 0, 2, 0, 0, []),
  (14, .getfield 88, 3, 2, 13, 0, 0, 0, []),
  (17, .if_icmp .ge (80), 3, 97, 0, 0, 0, 0, []),
  (20, .aload_n 0, 1, 0, 0, 0, 0, 0, []),
  (21, .getfield 18, 3, 3, 2, 2, 0, 0, []),
  (24, .iload_n 1, 1, 1, 0, 0, 0, 0, []),
  (25, .iconst (0), 1, 0, 0, 0, (0), 0, []),
  (26, .iastore, 1, 0, 0, 0, 0, 0, []),
  (27, .iconst (0), 1, 0, 0, 0, (0), 0, []),
  (28, .istore_n 2, 1, 2, 0, 0, 0, 0, []),
  (97, .return_, 1, 0, 0, 0, 0, 0, [])]
set_option maxRecDepth 100000 in
theorem lX3_lookAhead_9_ck : lX3_lookAhead_9.all (ra_ck mX3_lookAhead 3) = true := by decide +kernel
def nX3_lookAhead_9 (N : Nat) : Nat → Nat → Int32 → ra_H → Option ra_H
  | 0, _, _, _ => none
  | n + 1, a0, a1, h =>
  (ra_fR h 3 a0 0).bind fun x1 =>
  (ra_fI h 2 x1 13).bind fun x2 =>
  if a1 < x2 then
    (ra_fR h 3 a0 2).bind fun x3 =>
    (ra_aW h 0 x3 a1 ((0 : Int32))).bind fun h4 =>
    nX3_lookAhead_29 N (nX3_lookAhead_9 N n) N a0 a1 ((0 : Int32)) h4
  else
    some h
def kX3_lookAhead_9 (N : Nat) (cs : Nat → Int32 → ra_H → Option ra_H) : Nat → List (Option Value) → List Value → ra_H → Option ra_H := (ra_k1 29 (fun L S h => match L, S with
  | [some (.ref a0), some (.int a1), some (.int a2)], [] => nX3_lookAhead_29 N cs N a0 a1 a2 h
  | _, _ => none) ra_k0)
theorem kX3_lookAhead_9_ok (N : Nat) (cs : Nat → Int32 → ra_H → Option ra_H) (hcs : ∀ a0 a1 h r, cs a0 a1 h = some r → ra_Ru 3 mX3_lookAhead 9 [some (.ref a0), some (.int a1), none] [] h (ra_oV r)) : ra_kok 3 mX3_lookAhead ra_oV (kX3_lookAhead_9 N cs) := (ra_k1_ok (by
  intro L S h a e
  split at e
  · exact ra_Ru.weak (nX3_lookAhead_29_ok N cs hcs N _ _ _ _ _ e) ⟨rfl, ⟨rfl, ⟨rfl, trivial⟩⟩⟩
  · cases e) ra_k0_ok)
set_option maxRecDepth 100000 in
theorem nX3_lookAhead_9_ok (N : Nat) : ∀ n a0 a1 h r, nX3_lookAhead_9 N n a0 a1 h = some r → ra_Ru 3 mX3_lookAhead 9 [some (.ref a0), some (.int a1), none] [] h (ra_oV r) := by
  intro n
  induction n with
  | zero => intro a0 a1 h r e; cases e
  | succ n ih =>
    intro a0 a1 h r e
    exact ra_sound (by omega) rfl ra_rV_ok (kX3_lookAhead_9_ok N (nX3_lookAhead_9 N n) ih) (fun m av h h1 e => (ra_c0_ok (ro := ra_oV)) m av h h1 e) (fun m av h x h1 e => (tIX3_lookAhead_ok N) m av h (x, h1) e) (fun m av h x h1 e => (ra_c0_ok (ro := ra_oJ)) m av h (x, h1) e) (fun m av h x h1 e => (ra_c0_ok (ro := ra_oR)) m av h (x, h1) e) (fun m av h x h1 e => (ra_c0_ok (ro := ra_oN)) m av h (x, h1) e) (fun m av h x h1 e => (ra_c0_ok (ro := ra_oF)) m av h (x, h1) e) 14 lX3_lookAhead_9 _ _ _ _ lX3_lookAhead_9_ck (show ra_run ra_rV (kX3_lookAhead_9 N (nX3_lookAhead_9 N n)) ra_c0 (tIX3_lookAhead N) ra_c0 ra_c0 ra_c0 ra_c0 14 lX3_lookAhead_9 [some (.ref a0), some (.int a1), none] [] h = some r from e) _ _ rfl
def lX3_lookAhead_0 : List ra_I := [(0, .aload_n 0, 1, 0, 0, 0, 0, 0, []),
  (1, .getfield 22, 3, 3, 3, 2, 0, 0, []),
  (4, .iconst (0), 1, 0, 0, 0, (0), 0, []),
  (5, .iconst (0), 1, 0, 0, 0, (0), 0, []),
  (6, .iastore, 1, 0, 0, 0, 0, 0, []),
  (7, .iconst (0), 1, 0, 0, 0, (0), 0, []),
  (8, .istore_n 1, 1, 1, 0, 0, 0, 0, [])]
set_option maxRecDepth 100000 in
theorem lX3_lookAhead_0_ck : lX3_lookAhead_0.all (ra_ck mX3_lookAhead 3) = true := by decide +kernel
def nX3_lookAhead_0 (N : Nat) (a0 : Nat) (h : ra_H) : Option ra_H :=
  (ra_fR h 3 a0 3).bind fun x1 =>
  (ra_aW h 0 x1 ((0 : Int32)) ((0 : Int32))).bind fun h2 =>
  nX3_lookAhead_9 N N a0 ((0 : Int32)) h2
def kX3_lookAhead_0 (N : Nat) : Nat → List (Option Value) → List Value → ra_H → Option ra_H := (ra_k1 9 (fun L S h => match L, S with
  | [some (.ref a0), some (.int a1), _], [] => nX3_lookAhead_9 N N a0 a1 h
  | _, _ => none) ra_k0)
theorem kX3_lookAhead_0_ok (N : Nat) : ra_kok 3 mX3_lookAhead ra_oV (kX3_lookAhead_0 N) := (ra_k1_ok (by
  intro L S h a e
  split at e
  · exact ra_Ru.weak (nX3_lookAhead_9_ok N N _ _ _ _ e) ⟨rfl, ⟨rfl, trivial⟩⟩
  · cases e) ra_k0_ok)
set_option maxRecDepth 100000 in
theorem nX3_lookAhead_0_ok (N : Nat) (a0 : Nat) (h : ra_H) (r : ra_H) (e : nX3_lookAhead_0 N a0 h = some r) : ra_Ru 3 mX3_lookAhead 0 [some (.ref a0), none, none] [] h (ra_oV r) :=
  ra_sound (by omega) rfl ra_rV_ok (kX3_lookAhead_0_ok N) (fun m av h h1 e => (ra_c0_ok (ro := ra_oV)) m av h h1 e) (fun m av h x h1 e => (tIX3_lookAhead_ok N) m av h (x, h1) e) (fun m av h x h1 e => (ra_c0_ok (ro := ra_oJ)) m av h (x, h1) e) (fun m av h x h1 e => (ra_c0_ok (ro := ra_oR)) m av h (x, h1) e) (fun m av h x h1 e => (ra_c0_ok (ro := ra_oN)) m av h (x, h1) e) (fun m av h x h1 e => (ra_c0_ok (ro := ra_oF)) m av h (x, h1) e) 8 lX3_lookAhead_0 _ _ _ _ lX3_lookAhead_0_ck (show ra_run ra_rV (kX3_lookAhead_0 N) ra_c0 (tIX3_lookAhead N) ra_c0 ra_c0 ra_c0 ra_c0 8 lX3_lookAhead_0 [some (.ref a0), none, none] [] h = some r from e) _ _ rfl
def fX3_lookAhead (N : Nat) (p0 : Nat) (h : ra_H) : Option ra_H := match ra_isOb h p0 3 with
  | true => nX3_lookAhead_0 N p0 h
  | false => none
set_option maxRecDepth 100000 in
theorem mtX3_lookAhead : ra_MT[127]? = some (mX3_lookAhead, 1, 0, (1, 9), (5, 24), (0, 39)) := rfl
theorem fX3_lookAhead_co (N : Nat) (p0 : Nat) (h : ra_H) (r : ra_H) (e : fX3_lookAhead N p0 h = some r) (D : Nat) (hD : 4 ≤ D) : ra_CO D 127 [.ref p0] h (ra_oV r).1 (ra_oV r).2 := by
  have hw : ra_nw2 [.ref p0] ≤ 3 := Nat.le_of_ble_eq_true rfl
  have hdb : ∀ v ∈ ([.ref p0] : List Value), ∀ x, v ≠ .double x := by
    intro v hv x hx
    simp [hx] at hv
  unfold fX3_lookAhead at e
  split at e
  · rename_i ho
    have e1 := e
    exact ⟨3, _, mtX3_lookAhead, hD, ra_ev_of (by decide) hdb hw trivial (ra_Ru.weak (nX3_lookAhead_0_ok N p0 h _ e1) ⟨rfl, trivial⟩), (fun _ => ⟨_, _, rfl, ra_rcv_of ho (by decide) rfl⟩), (fun h => absurd h (by decide))⟩
  · cases e
/-! RedMarks$Matches.lookBehind()V -/
def mX3_lookBehind : ra_M := (yX3_lookBehind, cX3_lookBehind, 3, none)
def tIX3_lookBehind (N : Nat) : Nat → List Value → ra_H → Option (Int32 × ra_H) := (ra_c1 131 (fun av h => match av with
  | [.ref z0, .int z1] => fX10_isWorth N z0 z1 h
  | _ => none) ra_c0)
theorem tIX3_lookBehind_ok (N : Nat) : ra_cok 2 ra_oI (tIX3_lookBehind N) := (ra_c1_ok (by
  intro av h a e
  split at e
  · exact fX10_isWorth_co N _ _ _ _ e 2 (by omega)
  · cases e) ra_c0_ok)
def lX3_lookBehind_32 : List ra_I := [(32, .iinc 2 (1), 3, 2, 0, 0, (1), 0, []),
  (35, .goto (-31), 3, 4, 0, 0, 0, 0, [])]
set_option maxRecDepth 100000 in
theorem lX3_lookBehind_32_ck : lX3_lookBehind_32.all (ra_ck mX3_lookBehind 3) = true := by decide +kernel
def nX3_lookBehind_32 (N : Nat) (c4 : Nat → Int32 → Int32 → ra_H → Option ra_H) (a0 : Nat) (a1 : Int32) (a2 : Int32) (h : ra_H) : Option ra_H :=
  let y1 := a2 + (1 : Int32)
  c4 a0 a1 y1 h
def kX3_lookBehind_32 (N : Nat) (c4 : Nat → Int32 → Int32 → ra_H → Option ra_H) : Nat → List (Option Value) → List Value → ra_H → Option ra_H := (ra_k1 4 (fun L S h => match L, S with
  | [some (.ref a0), some (.int a1), some (.int a2)], [] => c4 a0 a1 a2 h
  | _, _ => none) ra_k0)
theorem kX3_lookBehind_32_ok (N : Nat) (c4 : Nat → Int32 → Int32 → ra_H → Option ra_H) (hc4 : ∀ a0 a1 a2 h r, c4 a0 a1 a2 h = some r → ra_Ru 2 mX3_lookBehind 4 [some (.ref a0), some (.int a1), some (.int a2)] [] h (ra_oV r)) : ra_kok 2 mX3_lookBehind ra_oV (kX3_lookBehind_32 N c4) := (ra_k1_ok (by
  intro L S h a e
  split at e
  · exact ra_Ru.weak (hc4 _ _ _ _ _ e) ⟨rfl, ⟨rfl, ⟨rfl, trivial⟩⟩⟩
  · cases e) ra_k0_ok)
set_option maxRecDepth 100000 in
theorem nX3_lookBehind_32_ok (N : Nat) (c4 : Nat → Int32 → Int32 → ra_H → Option ra_H) (hc4 : ∀ a0 a1 a2 h r, c4 a0 a1 a2 h = some r → ra_Ru 2 mX3_lookBehind 4 [some (.ref a0), some (.int a1), some (.int a2)] [] h (ra_oV r)) (a0 : Nat) (a1 : Int32) (a2 : Int32) (h : ra_H) (r : ra_H) (e : nX3_lookBehind_32 N c4 a0 a1 a2 h = some r) : ra_Ru 2 mX3_lookBehind 32 [some (.ref a0), some (.int a1), some (.int a2)] [] h (ra_oV r) :=
  ra_sound (by omega) rfl ra_rV_ok (kX3_lookBehind_32_ok N c4 hc4) (fun m av h h1 e => (ra_c0_ok (ro := ra_oV)) m av h h1 e) (fun m av h x h1 e => (tIX3_lookBehind_ok N) m av h (x, h1) e) (fun m av h x h1 e => (ra_c0_ok (ro := ra_oJ)) m av h (x, h1) e) (fun m av h x h1 e => (ra_c0_ok (ro := ra_oR)) m av h (x, h1) e) (fun m av h x h1 e => (ra_c0_ok (ro := ra_oN)) m av h (x, h1) e) (fun m av h x h1 e => (ra_c0_ok (ro := ra_oF)) m av h (x, h1) e) 3 lX3_lookBehind_32 _ _ _ _ lX3_lookBehind_32_ck (show ra_run ra_rV (kX3_lookBehind_32 N c4) ra_c0 (tIX3_lookBehind N) ra_c0 ra_c0 ra_c0 ra_c0 3 lX3_lookBehind_32 [some (.ref a0), some (.int a1), some (.int a2)] [] h = some r from e) _ _ rfl
def lX3_lookBehind_61 : List ra_I := [(61, .iload_n 2, 1, 2, 0, 0, 0, 0, []),
  (62, .ifCond .lt (32), 3, 94, 0, 0, 0, 0, []),
  (65, .aload_n 0, 1, 0, 0, 0, 0, 0, []),
  (66, .getfield 25, 3, 3, 4, 2, 0, 0, []),
  (69, .iload_n 2, 1, 2, 0, 0, 0, 0, []),
  (70, .aload_n 0, 1, 0, 0, 0, 0, 0, []),
  (71, .getfield 25, 3, 3, 4, 2, 0, 0, []),
  (74, .iload_n 2, 1, 2, 0, 0, 0, 0, []),
  (75, .iconst (1), 1, 0, 0, 0, (1), 0, []),
  (76, .iadd, 1, 0, 0, 0, 0, 0, []),
  (77, .iaload, 1, 0, 0, 0, 0, 0, []),
  (78, .aload_n 0, 1, 0, 0, 0, 0, 0, []),
  (79, .getfield 18, 3, 3, 2, 2, 0, 0, []),
  (82, .iload_n 2, 1, 2, 0, 0, 0, 0, []),
  (83, .iaload, 1, 0, 0, 0, 0, 0, []),
  (84, .iconst (-1), 1, 0, 0, 0, (-1), 0, []),
  (85, .ixor, 1, 0, 0, 0, 0, 0, []),
  (86, .iand, 1, 0, 0, 0, 0, 0, []),
  (87, .iastore, 1, 0, 0, 0, 0, 0, []),
  (88, .iinc 2 (-1), 3, 2, 0, 0, (-1), 0, []),
  (91, .goto (-30), 3, 61, 0, 0, 0, 0, []),
  (94, .return_, 1, 0, 0, 0, 0, 0, [])]
set_option maxRecDepth 100000 in
theorem lX3_lookBehind_61_ck : lX3_lookBehind_61.all (ra_ck mX3_lookBehind 3) = true := by decide +kernel
def nX3_lookBehind_61 (N : Nat) : Nat → Nat → Int32 → ra_H → Option ra_H
  | 0, _, _, _ => none
  | n + 1, a0, a2, h =>
  if a2 < 0 then
    some h
  else
    (ra_fR h 3 a0 4).bind fun x1 =>
    (ra_fR h 3 a0 4).bind fun x2 =>
    (ra_aI h 0 x2 (a2 + ((1 : Int32)))).bind fun x3 =>
    (ra_fR h 3 a0 2).bind fun x4 =>
    (ra_aI h 0 x4 a2).bind fun x5 =>
    (ra_aW h 0 x1 a2 (x3 &&& (x5 ^^^ ((-1 : Int32))))).bind fun h6 =>
    let y7 := a2 + (-1 : Int32)
    nX3_lookBehind_61 N n a0 y7 h6
def kX3_lookBehind_61 (N : Nat) (cs : Nat → Int32 → ra_H → Option ra_H) : Nat → List (Option Value) → List Value → ra_H → Option ra_H := (ra_k1 61 (fun L S h => match L, S with
  | [some (.ref a0), _, some (.int a2)], [] => cs a0 a2 h
  | _, _ => none) ra_k0)
theorem kX3_lookBehind_61_ok (N : Nat) (cs : Nat → Int32 → ra_H → Option ra_H) (hcs : ∀ a0 a2 h r, cs a0 a2 h = some r → ra_Ru 2 mX3_lookBehind 61 [some (.ref a0), none, some (.int a2)] [] h (ra_oV r)) : ra_kok 2 mX3_lookBehind ra_oV (kX3_lookBehind_61 N cs) := (ra_k1_ok (by
  intro L S h a e
  split at e
  · exact ra_Ru.weak (hcs _ _ _ _ e) ⟨rfl, ⟨rfl, trivial⟩⟩
  · cases e) ra_k0_ok)
set_option maxRecDepth 100000 in
theorem nX3_lookBehind_61_ok (N : Nat) : ∀ n a0 a2 h r, nX3_lookBehind_61 N n a0 a2 h = some r → ra_Ru 2 mX3_lookBehind 61 [some (.ref a0), none, some (.int a2)] [] h (ra_oV r) := by
  intro n
  induction n with
  | zero => intro a0 a2 h r e; cases e
  | succ n ih =>
    intro a0 a2 h r e
    exact ra_sound (by omega) rfl ra_rV_ok (kX3_lookBehind_61_ok N (nX3_lookBehind_61 N n) ih) (fun m av h h1 e => (ra_c0_ok (ro := ra_oV)) m av h h1 e) (fun m av h x h1 e => (tIX3_lookBehind_ok N) m av h (x, h1) e) (fun m av h x h1 e => (ra_c0_ok (ro := ra_oJ)) m av h (x, h1) e) (fun m av h x h1 e => (ra_c0_ok (ro := ra_oR)) m av h (x, h1) e) (fun m av h x h1 e => (ra_c0_ok (ro := ra_oN)) m av h (x, h1) e) (fun m av h x h1 e => (ra_c0_ok (ro := ra_oF)) m av h (x, h1) e) 23 lX3_lookBehind_61 _ _ _ _ lX3_lookBehind_61_ck (show ra_run ra_rV (kX3_lookBehind_61 N (nX3_lookBehind_61 N n)) ra_c0 (tIX3_lookBehind N) ra_c0 ra_c0 ra_c0 ra_c0 23 lX3_lookBehind_61 [some (.ref a0), none, some (.int a2)] [] h = some r from e) _ _ rfl
def lX3_lookBehind_4 : List ra_I := [(4, .iload_n 2, 1, 2, 0, 0, 0, 0, []),
  (5, .aload_n 0, 1, 0, 0, 0, 0, 0, []),
  (6, .getfield 57, 3, 3, 0, 2, 0, 0, []),
  (9, .getfield 65, 3, 2, 15, 0, 0, 0, []),
  (12, .if_icmp .ge (26), 3, 38, 0, 0, 0, 0, []),
  (15, .aload_n 0, 1, 0, 0, 0, 0, 0, []),
  (16, .getfield 12, 3, 3, 1, 2, 0, 0, []),
  (19, .iload_n 2, 1, 2, 0, 0, 0, 0, []),
  (20, .invokevirtual 110, 3, 131, 2, 1, 0, 0, []),
  (23, .ifCond .eq (9), 3, 32, 0, 0, 0, 0, []),
  (26, .iload_n 1, 1, 1, 0, 0, 0, 0, []),
  (27, .iconst (1), 1, 0, 0, 0, (1), 0, []),
  (28, .iload_n 2, 1, 2, 0, 0, 0, 0, []),
  (29, .ishl, 1, 0, 0, 0, 0, 0, []),
  (30, .ior, 1, 0, 0, 0, 0, 0, []),
  (31, .istore_n 1, 1, 1, 0, 0, 0, 0, []),
  (38, .aload_n 0, 1, 0, 0, 0, 0, 0, []),
  (39, .getfield 25, 3, 3, 4, 2, 0, 0, []),
  (42, .aload_n 0, 1, 0, 0, 0, 0, 0, []),
  (43, .getfield 57, 3, 3, 0, 2, 0, 0, []),
  (46, .getfield 88, 3, 2, 13, 0, 0, 0, []),
  (49, .iload_n 1, 1, 1, 0, 0, 0, 0, []),
  (50, .iastore, 1, 0, 0, 0, 0, 0, []),
  (51, .aload_n 0, 1, 0, 0, 0, 0, 0, []),
  (52, .getfield 57, 3, 3, 0, 2, 0, 0, []),
  (55, .getfield 88, 3, 2, 13, 0, 0, 0, []),
  (58, .iconst (1), 1, 0, 0, 0, (1), 0, []),
  (59, .isub, 1, 0, 0, 0, 0, 0, []),
  (60, .istore_n 2, 1, 2, 0, 0, 0, 0, [])]
set_option maxRecDepth 100000 in
theorem lX3_lookBehind_4_ck : lX3_lookBehind_4.all (ra_ck mX3_lookBehind 3) = true := by decide +kernel
def nX3_lookBehind_4 (N : Nat) : Nat → Nat → Int32 → Int32 → ra_H → Option ra_H
  | 0, _, _, _, _ => none
  | n + 1, a0, a1, a2, h =>
  (ra_fR h 3 a0 0).bind fun x1 =>
  (ra_fI h 2 x1 15).bind fun x2 =>
  if a2 < x2 then
    (ra_fR h 3 a0 1).bind fun x10 =>
    (fX10_isWorth N x10 a2 h).bind fun q11 =>
    if q11.1 = 0 then
      nX3_lookBehind_32 N (nX3_lookBehind_4 N n) a0 a1 a2 q11.2
    else
      let y12 := a1 ||| (((1 : Int32)) <<< (a2 &&& 31))
      nX3_lookBehind_32 N (nX3_lookBehind_4 N n) a0 y12 a2 q11.2
  else
    (ra_fR h 3 a0 4).bind fun x3 =>
    (ra_fR h 3 a0 0).bind fun x4 =>
    (ra_fI h 2 x4 13).bind fun x5 =>
    (ra_aW h 0 x3 x5 a1).bind fun h6 =>
    (ra_fR h6 3 a0 0).bind fun x7 =>
    (ra_fI h6 2 x7 13).bind fun x8 =>
    let y9 := x8 - ((1 : Int32))
    nX3_lookBehind_61 N N a0 y9 h6
def kX3_lookBehind_4 (N : Nat) (cs : Nat → Int32 → Int32 → ra_H → Option ra_H) : Nat → List (Option Value) → List Value → ra_H → Option ra_H := (ra_k1 32 (fun L S h => match L, S with
  | [some (.ref a0), some (.int a1), some (.int a2)], [] => nX3_lookBehind_32 N cs a0 a1 a2 h
  | _, _ => none) (ra_k1 61 (fun L S h => match L, S with
  | [some (.ref a0), _, some (.int a2)], [] => nX3_lookBehind_61 N N a0 a2 h
  | _, _ => none) ra_k0))
theorem kX3_lookBehind_4_ok (N : Nat) (cs : Nat → Int32 → Int32 → ra_H → Option ra_H) (hcs : ∀ a0 a1 a2 h r, cs a0 a1 a2 h = some r → ra_Ru 2 mX3_lookBehind 4 [some (.ref a0), some (.int a1), some (.int a2)] [] h (ra_oV r)) : ra_kok 2 mX3_lookBehind ra_oV (kX3_lookBehind_4 N cs) := (ra_k1_ok (by
  intro L S h a e
  split at e
  · exact ra_Ru.weak (nX3_lookBehind_32_ok N cs hcs _ _ _ _ _ e) ⟨rfl, ⟨rfl, ⟨rfl, trivial⟩⟩⟩
  · cases e) (ra_k1_ok (by
  intro L S h a e
  split at e
  · exact ra_Ru.weak (nX3_lookBehind_61_ok N N _ _ _ _ e) ⟨rfl, ⟨rfl, trivial⟩⟩
  · cases e) ra_k0_ok))
set_option maxRecDepth 100000 in
theorem nX3_lookBehind_4_ok (N : Nat) : ∀ n a0 a1 a2 h r, nX3_lookBehind_4 N n a0 a1 a2 h = some r → ra_Ru 2 mX3_lookBehind 4 [some (.ref a0), some (.int a1), some (.int a2)] [] h (ra_oV r) := by
  intro n
  induction n with
  | zero => intro a0 a1 a2 h r e; cases e
  | succ n ih =>
    intro a0 a1 a2 h r e
    exact ra_sound (by omega) rfl ra_rV_ok (kX3_lookBehind_4_ok N (nX3_lookBehind_4 N n) ih) (fun m av h h1 e => (ra_c0_ok (ro := ra_oV)) m av h h1 e) (fun m av h x h1 e => (tIX3_lookBehind_ok N) m av h (x, h1) e) (fun m av h x h1 e => (ra_c0_ok (ro := ra_oJ)) m av h (x, h1) e) (fun m av h x h1 e => (ra_c0_ok (ro := ra_oR)) m av h (x, h1) e) (fun m av h x h1 e => (ra_c0_ok (ro := ra_oN)) m av h (x, h1) e) (fun m av h x h1 e => (ra_c0_ok (ro := ra_oF)) m av h (x, h1) e) 30 lX3_lookBehind_4 _ _ _ _ lX3_lookBehind_4_ck (show ra_run ra_rV (kX3_lookBehind_4 N (nX3_lookBehind_4 N n)) ra_c0 (tIX3_lookBehind N) ra_c0 ra_c0 ra_c0 ra_c0 30 lX3_lookBehind_4 [some (.ref a0), some (.int a1), some (.int a2)] [] h = some r from e) _ _ rfl
def lX3_lookBehind_0 : List ra_I := [(0, .iconst (0), 1, 0, 0, 0, (0), 0, []),
  (1, .istore_n 1, 1, 1, 0, 0, 0, 0, []),
  (2, .iconst (0), 1, 0, 0, 0, (0), 0, []),
  (3, .istore_n 2, 1, 2, 0, 0, 0, 0, [])]
set_option maxRecDepth 100000 in
theorem lX3_lookBehind_0_ck : lX3_lookBehind_0.all (ra_ck mX3_lookBehind 3) = true := by decide +kernel
def nX3_lookBehind_0 (N : Nat) (a0 : Nat) (h : ra_H) : Option ra_H :=
  nX3_lookBehind_4 N N a0 ((0 : Int32)) ((0 : Int32)) h
def kX3_lookBehind_0 (N : Nat) : Nat → List (Option Value) → List Value → ra_H → Option ra_H := (ra_k1 4 (fun L S h => match L, S with
  | [some (.ref a0), some (.int a1), some (.int a2)], [] => nX3_lookBehind_4 N N a0 a1 a2 h
  | _, _ => none) ra_k0)
theorem kX3_lookBehind_0_ok (N : Nat) : ra_kok 2 mX3_lookBehind ra_oV (kX3_lookBehind_0 N) := (ra_k1_ok (by
  intro L S h a e
  split at e
  · exact ra_Ru.weak (nX3_lookBehind_4_ok N N _ _ _ _ _ e) ⟨rfl, ⟨rfl, ⟨rfl, trivial⟩⟩⟩
  · cases e) ra_k0_ok)
set_option maxRecDepth 100000 in
theorem nX3_lookBehind_0_ok (N : Nat) (a0 : Nat) (h : ra_H) (r : ra_H) (e : nX3_lookBehind_0 N a0 h = some r) : ra_Ru 2 mX3_lookBehind 0 [some (.ref a0), none, none] [] h (ra_oV r) :=
  ra_sound (by omega) rfl ra_rV_ok (kX3_lookBehind_0_ok N) (fun m av h h1 e => (ra_c0_ok (ro := ra_oV)) m av h h1 e) (fun m av h x h1 e => (tIX3_lookBehind_ok N) m av h (x, h1) e) (fun m av h x h1 e => (ra_c0_ok (ro := ra_oJ)) m av h (x, h1) e) (fun m av h x h1 e => (ra_c0_ok (ro := ra_oR)) m av h (x, h1) e) (fun m av h x h1 e => (ra_c0_ok (ro := ra_oN)) m av h (x, h1) e) (fun m av h x h1 e => (ra_c0_ok (ro := ra_oF)) m av h (x, h1) e) 5 lX3_lookBehind_0 _ _ _ _ lX3_lookBehind_0_ck (show ra_run ra_rV (kX3_lookBehind_0 N) ra_c0 (tIX3_lookBehind N) ra_c0 ra_c0 ra_c0 ra_c0 5 lX3_lookBehind_0 [some (.ref a0), none, none] [] h = some r from e) _ _ rfl
def fX3_lookBehind (N : Nat) (p0 : Nat) (h : ra_H) : Option ra_H := match ra_isOb h p0 3 with
  | true => nX3_lookBehind_0 N p0 h
  | false => none
set_option maxRecDepth 100000 in
theorem mtX3_lookBehind : ra_MT[130]? = some (mX3_lookBehind, 1, 0, (1, 9), (5, 36), (0, 40)) := rfl
theorem fX3_lookBehind_co (N : Nat) (p0 : Nat) (h : ra_H) (r : ra_H) (e : fX3_lookBehind N p0 h = some r) (D : Nat) (hD : 3 ≤ D) : ra_CO D 130 [.ref p0] h (ra_oV r).1 (ra_oV r).2 := by
  have hw : ra_nw2 [.ref p0] ≤ 3 := Nat.le_of_ble_eq_true rfl
  have hdb : ∀ v ∈ ([.ref p0] : List Value), ∀ x, v ≠ .double x := by
    intro v hv x hx
    simp [hx] at hv
  unfold fX3_lookBehind at e
  split at e
  · rename_i ho
    have e1 := e
    exact ⟨2, _, mtX3_lookBehind, hD, ra_ev_of (by decide) hdb hw trivial (ra_Ru.weak (nX3_lookBehind_0_ok N p0 h _ e1) ⟨rfl, trivial⟩), (fun _ => ⟨_, _, rfl, ra_rcv_of ho (by decide) rfl⟩), (fun h => absurd h (by decide))⟩
  · cases e
/-! RedMarks$Matches.makeRoom(I)V -/
def mX3_makeRoom : ra_M := (yX3_makeRoom, cX3_makeRoom, 2, none)
def lX3_makeRoom_40 : List ra_I := [(40, .return_, 1, 0, 0, 0, 0, 0, [])]
set_option maxRecDepth 100000 in
theorem lX3_makeRoom_40_ck : lX3_makeRoom_40.all (ra_ck mX3_makeRoom 3) = true := by decide +kernel
def nX3_makeRoom_40 (N : Nat) (h : ra_H) : Option ra_H :=
  some h
def kX3_makeRoom_40 (N : Nat) : Nat → List (Option Value) → List Value → ra_H → Option ra_H := ra_k0
theorem kX3_makeRoom_40_ok (N : Nat) : ra_kok 1 mX3_makeRoom ra_oV (kX3_makeRoom_40 N) := ra_k0_ok
set_option maxRecDepth 100000 in
theorem nX3_makeRoom_40_ok (N : Nat) (h : ra_H) (r : ra_H) (e : nX3_makeRoom_40 N h = some r) : ra_Ru 1 mX3_makeRoom 40 [none, none] [] h (ra_oV r) :=
  ra_sound (by omega) rfl ra_rV_ok (kX3_makeRoom_40_ok N) (fun m av h h1 e => (ra_c0_ok (ro := ra_oV)) m av h h1 e) (fun m av h x h1 e => (ra_c0_ok (ro := ra_oI)) m av h (x, h1) e) (fun m av h x h1 e => (ra_c0_ok (ro := ra_oJ)) m av h (x, h1) e) (fun m av h x h1 e => (ra_c0_ok (ro := ra_oR)) m av h (x, h1) e) (fun m av h x h1 e => (ra_c0_ok (ro := ra_oN)) m av h (x, h1) e) (fun m av h x h1 e => (ra_c0_ok (ro := ra_oF)) m av h (x, h1) e) 2 lX3_makeRoom_40 _ _ _ _ lX3_makeRoom_40_ck (show ra_run ra_rV (kX3_makeRoom_40 N) ra_c0 ra_c0 ra_c0 ra_c0 ra_c0 ra_c0 2 lX3_makeRoom_40 [none, none] [] h = some r from e) _ _ rfl
def lX3_makeRoom_0 : List ra_I := [(0, .aload_n 0, 1, 0, 0, 0, 0, 0, []),
  (1, .getfield 37, 3, 3, 8, 2, 0, 0, []),
  (4, .arraylength, 1, 0, 0, 0, 0, 0, []),
  (5, .iload_n 1, 1, 1, 0, 0, 0, 0, []),
  (6, .if_icmp .ge (34), 3, 40, 0, 0, 0, 0, []),
  (9, .aload_n 0, 1, 0, 0, 0, 0, 0, []),
  (10, .iload_n 1, 1, 1, 0, 0, 0, 0, []),
  (11, .newarray .int, 2, 0, 0, 0, 0, 0, []),
  (13, .putfield 37, 3, 3, 8, 2, 0, 0, []),
  (16, .aload_n 0, 1, 0, 0, 0, 0, 0, []),
  (17, .iload_n 1, 1, 1, 0, 0, 0, 0, []),
  (18, .newarray .int, 2, 0, 0, 0, 0, 0, []),
  (20, .putfield 40, 3, 3, 9, 2, 0, 0, []),
  (23, .aload_n 0, 1, 0, 0, 0, 0, 0, []),
  (24, .iload_n 1, 1, 1, 0, 0, 0, 0, []),
  (25, .newarray .boolean, 2, 2, 0, 0, 0, 0, []),
  (27, .putfield 43, 3, 3, 10, 2, 0, 0, []),
  (30, .aload_n 0, 1, 0, 0, 0, 0, 0, []),
  (31, .iload_n 1, 1, 1, 0, 0, 0, 0, []),
  (32, .bipush (40), 2, 0, 0, 0, (40), 0, []),
  (34, .imul, 1, 0, 0, 0, 0, 0, []),
  (35, .newarray .short, 2, 3, 0, 0, 0, 0, []),
  (37, .putfield 47, 3, 3, 11, 2, 0, 0, [])]
set_option maxRecDepth 100000 in
theorem lX3_makeRoom_0_ck : lX3_makeRoom_0.all (ra_ck mX3_makeRoom 3) = true := by decide +kernel
def nX3_makeRoom_0 (N : Nat) (a0 : Nat) (a1 : Int32) (h : ra_H) : Option ra_H :=
  (ra_fR h 3 a0 8).bind fun x1 =>
  (ra_aL h x1).bind fun x2 =>
  if x2 < a1 then
    if a1 < 0 ∨ 50000000 < (Int32.toNatClampNeg a1) then none else
    let h3 := ra_mk h (ra_na 0 (Int32.toNatClampNeg a1)) (Int32.toNatClampNeg a1)
    (ra_fW h3 3 a0 8 (.ref h.2.1)).bind fun h4 =>
    if a1 < 0 ∨ 50000000 < (Int32.toNatClampNeg a1) then none else
    let h5 := ra_mk h4 (ra_na 0 (Int32.toNatClampNeg a1)) (Int32.toNatClampNeg a1)
    (ra_fW h5 3 a0 9 (.ref h4.2.1)).bind fun h6 =>
    if a1 < 0 ∨ 50000000 < (Int32.toNatClampNeg a1) then none else
    let h7 := ra_mk h6 (ra_na 2 (Int32.toNatClampNeg a1)) (Int32.toNatClampNeg a1)
    (ra_fW h7 3 a0 10 (.ref h6.2.1)).bind fun h8 =>
    if (a1 * ((40 : Int32))) < 0 ∨ 50000000 < (Int32.toNatClampNeg (a1 * ((40 : Int32)))) then none else
    let h9 := ra_mk h8 (ra_na 3 (Int32.toNatClampNeg (a1 * ((40 : Int32))))) (Int32.toNatClampNeg (a1 * ((40 : Int32))))
    (ra_fW h9 3 a0 11 (.ref h8.2.1)).bind fun h10 =>
    nX3_makeRoom_40 N h10
  else
    nX3_makeRoom_40 N h
def kX3_makeRoom_0 (N : Nat) : Nat → List (Option Value) → List Value → ra_H → Option ra_H := (ra_k1 40 (fun L S h => match L, S with
  | [_, _], [] => nX3_makeRoom_40 N h
  | _, _ => none) ra_k0)
theorem kX3_makeRoom_0_ok (N : Nat) : ra_kok 1 mX3_makeRoom ra_oV (kX3_makeRoom_0 N) := (ra_k1_ok (by
  intro L S h a e
  split at e
  · exact ra_Ru.weak (nX3_makeRoom_40_ok N _ _ e) trivial
  · cases e) ra_k0_ok)
set_option maxRecDepth 100000 in
theorem nX3_makeRoom_0_ok (N : Nat) (a0 : Nat) (a1 : Int32) (h : ra_H) (r : ra_H) (e : nX3_makeRoom_0 N a0 a1 h = some r) : ra_Ru 1 mX3_makeRoom 0 [some (.ref a0), some (.int a1)] [] h (ra_oV r) :=
  ra_sound (by omega) rfl ra_rV_ok (kX3_makeRoom_0_ok N) (fun m av h h1 e => (ra_c0_ok (ro := ra_oV)) m av h h1 e) (fun m av h x h1 e => (ra_c0_ok (ro := ra_oI)) m av h (x, h1) e) (fun m av h x h1 e => (ra_c0_ok (ro := ra_oJ)) m av h (x, h1) e) (fun m av h x h1 e => (ra_c0_ok (ro := ra_oR)) m av h (x, h1) e) (fun m av h x h1 e => (ra_c0_ok (ro := ra_oN)) m av h (x, h1) e) (fun m av h x h1 e => (ra_c0_ok (ro := ra_oF)) m av h (x, h1) e) 24 lX3_makeRoom_0 _ _ _ _ lX3_makeRoom_0_ck (show ra_run ra_rV (kX3_makeRoom_0 N) ra_c0 ra_c0 ra_c0 ra_c0 ra_c0 ra_c0 24 lX3_makeRoom_0 [some (.ref a0), some (.int a1)] [] h = some r from e) _ _ rfl
def fX3_makeRoom (N : Nat) (p0 : Nat) (p1 : Int32) (h : ra_H) : Option ra_H := match ra_isOb h p0 3 with
  | true => nX3_makeRoom_0 N p0 p1 h
  | false => none
set_option maxRecDepth 100000 in
theorem mtX3_makeRoom : ra_MT[120]? = some (mX3_makeRoom, 1, 1, (1, 9), (4, 234), (0, 36)) := rfl
theorem fX3_makeRoom_co (N : Nat) (p0 : Nat) (p1 : Int32) (h : ra_H) (r : ra_H) (e : fX3_makeRoom N p0 p1 h = some r) (D : Nat) (hD : 2 ≤ D) : ra_CO D 120 [.ref p0, .int p1] h (ra_oV r).1 (ra_oV r).2 := by
  have hw : ra_nw2 [.ref p0, .int p1] ≤ 2 := Nat.le_of_ble_eq_true rfl
  have hdb : ∀ v ∈ ([.ref p0, .int p1] : List Value), ∀ x, v ≠ .double x := by
    intro v hv x hx
    simp [hx] at hv
  unfold fX3_makeRoom at e
  split at e
  · rename_i ho
    have e1 := e
    exact ⟨1, _, mtX3_makeRoom, hD, ra_ev_of (by decide) hdb hw trivial (ra_Ru.weak (nX3_makeRoom_0_ok N p0 p1 h _ e1) ⟨rfl, ⟨rfl, trivial⟩⟩), (fun _ => ⟨_, _, rfl, ra_rcv_of ho (by decide) rfl⟩), (fun h => absurd h (by decide))⟩
  · cases e
/-! RedMarks$Matches.lowestLine(I)I -/
def mX3_lowestLine : ra_M := (yX3_lowestLine, cX3_lowestLine, 3, (some .int))
def lX3_lowestLine_2 : List ra_I := [(2, .iload_n 2, 1, 2, 0, 0, 0, 0, []),
  (3, .aload_n 0, 1, 0, 0, 0, 0, 0, []),
  (4, .getfield 57, 3, 3, 0, 2, 0, 0, []),
  (7, .getfield 65, 3, 2, 15, 0, 0, 0, []),
  (10, .if_icmp .ge (19), 3, 29, 0, 0, 0, 0, []),
  (13, .iload_n 1, 1, 1, 0, 0, 0, 0, []),
  (14, .iconst (1), 1, 0, 0, 0, (1), 0, []),
  (15, .iload_n 2, 1, 2, 0, 0, 0, 0, []),
  (16, .ishl, 1, 0, 0, 0, 0, 0, []),
  (17, .iand, 1, 0, 0, 0, 0, 0, []),
  (18, .ifCond .eq (5), 3, 23, 0, 0, 0, 0, []),
  (21, .iload_n 2, 1, 2, 0, 0, 0, 0, []),
  (22, .ireturn, 1, 0, 0, 0, 0, 0, []),
  (23, .iinc 2 (1), 3, 2, 0, 0, (1), 0, []),
  (26, .goto (-24), 3, 2, 0, 0, 0, 0, []),
  (29, .iconst (-1), 1, 0, 0, 0, (-1), 0, []),
  (30, .ireturn, 1, 0, 0, 0, 0, 0, [])]
set_option maxRecDepth 100000 in
theorem lX3_lowestLine_2_ck : lX3_lowestLine_2.all (ra_ck mX3_lowestLine 3) = true := by decide +kernel
def nX3_lowestLine_2 (N : Nat) : Nat → Nat → Int32 → Int32 → ra_H → Option (Int32 × ra_H)
  | 0, _, _, _, _ => none
  | n + 1, a0, a1, a2, h =>
  (ra_fR h 3 a0 0).bind fun x1 =>
  (ra_fI h 2 x1 15).bind fun x2 =>
  if a2 < x2 then
    if (a1 &&& (((1 : Int32)) <<< (a2 &&& 31))) = 0 then
      let y3 := a2 + (1 : Int32)
      nX3_lowestLine_2 N n a0 a1 y3 h
    else
      some (a2, h)
  else
    some ((-1 : Int32), h)
def kX3_lowestLine_2 (N : Nat) (cs : Nat → Int32 → Int32 → ra_H → Option (Int32 × ra_H)) : Nat → List (Option Value) → List Value → ra_H → Option (Int32 × ra_H) := (ra_k1 2 (fun L S h => match L, S with
  | [some (.ref a0), some (.int a1), some (.int a2)], [] => cs a0 a1 a2 h
  | _, _ => none) ra_k0)
theorem kX3_lowestLine_2_ok (N : Nat) (cs : Nat → Int32 → Int32 → ra_H → Option (Int32 × ra_H)) (hcs : ∀ a0 a1 a2 h r, cs a0 a1 a2 h = some r → ra_Ru 1 mX3_lowestLine 2 [some (.ref a0), some (.int a1), some (.int a2)] [] h (ra_oI r)) : ra_kok 1 mX3_lowestLine ra_oI (kX3_lowestLine_2 N cs) := (ra_k1_ok (by
  intro L S h a e
  split at e
  · exact ra_Ru.weak (hcs _ _ _ _ _ e) ⟨rfl, ⟨rfl, ⟨rfl, trivial⟩⟩⟩
  · cases e) ra_k0_ok)
set_option maxRecDepth 100000 in
theorem nX3_lowestLine_2_ok (N : Nat) : ∀ n a0 a1 a2 h r, nX3_lowestLine_2 N n a0 a1 a2 h = some r → ra_Ru 1 mX3_lowestLine 2 [some (.ref a0), some (.int a1), some (.int a2)] [] h (ra_oI r) := by
  intro n
  induction n with
  | zero => intro a0 a1 a2 h r e; cases e
  | succ n ih =>
    intro a0 a1 a2 h r e
    exact ra_sound (by omega) rfl ra_rI_ok (kX3_lowestLine_2_ok N (nX3_lowestLine_2 N n) ih) (fun m av h h1 e => (ra_c0_ok (ro := ra_oV)) m av h h1 e) (fun m av h x h1 e => (ra_c0_ok (ro := ra_oI)) m av h (x, h1) e) (fun m av h x h1 e => (ra_c0_ok (ro := ra_oJ)) m av h (x, h1) e) (fun m av h x h1 e => (ra_c0_ok (ro := ra_oR)) m av h (x, h1) e) (fun m av h x h1 e => (ra_c0_ok (ro := ra_oN)) m av h (x, h1) e) (fun m av h x h1 e => (ra_c0_ok (ro := ra_oF)) m av h (x, h1) e) 18 lX3_lowestLine_2 _ _ _ _ lX3_lowestLine_2_ck (show ra_run ra_rI (kX3_lowestLine_2 N (nX3_lowestLine_2 N n)) ra_c0 ra_c0 ra_c0 ra_c0 ra_c0 ra_c0 18 lX3_lowestLine_2 [some (.ref a0), some (.int a1), some (.int a2)] [] h = some r from e) _ _ rfl
def lX3_lowestLine_0 : List ra_I := [(0, .iconst (0), 1, 0, 0, 0, (0), 0, []),
  (1, .istore_n 2, 1, 2, 0, 0, 0, 0, [])]
set_option maxRecDepth 100000 in
theorem lX3_lowestLine_0_ck : lX3_lowestLine_0.all (ra_ck mX3_lowestLine 3) = true := by decide +kernel
def nX3_lowestLine_0 (N : Nat) (a0 : Nat) (a1 : Int32) (h : ra_H) : Option (Int32 × ra_H) :=
  nX3_lowestLine_2 N N a0 a1 ((0 : Int32)) h
def kX3_lowestLine_0 (N : Nat) : Nat → List (Option Value) → List Value → ra_H → Option (Int32 × ra_H) := (ra_k1 2 (fun L S h => match L, S with
  | [some (.ref a0), some (.int a1), some (.int a2)], [] => nX3_lowestLine_2 N N a0 a1 a2 h
  | _, _ => none) ra_k0)
theorem kX3_lowestLine_0_ok (N : Nat) : ra_kok 1 mX3_lowestLine ra_oI (kX3_lowestLine_0 N) := (ra_k1_ok (by
  intro L S h a e
  split at e
  · exact ra_Ru.weak (nX3_lowestLine_2_ok N N _ _ _ _ _ e) ⟨rfl, ⟨rfl, ⟨rfl, trivial⟩⟩⟩
  · cases e) ra_k0_ok)
set_option maxRecDepth 100000 in
theorem nX3_lowestLine_0_ok (N : Nat) (a0 : Nat) (a1 : Int32) (h : ra_H) (r : (Int32 × ra_H)) (e : nX3_lowestLine_0 N a0 a1 h = some r) : ra_Ru 1 mX3_lowestLine 0 [some (.ref a0), some (.int a1), none] [] h (ra_oI r) :=
  ra_sound (by omega) rfl ra_rI_ok (kX3_lowestLine_0_ok N) (fun m av h h1 e => (ra_c0_ok (ro := ra_oV)) m av h h1 e) (fun m av h x h1 e => (ra_c0_ok (ro := ra_oI)) m av h (x, h1) e) (fun m av h x h1 e => (ra_c0_ok (ro := ra_oJ)) m av h (x, h1) e) (fun m av h x h1 e => (ra_c0_ok (ro := ra_oR)) m av h (x, h1) e) (fun m av h x h1 e => (ra_c0_ok (ro := ra_oN)) m av h (x, h1) e) (fun m av h x h1 e => (ra_c0_ok (ro := ra_oF)) m av h (x, h1) e) 3 lX3_lowestLine_0 _ _ _ _ lX3_lowestLine_0_ck (show ra_run ra_rI (kX3_lowestLine_0 N) ra_c0 ra_c0 ra_c0 ra_c0 ra_c0 ra_c0 3 lX3_lowestLine_0 [some (.ref a0), some (.int a1), none] [] h = some r from e) _ _ rfl
def fX3_lowestLine (N : Nat) (p0 : Nat) (p1 : Int32) (h : ra_H) : Option (Int32 × ra_H) := match ra_isOb h p0 3 with
  | true => nX3_lowestLine_0 N p0 p1 h
  | false => none
set_option maxRecDepth 100000 in
theorem mtX3_lowestLine : ra_MT[140]? = some (mX3_lowestLine, 1, 1, (1, 9), (5, 82), (0, 48)) := rfl
theorem fX3_lowestLine_co (N : Nat) (p0 : Nat) (p1 : Int32) (h : ra_H) (r : (Int32 × ra_H)) (e : fX3_lowestLine N p0 p1 h = some r) (D : Nat) (hD : 2 ≤ D) : ra_CO D 140 [.ref p0, .int p1] h (ra_oI r).1 (ra_oI r).2 := by
  have hw : ra_nw2 [.ref p0, .int p1] ≤ 3 := Nat.le_of_ble_eq_true rfl
  have hdb : ∀ v ∈ ([.ref p0, .int p1] : List Value), ∀ x, v ≠ .double x := by
    intro v hv x hx
    simp [hx] at hv
  unfold fX3_lowestLine at e
  split at e
  · rename_i ho
    have e1 := e
    exact ⟨1, _, mtX3_lowestLine, hD, ra_ev_of (by decide) hdb hw trivial (ra_Ru.weak (nX3_lowestLine_0_ok N p0 p1 h _ e1) ⟨rfl, ⟨rfl, trivial⟩⟩), (fun _ => ⟨_, _, rfl, ra_rcv_of ho (by decide) rfl⟩), (fun h => absurd h (by decide))⟩
  · cases e
/-! RedMarks$Matches.takeFirst()V -/
def mX3_takeFirst : ra_M := (yX3_takeFirst, cX3_takeFirst, 2, none)
def tIX3_takeFirst (N : Nat) : Nat → List Value → ra_H → Option (Int32 × ra_H) := (ra_c1 139 (fun av h => match av with
  | [.ref z0, .int z1, .int z2] => fX3_bestFor N z0 z1 z2 h
  | _ => none) (ra_c1 140 (fun av h => match av with
  | [.ref z0, .int z1] => fX3_lowestLine N z0 z1 h
  | _ => none) ra_c0))
theorem tIX3_takeFirst_ok (N : Nat) : ra_cok 2 ra_oI (tIX3_takeFirst N) := (ra_c1_ok (by
  intro av h a e
  split at e
  · exact fX3_bestFor_co N _ _ _ _ _ e 2 (by omega)
  · cases e) (ra_c1_ok (by
  intro av h a e
  split at e
  · exact fX3_lowestLine_co N _ _ _ _ e 2 (by omega)
  · cases e) ra_c0_ok))
def lX3_takeFirst_64 : List ra_I := [(64, .iinc 1 (1), 3, 1, 0, 0, (1), 0, []),
  (67, .goto (-60), 3, 7, 0, 0, 0, 0, [])]
set_option maxRecDepth 100000 in
theorem lX3_takeFirst_64_ck : lX3_takeFirst_64.all (ra_ck mX3_takeFirst 3) = true := by decide +kernel
def nX3_takeFirst_64 (N : Nat) (c7 : Nat → Int32 → ra_H → Option ra_H) (a0 : Nat) (a1 : Int32) (h : ra_H) : Option ra_H :=
  let y1 := a1 + (1 : Int32)
  c7 a0 y1 h
def kX3_takeFirst_64 (N : Nat) (c7 : Nat → Int32 → ra_H → Option ra_H) : Nat → List (Option Value) → List Value → ra_H → Option ra_H := (ra_k1 7 (fun L S h => match L, S with
  | [some (.ref a0), some (.int a1)], [] => c7 a0 a1 h
  | _, _ => none) ra_k0)
theorem kX3_takeFirst_64_ok (N : Nat) (c7 : Nat → Int32 → ra_H → Option ra_H) (hc7 : ∀ a0 a1 h r, c7 a0 a1 h = some r → ra_Ru 2 mX3_takeFirst 7 [some (.ref a0), some (.int a1)] [] h (ra_oV r)) : ra_kok 2 mX3_takeFirst ra_oV (kX3_takeFirst_64 N c7) := (ra_k1_ok (by
  intro L S h a e
  split at e
  · exact ra_Ru.weak (hc7 _ _ _ _ e) ⟨rfl, ⟨rfl, trivial⟩⟩
  · cases e) ra_k0_ok)
set_option maxRecDepth 100000 in
theorem nX3_takeFirst_64_ok (N : Nat) (c7 : Nat → Int32 → ra_H → Option ra_H) (hc7 : ∀ a0 a1 h r, c7 a0 a1 h = some r → ra_Ru 2 mX3_takeFirst 7 [some (.ref a0), some (.int a1)] [] h (ra_oV r)) (a0 : Nat) (a1 : Int32) (h : ra_H) (r : ra_H) (e : nX3_takeFirst_64 N c7 a0 a1 h = some r) : ra_Ru 2 mX3_takeFirst 64 [some (.ref a0), some (.int a1)] [] h (ra_oV r) :=
  ra_sound (by omega) rfl ra_rV_ok (kX3_takeFirst_64_ok N c7 hc7) (fun m av h h1 e => (ra_c0_ok (ro := ra_oV)) m av h h1 e) (fun m av h x h1 e => (tIX3_takeFirst_ok N) m av h (x, h1) e) (fun m av h x h1 e => (ra_c0_ok (ro := ra_oJ)) m av h (x, h1) e) (fun m av h x h1 e => (ra_c0_ok (ro := ra_oR)) m av h (x, h1) e) (fun m av h x h1 e => (ra_c0_ok (ro := ra_oN)) m av h (x, h1) e) (fun m av h x h1 e => (ra_c0_ok (ro := ra_oF)) m av h (x, h1) e) 3 lX3_takeFirst_64 _ _ _ _ lX3_takeFirst_64_ck (show ra_run ra_rV (kX3_takeFirst_64 N c7) ra_c0 (tIX3_takeFirst N) ra_c0 ra_c0 ra_c0 ra_c0 3 lX3_takeFirst_64 [some (.ref a0), some (.int a1)] [] h = some r from e) _ _ rfl
def lX3_takeFirst_7 : List ra_I := [(7, .iload_n 1, 1, 1, 0, 0, 0, 0, []),
  (8, .aload_n 0, 1, 0, 0, 0, 0, 0, []),
  (9, .getfield 57, 3, 3, 0, 2, 0, 0, []),
  (12, .getfield 88, 3, 2, 13, 0, 0, 0, []),
  (15, .if_icmp .ge (55), 3, 70, 0, 0, 0, 0, []),
  (18, .aload_n 0, 1, 0, 0, 0, 0, 0, []),
  (19, .getfield 51, 3, 3, 13, 2, 0, 0, []),
  (22, .iload_n 1, 1, 1, 0, 0, 0, 0, []),
  (23, .aload_n 0, 1, 0, 0, 0, 0, 0, []),
  (24, .aload_n 0, 1, 0, 0, 0, 0, 0, []),
  (25, .iload_n 1, 1, 1, 0, 0, 0, 0, []),
  (26, .aload_n 0, 1, 0, 0, 0, 0, 0, []),
  (27, .getfield 141, 3, 3, 15, 0, 0, 0, []),
  (30, .invokevirtual 144, 3, 139, 3, 1, 0, 0, []),
  (33, .invokevirtual 147, 3, 140, 2, 1, 0, 0, []),
  (36, .iastore, 1, 0, 0, 0, 0, 0, []),
  (37, .aload_n 0, 1, 0, 0, 0, 0, 0, []),
  (38, .getfield 51, 3, 3, 13, 2, 0, 0, []),
  (41, .iload_n 1, 1, 1, 0, 0, 0, 0, []),
  (42, .iaload, 1, 0, 0, 0, 0, 0, []),
  (43, .iconst (-1), 1, 0, 0, 0, (-1), 0, []),
  (44, .if_icmp .eq (20), 3, 64, 0, 0, 0, 0, []),
  (47, .aload_n 0, 1, 0, 0, 0, 0, 0, []),
  (48, .dup, 1, 0, 0, 0, 0, 0, []),
  (49, .getfield 141, 3, 3, 15, 0, 0, 0, []),
  (52, .iconst (1), 1, 0, 0, 0, (1), 0, []),
  (53, .aload_n 0, 1, 0, 0, 0, 0, 0, []),
  (54, .getfield 51, 3, 3, 13, 2, 0, 0, []),
  (57, .iload_n 1, 1, 1, 0, 0, 0, 0, []),
  (58, .iaload, 1, 0, 0, 0, 0, 0, []),
  (59, .ishl, 1, 0, 0, 0, 0, 0, []),
  (60, .ior, 1, 0, 0, 0, 0, 0, []),
  (61, .putfield 141, 3, 3, 15, 0, 0, 0, []),
  (70, .return_, 1, 0, 0, 0, 0, 0, [])]
set_option maxRecDepth 100000 in
theorem lX3_takeFirst_7_ck : lX3_takeFirst_7.all (ra_ck mX3_takeFirst 3) = true := by decide +kernel
def nX3_takeFirst_7 (N : Nat) : Nat → Nat → Int32 → ra_H → Option ra_H
  | 0, _, _, _ => none
  | n + 1, a0, a1, h =>
  (ra_fR h 3 a0 0).bind fun x1 =>
  (ra_fI h 2 x1 13).bind fun x2 =>
  if a1 < x2 then
    (ra_fR h 3 a0 13).bind fun x3 =>
    (ra_fI h 3 a0 15).bind fun x4 =>
    (fX3_bestFor N a0 a1 x4 h).bind fun q5 =>
    (fX3_lowestLine N a0 q5.1 q5.2).bind fun q6 =>
    (ra_aW q6.2 0 x3 a1 q6.1).bind fun h7 =>
    (ra_fR h7 3 a0 13).bind fun x8 =>
    (ra_aI h7 0 x8 a1).bind fun x9 =>
    if x9 = ((-1 : Int32)) then
      nX3_takeFirst_64 N (nX3_takeFirst_7 N n) a0 a1 h7
    else
      (ra_fI h7 3 a0 15).bind fun x10 =>
      (ra_fR h7 3 a0 13).bind fun x11 =>
      (ra_aI h7 0 x11 a1).bind fun x12 =>
      (ra_fW h7 3 a0 15 (.int (x10 ||| (((1 : Int32)) <<< (x12 &&& 31))))).bind fun h13 =>
      nX3_takeFirst_64 N (nX3_takeFirst_7 N n) a0 a1 h13
  else
    some h
def kX3_takeFirst_7 (N : Nat) (cs : Nat → Int32 → ra_H → Option ra_H) : Nat → List (Option Value) → List Value → ra_H → Option ra_H := (ra_k1 64 (fun L S h => match L, S with
  | [some (.ref a0), some (.int a1)], [] => nX3_takeFirst_64 N cs a0 a1 h
  | _, _ => none) ra_k0)
theorem kX3_takeFirst_7_ok (N : Nat) (cs : Nat → Int32 → ra_H → Option ra_H) (hcs : ∀ a0 a1 h r, cs a0 a1 h = some r → ra_Ru 2 mX3_takeFirst 7 [some (.ref a0), some (.int a1)] [] h (ra_oV r)) : ra_kok 2 mX3_takeFirst ra_oV (kX3_takeFirst_7 N cs) := (ra_k1_ok (by
  intro L S h a e
  split at e
  · exact ra_Ru.weak (nX3_takeFirst_64_ok N cs hcs _ _ _ _ e) ⟨rfl, ⟨rfl, trivial⟩⟩
  · cases e) ra_k0_ok)
set_option maxRecDepth 100000 in
theorem nX3_takeFirst_7_ok (N : Nat) : ∀ n a0 a1 h r, nX3_takeFirst_7 N n a0 a1 h = some r → ra_Ru 2 mX3_takeFirst 7 [some (.ref a0), some (.int a1)] [] h (ra_oV r) := by
  intro n
  induction n with
  | zero => intro a0 a1 h r e; cases e
  | succ n ih =>
    intro a0 a1 h r e
    exact ra_sound (by omega) rfl ra_rV_ok (kX3_takeFirst_7_ok N (nX3_takeFirst_7 N n) ih) (fun m av h h1 e => (ra_c0_ok (ro := ra_oV)) m av h h1 e) (fun m av h x h1 e => (tIX3_takeFirst_ok N) m av h (x, h1) e) (fun m av h x h1 e => (ra_c0_ok (ro := ra_oJ)) m av h (x, h1) e) (fun m av h x h1 e => (ra_c0_ok (ro := ra_oR)) m av h (x, h1) e) (fun m av h x h1 e => (ra_c0_ok (ro := ra_oN)) m av h (x, h1) e) (fun m av h x h1 e => (ra_c0_ok (ro := ra_oF)) m av h (x, h1) e) 35 lX3_takeFirst_7 _ _ _ _ lX3_takeFirst_7_ck (show ra_run ra_rV (kX3_takeFirst_7 N (nX3_takeFirst_7 N n)) ra_c0 (tIX3_takeFirst N) ra_c0 ra_c0 ra_c0 ra_c0 35 lX3_takeFirst_7 [some (.ref a0), some (.int a1)] [] h = some r from e) _ _ rfl
def lX3_takeFirst_0 : List ra_I := [(0, .aload_n 0, 1, 0, 0, 0, 0, 0, []),
  (1, .iconst (0), 1, 0, 0, 0, (0), 0, []),
  (2, .putfield 141, 3, 3, 15, 0, 0, 0, []),
  (5, .iconst (0), 1, 0, 0, 0, (0), 0, []),
  (6, .istore_n 1, 1, 1, 0, 0, 0, 0, [])]
set_option maxRecDepth 100000 in
theorem lX3_takeFirst_0_ck : lX3_takeFirst_0.all (ra_ck mX3_takeFirst 3) = true := by decide +kernel
def nX3_takeFirst_0 (N : Nat) (a0 : Nat) (h : ra_H) : Option ra_H :=
  (ra_fW h 3 a0 15 (.int ((0 : Int32)))).bind fun h1 =>
  nX3_takeFirst_7 N N a0 ((0 : Int32)) h1
def kX3_takeFirst_0 (N : Nat) : Nat → List (Option Value) → List Value → ra_H → Option ra_H := (ra_k1 7 (fun L S h => match L, S with
  | [some (.ref a0), some (.int a1)], [] => nX3_takeFirst_7 N N a0 a1 h
  | _, _ => none) ra_k0)
theorem kX3_takeFirst_0_ok (N : Nat) : ra_kok 2 mX3_takeFirst ra_oV (kX3_takeFirst_0 N) := (ra_k1_ok (by
  intro L S h a e
  split at e
  · exact ra_Ru.weak (nX3_takeFirst_7_ok N N _ _ _ _ e) ⟨rfl, ⟨rfl, trivial⟩⟩
  · cases e) ra_k0_ok)
set_option maxRecDepth 100000 in
theorem nX3_takeFirst_0_ok (N : Nat) (a0 : Nat) (h : ra_H) (r : ra_H) (e : nX3_takeFirst_0 N a0 h = some r) : ra_Ru 2 mX3_takeFirst 0 [some (.ref a0), none] [] h (ra_oV r) :=
  ra_sound (by omega) rfl ra_rV_ok (kX3_takeFirst_0_ok N) (fun m av h h1 e => (ra_c0_ok (ro := ra_oV)) m av h h1 e) (fun m av h x h1 e => (tIX3_takeFirst_ok N) m av h (x, h1) e) (fun m av h x h1 e => (ra_c0_ok (ro := ra_oJ)) m av h (x, h1) e) (fun m av h x h1 e => (ra_c0_ok (ro := ra_oR)) m av h (x, h1) e) (fun m av h x h1 e => (ra_c0_ok (ro := ra_oN)) m av h (x, h1) e) (fun m av h x h1 e => (ra_c0_ok (ro := ra_oF)) m av h (x, h1) e) 6 lX3_takeFirst_0 _ _ _ _ lX3_takeFirst_0_ck (show ra_run ra_rV (kX3_takeFirst_0 N) ra_c0 (tIX3_takeFirst N) ra_c0 ra_c0 ra_c0 ra_c0 6 lX3_takeFirst_0 [some (.ref a0), none] [] h = some r from e) _ _ rfl
def fX3_takeFirst (N : Nat) (p0 : Nat) (h : ra_H) : Option ra_H := match ra_isOb h p0 3 with
  | true => nX3_takeFirst_0 N p0 h
  | false => none
set_option maxRecDepth 100000 in
theorem mtX3_takeFirst : ra_MT[138]? = some (mX3_takeFirst, 1, 0, (1, 9), (5, 74), (0, 46)) := rfl
theorem fX3_takeFirst_co (N : Nat) (p0 : Nat) (h : ra_H) (r : ra_H) (e : fX3_takeFirst N p0 h = some r) (D : Nat) (hD : 3 ≤ D) : ra_CO D 138 [.ref p0] h (ra_oV r).1 (ra_oV r).2 := by
  have hw : ra_nw2 [.ref p0] ≤ 2 := Nat.le_of_ble_eq_true rfl
  have hdb : ∀ v ∈ ([.ref p0] : List Value), ∀ x, v ≠ .double x := by
    intro v hv x hx
    simp [hx] at hv
  unfold fX3_takeFirst at e
  split at e
  · rename_i ho
    have e1 := e
    exact ⟨2, _, mtX3_takeFirst, hD, ra_ev_of (by decide) hdb hw trivial (ra_Ru.weak (nX3_takeFirst_0_ok N p0 h _ e1) ⟨rfl, trivial⟩), (fun _ => ⟨_, _, rfl, ra_rcv_of ho (by decide) rfl⟩), (fun h => absurd h (by decide))⟩
  · cases e
/-! RedMarks$Matches.listUsable(I)I -/
def mX3_listUsable : ra_M := (yX3_listUsable, cX3_listUsable, 4, (some .int))
def tIX3_listUsable (N : Nat) : Nat → List Value → ra_H → Option (Int32 × ra_H) := (ra_c1 129 (fun av h => match av with
  | [.ref z0, .int z1, .int z2] => fX10_agreementOf N z0 z1 z2 h
  | _ => none) ra_c0)
theorem tIX3_listUsable_ok (N : Nat) : ra_cok 2 ra_oI (tIX3_listUsable N) := (ra_c1_ok (by
  intro av h a e
  split at e
  · exact fX10_agreementOf_co N _ _ _ _ _ e 2 (by omega)
  · cases e) ra_c0_ok)
def lX3_listUsable_55 : List ra_I := [(55, .iinc 3 (1), 3, 3, 0, 0, (1), 0, []),
  (58, .goto (-54), 3, 4, 0, 0, 0, 0, [])]
set_option maxRecDepth 100000 in
theorem lX3_listUsable_55_ck : lX3_listUsable_55.all (ra_ck mX3_listUsable 3) = true := by decide +kernel
def nX3_listUsable_55 (N : Nat) (c4 : Nat → Int32 → Int32 → Int32 → ra_H → Option (Int32 × ra_H)) (a0 : Nat) (a1 : Int32) (a2 : Int32) (a3 : Int32) (h : ra_H) : Option (Int32 × ra_H) :=
  let y1 := a3 + (1 : Int32)
  c4 a0 a1 a2 y1 h
def kX3_listUsable_55 (N : Nat) (c4 : Nat → Int32 → Int32 → Int32 → ra_H → Option (Int32 × ra_H)) : Nat → List (Option Value) → List Value → ra_H → Option (Int32 × ra_H) := (ra_k1 4 (fun L S h => match L, S with
  | [some (.ref a0), some (.int a1), some (.int a2), some (.int a3)], [] => c4 a0 a1 a2 a3 h
  | _, _ => none) ra_k0)
theorem kX3_listUsable_55_ok (N : Nat) (c4 : Nat → Int32 → Int32 → Int32 → ra_H → Option (Int32 × ra_H)) (hc4 : ∀ a0 a1 a2 a3 h r, c4 a0 a1 a2 a3 h = some r → ra_Ru 2 mX3_listUsable 4 [some (.ref a0), some (.int a1), some (.int a2), some (.int a3)] [] h (ra_oI r)) : ra_kok 2 mX3_listUsable ra_oI (kX3_listUsable_55 N c4) := (ra_k1_ok (by
  intro L S h a e
  split at e
  · exact ra_Ru.weak (hc4 _ _ _ _ _ _ e) ⟨rfl, ⟨rfl, ⟨rfl, ⟨rfl, trivial⟩⟩⟩⟩
  · cases e) ra_k0_ok)
set_option maxRecDepth 100000 in
theorem nX3_listUsable_55_ok (N : Nat) (c4 : Nat → Int32 → Int32 → Int32 → ra_H → Option (Int32 × ra_H)) (hc4 : ∀ a0 a1 a2 a3 h r, c4 a0 a1 a2 a3 h = some r → ra_Ru 2 mX3_listUsable 4 [some (.ref a0), some (.int a1), some (.int a2), some (.int a3)] [] h (ra_oI r)) (a0 : Nat) (a1 : Int32) (a2 : Int32) (a3 : Int32) (h : ra_H) (r : (Int32 × ra_H)) (e : nX3_listUsable_55 N c4 a0 a1 a2 a3 h = some r) : ra_Ru 2 mX3_listUsable 55 [some (.ref a0), some (.int a1), some (.int a2), some (.int a3)] [] h (ra_oI r) :=
  ra_sound (by omega) rfl ra_rI_ok (kX3_listUsable_55_ok N c4 hc4) (fun m av h h1 e => (ra_c0_ok (ro := ra_oV)) m av h h1 e) (fun m av h x h1 e => (tIX3_listUsable_ok N) m av h (x, h1) e) (fun m av h x h1 e => (ra_c0_ok (ro := ra_oJ)) m av h (x, h1) e) (fun m av h x h1 e => (ra_c0_ok (ro := ra_oR)) m av h (x, h1) e) (fun m av h x h1 e => (ra_c0_ok (ro := ra_oN)) m av h (x, h1) e) (fun m av h x h1 e => (ra_c0_ok (ro := ra_oF)) m av h (x, h1) e) 3 lX3_listUsable_55 _ _ _ _ lX3_listUsable_55_ck (show ra_run ra_rI (kX3_listUsable_55 N c4) ra_c0 (tIX3_listUsable N) ra_c0 ra_c0 ra_c0 ra_c0 3 lX3_listUsable_55 [some (.ref a0), some (.int a1), some (.int a2), some (.int a3)] [] h = some r from e) _ _ rfl
def lX3_listUsable_4 : List ra_I := [(4, .iload_n 3, 1, 3, 0, 0, 0, 0, []),
  (5, .aload_n 0, 1, 0, 0, 0, 0, 0, []),
  (6, .getfield 57, 3, 3, 0, 2, 0, 0, []),
  (9, .getfield 65, 3, 2, 15, 0, 0, 0, []),
  (12, .if_icmp .ge (49), 3, 61, 0, 0, 0, 0, []),
  (15, .aload_n 0, 1, 0, 0, 0, 0, 0, []),
  (16, .getfield 18, 3, 3, 2, 2, 0, 0, []),
  (19, .iload_n 1, 1, 1, 0, 0, 0, 0, []),
  (20, .iaload, 1, 0, 0, 0, 0, 0, []),
  (21, .iconst (1), 1, 0, 0, 0, (1), 0, []),
  (22, .iload_n 3, 1, 3, 0, 0, 0, 0, []),
  (23, .ishl, 1, 0, 0, 0, 0, 0, []),
  (24, .iand, 1, 0, 0, 0, 0, 0, []),
  (25, .ifCond .eq (30), 3, 55, 0, 0, 0, 0, []),
  (28, .aload_n 0, 1, 0, 0, 0, 0, 0, []),
  (29, .getfield 28, 3, 3, 5, 2, 0, 0, []),
  (32, .iload_n 2, 1, 2, 0, 0, 0, 0, []),
  (33, .iconst (1), 1, 0, 0, 0, (1), 0, []),
  (34, .iload_n 3, 1, 3, 0, 0, 0, 0, []),
  (35, .ishl, 1, 0, 0, 0, 0, 0, []),
  (36, .iastore, 1, 0, 0, 0, 0, 0, []),
  (37, .aload_n 0, 1, 0, 0, 0, 0, 0, []),
  (38, .getfield 31, 3, 3, 6, 2, 0, 0, []),
  (41, .iload_n 2, 1, 2, 0, 0, 0, 0, []),
  (42, .aload_n 0, 1, 0, 0, 0, 0, 0, []),
  (43, .getfield 12, 3, 3, 1, 2, 0, 0, []),
  (46, .iload_n 3, 1, 3, 0, 0, 0, 0, []),
  (47, .iload_n 1, 1, 1, 0, 0, 0, 0, []),
  (48, .invokevirtual 130, 3, 129, 3, 1, 0, 0, []),
  (51, .iastore, 1, 0, 0, 0, 0, 0, []),
  (52, .iinc 2 (1), 3, 2, 0, 0, (1), 0, []),
  (61, .iload_n 2, 1, 2, 0, 0, 0, 0, []),
  (62, .ireturn, 1, 0, 0, 0, 0, 0, [])]
set_option maxRecDepth 100000 in
theorem lX3_listUsable_4_ck : lX3_listUsable_4.all (ra_ck mX3_listUsable 3) = true := by decide +kernel
def nX3_listUsable_4 (N : Nat) : Nat → Nat → Int32 → Int32 → Int32 → ra_H → Option (Int32 × ra_H)
  | 0, _, _, _, _, _ => none
  | n + 1, a0, a1, a2, a3, h =>
  (ra_fR h 3 a0 0).bind fun x1 =>
  (ra_fI h 2 x1 15).bind fun x2 =>
  if a3 < x2 then
    (ra_fR h 3 a0 2).bind fun x3 =>
    (ra_aI h 0 x3 a1).bind fun x4 =>
    if (x4 &&& (((1 : Int32)) <<< (a3 &&& 31))) = 0 then
      nX3_listUsable_55 N (nX3_listUsable_4 N n) a0 a1 a2 a3 h
    else
      (ra_fR h 3 a0 5).bind fun x5 =>
      (ra_aW h 0 x5 a2 (((1 : Int32)) <<< (a3 &&& 31))).bind fun h6 =>
      (ra_fR h6 3 a0 6).bind fun x7 =>
      (ra_fR h6 3 a0 1).bind fun x8 =>
      (fX10_agreementOf N x8 a3 a1 h6).bind fun q9 =>
      (ra_aW q9.2 0 x7 a2 q9.1).bind fun h10 =>
      let y11 := a2 + (1 : Int32)
      nX3_listUsable_55 N (nX3_listUsable_4 N n) a0 a1 y11 a3 h10
  else
    some (a2, h)
def kX3_listUsable_4 (N : Nat) (cs : Nat → Int32 → Int32 → Int32 → ra_H → Option (Int32 × ra_H)) : Nat → List (Option Value) → List Value → ra_H → Option (Int32 × ra_H) := (ra_k1 55 (fun L S h => match L, S with
  | [some (.ref a0), some (.int a1), some (.int a2), some (.int a3)], [] => nX3_listUsable_55 N cs a0 a1 a2 a3 h
  | _, _ => none) ra_k0)
theorem kX3_listUsable_4_ok (N : Nat) (cs : Nat → Int32 → Int32 → Int32 → ra_H → Option (Int32 × ra_H)) (hcs : ∀ a0 a1 a2 a3 h r, cs a0 a1 a2 a3 h = some r → ra_Ru 2 mX3_listUsable 4 [some (.ref a0), some (.int a1), some (.int a2), some (.int a3)] [] h (ra_oI r)) : ra_kok 2 mX3_listUsable ra_oI (kX3_listUsable_4 N cs) := (ra_k1_ok (by
  intro L S h a e
  split at e
  · exact ra_Ru.weak (nX3_listUsable_55_ok N cs hcs _ _ _ _ _ _ e) ⟨rfl, ⟨rfl, ⟨rfl, ⟨rfl, trivial⟩⟩⟩⟩
  · cases e) ra_k0_ok)
set_option maxRecDepth 100000 in
theorem nX3_listUsable_4_ok (N : Nat) : ∀ n a0 a1 a2 a3 h r, nX3_listUsable_4 N n a0 a1 a2 a3 h = some r → ra_Ru 2 mX3_listUsable 4 [some (.ref a0), some (.int a1), some (.int a2), some (.int a3)] [] h (ra_oI r) := by
  intro n
  induction n with
  | zero => intro a0 a1 a2 a3 h r e; cases e
  | succ n ih =>
    intro a0 a1 a2 a3 h r e
    exact ra_sound (by omega) rfl ra_rI_ok (kX3_listUsable_4_ok N (nX3_listUsable_4 N n) ih) (fun m av h h1 e => (ra_c0_ok (ro := ra_oV)) m av h h1 e) (fun m av h x h1 e => (tIX3_listUsable_ok N) m av h (x, h1) e) (fun m av h x h1 e => (ra_c0_ok (ro := ra_oJ)) m av h (x, h1) e) (fun m av h x h1 e => (ra_c0_ok (ro := ra_oR)) m av h (x, h1) e) (fun m av h x h1 e => (ra_c0_ok (ro := ra_oN)) m av h (x, h1) e) (fun m av h x h1 e => (ra_c0_ok (ro := ra_oF)) m av h (x, h1) e) 34 lX3_listUsable_4 _ _ _ _ lX3_listUsable_4_ck (show ra_run ra_rI (kX3_listUsable_4 N (nX3_listUsable_4 N n)) ra_c0 (tIX3_listUsable N) ra_c0 ra_c0 ra_c0 ra_c0 34 lX3_listUsable_4 [some (.ref a0), some (.int a1), some (.int a2), some (.int a3)] [] h = some r from e) _ _ rfl
def lX3_listUsable_0 : List ra_I := [(0, .iconst (0), 1, 0, 0, 0, (0), 0, []),
  (1, .istore_n 2, 1, 2, 0, 0, 0, 0, []),
  (2, .iconst (0), 1, 0, 0, 0, (0), 0, []),
  (3, .istore_n 3, 1, 3, 0, 0, 0, 0, [])]
set_option maxRecDepth 100000 in
theorem lX3_listUsable_0_ck : lX3_listUsable_0.all (ra_ck mX3_listUsable 3) = true := by decide +kernel
def nX3_listUsable_0 (N : Nat) (a0 : Nat) (a1 : Int32) (h : ra_H) : Option (Int32 × ra_H) :=
  nX3_listUsable_4 N N a0 a1 ((0 : Int32)) ((0 : Int32)) h
def kX3_listUsable_0 (N : Nat) : Nat → List (Option Value) → List Value → ra_H → Option (Int32 × ra_H) := (ra_k1 4 (fun L S h => match L, S with
  | [some (.ref a0), some (.int a1), some (.int a2), some (.int a3)], [] => nX3_listUsable_4 N N a0 a1 a2 a3 h
  | _, _ => none) ra_k0)
theorem kX3_listUsable_0_ok (N : Nat) : ra_kok 2 mX3_listUsable ra_oI (kX3_listUsable_0 N) := (ra_k1_ok (by
  intro L S h a e
  split at e
  · exact ra_Ru.weak (nX3_listUsable_4_ok N N _ _ _ _ _ _ e) ⟨rfl, ⟨rfl, ⟨rfl, ⟨rfl, trivial⟩⟩⟩⟩
  · cases e) ra_k0_ok)
set_option maxRecDepth 100000 in
theorem nX3_listUsable_0_ok (N : Nat) (a0 : Nat) (a1 : Int32) (h : ra_H) (r : (Int32 × ra_H)) (e : nX3_listUsable_0 N a0 a1 h = some r) : ra_Ru 2 mX3_listUsable 0 [some (.ref a0), some (.int a1), none, none] [] h (ra_oI r) :=
  ra_sound (by omega) rfl ra_rI_ok (kX3_listUsable_0_ok N) (fun m av h h1 e => (ra_c0_ok (ro := ra_oV)) m av h h1 e) (fun m av h x h1 e => (tIX3_listUsable_ok N) m av h (x, h1) e) (fun m av h x h1 e => (ra_c0_ok (ro := ra_oJ)) m av h (x, h1) e) (fun m av h x h1 e => (ra_c0_ok (ro := ra_oR)) m av h (x, h1) e) (fun m av h x h1 e => (ra_c0_ok (ro := ra_oN)) m av h (x, h1) e) (fun m av h x h1 e => (ra_c0_ok (ro := ra_oF)) m av h (x, h1) e) 5 lX3_listUsable_0 _ _ _ _ lX3_listUsable_0_ck (show ra_run ra_rI (kX3_listUsable_0 N) ra_c0 (tIX3_listUsable N) ra_c0 ra_c0 ra_c0 ra_c0 5 lX3_listUsable_0 [some (.ref a0), some (.int a1), none, none] [] h = some r from e) _ _ rfl
def fX3_listUsable (N : Nat) (p0 : Nat) (p1 : Int32) (h : ra_H) : Option (Int32 × ra_H) := match ra_isOb h p0 3 with
  | true => nX3_listUsable_0 N p0 p1 h
  | false => none
set_option maxRecDepth 100000 in
theorem mtX3_listUsable : ra_MT[136]? = some (mX3_listUsable, 1, 1, (1, 9), (5, 62), (0, 44)) := rfl
theorem fX3_listUsable_co (N : Nat) (p0 : Nat) (p1 : Int32) (h : ra_H) (r : (Int32 × ra_H)) (e : fX3_listUsable N p0 p1 h = some r) (D : Nat) (hD : 3 ≤ D) : ra_CO D 136 [.ref p0, .int p1] h (ra_oI r).1 (ra_oI r).2 := by
  have hw : ra_nw2 [.ref p0, .int p1] ≤ 4 := Nat.le_of_ble_eq_true rfl
  have hdb : ∀ v ∈ ([.ref p0, .int p1] : List Value), ∀ x, v ≠ .double x := by
    intro v hv x hx
    simp [hx] at hv
  unfold fX3_listUsable at e
  split at e
  · rename_i ho
    have e1 := e
    exact ⟨2, _, mtX3_listUsable, hD, ra_ev_of (by decide) hdb hw trivial (ra_Ru.weak (nX3_listUsable_0_ok N p0 p1 h _ e1) ⟨rfl, ⟨rfl, trivial⟩⟩), (fun _ => ⟨_, _, rfl, ra_rcv_of ho (by decide) rfl⟩), (fun h => absurd h (by decide))⟩
  · cases e
/-! RedMarks$Matches.weighSet(III)I -/
def mX3_weighSet : ra_M := (yX3_weighSet, cX3_weighSet, 12, (some .int))
def lX3_weighSet_176 : List ra_I := [(176, .iinc 8 (1), 3, 8, 0, 0, (1), 0, []),
  (179, .goto (-113), 3, 66, 0, 0, 0, 0, [])]
set_option maxRecDepth 100000 in
theorem lX3_weighSet_176_ck : lX3_weighSet_176.all (ra_ck mX3_weighSet 3) = true := by decide +kernel
def nX3_weighSet_176 (N : Nat) (c66 : Nat → Int32 → Int32 → Int32 → Int32 → Int32 → Int32 → Int32 → ra_H → Option (Int32 × ra_H)) (a0 : Nat) (a1 : Int32) (a2 : Int32) (a3 : Int32) (a5 : Int32) (a6 : Int32) (a7 : Int32) (a8 : Int32) (h : ra_H) : Option (Int32 × ra_H) :=
  let y1 := a8 + (1 : Int32)
  c66 a0 a1 a2 a3 a5 a6 a7 y1 h
def kX3_weighSet_176 (N : Nat) (c66 : Nat → Int32 → Int32 → Int32 → Int32 → Int32 → Int32 → Int32 → ra_H → Option (Int32 × ra_H)) : Nat → List (Option Value) → List Value → ra_H → Option (Int32 × ra_H) := (ra_k1 66 (fun L S h => match L, S with
  | [some (.ref a0), some (.int a1), some (.int a2), some (.int a3), _, some (.int a5), some (.int a6), some (.int a7), some (.int a8), _, _, _], [] => c66 a0 a1 a2 a3 a5 a6 a7 a8 h
  | _, _ => none) ra_k0)
theorem kX3_weighSet_176_ok (N : Nat) (c66 : Nat → Int32 → Int32 → Int32 → Int32 → Int32 → Int32 → Int32 → ra_H → Option (Int32 × ra_H)) (hc66 : ∀ a0 a1 a2 a3 a5 a6 a7 a8 h r, c66 a0 a1 a2 a3 a5 a6 a7 a8 h = some r → ra_Ru 1 mX3_weighSet 66 [some (.ref a0), some (.int a1), some (.int a2), some (.int a3), none, some (.int a5), some (.int a6), some (.int a7), some (.int a8), none, none, none] [] h (ra_oI r)) : ra_kok 1 mX3_weighSet ra_oI (kX3_weighSet_176 N c66) := (ra_k1_ok (by
  intro L S h a e
  split at e
  · exact ra_Ru.weak (hc66 _ _ _ _ _ _ _ _ _ _ e) ⟨rfl, ⟨rfl, ⟨rfl, ⟨rfl, ⟨rfl, ⟨rfl, ⟨rfl, ⟨rfl, trivial⟩⟩⟩⟩⟩⟩⟩⟩
  · cases e) ra_k0_ok)
set_option maxRecDepth 100000 in
theorem nX3_weighSet_176_ok (N : Nat) (c66 : Nat → Int32 → Int32 → Int32 → Int32 → Int32 → Int32 → Int32 → ra_H → Option (Int32 × ra_H)) (hc66 : ∀ a0 a1 a2 a3 a5 a6 a7 a8 h r, c66 a0 a1 a2 a3 a5 a6 a7 a8 h = some r → ra_Ru 1 mX3_weighSet 66 [some (.ref a0), some (.int a1), some (.int a2), some (.int a3), none, some (.int a5), some (.int a6), some (.int a7), some (.int a8), none, none, none] [] h (ra_oI r)) (a0 : Nat) (a1 : Int32) (a2 : Int32) (a3 : Int32) (a5 : Int32) (a6 : Int32) (a7 : Int32) (a8 : Int32) (h : ra_H) (r : (Int32 × ra_H)) (e : nX3_weighSet_176 N c66 a0 a1 a2 a3 a5 a6 a7 a8 h = some r) : ra_Ru 1 mX3_weighSet 176 [some (.ref a0), some (.int a1), some (.int a2), some (.int a3), none, some (.int a5), some (.int a6), some (.int a7), some (.int a8), none, none, none] [] h (ra_oI r) :=
  ra_sound (by omega) rfl ra_rI_ok (kX3_weighSet_176_ok N c66 hc66) (fun m av h h1 e => (ra_c0_ok (ro := ra_oV)) m av h h1 e) (fun m av h x h1 e => (ra_c0_ok (ro := ra_oI)) m av h (x, h1) e) (fun m av h x h1 e => (ra_c0_ok (ro := ra_oJ)) m av h (x, h1) e) (fun m av h x h1 e => (ra_c0_ok (ro := ra_oR)) m av h (x, h1) e) (fun m av h x h1 e => (ra_c0_ok (ro := ra_oN)) m av h (x, h1) e) (fun m av h x h1 e => (ra_c0_ok (ro := ra_oF)) m av h (x, h1) e) 3 lX3_weighSet_176 _ _ _ _ lX3_weighSet_176_ck (show ra_run ra_rI (kX3_weighSet_176 N c66) ra_c0 ra_c0 ra_c0 ra_c0 ra_c0 ra_c0 3 lX3_weighSet_176 [some (.ref a0), some (.int a1), some (.int a2), some (.int a3), none, some (.int a5), some (.int a6), some (.int a7), some (.int a8), none, none, none] [] h = some r from e) _ _ rfl
def lX3_weighSet_66 : List ra_I := [(66, .iload 8, 2, 8, 0, 0, 0, 0, []),
  (68, .iload_n 2, 1, 2, 0, 0, 0, 0, []),
  (69, .if_icmp .ge (113), 3, 182, 0, 0, 0, 0, []),
  (72, .aload_n 0, 1, 0, 0, 0, 0, 0, []),
  (73, .getfield 28, 3, 3, 5, 2, 0, 0, []),
  (76, .iload 8, 2, 8, 0, 0, 0, 0, []),
  (78, .iaload, 1, 0, 0, 0, 0, 0, []),
  (79, .istore 9, 2, 9, 0, 0, 0, 0, []),
  (81, .iload_n 1, 1, 1, 0, 0, 0, 0, []),
  (82, .iload 9, 2, 9, 0, 0, 0, 0, []),
  (84, .ior, 1, 0, 0, 0, 0, 0, []),
  (85, .istore 10, 2, 10, 0, 0, 0, 0, []),
  (87, .iload 10, 2, 10, 0, 0, 0, 0, []),
  (89, .iload_n 1, 1, 1, 0, 0, 0, 0, []),
  (90, .if_icmp .eq (86), 3, 176, 0, 0, 0, 0, []),
  (93, .iload 10, 2, 10, 0, 0, 0, 0, []),
  (95, .iload_n 3, 1, 3, 0, 0, 0, 0, []),
  (96, .iand, 1, 0, 0, 0, 0, 0, []),
  (97, .iload_n 3, 1, 3, 0, 0, 0, 0, []),
  (98, .if_icmp .ne (78), 3, 176, 0, 0, 0, 0, []),
  (101, .aload_n 0, 1, 0, 0, 0, 0, 0, []),
  (102, .getfield 31, 3, 3, 6, 2, 0, 0, []),
  (105, .iload 8, 2, 8, 0, 0, 0, 0, []),
  (107, .iaload, 1, 0, 0, 0, 0, 0, []),
  (108, .aload_n 0, 1, 0, 0, 0, 0, 0, []),
  (109, .getfield 37, 3, 3, 8, 2, 0, 0, []),
  (112, .iload 10, 2, 10, 0, 0, 0, 0, []),
  (114, .iaload, 1, 0, 0, 0, 0, 0, []),
  (115, .iadd, 1, 0, 0, 0, 0, 0, []),
  (116, .istore 11, 2, 11, 0, 0, 0, 0, []),
  (118, .iload 11, 2, 11, 0, 0, 0, 0, []),
  (120, .iload 5, 2, 5, 0, 0, 0, 0, []),
  (122, .if_icmp .le (23), 3, 145, 0, 0, 0, 0, []),
  (125, .iload 11, 2, 11, 0, 0, 0, 0, []),
  (127, .istore 5, 2, 5, 0, 0, 0, 0, []),
  (129, .aload_n 0, 1, 0, 0, 0, 0, 0, []),
  (130, .getfield 40, 3, 3, 9, 2, 0, 0, []),
  (133, .iload 10, 2, 10, 0, 0, 0, 0, []),
  (135, .iaload, 1, 0, 0, 0, 0, 0, []),
  (136, .istore 6, 2, 6, 0, 0, 0, 0, []),
  (138, .iload 9, 2, 9, 0, 0, 0, 0, []),
  (140, .istore 7, 2, 7, 0, 0, 0, 0, []),
  (142, .goto (34), 3, 176, 0, 0, 0, 0, []),
  (145, .iload 11, 2, 11, 0, 0, 0, 0, []),
  (147, .iload 5, 2, 5, 0, 0, 0, 0, []),
  (149, .if_icmp .ne (27), 3, 176, 0, 0, 0, 0, []),
  (152, .iload 6, 2, 6, 0, 0, 0, 0, []),
  (154, .aload_n 0, 1, 0, 0, 0, 0, 0, []),
  (155, .getfield 40, 3, 3, 9, 2, 0, 0, []),
  (158, .iload 10, 2, 10, 0, 0, 0, 0, []),
  (160, .iaload, 1, 0, 0, 0, 0, 0, []),
  (161, .iadd, 1, 0, 0, 0, 0, 0, []),
  (162, .ldc 135, 2, 0, 0, 0, (1000000000), 0, []),
  (164, .invokestatic 136, 3, 46, 0, 21, 0, 0, []),
  (167, .istore 6, 2, 6, 0, 0, 0, 0, []),
  (169, .iload 7, 2, 7, 0, 0, 0, 0, []),
  (171, .iload 9, 2, 9, 0, 0, 0, 0, []),
  (173, .ior, 1, 0, 0, 0, 0, 0, []),
  (174, .istore 7, 2, 7, 0, 0, 0, 0, []),
  (182, .aload_n 0, 1, 0, 0, 0, 0, 0, []),
  (183, .getfield 37, 3, 3, 8, 2, 0, 0, []),
  (186, .iload_n 1, 1, 1, 0, 0, 0, 0, []),
  (187, .iload 5, 2, 5, 0, 0, 0, 0, []),
  (189, .iastore, 1, 0, 0, 0, 0, 0, []),
  (190, .aload_n 0, 1, 0, 0, 0, 0, 0, []),
  (191, .getfield 40, 3, 3, 9, 2, 0, 0, []),
  (194, .iload_n 1, 1, 1, 0, 0, 0, 0, []),
  (195, .iload 6, 2, 6, 0, 0, 0, 0, []),
  (197, .iastore, 1, 0, 0, 0, 0, 0, []),
  (198, .iload 7, 2, 7, 0, 0, 0, 0, []),
  (200, .ireturn, 1, 0, 0, 0, 0, 0, [])]
set_option maxRecDepth 100000 in
theorem lX3_weighSet_66_ck : lX3_weighSet_66.all (ra_ck mX3_weighSet 3) = true := by decide +kernel
def nX3_weighSet_66 (N : Nat) : Nat → Nat → Int32 → Int32 → Int32 → Int32 → Int32 → Int32 → Int32 → ra_H → Option (Int32 × ra_H)
  | 0, _, _, _, _, _, _, _, _, _ => none
  | n + 1, a0, a1, a2, a3, a5, a6, a7, a8, h =>
  if a8 < a2 then
    (ra_fR h 3 a0 5).bind fun x5 =>
    (ra_aI h 0 x5 a8).bind fun x6 =>
    let y7 := a1 ||| x6
    if y7 = a1 then
      nX3_weighSet_176 N (nX3_weighSet_66 N n) a0 a1 a2 a3 a5 a6 a7 a8 h
    else
      if (y7 &&& a3) = a3 then
        (ra_fR h 3 a0 6).bind fun x8 =>
        (ra_aI h 0 x8 a8).bind fun x9 =>
        (ra_fR h 3 a0 8).bind fun x10 =>
        (ra_aI h 0 x10 y7).bind fun x11 =>
        let y12 := x9 + x11
        if y12 ≤ a5 then
          if y12 = a5 then
            (ra_fR h 3 a0 9).bind fun x13 =>
            (ra_aI h 0 x13 y7).bind fun x14 =>
            let y15 := if ((1000000000 : Int32)) < (a6 + x14) then ((1000000000 : Int32)) else (a6 + x14)
            let y16 := a7 ||| x6
            nX3_weighSet_176 N (nX3_weighSet_66 N n) a0 a1 a2 a3 a5 y15 y16 a8 h
          else
            nX3_weighSet_176 N (nX3_weighSet_66 N n) a0 a1 a2 a3 a5 a6 a7 a8 h
        else
          (ra_fR h 3 a0 9).bind fun x17 =>
          (ra_aI h 0 x17 y7).bind fun x18 =>
          nX3_weighSet_176 N (nX3_weighSet_66 N n) a0 a1 a2 a3 y12 x18 x6 a8 h
      else
        nX3_weighSet_176 N (nX3_weighSet_66 N n) a0 a1 a2 a3 a5 a6 a7 a8 h
  else
    (ra_fR h 3 a0 8).bind fun x1 =>
    (ra_aW h 0 x1 a1 a5).bind fun h2 =>
    (ra_fR h2 3 a0 9).bind fun x3 =>
    (ra_aW h2 0 x3 a1 a6).bind fun h4 =>
    some (a7, h4)
def kX3_weighSet_66 (N : Nat) (cs : Nat → Int32 → Int32 → Int32 → Int32 → Int32 → Int32 → Int32 → ra_H → Option (Int32 × ra_H)) : Nat → List (Option Value) → List Value → ra_H → Option (Int32 × ra_H) := (ra_k1 176 (fun L S h => match L, S with
  | [some (.ref a0), some (.int a1), some (.int a2), some (.int a3), _, some (.int a5), some (.int a6), some (.int a7), some (.int a8), _, _, _], [] => nX3_weighSet_176 N cs a0 a1 a2 a3 a5 a6 a7 a8 h
  | _, _ => none) ra_k0)
theorem kX3_weighSet_66_ok (N : Nat) (cs : Nat → Int32 → Int32 → Int32 → Int32 → Int32 → Int32 → Int32 → ra_H → Option (Int32 × ra_H)) (hcs : ∀ a0 a1 a2 a3 a5 a6 a7 a8 h r, cs a0 a1 a2 a3 a5 a6 a7 a8 h = some r → ra_Ru 1 mX3_weighSet 66 [some (.ref a0), some (.int a1), some (.int a2), some (.int a3), none, some (.int a5), some (.int a6), some (.int a7), some (.int a8), none, none, none] [] h (ra_oI r)) : ra_kok 1 mX3_weighSet ra_oI (kX3_weighSet_66 N cs) := (ra_k1_ok (by
  intro L S h a e
  split at e
  · exact ra_Ru.weak (nX3_weighSet_176_ok N cs hcs _ _ _ _ _ _ _ _ _ _ e) ⟨rfl, ⟨rfl, ⟨rfl, ⟨rfl, ⟨rfl, ⟨rfl, ⟨rfl, ⟨rfl, trivial⟩⟩⟩⟩⟩⟩⟩⟩
  · cases e) ra_k0_ok)
set_option maxRecDepth 100000 in
theorem nX3_weighSet_66_ok (N : Nat) : ∀ n a0 a1 a2 a3 a5 a6 a7 a8 h r, nX3_weighSet_66 N n a0 a1 a2 a3 a5 a6 a7 a8 h = some r → ra_Ru 1 mX3_weighSet 66 [some (.ref a0), some (.int a1), some (.int a2), some (.int a3), none, some (.int a5), some (.int a6), some (.int a7), some (.int a8), none, none, none] [] h (ra_oI r) := by
  intro n
  induction n with
  | zero => intro a0 a1 a2 a3 a5 a6 a7 a8 h r e; cases e
  | succ n ih =>
    intro a0 a1 a2 a3 a5 a6 a7 a8 h r e
    exact ra_sound (by omega) rfl ra_rI_ok (kX3_weighSet_66_ok N (nX3_weighSet_66 N n) ih) (fun m av h h1 e => (ra_c0_ok (ro := ra_oV)) m av h h1 e) (fun m av h x h1 e => (ra_c0_ok (ro := ra_oI)) m av h (x, h1) e) (fun m av h x h1 e => (ra_c0_ok (ro := ra_oJ)) m av h (x, h1) e) (fun m av h x h1 e => (ra_c0_ok (ro := ra_oR)) m av h (x, h1) e) (fun m av h x h1 e => (ra_c0_ok (ro := ra_oN)) m av h (x, h1) e) (fun m av h x h1 e => (ra_c0_ok (ro := ra_oF)) m av h (x, h1) e) 72 lX3_weighSet_66 _ _ _ _ lX3_weighSet_66_ck (show ra_run ra_rI (kX3_weighSet_66 N (nX3_weighSet_66 N n)) ra_c0 ra_c0 ra_c0 ra_c0 ra_c0 ra_c0 72 lX3_weighSet_66 [some (.ref a0), some (.int a1), some (.int a2), some (.int a3), none, some (.int a5), some (.int a6), some (.int a7), some (.int a8), none, none, none] [] h = some r from e) _ _ rfl
def lX3_weighSet_61 : List ra_I := [(61, .istore 7, 2, 7, 0, 0, 0, 0, []),
  (63, .iconst (0), 1, 0, 0, 0, (0), 0, []),
  (64, .istore 8, 2, 8, 0, 0, 0, 0, [])]
set_option maxRecDepth 100000 in
theorem lX3_weighSet_61_ck : lX3_weighSet_61.all (ra_ck mX3_weighSet 3) = true := by decide +kernel
def nX3_weighSet_61 (N : Nat) (a0 : Nat) (a1 : Int32) (a2 : Int32) (a3 : Int32) (a5 : Int32) (a6 : Int32) (b0 : Int32) (h : ra_H) : Option (Int32 × ra_H) :=
  nX3_weighSet_66 N N a0 a1 a2 a3 a5 a6 b0 ((0 : Int32)) h
def kX3_weighSet_61 (N : Nat) : Nat → List (Option Value) → List Value → ra_H → Option (Int32 × ra_H) := (ra_k1 66 (fun L S h => match L, S with
  | [some (.ref a0), some (.int a1), some (.int a2), some (.int a3), _, some (.int a5), some (.int a6), some (.int a7), some (.int a8), _, _, _], [] => nX3_weighSet_66 N N a0 a1 a2 a3 a5 a6 a7 a8 h
  | _, _ => none) ra_k0)
theorem kX3_weighSet_61_ok (N : Nat) : ra_kok 1 mX3_weighSet ra_oI (kX3_weighSet_61 N) := (ra_k1_ok (by
  intro L S h a e
  split at e
  · exact ra_Ru.weak (nX3_weighSet_66_ok N N _ _ _ _ _ _ _ _ _ _ e) ⟨rfl, ⟨rfl, ⟨rfl, ⟨rfl, ⟨rfl, ⟨rfl, ⟨rfl, ⟨rfl, trivial⟩⟩⟩⟩⟩⟩⟩⟩
  · cases e) ra_k0_ok)
set_option maxRecDepth 100000 in
theorem nX3_weighSet_61_ok (N : Nat) (a0 : Nat) (a1 : Int32) (a2 : Int32) (a3 : Int32) (a5 : Int32) (a6 : Int32) (b0 : Int32) (h : ra_H) (r : (Int32 × ra_H)) (e : nX3_weighSet_61 N a0 a1 a2 a3 a5 a6 b0 h = some r) : ra_Ru 1 mX3_weighSet 61 [some (.ref a0), some (.int a1), some (.int a2), some (.int a3), none, some (.int a5), some (.int a6), none, none, none, none, none] [.int b0] h (ra_oI r) :=
  ra_sound (by omega) rfl ra_rI_ok (kX3_weighSet_61_ok N) (fun m av h h1 e => (ra_c0_ok (ro := ra_oV)) m av h h1 e) (fun m av h x h1 e => (ra_c0_ok (ro := ra_oI)) m av h (x, h1) e) (fun m av h x h1 e => (ra_c0_ok (ro := ra_oJ)) m av h (x, h1) e) (fun m av h x h1 e => (ra_c0_ok (ro := ra_oR)) m av h (x, h1) e) (fun m av h x h1 e => (ra_c0_ok (ro := ra_oN)) m av h (x, h1) e) (fun m av h x h1 e => (ra_c0_ok (ro := ra_oF)) m av h (x, h1) e) 4 lX3_weighSet_61 _ _ _ _ lX3_weighSet_61_ck (show ra_run ra_rI (kX3_weighSet_61 N) ra_c0 ra_c0 ra_c0 ra_c0 ra_c0 ra_c0 4 lX3_weighSet_61 [some (.ref a0), some (.int a1), some (.int a2), some (.int a3), none, some (.int a5), some (.int a6), none, none, none, none, none] [.int b0] h = some r from e) _ _ rfl
def lX3_weighSet_47 : List ra_I := [(47, .istore 6, 2, 6, 0, 0, 0, 0, []),
  (49, .iload 4, 2, 4, 0, 0, 0, 0, []),
  (51, .ifCond .eq (9), 3, 60, 0, 0, 0, 0, []),
  (54, .sipush (4096), 3, 0, 0, 0, (4096), 0, []),
  (57, .goto (4), 3, 61, 0, 0, 0, 0, []),
  (60, .iconst (0), 1, 0, 0, 0, (0), 0, [])]
set_option maxRecDepth 100000 in
theorem lX3_weighSet_47_ck : lX3_weighSet_47.all (ra_ck mX3_weighSet 3) = true := by decide +kernel
def nX3_weighSet_47 (N : Nat) (a0 : Nat) (a1 : Int32) (a2 : Int32) (a3 : Int32) (a4 : Int32) (a5 : Int32) (b0 : Int32) (h : ra_H) : Option (Int32 × ra_H) :=
  if a4 = 0 then
    nX3_weighSet_61 N a0 a1 a2 a3 a5 b0 ((0 : Int32)) h
  else
    nX3_weighSet_61 N a0 a1 a2 a3 a5 b0 ((4096 : Int32)) h
def kX3_weighSet_47 (N : Nat) : Nat → List (Option Value) → List Value → ra_H → Option (Int32 × ra_H) := (ra_k1 61 (fun L S h => match L, S with
  | [some (.ref a0), some (.int a1), some (.int a2), some (.int a3), _, some (.int a5), some (.int a6), _, _, _, _, _], [.int b0] => nX3_weighSet_61 N a0 a1 a2 a3 a5 a6 b0 h
  | _, _ => none) ra_k0)
theorem kX3_weighSet_47_ok (N : Nat) : ra_kok 1 mX3_weighSet ra_oI (kX3_weighSet_47 N) := (ra_k1_ok (by
  intro L S h a e
  split at e
  · exact ra_Ru.weak (nX3_weighSet_61_ok N _ _ _ _ _ _ _ _ _ e) ⟨rfl, ⟨rfl, ⟨rfl, ⟨rfl, ⟨rfl, ⟨rfl, trivial⟩⟩⟩⟩⟩⟩
  · cases e) ra_k0_ok)
set_option maxRecDepth 100000 in
theorem nX3_weighSet_47_ok (N : Nat) (a0 : Nat) (a1 : Int32) (a2 : Int32) (a3 : Int32) (a4 : Int32) (a5 : Int32) (b0 : Int32) (h : ra_H) (r : (Int32 × ra_H)) (e : nX3_weighSet_47 N a0 a1 a2 a3 a4 a5 b0 h = some r) : ra_Ru 1 mX3_weighSet 47 [some (.ref a0), some (.int a1), some (.int a2), some (.int a3), some (.int a4), some (.int a5), none, none, none, none, none, none] [.int b0] h (ra_oI r) :=
  ra_sound (by omega) rfl ra_rI_ok (kX3_weighSet_47_ok N) (fun m av h h1 e => (ra_c0_ok (ro := ra_oV)) m av h h1 e) (fun m av h x h1 e => (ra_c0_ok (ro := ra_oI)) m av h (x, h1) e) (fun m av h x h1 e => (ra_c0_ok (ro := ra_oJ)) m av h (x, h1) e) (fun m av h x h1 e => (ra_c0_ok (ro := ra_oR)) m av h (x, h1) e) (fun m av h x h1 e => (ra_c0_ok (ro := ra_oN)) m av h (x, h1) e) (fun m av h x h1 e => (ra_c0_ok (ro := ra_oF)) m av h (x, h1) e) 7 lX3_weighSet_47 _ _ _ _ lX3_weighSet_47_ck (show ra_run ra_rI (kX3_weighSet_47 N) ra_c0 ra_c0 ra_c0 ra_c0 ra_c0 ra_c0 7 lX3_weighSet_47 [some (.ref a0), some (.int a1), some (.int a2), some (.int a3), some (.int a4), some (.int a5), none, none, none, none, none, none] [.int b0] h = some r from e) _ _ rfl
def lX3_weighSet_30 : List ra_I := [(30, .istore 5, 2, 5, 0, 0, 0, 0, []),
  (32, .iload 4, 2, 4, 0, 0, 0, 0, []),
  (34, .ifCond .eq (12), 3, 46, 0, 0, 0, 0, []),
  (37, .aload_n 0, 1, 0, 0, 0, 0, 0, []),
  (38, .getfield 40, 3, 3, 9, 2, 0, 0, []),
  (41, .iload_n 1, 1, 1, 0, 0, 0, 0, []),
  (42, .iaload, 1, 0, 0, 0, 0, 0, []),
  (43, .goto (4), 3, 47, 0, 0, 0, 0, []),
  (46, .iconst (0), 1, 0, 0, 0, (0), 0, [])]
set_option maxRecDepth 100000 in
theorem lX3_weighSet_30_ck : lX3_weighSet_30.all (ra_ck mX3_weighSet 3) = true := by decide +kernel
def nX3_weighSet_30 (N : Nat) (a0 : Nat) (a1 : Int32) (a2 : Int32) (a3 : Int32) (a4 : Int32) (b0 : Int32) (h : ra_H) : Option (Int32 × ra_H) :=
  if a4 = 0 then
    nX3_weighSet_47 N a0 a1 a2 a3 a4 b0 ((0 : Int32)) h
  else
    (ra_fR h 3 a0 9).bind fun x1 =>
    (ra_aI h 0 x1 a1).bind fun x2 =>
    nX3_weighSet_47 N a0 a1 a2 a3 a4 b0 x2 h
def kX3_weighSet_30 (N : Nat) : Nat → List (Option Value) → List Value → ra_H → Option (Int32 × ra_H) := (ra_k1 47 (fun L S h => match L, S with
  | [some (.ref a0), some (.int a1), some (.int a2), some (.int a3), some (.int a4), some (.int a5), _, _, _, _, _, _], [.int b0] => nX3_weighSet_47 N a0 a1 a2 a3 a4 a5 b0 h
  | _, _ => none) ra_k0)
theorem kX3_weighSet_30_ok (N : Nat) : ra_kok 1 mX3_weighSet ra_oI (kX3_weighSet_30 N) := (ra_k1_ok (by
  intro L S h a e
  split at e
  · exact ra_Ru.weak (nX3_weighSet_47_ok N _ _ _ _ _ _ _ _ _ e) ⟨rfl, ⟨rfl, ⟨rfl, ⟨rfl, ⟨rfl, ⟨rfl, trivial⟩⟩⟩⟩⟩⟩
  · cases e) ra_k0_ok)
set_option maxRecDepth 100000 in
theorem nX3_weighSet_30_ok (N : Nat) (a0 : Nat) (a1 : Int32) (a2 : Int32) (a3 : Int32) (a4 : Int32) (b0 : Int32) (h : ra_H) (r : (Int32 × ra_H)) (e : nX3_weighSet_30 N a0 a1 a2 a3 a4 b0 h = some r) : ra_Ru 1 mX3_weighSet 30 [some (.ref a0), some (.int a1), some (.int a2), some (.int a3), some (.int a4), none, none, none, none, none, none, none] [.int b0] h (ra_oI r) :=
  ra_sound (by omega) rfl ra_rI_ok (kX3_weighSet_30_ok N) (fun m av h h1 e => (ra_c0_ok (ro := ra_oV)) m av h h1 e) (fun m av h x h1 e => (ra_c0_ok (ro := ra_oI)) m av h (x, h1) e) (fun m av h x h1 e => (ra_c0_ok (ro := ra_oJ)) m av h (x, h1) e) (fun m av h x h1 e => (ra_c0_ok (ro := ra_oR)) m av h (x, h1) e) (fun m av h x h1 e => (ra_c0_ok (ro := ra_oN)) m av h (x, h1) e) (fun m av h x h1 e => (ra_c0_ok (ro := ra_oF)) m av h (x, h1) e) 10 lX3_weighSet_30 _ _ _ _ lX3_weighSet_30_ck (show ra_run ra_rI (kX3_weighSet_30 N) ra_c0 ra_c0 ra_c0 ra_c0 ra_c0 ra_c0 10 lX3_weighSet_30 [some (.ref a0), some (.int a1), some (.int a2), some (.int a3), some (.int a4), none, none, none, none, none, none, none] [.int b0] h = some r from e) _ _ rfl
def lX3_weighSet_12 : List ra_I := [(12, .istore 4, 2, 4, 0, 0, 0, 0, []),
  (14, .iload 4, 2, 4, 0, 0, 0, 0, []),
  (16, .ifCond .eq (12), 3, 28, 0, 0, 0, 0, []),
  (19, .aload_n 0, 1, 0, 0, 0, 0, 0, []),
  (20, .getfield 37, 3, 3, 8, 2, 0, 0, []),
  (23, .iload_n 1, 1, 1, 0, 0, 0, 0, []),
  (24, .iaload, 1, 0, 0, 0, 0, 0, []),
  (25, .goto (5), 3, 30, 0, 0, 0, 0, []),
  (28, .ldc 134, 2, 0, 0, 0, (-1000000), 0, [])]
set_option maxRecDepth 100000 in
theorem lX3_weighSet_12_ck : lX3_weighSet_12.all (ra_ck mX3_weighSet 3) = true := by decide +kernel
def nX3_weighSet_12 (N : Nat) (a0 : Nat) (a1 : Int32) (a2 : Int32) (a3 : Int32) (b0 : Int32) (h : ra_H) : Option (Int32 × ra_H) :=
  if b0 = 0 then
    nX3_weighSet_30 N a0 a1 a2 a3 b0 ((-1000000 : Int32)) h
  else
    (ra_fR h 3 a0 8).bind fun x1 =>
    (ra_aI h 0 x1 a1).bind fun x2 =>
    nX3_weighSet_30 N a0 a1 a2 a3 b0 x2 h
def kX3_weighSet_12 (N : Nat) : Nat → List (Option Value) → List Value → ra_H → Option (Int32 × ra_H) := (ra_k1 30 (fun L S h => match L, S with
  | [some (.ref a0), some (.int a1), some (.int a2), some (.int a3), some (.int a4), _, _, _, _, _, _, _], [.int b0] => nX3_weighSet_30 N a0 a1 a2 a3 a4 b0 h
  | _, _ => none) ra_k0)
theorem kX3_weighSet_12_ok (N : Nat) : ra_kok 1 mX3_weighSet ra_oI (kX3_weighSet_12 N) := (ra_k1_ok (by
  intro L S h a e
  split at e
  · exact ra_Ru.weak (nX3_weighSet_30_ok N _ _ _ _ _ _ _ _ e) ⟨rfl, ⟨rfl, ⟨rfl, ⟨rfl, ⟨rfl, trivial⟩⟩⟩⟩⟩
  · cases e) ra_k0_ok)
set_option maxRecDepth 100000 in
theorem nX3_weighSet_12_ok (N : Nat) (a0 : Nat) (a1 : Int32) (a2 : Int32) (a3 : Int32) (b0 : Int32) (h : ra_H) (r : (Int32 × ra_H)) (e : nX3_weighSet_12 N a0 a1 a2 a3 b0 h = some r) : ra_Ru 1 mX3_weighSet 12 [some (.ref a0), some (.int a1), some (.int a2), some (.int a3), none, none, none, none, none, none, none, none] [.int b0] h (ra_oI r) :=
  ra_sound (by omega) rfl ra_rI_ok (kX3_weighSet_12_ok N) (fun m av h h1 e => (ra_c0_ok (ro := ra_oV)) m av h h1 e) (fun m av h x h1 e => (ra_c0_ok (ro := ra_oI)) m av h (x, h1) e) (fun m av h x h1 e => (ra_c0_ok (ro := ra_oJ)) m av h (x, h1) e) (fun m av h x h1 e => (ra_c0_ok (ro := ra_oR)) m av h (x, h1) e) (fun m av h x h1 e => (ra_c0_ok (ro := ra_oN)) m av h (x, h1) e) (fun m av h x h1 e => (ra_c0_ok (ro := ra_oF)) m av h (x, h1) e) 10 lX3_weighSet_12 _ _ _ _ lX3_weighSet_12_ck (show ra_run ra_rI (kX3_weighSet_12 N) ra_c0 ra_c0 ra_c0 ra_c0 ra_c0 ra_c0 10 lX3_weighSet_12 [some (.ref a0), some (.int a1), some (.int a2), some (.int a3), none, none, none, none, none, none, none, none] [.int b0] h = some r from e) _ _ rfl
def lX3_weighSet_0 : List ra_I := [(0, .iload_n 1, 1, 1, 0, 0, 0, 0, []),
  (1, .iload_n 3, 1, 3, 0, 0, 0, 0, []),
  (2, .iand, 1, 0, 0, 0, 0, 0, []),
  (3, .iload_n 3, 1, 3, 0, 0, 0, 0, []),
  (4, .if_icmp .ne (7), 3, 11, 0, 0, 0, 0, []),
  (7, .iconst (1), 1, 0, 0, 0, (1), 0, []),
  (8, .goto (4), 3, 12, 0, 0, 0, 0, []),
  (11, .iconst (0), 1, 0, 0, 0, (0), 0, [])]
set_option maxRecDepth 100000 in
theorem lX3_weighSet_0_ck : lX3_weighSet_0.all (ra_ck mX3_weighSet 3) = true := by decide +kernel
def nX3_weighSet_0 (N : Nat) (a0 : Nat) (a1 : Int32) (a2 : Int32) (a3 : Int32) (h : ra_H) : Option (Int32 × ra_H) :=
  if (a1 &&& a3) = a3 then
    nX3_weighSet_12 N a0 a1 a2 a3 ((1 : Int32)) h
  else
    nX3_weighSet_12 N a0 a1 a2 a3 ((0 : Int32)) h
def kX3_weighSet_0 (N : Nat) : Nat → List (Option Value) → List Value → ra_H → Option (Int32 × ra_H) := (ra_k1 12 (fun L S h => match L, S with
  | [some (.ref a0), some (.int a1), some (.int a2), some (.int a3), _, _, _, _, _, _, _, _], [.int b0] => nX3_weighSet_12 N a0 a1 a2 a3 b0 h
  | _, _ => none) ra_k0)
theorem kX3_weighSet_0_ok (N : Nat) : ra_kok 1 mX3_weighSet ra_oI (kX3_weighSet_0 N) := (ra_k1_ok (by
  intro L S h a e
  split at e
  · exact ra_Ru.weak (nX3_weighSet_12_ok N _ _ _ _ _ _ _ e) ⟨rfl, ⟨rfl, ⟨rfl, ⟨rfl, trivial⟩⟩⟩⟩
  · cases e) ra_k0_ok)
set_option maxRecDepth 100000 in
theorem nX3_weighSet_0_ok (N : Nat) (a0 : Nat) (a1 : Int32) (a2 : Int32) (a3 : Int32) (h : ra_H) (r : (Int32 × ra_H)) (e : nX3_weighSet_0 N a0 a1 a2 a3 h = some r) : ra_Ru 1 mX3_weighSet 0 [some (.ref a0), some (.int a1), some (.int a2), some (.int a3), none, none, none, none, none, none, none, none] [] h (ra_oI r) :=
  ra_sound (by omega) rfl ra_rI_ok (kX3_weighSet_0_ok N) (fun m av h h1 e => (ra_c0_ok (ro := ra_oV)) m av h h1 e) (fun m av h x h1 e => (ra_c0_ok (ro := ra_oI)) m av h (x, h1) e) (fun m av h x h1 e => (ra_c0_ok (ro := ra_oJ)) m av h (x, h1) e) (fun m av h x h1 e => (ra_c0_ok (ro := ra_oR)) m av h (x, h1) e) (fun m av h x h1 e => (ra_c0_ok (ro := ra_oN)) m av h (x, h1) e) (fun m av h x h1 e => (ra_c0_ok (ro := ra_oF)) m av h (x, h1) e) 9 lX3_weighSet_0 _ _ _ _ lX3_weighSet_0_ck (show ra_run ra_rI (kX3_weighSet_0 N) ra_c0 ra_c0 ra_c0 ra_c0 ra_c0 ra_c0 9 lX3_weighSet_0 [some (.ref a0), some (.int a1), some (.int a2), some (.int a3), none, none, none, none, none, none, none, none] [] h = some r from e) _ _ rfl
def fX3_weighSet (N : Nat) (p0 : Nat) (p1 : Int32) (p2 : Int32) (p3 : Int32) (h : ra_H) : Option (Int32 × ra_H) := match ra_isOb h p0 3 with
  | true => nX3_weighSet_0 N p0 p1 p2 p3 h
  | false => none
set_option maxRecDepth 100000 in
theorem mtX3_weighSet : ra_MT[137]? = some (mX3_weighSet, 1, 3, (1, 9), (5, 67), (0, 45)) := rfl
theorem fX3_weighSet_co (N : Nat) (p0 : Nat) (p1 : Int32) (p2 : Int32) (p3 : Int32) (h : ra_H) (r : (Int32 × ra_H)) (e : fX3_weighSet N p0 p1 p2 p3 h = some r) (D : Nat) (hD : 2 ≤ D) : ra_CO D 137 [.ref p0, .int p1, .int p2, .int p3] h (ra_oI r).1 (ra_oI r).2 := by
  have hw : ra_nw2 [.ref p0, .int p1, .int p2, .int p3] ≤ 12 := Nat.le_of_ble_eq_true rfl
  have hdb : ∀ v ∈ ([.ref p0, .int p1, .int p2, .int p3] : List Value), ∀ x, v ≠ .double x := by
    intro v hv x hx
    simp [hx] at hv
  unfold fX3_weighSet at e
  split at e
  · rename_i ho
    have e1 := e
    exact ⟨1, _, mtX3_weighSet, hD, ra_ev_of (by decide) hdb hw trivial (ra_Ru.weak (nX3_weighSet_0_ok N p0 p1 p2 p3 h _ e1) ⟨rfl, ⟨rfl, ⟨rfl, ⟨rfl, trivial⟩⟩⟩⟩), (fun _ => ⟨_, _, rfl, ra_rcv_of ho (by decide) rfl⟩), (fun h => absurd h (by decide))⟩
  · cases e
/-! RedMarks$Matches.weighBook(I)V -/
def mX3_weighBook : ra_M := (yX3_weighBook, cX3_weighBook, 9, none)
def tIX3_weighBook (N : Nat) : Nat → List Value → ra_H → Option (Int32 × ra_H) := (ra_c1 133 (fun av h => match av with
  | [.ref z0, .int z1] => fX3_openAt N z0 z1 h
  | _ => none) (ra_c1 134 (fun av h => match av with
  | [.int z0] => fJ6_bitCount_0f7a4 N z0 h
  | _ => none) (ra_c1 136 (fun av h => match av with
  | [.ref z0, .int z1] => fX3_listUsable N z0 z1 h
  | _ => none) (ra_c1 137 (fun av h => match av with
  | [.ref z0, .int z1, .int z2, .int z3] => fX3_weighSet N z0 z1 z2 z3 h
  | _ => none) ra_c0))))
theorem tIX3_weighBook_ok (N : Nat) : ra_cok 3 ra_oI (tIX3_weighBook N) := (ra_c1_ok (by
  intro av h a e
  split at e
  · exact fX3_openAt_co N _ _ _ _ e 3 (by omega)
  · cases e) (ra_c1_ok (by
  intro av h a e
  split at e
  · exact fJ6_bitCount_0f7a4_co N _ _ _ e 3 (by omega)
  · cases e) (ra_c1_ok (by
  intro av h a e
  split at e
  · exact fX3_listUsable_co N _ _ _ _ e 3 (by omega)
  · cases e) (ra_c1_ok (by
  intro av h a e
  split at e
  · exact fX3_weighSet_co N _ _ _ _ _ _ e 3 (by omega)
  · cases e) ra_c0_ok))))
def lX3_weighBook_43 : List ra_I := [(43, .iload 7, 2, 7, 0, 0, 0, 0, []),
  (45, .ifCond .le (59), 3, 104, 0, 0, 0, 0, []),
  (48, .iload_n 3, 1, 3, 0, 0, 0, 0, []),
  (49, .iload 6, 2, 6, 0, 0, 0, 0, []),
  (51, .ior, 1, 0, 0, 0, 0, 0, []),
  (52, .istore 8, 2, 8, 0, 0, 0, 0, []),
  (54, .aload_n 0, 1, 0, 0, 0, 0, 0, []),
  (55, .getfield 47, 3, 3, 11, 2, 0, 0, []),
  (58, .iload 5, 2, 5, 0, 0, 0, 0, []),
  (60, .iload 8, 2, 8, 0, 0, 0, 0, []),
  (62, .iadd, 1, 0, 0, 0, 0, 0, []),
  (63, .aload_n 0, 1, 0, 0, 0, 0, 0, []),
  (64, .iload 8, 2, 8, 0, 0, 0, 0, []),
  (66, .iload_n 2, 1, 2, 0, 0, 0, 0, []),
  (67, .aload_n 0, 1, 0, 0, 0, 0, 0, []),
  (68, .getfield 25, 3, 3, 4, 2, 0, 0, []),
  (71, .iload_n 1, 1, 1, 0, 0, 0, 0, []),
  (72, .iconst (1), 1, 0, 0, 0, (1), 0, []),
  (73, .iadd, 1, 0, 0, 0, 0, 0, []),
  (74, .iaload, 1, 0, 0, 0, 0, 0, []),
  (75, .invokevirtual 126, 3, 137, 4, 1, 0, 0, []),
  (78, .i2s, 1, 0, 0, 0, 0, 0, []),
  (79, .sastore, 1, 0, 0, 0, 0, 0, []),
  (80, .aload_n 0, 1, 0, 0, 0, 0, 0, []),
  (81, .getfield 43, 3, 3, 10, 2, 0, 0, []),
  (84, .iload 8, 2, 8, 0, 0, 0, 0, []),
  (86, .iconst (0), 1, 0, 0, 0, (0), 0, []),
  (87, .bastore, 1, 0, 0, 0, 0, 0, []),
  (88, .iload 6, 2, 6, 0, 0, 0, 0, []),
  (90, .iload 4, 2, 4, 0, 0, 0, 0, []),
  (92, .isub, 1, 0, 0, 0, 0, 0, []),
  (93, .iload 4, 2, 4, 0, 0, 0, 0, []),
  (95, .iand, 1, 0, 0, 0, 0, 0, []),
  (96, .istore 6, 2, 6, 0, 0, 0, 0, []),
  (98, .iinc 7 (-1), 3, 7, 0, 0, (-1), 0, []),
  (101, .goto (-58), 3, 43, 0, 0, 0, 0, []),
  (104, .return_, 1, 0, 0, 0, 0, 0, [])]
set_option maxRecDepth 100000 in
theorem lX3_weighBook_43_ck : lX3_weighBook_43.all (ra_ck mX3_weighBook 3) = true := by decide +kernel
def nX3_weighBook_43 (N : Nat) : Nat → Nat → Int32 → Int32 → Int32 → Int32 → Int32 → Int32 → Int32 → ra_H → Option ra_H
  | 0, _, _, _, _, _, _, _, _, _ => none
  | n + 1, a0, a1, a2, a3, a4, a5, a6, a7, h =>
  if a7 ≤ 0 then
    some h
  else
    let y1 := a3 ||| a6
    (ra_fR h 3 a0 11).bind fun x2 =>
    (ra_fR h 3 a0 4).bind fun x3 =>
    (ra_aI h 0 x3 (a1 + ((1 : Int32)))).bind fun x4 =>
    (fX3_weighSet N a0 y1 a2 x4 h).bind fun q5 =>
    (ra_aW q5.2 3 x2 (a5 + y1) (vp_nar .short ((Int32.toInt16 q5.1).toInt32))).bind fun h6 =>
    (ra_fR h6 3 a0 10).bind fun x7 =>
    (ra_aW h6 2 x7 y1 (vp_nar .boolean ((0 : Int32)))).bind fun h8 =>
    let y9 := (a6 - a4) &&& a4
    let y10 := a7 + (-1 : Int32)
    nX3_weighBook_43 N n a0 a1 a2 a3 a4 a5 y9 y10 h8
def kX3_weighBook_43 (N : Nat) (cs : Nat → Int32 → Int32 → Int32 → Int32 → Int32 → Int32 → Int32 → ra_H → Option ra_H) : Nat → List (Option Value) → List Value → ra_H → Option ra_H := (ra_k1 43 (fun L S h => match L, S with
  | [some (.ref a0), some (.int a1), some (.int a2), some (.int a3), some (.int a4), some (.int a5), some (.int a6), some (.int a7), _], [] => cs a0 a1 a2 a3 a4 a5 a6 a7 h
  | _, _ => none) ra_k0)
theorem kX3_weighBook_43_ok (N : Nat) (cs : Nat → Int32 → Int32 → Int32 → Int32 → Int32 → Int32 → Int32 → ra_H → Option ra_H) (hcs : ∀ a0 a1 a2 a3 a4 a5 a6 a7 h r, cs a0 a1 a2 a3 a4 a5 a6 a7 h = some r → ra_Ru 3 mX3_weighBook 43 [some (.ref a0), some (.int a1), some (.int a2), some (.int a3), some (.int a4), some (.int a5), some (.int a6), some (.int a7), none] [] h (ra_oV r)) : ra_kok 3 mX3_weighBook ra_oV (kX3_weighBook_43 N cs) := (ra_k1_ok (by
  intro L S h a e
  split at e
  · exact ra_Ru.weak (hcs _ _ _ _ _ _ _ _ _ _ e) ⟨rfl, ⟨rfl, ⟨rfl, ⟨rfl, ⟨rfl, ⟨rfl, ⟨rfl, ⟨rfl, trivial⟩⟩⟩⟩⟩⟩⟩⟩
  · cases e) ra_k0_ok)
set_option maxRecDepth 100000 in
theorem nX3_weighBook_43_ok (N : Nat) : ∀ n a0 a1 a2 a3 a4 a5 a6 a7 h r, nX3_weighBook_43 N n a0 a1 a2 a3 a4 a5 a6 a7 h = some r → ra_Ru 3 mX3_weighBook 43 [some (.ref a0), some (.int a1), some (.int a2), some (.int a3), some (.int a4), some (.int a5), some (.int a6), some (.int a7), none] [] h (ra_oV r) := by
  intro n
  induction n with
  | zero => intro a0 a1 a2 a3 a4 a5 a6 a7 h r e; cases e
  | succ n ih =>
    intro a0 a1 a2 a3 a4 a5 a6 a7 h r e
    exact ra_sound (by omega) rfl ra_rV_ok (kX3_weighBook_43_ok N (nX3_weighBook_43 N n) ih) (fun m av h h1 e => (ra_c0_ok (ro := ra_oV)) m av h h1 e) (fun m av h x h1 e => (tIX3_weighBook_ok N) m av h (x, h1) e) (fun m av h x h1 e => (ra_c0_ok (ro := ra_oJ)) m av h (x, h1) e) (fun m av h x h1 e => (ra_c0_ok (ro := ra_oR)) m av h (x, h1) e) (fun m av h x h1 e => (ra_c0_ok (ro := ra_oN)) m av h (x, h1) e) (fun m av h x h1 e => (ra_c0_ok (ro := ra_oF)) m av h (x, h1) e) 38 lX3_weighBook_43 _ _ _ _ lX3_weighBook_43_ck (show ra_run ra_rV (kX3_weighBook_43 N (nX3_weighBook_43 N n)) ra_c0 (tIX3_weighBook N) ra_c0 ra_c0 ra_c0 ra_c0 38 lX3_weighBook_43 [some (.ref a0), some (.int a1), some (.int a2), some (.int a3), some (.int a4), some (.int a5), some (.int a6), some (.int a7), none] [] h = some r from e) _ _ rfl
def lX3_weighBook_0 : List ra_I := [(0, .aload_n 0, 1, 0, 0, 0, 0, 0, []),
  (1, .iload_n 1, 1, 1, 0, 0, 0, 0, []),
  (2, .invokevirtual 123, 3, 136, 2, 1, 0, 0, []),
  (5, .istore_n 2, 1, 2, 0, 0, 0, 0, []),
  (6, .aload_n 0, 1, 0, 0, 0, 0, 0, []),
  (7, .getfield 25, 3, 3, 4, 2, 0, 0, []),
  (10, .iload_n 1, 1, 1, 0, 0, 0, 0, []),
  (11, .iaload, 1, 0, 0, 0, 0, 0, []),
  (12, .istore_n 3, 1, 3, 0, 0, 0, 0, []),
  (13, .aload_n 0, 1, 0, 0, 0, 0, 0, []),
  (14, .iload_n 1, 1, 1, 0, 0, 0, 0, []),
  (15, .invokevirtual 114, 3, 133, 2, 1, 0, 0, []),
  (18, .istore 4, 2, 4, 0, 0, 0, 0, []),
  (20, .iload_n 1, 1, 1, 0, 0, 0, 0, []),
  (21, .aload_n 0, 1, 0, 0, 0, 0, 0, []),
  (22, .getfield 57, 3, 3, 0, 2, 0, 0, []),
  (25, .getfield 65, 3, 2, 15, 0, 0, 0, []),
  (28, .ishl, 1, 0, 0, 0, 0, 0, []),
  (29, .istore 5, 2, 5, 0, 0, 0, 0, []),
  (31, .iconst (0), 1, 0, 0, 0, (0), 0, []),
  (32, .istore 6, 2, 6, 0, 0, 0, 0, []),
  (34, .iconst (1), 1, 0, 0, 0, (1), 0, []),
  (35, .iload 4, 2, 4, 0, 0, 0, 0, []),
  (37, .invokestatic 118, 3, 134, 1, 1, 0, 0, []),
  (40, .ishl, 1, 0, 0, 0, 0, 0, []),
  (41, .istore 7, 2, 7, 0, 0, 0, 0, [])]
set_option maxRecDepth 100000 in
theorem lX3_weighBook_0_ck : lX3_weighBook_0.all (ra_ck mX3_weighBook 3) = true := by decide +kernel
def nX3_weighBook_0 (N : Nat) (a0 : Nat) (a1 : Int32) (h : ra_H) : Option ra_H :=
  (fX3_listUsable N a0 a1 h).bind fun q1 =>
  (ra_fR q1.2 3 a0 4).bind fun x2 =>
  (ra_aI q1.2 0 x2 a1).bind fun x3 =>
  (fX3_openAt N a0 a1 q1.2).bind fun q4 =>
  (ra_fR q4.2 3 a0 0).bind fun x5 =>
  (ra_fI q4.2 2 x5 15).bind fun x6 =>
  let y7 := a1 <<< (x6 &&& 31)
  (fJ6_bitCount_0f7a4 N q4.1 q4.2).bind fun q8 =>
  let y9 := ((1 : Int32)) <<< (q8.1 &&& 31)
  nX3_weighBook_43 N N a0 a1 q1.1 x3 q4.1 y7 ((0 : Int32)) y9 q8.2
def kX3_weighBook_0 (N : Nat) : Nat → List (Option Value) → List Value → ra_H → Option ra_H := (ra_k1 43 (fun L S h => match L, S with
  | [some (.ref a0), some (.int a1), some (.int a2), some (.int a3), some (.int a4), some (.int a5), some (.int a6), some (.int a7), _], [] => nX3_weighBook_43 N N a0 a1 a2 a3 a4 a5 a6 a7 h
  | _, _ => none) ra_k0)
theorem kX3_weighBook_0_ok (N : Nat) : ra_kok 3 mX3_weighBook ra_oV (kX3_weighBook_0 N) := (ra_k1_ok (by
  intro L S h a e
  split at e
  · exact ra_Ru.weak (nX3_weighBook_43_ok N N _ _ _ _ _ _ _ _ _ _ e) ⟨rfl, ⟨rfl, ⟨rfl, ⟨rfl, ⟨rfl, ⟨rfl, ⟨rfl, ⟨rfl, trivial⟩⟩⟩⟩⟩⟩⟩⟩
  · cases e) ra_k0_ok)
set_option maxRecDepth 100000 in
theorem nX3_weighBook_0_ok (N : Nat) (a0 : Nat) (a1 : Int32) (h : ra_H) (r : ra_H) (e : nX3_weighBook_0 N a0 a1 h = some r) : ra_Ru 3 mX3_weighBook 0 [some (.ref a0), some (.int a1), none, none, none, none, none, none, none] [] h (ra_oV r) :=
  ra_sound (by omega) rfl ra_rV_ok (kX3_weighBook_0_ok N) (fun m av h h1 e => (ra_c0_ok (ro := ra_oV)) m av h h1 e) (fun m av h x h1 e => (tIX3_weighBook_ok N) m av h (x, h1) e) (fun m av h x h1 e => (ra_c0_ok (ro := ra_oJ)) m av h (x, h1) e) (fun m av h x h1 e => (ra_c0_ok (ro := ra_oR)) m av h (x, h1) e) (fun m av h x h1 e => (ra_c0_ok (ro := ra_oN)) m av h (x, h1) e) (fun m av h x h1 e => (ra_c0_ok (ro := ra_oF)) m av h (x, h1) e) 27 lX3_weighBook_0 _ _ _ _ lX3_weighBook_0_ck (show ra_run ra_rV (kX3_weighBook_0 N) ra_c0 (tIX3_weighBook N) ra_c0 ra_c0 ra_c0 ra_c0 27 lX3_weighBook_0 [some (.ref a0), some (.int a1), none, none, none, none, none, none, none] [] h = some r from e) _ _ rfl
def fX3_weighBook (N : Nat) (p0 : Nat) (p1 : Int32) (h : ra_H) : Option ra_H := match ra_isOb h p0 3 with
  | true => nX3_weighBook_0 N p0 p1 h
  | false => none
set_option maxRecDepth 100000 in
theorem mtX3_weighBook : ra_MT[135]? = some (mX3_weighBook, 1, 1, (1, 9), (5, 58), (0, 43)) := rfl
theorem fX3_weighBook_co (N : Nat) (p0 : Nat) (p1 : Int32) (h : ra_H) (r : ra_H) (e : fX3_weighBook N p0 p1 h = some r) (D : Nat) (hD : 4 ≤ D) : ra_CO D 135 [.ref p0, .int p1] h (ra_oV r).1 (ra_oV r).2 := by
  have hw : ra_nw2 [.ref p0, .int p1] ≤ 9 := Nat.le_of_ble_eq_true rfl
  have hdb : ∀ v ∈ ([.ref p0, .int p1] : List Value), ∀ x, v ≠ .double x := by
    intro v hv x hx
    simp [hx] at hv
  unfold fX3_weighBook at e
  split at e
  · rename_i ho
    have e1 := e
    exact ⟨3, _, mtX3_weighBook, hD, ra_ev_of (by decide) hdb hw trivial (ra_Ru.weak (nX3_weighBook_0_ok N p0 p1 h _ e1) ⟨rfl, ⟨rfl, trivial⟩⟩), (fun _ => ⟨_, _, rfl, ra_rcv_of ho (by decide) rfl⟩), (fun h => absurd h (by decide))⟩
  · cases e
/-! RedMarks$Matches.weighAll()V -/
def mX3_weighAll : ra_M := (yX3_weighAll, cX3_weighAll, 2, none)
def tVX3_weighAll (N : Nat) : Nat → List Value → ra_H → Option ra_H := (ra_c1 120 (fun av h => match av with
  | [.ref z0, .int z1] => fX3_makeRoom N z0 z1 h
  | _ => none) (ra_c1 121 (fun av h => match av with
  | [.ref z0, .ref z1] => fX10_weighWorths N z0 z1 h
  | _ => none) (ra_c1 127 (fun av h => match av with
  | [.ref z0] => fX3_lookAhead N z0 h
  | _ => none) (ra_c1 130 (fun av h => match av with
  | [.ref z0] => fX3_lookBehind N z0 h
  | _ => none) (ra_c1 132 (fun av h => match av with
  | [.ref z0] => fX3_beginBehindAll N z0 h
  | _ => none) (ra_c1 135 (fun av h => match av with
  | [.ref z0, .int z1] => fX3_weighBook N z0 z1 h
  | _ => none) (ra_c1 138 (fun av h => match av with
  | [.ref z0] => fX3_takeFirst N z0 h
  | _ => none) (ra_c1 141 (fun av h => match av with
  | [.ref z0] => fX3_findSure N z0 h
  | _ => none) ra_c0))))))))
theorem tVX3_weighAll_ok (N : Nat) : ra_cok 5 ra_oV (tVX3_weighAll N) := (ra_c1_ok (by
  intro av h a e
  split at e
  · exact fX3_makeRoom_co N _ _ _ _ e 5 (by omega)
  · cases e) (ra_c1_ok (by
  intro av h a e
  split at e
  · exact fX10_weighWorths_co N _ _ _ _ e 5 (by omega)
  · cases e) (ra_c1_ok (by
  intro av h a e
  split at e
  · exact fX3_lookAhead_co N _ _ _ e 5 (by omega)
  · cases e) (ra_c1_ok (by
  intro av h a e
  split at e
  · exact fX3_lookBehind_co N _ _ _ e 5 (by omega)
  · cases e) (ra_c1_ok (by
  intro av h a e
  split at e
  · exact fX3_beginBehindAll_co N _ _ _ e 5 (by omega)
  · cases e) (ra_c1_ok (by
  intro av h a e
  split at e
  · exact fX3_weighBook_co N _ _ _ _ e 5 (by omega)
  · cases e) (ra_c1_ok (by
  intro av h a e
  split at e
  · exact fX3_takeFirst_co N _ _ _ e 5 (by omega)
  · cases e) (ra_c1_ok (by
  intro av h a e
  split at e
  · exact fX3_findSure_co N _ _ _ e 5 (by omega)
  · cases e) ra_c0_ok))))))))
def lX3_weighAll_77 : List ra_I := [(77, .iinc 1 (-1), 3, 1, 0, 0, (-1), 0, []),
  (80, .goto (-21), 3, 59, 0, 0, 0, 0, [])]
set_option maxRecDepth 100000 in
theorem lX3_weighAll_77_ck : lX3_weighAll_77.all (ra_ck mX3_weighAll 3) = true := by decide +kernel
def nX3_weighAll_77 (N : Nat) (c59 : Nat → Int32 → ra_H → Option ra_H) (a0 : Nat) (a1 : Int32) (h : ra_H) : Option ra_H :=
  let y1 := a1 + (-1 : Int32)
  c59 a0 y1 h
def kX3_weighAll_77 (N : Nat) (c59 : Nat → Int32 → ra_H → Option ra_H) : Nat → List (Option Value) → List Value → ra_H → Option ra_H := (ra_k1 59 (fun L S h => match L, S with
  | [some (.ref a0), some (.int a1)], [] => c59 a0 a1 h
  | _, _ => none) ra_k0)
theorem kX3_weighAll_77_ok (N : Nat) (c59 : Nat → Int32 → ra_H → Option ra_H) (hc59 : ∀ a0 a1 h r, c59 a0 a1 h = some r → ra_Ru 5 mX3_weighAll 59 [some (.ref a0), some (.int a1)] [] h (ra_oV r)) : ra_kok 5 mX3_weighAll ra_oV (kX3_weighAll_77 N c59) := (ra_k1_ok (by
  intro L S h a e
  split at e
  · exact ra_Ru.weak (hc59 _ _ _ _ e) ⟨rfl, ⟨rfl, trivial⟩⟩
  · cases e) ra_k0_ok)
set_option maxRecDepth 100000 in
theorem nX3_weighAll_77_ok (N : Nat) (c59 : Nat → Int32 → ra_H → Option ra_H) (hc59 : ∀ a0 a1 h r, c59 a0 a1 h = some r → ra_Ru 5 mX3_weighAll 59 [some (.ref a0), some (.int a1)] [] h (ra_oV r)) (a0 : Nat) (a1 : Int32) (h : ra_H) (r : ra_H) (e : nX3_weighAll_77 N c59 a0 a1 h = some r) : ra_Ru 5 mX3_weighAll 77 [some (.ref a0), some (.int a1)] [] h (ra_oV r) :=
  ra_sound (by omega) rfl ra_rV_ok (kX3_weighAll_77_ok N c59 hc59) (fun m av h h1 e => (tVX3_weighAll_ok N) m av h h1 e) (fun m av h x h1 e => (ra_c0_ok (ro := ra_oI)) m av h (x, h1) e) (fun m av h x h1 e => (ra_c0_ok (ro := ra_oJ)) m av h (x, h1) e) (fun m av h x h1 e => (ra_c0_ok (ro := ra_oR)) m av h (x, h1) e) (fun m av h x h1 e => (ra_c0_ok (ro := ra_oN)) m av h (x, h1) e) (fun m av h x h1 e => (ra_c0_ok (ro := ra_oF)) m av h (x, h1) e) 3 lX3_weighAll_77 _ _ _ _ lX3_weighAll_77_ck (show ra_run ra_rV (kX3_weighAll_77 N c59) (tVX3_weighAll N) ra_c0 ra_c0 ra_c0 ra_c0 ra_c0 3 lX3_weighAll_77 [some (.ref a0), some (.int a1)] [] h = some r from e) _ _ rfl
def lX3_weighAll_59 : List ra_I := [(59, .iload_n 1, 1, 1, 0, 0, 0, 0, []),
  (60, .ifCond .lt (23), 3, 83, 0, 0, 0, 0, []),
  (63, .aload_n 0, 1, 0, 0, 0, 0, 0, []),
  (64, .getfield 18, 3, 3, 2, 2, 0, 0, []),
  (67, .iload_n 1, 1, 1, 0, 0, 0, 0, []),
  (68, .iaload, 1, 0, 0, 0, 0, 0, []),
  (69, .ifCond .eq (8), 3, 77, 0, 0, 0, 0, []),
  (72, .aload_n 0, 1, 0, 0, 0, 0, 0, []),
  (73, .iload_n 1, 1, 1, 0, 0, 0, 0, []),
  (74, .invokevirtual 91, 3, 135, 2, 0, 0, 0, []),
  (83, .aload_n 0, 1, 0, 0, 0, 0, 0, []),
  (84, .aload_n 0, 1, 0, 0, 0, 0, 0, []),
  (85, .getfield 37, 3, 3, 8, 2, 0, 0, []),
  (88, .iconst (0), 1, 0, 0, 0, (0), 0, []),
  (89, .iaload, 1, 0, 0, 0, 0, 0, []),
  (90, .putfield 94, 3, 3, 16, 0, 0, 0, []),
  (93, .aload_n 0, 1, 0, 0, 0, 0, 0, []),
  (94, .aload_n 0, 1, 0, 0, 0, 0, 0, []),
  (95, .getfield 40, 3, 3, 9, 2, 0, 0, []),
  (98, .iconst (0), 1, 0, 0, 0, (0), 0, []),
  (99, .iaload, 1, 0, 0, 0, 0, 0, []),
  (100, .putfield 97, 3, 3, 17, 0, 0, 0, []),
  (103, .aload_n 0, 1, 0, 0, 0, 0, 0, []),
  (104, .invokevirtual 100, 3, 138, 1, 0, 0, 0, []),
  (107, .aload_n 0, 1, 0, 0, 0, 0, 0, []),
  (108, .invokevirtual 103, 3, 141, 1, 0, 0, 0, []),
  (111, .return_, 1, 0, 0, 0, 0, 0, [])]
set_option maxRecDepth 100000 in
theorem lX3_weighAll_59_ck : lX3_weighAll_59.all (ra_ck mX3_weighAll 3) = true := by decide +kernel
def nX3_weighAll_59 (N : Nat) : Nat → Nat → Int32 → ra_H → Option ra_H
  | 0, _, _, _ => none
  | n + 1, a0, a1, h =>
  if a1 < 0 then
    (ra_fR h 3 a0 8).bind fun x1 =>
    (ra_aI h 0 x1 ((0 : Int32))).bind fun x2 =>
    (ra_fW h 3 a0 16 (.int x2)).bind fun h3 =>
    (ra_fR h3 3 a0 9).bind fun x4 =>
    (ra_aI h3 0 x4 ((0 : Int32))).bind fun x5 =>
    (ra_fW h3 3 a0 17 (.int x5)).bind fun h6 =>
    (fX3_takeFirst N a0 h6).bind fun h7 =>
    (fX3_findSure N a0 h7).bind fun h8 =>
    some h8
  else
    (ra_fR h 3 a0 2).bind fun x9 =>
    (ra_aI h 0 x9 a1).bind fun x10 =>
    if x10 = 0 then
      nX3_weighAll_77 N (nX3_weighAll_59 N n) a0 a1 h
    else
      (fX3_weighBook N a0 a1 h).bind fun h11 =>
      nX3_weighAll_77 N (nX3_weighAll_59 N n) a0 a1 h11
def kX3_weighAll_59 (N : Nat) (cs : Nat → Int32 → ra_H → Option ra_H) : Nat → List (Option Value) → List Value → ra_H → Option ra_H := (ra_k1 77 (fun L S h => match L, S with
  | [some (.ref a0), some (.int a1)], [] => nX3_weighAll_77 N cs a0 a1 h
  | _, _ => none) ra_k0)
theorem kX3_weighAll_59_ok (N : Nat) (cs : Nat → Int32 → ra_H → Option ra_H) (hcs : ∀ a0 a1 h r, cs a0 a1 h = some r → ra_Ru 5 mX3_weighAll 59 [some (.ref a0), some (.int a1)] [] h (ra_oV r)) : ra_kok 5 mX3_weighAll ra_oV (kX3_weighAll_59 N cs) := (ra_k1_ok (by
  intro L S h a e
  split at e
  · exact ra_Ru.weak (nX3_weighAll_77_ok N cs hcs _ _ _ _ e) ⟨rfl, ⟨rfl, trivial⟩⟩
  · cases e) ra_k0_ok)
set_option maxRecDepth 100000 in
theorem nX3_weighAll_59_ok (N : Nat) : ∀ n a0 a1 h r, nX3_weighAll_59 N n a0 a1 h = some r → ra_Ru 5 mX3_weighAll 59 [some (.ref a0), some (.int a1)] [] h (ra_oV r) := by
  intro n
  induction n with
  | zero => intro a0 a1 h r e; cases e
  | succ n ih =>
    intro a0 a1 h r e
    exact ra_sound (by omega) rfl ra_rV_ok (kX3_weighAll_59_ok N (nX3_weighAll_59 N n) ih) (fun m av h h1 e => (tVX3_weighAll_ok N) m av h h1 e) (fun m av h x h1 e => (ra_c0_ok (ro := ra_oI)) m av h (x, h1) e) (fun m av h x h1 e => (ra_c0_ok (ro := ra_oJ)) m av h (x, h1) e) (fun m av h x h1 e => (ra_c0_ok (ro := ra_oR)) m av h (x, h1) e) (fun m av h x h1 e => (ra_c0_ok (ro := ra_oN)) m av h (x, h1) e) (fun m av h x h1 e => (ra_c0_ok (ro := ra_oF)) m av h (x, h1) e) 28 lX3_weighAll_59 _ _ _ _ lX3_weighAll_59_ck (show ra_run ra_rV (kX3_weighAll_59 N (nX3_weighAll_59 N n)) (tVX3_weighAll N) ra_c0 ra_c0 ra_c0 ra_c0 ra_c0 28 lX3_weighAll_59 [some (.ref a0), some (.int a1)] [] h = some r from e) _ _ rfl
def lX3_weighAll_0 : List ra_I := [(0, .aload_n 0, 1, 0, 0, 0, 0, 0, []),
  (1, .getfield 61, 3, 3, 12, 0, 0, 0, []),
  (4, .ifCond .eq (4), 3, 8, 0, 0, 0, 0, []),
  (7, .return_, 1, 0, 0, 0, 0, 0, []),
  (8, .aload_n 0, 1, 0, 0, 0, 0, 0, []),
  (9, .iconst (1), 1, 0, 0, 0, (1), 0, []),
  (10, .putfield 61, 3, 3, 12, 4, 0, 0, []),
  (13, .aload_n 0, 1, 0, 0, 0, 0, 0, []),
  (14, .iconst (1), 1, 0, 0, 0, (1), 0, []),
  (15, .aload_n 0, 1, 0, 0, 0, 0, 0, []),
  (16, .getfield 57, 3, 3, 0, 2, 0, 0, []),
  (19, .getfield 65, 3, 2, 15, 0, 0, 0, []),
  (22, .ishl, 1, 0, 0, 0, 0, 0, []),
  (23, .invokevirtual 71, 3, 120, 2, 0, 0, 0, []),
  (26, .aload_n 0, 1, 0, 0, 0, 0, 0, []),
  (27, .getfield 12, 3, 3, 1, 2, 0, 0, []),
  (30, .aload_n 0, 1, 0, 0, 0, 0, 0, []),
  (31, .getfield 57, 3, 3, 0, 2, 0, 0, []),
  (34, .invokevirtual 75, 3, 121, 2, 0, 0, 0, []),
  (37, .aload_n 0, 1, 0, 0, 0, 0, 0, []),
  (38, .invokevirtual 79, 3, 127, 1, 0, 0, 0, []),
  (41, .aload_n 0, 1, 0, 0, 0, 0, 0, []),
  (42, .invokevirtual 82, 3, 130, 1, 0, 0, 0, []),
  (45, .aload_n 0, 1, 0, 0, 0, 0, 0, []),
  (46, .invokevirtual 85, 3, 132, 1, 0, 0, 0, []),
  (49, .aload_n 0, 1, 0, 0, 0, 0, 0, []),
  (50, .getfield 57, 3, 3, 0, 2, 0, 0, []),
  (53, .getfield 88, 3, 2, 13, 0, 0, 0, []),
  (56, .iconst (1), 1, 0, 0, 0, (1), 0, []),
  (57, .isub, 1, 0, 0, 0, 0, 0, []),
  (58, .istore_n 1, 1, 1, 0, 0, 0, 0, [])]
set_option maxRecDepth 100000 in
theorem lX3_weighAll_0_ck : lX3_weighAll_0.all (ra_ck mX3_weighAll 3) = true := by decide +kernel
def nX3_weighAll_0 (N : Nat) (a0 : Nat) (h : ra_H) : Option ra_H :=
  (ra_fI h 3 a0 12).bind fun x1 =>
  if x1 = 0 then
    if ((1 : Int32)) = 0 ∨ ((1 : Int32)) = 1 then
    (ra_fW h 3 a0 12 (.int ((1 : Int32)))).bind fun h2 =>
    (ra_fR h2 3 a0 0).bind fun x3 =>
    (ra_fI h2 2 x3 15).bind fun x4 =>
    (fX3_makeRoom N a0 (((1 : Int32)) <<< (x4 &&& 31)) h2).bind fun h5 =>
    (ra_fR h5 3 a0 1).bind fun x6 =>
    (ra_fR h5 3 a0 0).bind fun x7 =>
    (fX10_weighWorths N x6 x7 h5).bind fun h8 =>
    (fX3_lookAhead N a0 h8).bind fun h9 =>
    (fX3_lookBehind N a0 h9).bind fun h10 =>
    (fX3_beginBehindAll N a0 h10).bind fun h11 =>
    (ra_fR h11 3 a0 0).bind fun x12 =>
    (ra_fI h11 2 x12 13).bind fun x13 =>
    let y14 := x13 - ((1 : Int32))
    nX3_weighAll_59 N N a0 y14 h11
    else none
  else
    some h
def kX3_weighAll_0 (N : Nat) : Nat → List (Option Value) → List Value → ra_H → Option ra_H := (ra_k1 59 (fun L S h => match L, S with
  | [some (.ref a0), some (.int a1)], [] => nX3_weighAll_59 N N a0 a1 h
  | _, _ => none) ra_k0)
theorem kX3_weighAll_0_ok (N : Nat) : ra_kok 5 mX3_weighAll ra_oV (kX3_weighAll_0 N) := (ra_k1_ok (by
  intro L S h a e
  split at e
  · exact ra_Ru.weak (nX3_weighAll_59_ok N N _ _ _ _ e) ⟨rfl, ⟨rfl, trivial⟩⟩
  · cases e) ra_k0_ok)
set_option maxRecDepth 100000 in
theorem nX3_weighAll_0_ok (N : Nat) (a0 : Nat) (h : ra_H) (r : ra_H) (e : nX3_weighAll_0 N a0 h = some r) : ra_Ru 5 mX3_weighAll 0 [some (.ref a0), none] [] h (ra_oV r) :=
  ra_sound (by omega) rfl ra_rV_ok (kX3_weighAll_0_ok N) (fun m av h h1 e => (tVX3_weighAll_ok N) m av h h1 e) (fun m av h x h1 e => (ra_c0_ok (ro := ra_oI)) m av h (x, h1) e) (fun m av h x h1 e => (ra_c0_ok (ro := ra_oJ)) m av h (x, h1) e) (fun m av h x h1 e => (ra_c0_ok (ro := ra_oR)) m av h (x, h1) e) (fun m av h x h1 e => (ra_c0_ok (ro := ra_oN)) m av h (x, h1) e) (fun m av h x h1 e => (ra_c0_ok (ro := ra_oF)) m av h (x, h1) e) 32 lX3_weighAll_0 _ _ _ _ lX3_weighAll_0_ck (show ra_run ra_rV (kX3_weighAll_0 N) (tVX3_weighAll N) ra_c0 ra_c0 ra_c0 ra_c0 ra_c0 32 lX3_weighAll_0 [some (.ref a0), none] [] h = some r from e) _ _ rfl
def fX3_weighAll (N : Nat) (p0 : Nat) (h : ra_H) : Option ra_H := match ra_isOb h p0 3 with
  | true => nX3_weighAll_0 N p0 h
  | false => none
set_option maxRecDepth 100000 in
theorem mtX3_weighAll : ra_MT[119]? = some (mX3_weighAll, 1, 0, (1, 9), (4, 229), (4, 230)) := rfl
theorem fX3_weighAll_co (N : Nat) (p0 : Nat) (h : ra_H) (r : ra_H) (e : fX3_weighAll N p0 h = some r) (D : Nat) (hD : 6 ≤ D) : ra_CO D 119 [.ref p0] h (ra_oV r).1 (ra_oV r).2 := by
  have hw : ra_nw2 [.ref p0] ≤ 2 := Nat.le_of_ble_eq_true rfl
  have hdb : ∀ v ∈ ([.ref p0] : List Value), ∀ x, v ≠ .double x := by
    intro v hv x hx
    simp [hx] at hv
  unfold fX3_weighAll at e
  split at e
  · rename_i ho
    have e1 := e
    exact ⟨5, _, mtX3_weighAll, hD, ra_ev_of (by decide) hdb hw trivial (ra_Ru.weak (nX3_weighAll_0_ok N p0 h _ e1) ⟨rfl, trivial⟩), (fun _ => ⟨_, _, rfl, ra_rcv_of ho (by decide) rfl⟩), (fun h => absurd h (by decide))⟩
  · cases e
/-! RedMarks$Tape.append(I)V -/
def mX8_append : ra_M := (yX8_append, cX8_append, 3, none)
def lX8_append_43 : List ra_I := [(43, .iinc 2 (-8), 3, 2, 0, 0, (-8), 0, []),
  (46, .goto (-43), 3, 3, 0, 0, 0, 0, [])]
set_option maxRecDepth 100000 in
theorem lX8_append_43_ck : lX8_append_43.all (ra_ck mX8_append 8) = true := by decide +kernel
def nX8_append_43 (N : Nat) (c3 : Nat → Int32 → Int32 → ra_H → Option ra_H) (a0 : Nat) (a1 : Int32) (a2 : Int32) (h : ra_H) : Option ra_H :=
  let y1 := a2 + (-8 : Int32)
  c3 a0 a1 y1 h
def kX8_append_43 (N : Nat) (c3 : Nat → Int32 → Int32 → ra_H → Option ra_H) : Nat → List (Option Value) → List Value → ra_H → Option ra_H := (ra_k1 3 (fun L S h => match L, S with
  | [some (.ref a0), some (.int a1), some (.int a2)], [] => c3 a0 a1 a2 h
  | _, _ => none) ra_k0)
theorem kX8_append_43_ok (N : Nat) (c3 : Nat → Int32 → Int32 → ra_H → Option ra_H) (hc3 : ∀ a0 a1 a2 h r, c3 a0 a1 a2 h = some r → ra_Ru 1 mX8_append 3 [some (.ref a0), some (.int a1), some (.int a2)] [] h (ra_oV r)) : ra_kok 1 mX8_append ra_oV (kX8_append_43 N c3) := (ra_k1_ok (by
  intro L S h a e
  split at e
  · exact ra_Ru.weak (hc3 _ _ _ _ _ e) ⟨rfl, ⟨rfl, ⟨rfl, trivial⟩⟩⟩
  · cases e) ra_k0_ok)
set_option maxRecDepth 100000 in
theorem nX8_append_43_ok (N : Nat) (c3 : Nat → Int32 → Int32 → ra_H → Option ra_H) (hc3 : ∀ a0 a1 a2 h r, c3 a0 a1 a2 h = some r → ra_Ru 1 mX8_append 3 [some (.ref a0), some (.int a1), some (.int a2)] [] h (ra_oV r)) (a0 : Nat) (a1 : Int32) (a2 : Int32) (h : ra_H) (r : ra_H) (e : nX8_append_43 N c3 a0 a1 a2 h = some r) : ra_Ru 1 mX8_append 43 [some (.ref a0), some (.int a1), some (.int a2)] [] h (ra_oV r) :=
  ra_sound (by omega) rfl ra_rV_ok (kX8_append_43_ok N c3 hc3) (fun m av h h1 e => (ra_c0_ok (ro := ra_oV)) m av h h1 e) (fun m av h x h1 e => (ra_c0_ok (ro := ra_oI)) m av h (x, h1) e) (fun m av h x h1 e => (ra_c0_ok (ro := ra_oJ)) m av h (x, h1) e) (fun m av h x h1 e => (ra_c0_ok (ro := ra_oR)) m av h (x, h1) e) (fun m av h x h1 e => (ra_c0_ok (ro := ra_oN)) m av h (x, h1) e) (fun m av h x h1 e => (ra_c0_ok (ro := ra_oF)) m av h (x, h1) e) 3 lX8_append_43 _ _ _ _ lX8_append_43_ck (show ra_run ra_rV (kX8_append_43 N c3) ra_c0 ra_c0 ra_c0 ra_c0 ra_c0 ra_c0 3 lX8_append_43 [some (.ref a0), some (.int a1), some (.int a2)] [] h = some r from e) _ _ rfl
def lX8_append_3 : List ra_I := [(3, .iload_n 2, 1, 2, 0, 0, 0, 0, []),
  (4, .ifCond .lt (45), 3, 49, 0, 0, 0, 0, []),
  (7, .aload_n 0, 1, 0, 0, 0, 0, 0, []),
  (8, .getfield 26, 3, 8, 1, 0, 0, 0, []),
  (11, .sipush (400), 3, 0, 0, 0, (400), 0, []),
  (14, .if_icmp .ge (29), 3, 43, 0, 0, 0, 0, []),
  (17, .aload_n 0, 1, 0, 0, 0, 0, 0, []),
  (18, .getfield 9, 3, 8, 0, 2, 0, 0, []),
  (21, .aload_n 0, 1, 0, 0, 0, 0, 0, []),
  (22, .getfield 26, 3, 8, 1, 0, 0, 0, []),
  (25, .iload_n 1, 1, 1, 0, 0, 0, 0, []),
  (26, .iload_n 2, 1, 2, 0, 0, 0, 0, []),
  (27, .iushr, 1, 0, 0, 0, 0, 0, []),
  (28, .sipush (255), 3, 0, 0, 0, (255), 0, []),
  (31, .iand, 1, 0, 0, 0, 0, 0, []),
  (32, .iastore, 1, 0, 0, 0, 0, 0, []),
  (33, .aload_n 0, 1, 0, 0, 0, 0, 0, []),
  (34, .dup, 1, 0, 0, 0, 0, 0, []),
  (35, .getfield 26, 3, 8, 1, 0, 0, 0, []),
  (38, .iconst (1), 1, 0, 0, 0, (1), 0, []),
  (39, .iadd, 1, 0, 0, 0, 0, 0, []),
  (40, .putfield 26, 3, 8, 1, 0, 0, 0, []),
  (49, .return_, 1, 0, 0, 0, 0, 0, [])]
set_option maxRecDepth 100000 in
theorem lX8_append_3_ck : lX8_append_3.all (ra_ck mX8_append 8) = true := by decide +kernel
def nX8_append_3 (N : Nat) : Nat → Nat → Int32 → Int32 → ra_H → Option ra_H
  | 0, _, _, _, _ => none
  | n + 1, a0, a1, a2, h =>
  if a2 < 0 then
    some h
  else
    (ra_fI h 8 a0 1).bind fun x1 =>
    if x1 < ((400 : Int32)) then
      (ra_fR h 8 a0 0).bind fun x2 =>
      (ra_fI h 8 a0 1).bind fun x3 =>
      (ra_aW h 0 x2 x3 (((Int32.toUInt32 a1 >>> (Int32.toUInt32 a2 &&& Int32.toUInt32 31)).toInt32) &&& ((255 : Int32)))).bind fun h4 =>
      (ra_fI h4 8 a0 1).bind fun x5 =>
      (ra_fW h4 8 a0 1 (.int (x5 + ((1 : Int32))))).bind fun h6 =>
      nX8_append_43 N (nX8_append_3 N n) a0 a1 a2 h6
    else
      nX8_append_43 N (nX8_append_3 N n) a0 a1 a2 h
def kX8_append_3 (N : Nat) (cs : Nat → Int32 → Int32 → ra_H → Option ra_H) : Nat → List (Option Value) → List Value → ra_H → Option ra_H := (ra_k1 43 (fun L S h => match L, S with
  | [some (.ref a0), some (.int a1), some (.int a2)], [] => nX8_append_43 N cs a0 a1 a2 h
  | _, _ => none) ra_k0)
theorem kX8_append_3_ok (N : Nat) (cs : Nat → Int32 → Int32 → ra_H → Option ra_H) (hcs : ∀ a0 a1 a2 h r, cs a0 a1 a2 h = some r → ra_Ru 1 mX8_append 3 [some (.ref a0), some (.int a1), some (.int a2)] [] h (ra_oV r)) : ra_kok 1 mX8_append ra_oV (kX8_append_3 N cs) := (ra_k1_ok (by
  intro L S h a e
  split at e
  · exact ra_Ru.weak (nX8_append_43_ok N cs hcs _ _ _ _ _ e) ⟨rfl, ⟨rfl, ⟨rfl, trivial⟩⟩⟩
  · cases e) ra_k0_ok)
set_option maxRecDepth 100000 in
theorem nX8_append_3_ok (N : Nat) : ∀ n a0 a1 a2 h r, nX8_append_3 N n a0 a1 a2 h = some r → ra_Ru 1 mX8_append 3 [some (.ref a0), some (.int a1), some (.int a2)] [] h (ra_oV r) := by
  intro n
  induction n with
  | zero => intro a0 a1 a2 h r e; cases e
  | succ n ih =>
    intro a0 a1 a2 h r e
    exact ra_sound (by omega) rfl ra_rV_ok (kX8_append_3_ok N (nX8_append_3 N n) ih) (fun m av h h1 e => (ra_c0_ok (ro := ra_oV)) m av h h1 e) (fun m av h x h1 e => (ra_c0_ok (ro := ra_oI)) m av h (x, h1) e) (fun m av h x h1 e => (ra_c0_ok (ro := ra_oJ)) m av h (x, h1) e) (fun m av h x h1 e => (ra_c0_ok (ro := ra_oR)) m av h (x, h1) e) (fun m av h x h1 e => (ra_c0_ok (ro := ra_oN)) m av h (x, h1) e) (fun m av h x h1 e => (ra_c0_ok (ro := ra_oF)) m av h (x, h1) e) 24 lX8_append_3 _ _ _ _ lX8_append_3_ck (show ra_run ra_rV (kX8_append_3 N (nX8_append_3 N n)) ra_c0 ra_c0 ra_c0 ra_c0 ra_c0 ra_c0 24 lX8_append_3 [some (.ref a0), some (.int a1), some (.int a2)] [] h = some r from e) _ _ rfl
def lX8_append_0 : List ra_I := [(0, .bipush (24), 2, 0, 0, 0, (24), 0, []),
  (2, .istore_n 2, 1, 2, 0, 0, 0, 0, [])]
set_option maxRecDepth 100000 in
theorem lX8_append_0_ck : lX8_append_0.all (ra_ck mX8_append 8) = true := by decide +kernel
def nX8_append_0 (N : Nat) (a0 : Nat) (a1 : Int32) (h : ra_H) : Option ra_H :=
  nX8_append_3 N N a0 a1 ((24 : Int32)) h
def kX8_append_0 (N : Nat) : Nat → List (Option Value) → List Value → ra_H → Option ra_H := (ra_k1 3 (fun L S h => match L, S with
  | [some (.ref a0), some (.int a1), some (.int a2)], [] => nX8_append_3 N N a0 a1 a2 h
  | _, _ => none) ra_k0)
theorem kX8_append_0_ok (N : Nat) : ra_kok 1 mX8_append ra_oV (kX8_append_0 N) := (ra_k1_ok (by
  intro L S h a e
  split at e
  · exact ra_Ru.weak (nX8_append_3_ok N N _ _ _ _ _ e) ⟨rfl, ⟨rfl, ⟨rfl, trivial⟩⟩⟩
  · cases e) ra_k0_ok)
set_option maxRecDepth 100000 in
theorem nX8_append_0_ok (N : Nat) (a0 : Nat) (a1 : Int32) (h : ra_H) (r : ra_H) (e : nX8_append_0 N a0 a1 h = some r) : ra_Ru 1 mX8_append 0 [some (.ref a0), some (.int a1), none] [] h (ra_oV r) :=
  ra_sound (by omega) rfl ra_rV_ok (kX8_append_0_ok N) (fun m av h h1 e => (ra_c0_ok (ro := ra_oV)) m av h h1 e) (fun m av h x h1 e => (ra_c0_ok (ro := ra_oI)) m av h (x, h1) e) (fun m av h x h1 e => (ra_c0_ok (ro := ra_oJ)) m av h (x, h1) e) (fun m av h x h1 e => (ra_c0_ok (ro := ra_oR)) m av h (x, h1) e) (fun m av h x h1 e => (ra_c0_ok (ro := ra_oN)) m av h (x, h1) e) (fun m av h x h1 e => (ra_c0_ok (ro := ra_oF)) m av h (x, h1) e) 3 lX8_append_0 _ _ _ _ lX8_append_0_ck (show ra_run ra_rV (kX8_append_0 N) ra_c0 ra_c0 ra_c0 ra_c0 ra_c0 ra_c0 3 lX8_append_0 [some (.ref a0), some (.int a1), none] [] h = some r from e) _ _ rfl
def fX8_append (N : Nat) (p0 : Nat) (p1 : Int32) (h : ra_H) : Option ra_H := match ra_isOb h p0 8 with
  | true => nX8_append_0 N p0 p1 h
  | false => none
set_option maxRecDepth 100000 in
theorem mtX8_append : ra_MT[36]? = some (mX8_append, 1, 1, (1, 4), (3, 85), (3, 86)) := rfl
theorem fX8_append_co (N : Nat) (p0 : Nat) (p1 : Int32) (h : ra_H) (r : ra_H) (e : fX8_append N p0 p1 h = some r) (D : Nat) (hD : 2 ≤ D) : ra_CO D 36 [.ref p0, .int p1] h (ra_oV r).1 (ra_oV r).2 := by
  have hw : ra_nw2 [.ref p0, .int p1] ≤ 3 := Nat.le_of_ble_eq_true rfl
  have hdb : ∀ v ∈ ([.ref p0, .int p1] : List Value), ∀ x, v ≠ .double x := by
    intro v hv x hx
    simp [hx] at hv
  unfold fX8_append at e
  split at e
  · rename_i ho
    have e1 := e
    exact ⟨1, _, mtX8_append, hD, ra_ev_of (by decide) hdb hw trivial (ra_Ru.weak (nX8_append_0_ok N p0 p1 h _ e1) ⟨rfl, ⟨rfl, trivial⟩⟩), (fun _ => ⟨_, _, rfl, ra_rcv_of ho (by decide) rfl⟩), (fun h => absurd h (by decide))⟩
  · cases e
/-! RedMarks$Tape.isDigit(I)Z -/
def mX8_isDigit : ra_M := (yX8_isDigit, cX8_isDigit, 1, (some .boolean))
def lX8_isDigit_17 : List ra_I := [(17, .ireturn, 1, 0, 0, 0, 0, 0, [])]
set_option maxRecDepth 100000 in
theorem lX8_isDigit_17_ck : lX8_isDigit_17.all (ra_ck mX8_isDigit 8) = true := by decide +kernel
def nX8_isDigit_17 (N : Nat) (b0 : Int32) (h : ra_H) : Option (Int32 × ra_H) :=
  some (b0, h)
def kX8_isDigit_17 (N : Nat) : Nat → List (Option Value) → List Value → ra_H → Option (Int32 × ra_H) := ra_k0
theorem kX8_isDigit_17_ok (N : Nat) : ra_kok 1 mX8_isDigit ra_oI (kX8_isDigit_17 N) := ra_k0_ok
set_option maxRecDepth 100000 in
theorem nX8_isDigit_17_ok (N : Nat) (b0 : Int32) (h : ra_H) (r : (Int32 × ra_H)) (e : nX8_isDigit_17 N b0 h = some r) : ra_Ru 1 mX8_isDigit 17 [none] [.int b0] h (ra_oI r) :=
  ra_sound (by omega) rfl ra_rI_ok (kX8_isDigit_17_ok N) (fun m av h h1 e => (ra_c0_ok (ro := ra_oV)) m av h h1 e) (fun m av h x h1 e => (ra_c0_ok (ro := ra_oI)) m av h (x, h1) e) (fun m av h x h1 e => (ra_c0_ok (ro := ra_oJ)) m av h (x, h1) e) (fun m av h x h1 e => (ra_c0_ok (ro := ra_oR)) m av h (x, h1) e) (fun m av h x h1 e => (ra_c0_ok (ro := ra_oN)) m av h (x, h1) e) (fun m av h x h1 e => (ra_c0_ok (ro := ra_oF)) m av h (x, h1) e) 2 lX8_isDigit_17 _ _ _ _ lX8_isDigit_17_ck (show ra_run ra_rI (kX8_isDigit_17 N) ra_c0 ra_c0 ra_c0 ra_c0 ra_c0 ra_c0 2 lX8_isDigit_17 [none] [.int b0] h = some r from e) _ _ rfl
def lX8_isDigit_16 : List ra_I := [(16, .iconst (0), 1, 0, 0, 0, (0), 0, [])]
set_option maxRecDepth 100000 in
theorem lX8_isDigit_16_ck : lX8_isDigit_16.all (ra_ck mX8_isDigit 8) = true := by decide +kernel
def nX8_isDigit_16 (N : Nat) (h : ra_H) : Option (Int32 × ra_H) :=
  nX8_isDigit_17 N ((0 : Int32)) h
def kX8_isDigit_16 (N : Nat) : Nat → List (Option Value) → List Value → ra_H → Option (Int32 × ra_H) := (ra_k1 17 (fun L S h => match L, S with
  | [_], [.int b0] => nX8_isDigit_17 N b0 h
  | _, _ => none) ra_k0)
theorem kX8_isDigit_16_ok (N : Nat) : ra_kok 1 mX8_isDigit ra_oI (kX8_isDigit_16 N) := (ra_k1_ok (by
  intro L S h a e
  split at e
  · exact ra_Ru.weak (nX8_isDigit_17_ok N _ _ _ e) trivial
  · cases e) ra_k0_ok)
set_option maxRecDepth 100000 in
theorem nX8_isDigit_16_ok (N : Nat) (h : ra_H) (r : (Int32 × ra_H)) (e : nX8_isDigit_16 N h = some r) : ra_Ru 1 mX8_isDigit 16 [none] [] h (ra_oI r) :=
  ra_sound (by omega) rfl ra_rI_ok (kX8_isDigit_16_ok N) (fun m av h h1 e => (ra_c0_ok (ro := ra_oV)) m av h h1 e) (fun m av h x h1 e => (ra_c0_ok (ro := ra_oI)) m av h (x, h1) e) (fun m av h x h1 e => (ra_c0_ok (ro := ra_oJ)) m av h (x, h1) e) (fun m av h x h1 e => (ra_c0_ok (ro := ra_oR)) m av h (x, h1) e) (fun m av h x h1 e => (ra_c0_ok (ro := ra_oN)) m av h (x, h1) e) (fun m av h x h1 e => (ra_c0_ok (ro := ra_oF)) m av h (x, h1) e) 2 lX8_isDigit_16 _ _ _ _ lX8_isDigit_16_ck (show ra_run ra_rI (kX8_isDigit_16 N) ra_c0 ra_c0 ra_c0 ra_c0 ra_c0 ra_c0 2 lX8_isDigit_16 [none] [] h = some r from e) _ _ rfl
def lX8_isDigit_0 : List ra_I := [(0, .iload_n 0, 1, 0, 0, 0, 0, 0, []),
  (1, .bipush (48), 2, 0, 0, 0, (48), 0, []),
  (3, .if_icmp .lt (13), 3, 16, 0, 0, 0, 0, []),
  (6, .iload_n 0, 1, 0, 0, 0, 0, 0, []),
  (7, .bipush (57), 2, 0, 0, 0, (57), 0, []),
  (9, .if_icmp .gt (7), 3, 16, 0, 0, 0, 0, []),
  (12, .iconst (1), 1, 0, 0, 0, (1), 0, []),
  (13, .goto (4), 3, 17, 0, 0, 0, 0, [])]
set_option maxRecDepth 100000 in
theorem lX8_isDigit_0_ck : lX8_isDigit_0.all (ra_ck mX8_isDigit 8) = true := by decide +kernel
def nX8_isDigit_0 (N : Nat) (a0 : Int32) (h : ra_H) : Option (Int32 × ra_H) :=
  if a0 < ((48 : Int32)) then
    nX8_isDigit_16 N h
  else
    if a0 ≤ ((57 : Int32)) then
      nX8_isDigit_17 N ((1 : Int32)) h
    else
      nX8_isDigit_16 N h
def kX8_isDigit_0 (N : Nat) : Nat → List (Option Value) → List Value → ra_H → Option (Int32 × ra_H) := (ra_k1 16 (fun L S h => match L, S with
  | [_], [] => nX8_isDigit_16 N h
  | _, _ => none) (ra_k1 17 (fun L S h => match L, S with
  | [_], [.int b0] => nX8_isDigit_17 N b0 h
  | _, _ => none) ra_k0))
theorem kX8_isDigit_0_ok (N : Nat) : ra_kok 1 mX8_isDigit ra_oI (kX8_isDigit_0 N) := (ra_k1_ok (by
  intro L S h a e
  split at e
  · exact ra_Ru.weak (nX8_isDigit_16_ok N _ _ e) trivial
  · cases e) (ra_k1_ok (by
  intro L S h a e
  split at e
  · exact ra_Ru.weak (nX8_isDigit_17_ok N _ _ _ e) trivial
  · cases e) ra_k0_ok))
set_option maxRecDepth 100000 in
theorem nX8_isDigit_0_ok (N : Nat) (a0 : Int32) (h : ra_H) (r : (Int32 × ra_H)) (e : nX8_isDigit_0 N a0 h = some r) : ra_Ru 1 mX8_isDigit 0 [some (.int a0)] [] h (ra_oI r) :=
  ra_sound (by omega) rfl ra_rI_ok (kX8_isDigit_0_ok N) (fun m av h h1 e => (ra_c0_ok (ro := ra_oV)) m av h h1 e) (fun m av h x h1 e => (ra_c0_ok (ro := ra_oI)) m av h (x, h1) e) (fun m av h x h1 e => (ra_c0_ok (ro := ra_oJ)) m av h (x, h1) e) (fun m av h x h1 e => (ra_c0_ok (ro := ra_oR)) m av h (x, h1) e) (fun m av h x h1 e => (ra_c0_ok (ro := ra_oN)) m av h (x, h1) e) (fun m av h x h1 e => (ra_c0_ok (ro := ra_oF)) m av h (x, h1) e) 9 lX8_isDigit_0 _ _ _ _ lX8_isDigit_0_ck (show ra_run ra_rI (kX8_isDigit_0 N) ra_c0 ra_c0 ra_c0 ra_c0 ra_c0 ra_c0 9 lX8_isDigit_0 [some (.int a0)] [] h = some r from e) _ _ rfl
def fX8_isDigit (N : Nat) (p0 : Int32) (h : ra_H) : Option (Int32 × ra_H) := (nX8_isDigit_0 N p0 h).bind (fun q => ra_rz q.1 q.2)
set_option maxRecDepth 100000 in
theorem mtX8_isDigit : ra_MT[45]? = some (mX8_isDigit, 0, 1, (1, 4), (3, 120), (0, 0)) := rfl
theorem fX8_isDigit_co (N : Nat) (p0 : Int32) (h : ra_H) (r : (Int32 × ra_H)) (e : fX8_isDigit N p0 h = some r) (D : Nat) (hD : 2 ≤ D) : ra_CO D 45 [.int p0] h (ra_oI r).1 (ra_oI r).2 := by
  have hw : ra_nw2 [.int p0] ≤ 1 := Nat.le_of_ble_eq_true rfl
  have hdb : ∀ v ∈ ([.int p0] : List Value), ∀ x, v ≠ .double x := by
    intro v hv x hx
    simp [hx] at hv
  unfold fX8_isDigit at e
  obtain ⟨q, e1, e2⟩ := Option.bind_eq_some_iff.mp e
  obtain ⟨rfl, hz⟩ := ra_rz_of e2
  exact ⟨1, _, mtX8_isDigit, hD, ra_ev_of (by decide) hdb hw hz (ra_Ru.weak (nX8_isDigit_0_ok N p0 h _ e1) ⟨rfl, trivial⟩), (fun h => absurd h (by decide)), (fun h => absurd h (by decide))⟩
/-! RedMarks$Tape.isLetter(I)Z -/
def mX8_isLetter : ra_M := (yX8_isLetter, cX8_isLetter, 1, (some .boolean))
def lX8_isLetter_17 : List ra_I := [(17, .ireturn, 1, 0, 0, 0, 0, 0, [])]
set_option maxRecDepth 100000 in
theorem lX8_isLetter_17_ck : lX8_isLetter_17.all (ra_ck mX8_isLetter 8) = true := by decide +kernel
def nX8_isLetter_17 (N : Nat) (b0 : Int32) (h : ra_H) : Option (Int32 × ra_H) :=
  some (b0, h)
def kX8_isLetter_17 (N : Nat) : Nat → List (Option Value) → List Value → ra_H → Option (Int32 × ra_H) := ra_k0
theorem kX8_isLetter_17_ok (N : Nat) : ra_kok 1 mX8_isLetter ra_oI (kX8_isLetter_17 N) := ra_k0_ok
set_option maxRecDepth 100000 in
theorem nX8_isLetter_17_ok (N : Nat) (b0 : Int32) (h : ra_H) (r : (Int32 × ra_H)) (e : nX8_isLetter_17 N b0 h = some r) : ra_Ru 1 mX8_isLetter 17 [none] [.int b0] h (ra_oI r) :=
  ra_sound (by omega) rfl ra_rI_ok (kX8_isLetter_17_ok N) (fun m av h h1 e => (ra_c0_ok (ro := ra_oV)) m av h h1 e) (fun m av h x h1 e => (ra_c0_ok (ro := ra_oI)) m av h (x, h1) e) (fun m av h x h1 e => (ra_c0_ok (ro := ra_oJ)) m av h (x, h1) e) (fun m av h x h1 e => (ra_c0_ok (ro := ra_oR)) m av h (x, h1) e) (fun m av h x h1 e => (ra_c0_ok (ro := ra_oN)) m av h (x, h1) e) (fun m av h x h1 e => (ra_c0_ok (ro := ra_oF)) m av h (x, h1) e) 2 lX8_isLetter_17 _ _ _ _ lX8_isLetter_17_ck (show ra_run ra_rI (kX8_isLetter_17 N) ra_c0 ra_c0 ra_c0 ra_c0 ra_c0 ra_c0 2 lX8_isLetter_17 [none] [.int b0] h = some r from e) _ _ rfl
def lX8_isLetter_16 : List ra_I := [(16, .iconst (0), 1, 0, 0, 0, (0), 0, [])]
set_option maxRecDepth 100000 in
theorem lX8_isLetter_16_ck : lX8_isLetter_16.all (ra_ck mX8_isLetter 8) = true := by decide +kernel
def nX8_isLetter_16 (N : Nat) (h : ra_H) : Option (Int32 × ra_H) :=
  nX8_isLetter_17 N ((0 : Int32)) h
def kX8_isLetter_16 (N : Nat) : Nat → List (Option Value) → List Value → ra_H → Option (Int32 × ra_H) := (ra_k1 17 (fun L S h => match L, S with
  | [_], [.int b0] => nX8_isLetter_17 N b0 h
  | _, _ => none) ra_k0)
theorem kX8_isLetter_16_ok (N : Nat) : ra_kok 1 mX8_isLetter ra_oI (kX8_isLetter_16 N) := (ra_k1_ok (by
  intro L S h a e
  split at e
  · exact ra_Ru.weak (nX8_isLetter_17_ok N _ _ _ e) trivial
  · cases e) ra_k0_ok)
set_option maxRecDepth 100000 in
theorem nX8_isLetter_16_ok (N : Nat) (h : ra_H) (r : (Int32 × ra_H)) (e : nX8_isLetter_16 N h = some r) : ra_Ru 1 mX8_isLetter 16 [none] [] h (ra_oI r) :=
  ra_sound (by omega) rfl ra_rI_ok (kX8_isLetter_16_ok N) (fun m av h h1 e => (ra_c0_ok (ro := ra_oV)) m av h h1 e) (fun m av h x h1 e => (ra_c0_ok (ro := ra_oI)) m av h (x, h1) e) (fun m av h x h1 e => (ra_c0_ok (ro := ra_oJ)) m av h (x, h1) e) (fun m av h x h1 e => (ra_c0_ok (ro := ra_oR)) m av h (x, h1) e) (fun m av h x h1 e => (ra_c0_ok (ro := ra_oN)) m av h (x, h1) e) (fun m av h x h1 e => (ra_c0_ok (ro := ra_oF)) m av h (x, h1) e) 2 lX8_isLetter_16 _ _ _ _ lX8_isLetter_16_ck (show ra_run ra_rI (kX8_isLetter_16 N) ra_c0 ra_c0 ra_c0 ra_c0 ra_c0 ra_c0 2 lX8_isLetter_16 [none] [] h = some r from e) _ _ rfl
def lX8_isLetter_0 : List ra_I := [(0, .iload_n 0, 1, 0, 0, 0, 0, 0, []),
  (1, .bipush (97), 2, 0, 0, 0, (97), 0, []),
  (3, .if_icmp .lt (13), 3, 16, 0, 0, 0, 0, []),
  (6, .iload_n 0, 1, 0, 0, 0, 0, 0, []),
  (7, .bipush (122), 2, 0, 0, 0, (122), 0, []),
  (9, .if_icmp .gt (7), 3, 16, 0, 0, 0, 0, []),
  (12, .iconst (1), 1, 0, 0, 0, (1), 0, []),
  (13, .goto (4), 3, 17, 0, 0, 0, 0, [])]
set_option maxRecDepth 100000 in
theorem lX8_isLetter_0_ck : lX8_isLetter_0.all (ra_ck mX8_isLetter 8) = true := by decide +kernel
def nX8_isLetter_0 (N : Nat) (a0 : Int32) (h : ra_H) : Option (Int32 × ra_H) :=
  if a0 < ((97 : Int32)) then
    nX8_isLetter_16 N h
  else
    if a0 ≤ ((122 : Int32)) then
      nX8_isLetter_17 N ((1 : Int32)) h
    else
      nX8_isLetter_16 N h
def kX8_isLetter_0 (N : Nat) : Nat → List (Option Value) → List Value → ra_H → Option (Int32 × ra_H) := (ra_k1 16 (fun L S h => match L, S with
  | [_], [] => nX8_isLetter_16 N h
  | _, _ => none) (ra_k1 17 (fun L S h => match L, S with
  | [_], [.int b0] => nX8_isLetter_17 N b0 h
  | _, _ => none) ra_k0))
theorem kX8_isLetter_0_ok (N : Nat) : ra_kok 1 mX8_isLetter ra_oI (kX8_isLetter_0 N) := (ra_k1_ok (by
  intro L S h a e
  split at e
  · exact ra_Ru.weak (nX8_isLetter_16_ok N _ _ e) trivial
  · cases e) (ra_k1_ok (by
  intro L S h a e
  split at e
  · exact ra_Ru.weak (nX8_isLetter_17_ok N _ _ _ e) trivial
  · cases e) ra_k0_ok))
set_option maxRecDepth 100000 in
theorem nX8_isLetter_0_ok (N : Nat) (a0 : Int32) (h : ra_H) (r : (Int32 × ra_H)) (e : nX8_isLetter_0 N a0 h = some r) : ra_Ru 1 mX8_isLetter 0 [some (.int a0)] [] h (ra_oI r) :=
  ra_sound (by omega) rfl ra_rI_ok (kX8_isLetter_0_ok N) (fun m av h h1 e => (ra_c0_ok (ro := ra_oV)) m av h h1 e) (fun m av h x h1 e => (ra_c0_ok (ro := ra_oI)) m av h (x, h1) e) (fun m av h x h1 e => (ra_c0_ok (ro := ra_oJ)) m av h (x, h1) e) (fun m av h x h1 e => (ra_c0_ok (ro := ra_oR)) m av h (x, h1) e) (fun m av h x h1 e => (ra_c0_ok (ro := ra_oN)) m av h (x, h1) e) (fun m av h x h1 e => (ra_c0_ok (ro := ra_oF)) m av h (x, h1) e) 9 lX8_isLetter_0 _ _ _ _ lX8_isLetter_0_ck (show ra_run ra_rI (kX8_isLetter_0 N) ra_c0 ra_c0 ra_c0 ra_c0 ra_c0 ra_c0 9 lX8_isLetter_0 [some (.int a0)] [] h = some r from e) _ _ rfl
def fX8_isLetter (N : Nat) (p0 : Int32) (h : ra_H) : Option (Int32 × ra_H) := (nX8_isLetter_0 N p0 h).bind (fun q => ra_rz q.1 q.2)
set_option maxRecDepth 100000 in
theorem mtX8_isLetter : ra_MT[44]? = some (mX8_isLetter, 0, 1, (1, 4), (3, 117), (0, 0)) := rfl
theorem fX8_isLetter_co (N : Nat) (p0 : Int32) (h : ra_H) (r : (Int32 × ra_H)) (e : fX8_isLetter N p0 h = some r) (D : Nat) (hD : 2 ≤ D) : ra_CO D 44 [.int p0] h (ra_oI r).1 (ra_oI r).2 := by
  have hw : ra_nw2 [.int p0] ≤ 1 := Nat.le_of_ble_eq_true rfl
  have hdb : ∀ v ∈ ([.int p0] : List Value), ∀ x, v ≠ .double x := by
    intro v hv x hx
    simp [hx] at hv
  unfold fX8_isLetter at e
  obtain ⟨q, e1, e2⟩ := Option.bind_eq_some_iff.mp e
  obtain ⟨rfl, hz⟩ := ra_rz_of e2
  exact ⟨1, _, mtX8_isLetter, hD, ra_ev_of (by decide) hdb hw hz (ra_Ru.weak (nX8_isLetter_0_ok N p0 h _ e1) ⟨rfl, trivial⟩), (fun h => absurd h (by decide)), (fun h => absurd h (by decide))⟩
/-! RedMarks$Tape.advance()V -/
def mX8_advance : ra_M := (yX8_advance, cX8_advance, 1, none)
def tIX8_advance (N : Nat) : Nat → List Value → ra_H → Option (Int32 × ra_H) := (ra_c1 44 (fun av h => match av with
  | [.int z0] => fX8_isLetter N z0 h
  | _ => none) (ra_c1 45 (fun av h => match av with
  | [.int z0] => fX8_isDigit N z0 h
  | _ => none) ra_c0))
theorem tIX8_advance_ok (N : Nat) : ra_cok 2 ra_oI (tIX8_advance N) := (ra_c1_ok (by
  intro av h a e
  split at e
  · exact fX8_isLetter_co N _ _ _ e 2 (by omega)
  · cases e) (ra_c1_ok (by
  intro av h a e
  split at e
  · exact fX8_isDigit_co N _ _ _ e 2 (by omega)
  · cases e) ra_c0_ok))
def lX8_advance_246 : List ra_I := [(246, .return_, 1, 0, 0, 0, 0, 0, [])]
set_option maxRecDepth 100000 in
theorem lX8_advance_246_ck : lX8_advance_246.all (ra_ck mX8_advance 8) = true := by decide +kernel
def nX8_advance_246 (N : Nat) (h : ra_H) : Option ra_H :=
  some h
def kX8_advance_246 (N : Nat) : Nat → List (Option Value) → List Value → ra_H → Option ra_H := ra_k0
theorem kX8_advance_246_ok (N : Nat) : ra_kok 2 mX8_advance ra_oV (kX8_advance_246 N) := ra_k0_ok
set_option maxRecDepth 100000 in
theorem nX8_advance_246_ok (N : Nat) (h : ra_H) (r : ra_H) (e : nX8_advance_246 N h = some r) : ra_Ru 2 mX8_advance 246 [none] [] h (ra_oV r) :=
  ra_sound (by omega) rfl ra_rV_ok (kX8_advance_246_ok N) (fun m av h h1 e => (ra_c0_ok (ro := ra_oV)) m av h h1 e) (fun m av h x h1 e => (tIX8_advance_ok N) m av h (x, h1) e) (fun m av h x h1 e => (ra_c0_ok (ro := ra_oJ)) m av h (x, h1) e) (fun m av h x h1 e => (ra_c0_ok (ro := ra_oR)) m av h (x, h1) e) (fun m av h x h1 e => (ra_c0_ok (ro := ra_oN)) m av h (x, h1) e) (fun m av h x h1 e => (ra_c0_ok (ro := ra_oF)) m av h (x, h1) e) 2 lX8_advance_246 _ _ _ _ lX8_advance_246_ck (show ra_run ra_rV (kX8_advance_246 N) ra_c0 (tIX8_advance N) ra_c0 ra_c0 ra_c0 ra_c0 2 lX8_advance_246 [none] [] h = some r from e) _ _ rfl
def lX8_advance_90 : List ra_I := [(90, .aload_n 0, 1, 0, 0, 0, 0, 0, []),
  (91, .getfield 39, 3, 8, 11, 0, 0, 0, []),
  (94, .aload_n 0, 1, 0, 0, 0, 0, 0, []),
  (95, .getfield 26, 3, 8, 1, 0, 0, 0, []),
  (98, .if_icmp .ge (148), 3, 246, 0, 0, 0, 0, []),
  (101, .aload_n 0, 1, 0, 0, 0, 0, 0, []),
  (102, .getfield 9, 3, 8, 0, 2, 0, 0, []),
  (105, .aload_n 0, 1, 0, 0, 0, 0, 0, []),
  (106, .getfield 39, 3, 8, 11, 0, 0, 0, []),
  (109, .iaload, 1, 0, 0, 0, 0, 0, []),
  (110, .invokestatic 75, 3, 44, 1, 1, 0, 0, []),
  (113, .ifCond .eq (133), 3, 246, 0, 0, 0, 0, []),
  (116, .aload_n 0, 1, 0, 0, 0, 0, 0, []),
  (117, .dup, 1, 0, 0, 0, 0, 0, []),
  (118, .getfield 39, 3, 8, 11, 0, 0, 0, []),
  (121, .iconst (1), 1, 0, 0, 0, (1), 0, []),
  (122, .iadd, 1, 0, 0, 0, 0, 0, []),
  (123, .putfield 39, 3, 8, 11, 0, 0, 0, []),
  (126, .goto (-36), 3, 90, 0, 0, 0, 0, [])]
set_option maxRecDepth 100000 in
theorem lX8_advance_90_ck : lX8_advance_90.all (ra_ck mX8_advance 8) = true := by decide +kernel
def nX8_advance_90 (N : Nat) : Nat → Nat → ra_H → Option ra_H
  | 0, _, _ => none
  | n + 1, a0, h =>
  (ra_fI h 8 a0 11).bind fun x1 =>
  (ra_fI h 8 a0 1).bind fun x2 =>
  if x1 < x2 then
    (ra_fR h 8 a0 0).bind fun x3 =>
    (ra_fI h 8 a0 11).bind fun x4 =>
    (ra_aI h 0 x3 x4).bind fun x5 =>
    (fX8_isLetter N x5 h).bind fun q6 =>
    if q6.1 = 0 then
      nX8_advance_246 N q6.2
    else
      (ra_fI q6.2 8 a0 11).bind fun x7 =>
      (ra_fW q6.2 8 a0 11 (.int (x7 + ((1 : Int32))))).bind fun h8 =>
      nX8_advance_90 N n a0 h8
  else
    nX8_advance_246 N h
def kX8_advance_90 (N : Nat) (cs : Nat → ra_H → Option ra_H) : Nat → List (Option Value) → List Value → ra_H → Option ra_H := (ra_k1 90 (fun L S h => match L, S with
  | [some (.ref a0)], [] => cs a0 h
  | _, _ => none) (ra_k1 246 (fun L S h => match L, S with
  | [_], [] => nX8_advance_246 N h
  | _, _ => none) ra_k0))
theorem kX8_advance_90_ok (N : Nat) (cs : Nat → ra_H → Option ra_H) (hcs : ∀ a0 h r, cs a0 h = some r → ra_Ru 2 mX8_advance 90 [some (.ref a0)] [] h (ra_oV r)) : ra_kok 2 mX8_advance ra_oV (kX8_advance_90 N cs) := (ra_k1_ok (by
  intro L S h a e
  split at e
  · exact ra_Ru.weak (hcs _ _ _ e) ⟨rfl, trivial⟩
  · cases e) (ra_k1_ok (by
  intro L S h a e
  split at e
  · exact ra_Ru.weak (nX8_advance_246_ok N _ _ e) trivial
  · cases e) ra_k0_ok))
set_option maxRecDepth 100000 in
theorem nX8_advance_90_ok (N : Nat) : ∀ n a0 h r, nX8_advance_90 N n a0 h = some r → ra_Ru 2 mX8_advance 90 [some (.ref a0)] [] h (ra_oV r) := by
  intro n
  induction n with
  | zero => intro a0 h r e; cases e
  | succ n ih =>
    intro a0 h r e
    exact ra_sound (by omega) rfl ra_rV_ok (kX8_advance_90_ok N (nX8_advance_90 N n) ih) (fun m av h h1 e => (ra_c0_ok (ro := ra_oV)) m av h h1 e) (fun m av h x h1 e => (tIX8_advance_ok N) m av h (x, h1) e) (fun m av h x h1 e => (ra_c0_ok (ro := ra_oJ)) m av h (x, h1) e) (fun m av h x h1 e => (ra_c0_ok (ro := ra_oR)) m av h (x, h1) e) (fun m av h x h1 e => (ra_c0_ok (ro := ra_oN)) m av h (x, h1) e) (fun m av h x h1 e => (ra_c0_ok (ro := ra_oF)) m av h (x, h1) e) 20 lX8_advance_90 _ _ _ _ lX8_advance_90_ck (show ra_run ra_rV (kX8_advance_90 N (nX8_advance_90 N n)) ra_c0 (tIX8_advance N) ra_c0 ra_c0 ra_c0 ra_c0 20 lX8_advance_90 [some (.ref a0)] [] h = some r from e) _ _ rfl
def lX8_advance_149 : List ra_I := [(149, .aload_n 0, 1, 0, 0, 0, 0, 0, []),
  (150, .getfield 39, 3, 8, 11, 0, 0, 0, []),
  (153, .aload_n 0, 1, 0, 0, 0, 0, 0, []),
  (154, .getfield 26, 3, 8, 1, 0, 0, 0, []),
  (157, .if_icmp .ge (89), 3, 246, 0, 0, 0, 0, []),
  (160, .aload_n 0, 1, 0, 0, 0, 0, 0, []),
  (161, .getfield 9, 3, 8, 0, 2, 0, 0, []),
  (164, .aload_n 0, 1, 0, 0, 0, 0, 0, []),
  (165, .getfield 39, 3, 8, 11, 0, 0, 0, []),
  (168, .iaload, 1, 0, 0, 0, 0, 0, []),
  (169, .invokestatic 79, 3, 45, 1, 1, 0, 0, []),
  (172, .ifCond .eq (74), 3, 246, 0, 0, 0, 0, []),
  (175, .aload_n 0, 1, 0, 0, 0, 0, 0, []),
  (176, .aload_n 0, 1, 0, 0, 0, 0, 0, []),
  (177, .getfield 72, 3, 8, 10, 0, 0, 0, []),
  (180, .bipush (10), 2, 0, 0, 0, (10), 0, []),
  (182, .imul, 1, 0, 0, 0, 0, 0, []),
  (183, .aload_n 0, 1, 0, 0, 0, 0, 0, []),
  (184, .getfield 9, 3, 8, 0, 2, 0, 0, []),
  (187, .aload_n 0, 1, 0, 0, 0, 0, 0, []),
  (188, .getfield 39, 3, 8, 11, 0, 0, 0, []),
  (191, .iaload, 1, 0, 0, 0, 0, 0, []),
  (192, .iadd, 1, 0, 0, 0, 0, 0, []),
  (193, .bipush (48), 2, 0, 0, 0, (48), 0, []),
  (195, .isub, 1, 0, 0, 0, 0, 0, []),
  (196, .sipush (1001), 3, 0, 0, 0, (1001), 0, []),
  (199, .invokestatic 82, 3, 46, 0, 21, 0, 0, []),
  (202, .putfield 72, 3, 8, 10, 0, 0, 0, []),
  (205, .aload_n 0, 1, 0, 0, 0, 0, 0, []),
  (206, .dup, 1, 0, 0, 0, 0, 0, []),
  (207, .getfield 39, 3, 8, 11, 0, 0, 0, []),
  (210, .iconst (1), 1, 0, 0, 0, (1), 0, []),
  (211, .iadd, 1, 0, 0, 0, 0, 0, []),
  (212, .putfield 39, 3, 8, 11, 0, 0, 0, []),
  (215, .goto (-66), 3, 149, 0, 0, 0, 0, [])]
set_option maxRecDepth 100000 in
theorem lX8_advance_149_ck : lX8_advance_149.all (ra_ck mX8_advance 8) = true := by decide +kernel
def nX8_advance_149 (N : Nat) : Nat → Nat → ra_H → Option ra_H
  | 0, _, _ => none
  | n + 1, a0, h =>
  (ra_fI h 8 a0 11).bind fun x1 =>
  (ra_fI h 8 a0 1).bind fun x2 =>
  if x1 < x2 then
    (ra_fR h 8 a0 0).bind fun x3 =>
    (ra_fI h 8 a0 11).bind fun x4 =>
    (ra_aI h 0 x3 x4).bind fun x5 =>
    (fX8_isDigit N x5 h).bind fun q6 =>
    if q6.1 = 0 then
      nX8_advance_246 N q6.2
    else
      (ra_fI q6.2 8 a0 10).bind fun x7 =>
      (ra_fR q6.2 8 a0 0).bind fun x8 =>
      (ra_fI q6.2 8 a0 11).bind fun x9 =>
      (ra_aI q6.2 0 x8 x9).bind fun x10 =>
      (ra_fW q6.2 8 a0 10 (.int (if ((1001 : Int32)) < (((x7 * ((10 : Int32))) + x10) - ((48 : Int32))) then ((1001 : Int32)) else (((x7 * ((10 : Int32))) + x10) - ((48 : Int32)))))).bind fun h11 =>
      (ra_fI h11 8 a0 11).bind fun x12 =>
      (ra_fW h11 8 a0 11 (.int (x12 + ((1 : Int32))))).bind fun h13 =>
      nX8_advance_149 N n a0 h13
  else
    nX8_advance_246 N h
def kX8_advance_149 (N : Nat) (cs : Nat → ra_H → Option ra_H) : Nat → List (Option Value) → List Value → ra_H → Option ra_H := (ra_k1 149 (fun L S h => match L, S with
  | [some (.ref a0)], [] => cs a0 h
  | _, _ => none) (ra_k1 246 (fun L S h => match L, S with
  | [_], [] => nX8_advance_246 N h
  | _, _ => none) ra_k0))
theorem kX8_advance_149_ok (N : Nat) (cs : Nat → ra_H → Option ra_H) (hcs : ∀ a0 h r, cs a0 h = some r → ra_Ru 2 mX8_advance 149 [some (.ref a0)] [] h (ra_oV r)) : ra_kok 2 mX8_advance ra_oV (kX8_advance_149 N cs) := (ra_k1_ok (by
  intro L S h a e
  split at e
  · exact ra_Ru.weak (hcs _ _ _ e) ⟨rfl, trivial⟩
  · cases e) (ra_k1_ok (by
  intro L S h a e
  split at e
  · exact ra_Ru.weak (nX8_advance_246_ok N _ _ e) trivial
  · cases e) ra_k0_ok))
set_option maxRecDepth 100000 in
theorem nX8_advance_149_ok (N : Nat) : ∀ n a0 h r, nX8_advance_149 N n a0 h = some r → ra_Ru 2 mX8_advance 149 [some (.ref a0)] [] h (ra_oV r) := by
  intro n
  induction n with
  | zero => intro a0 h r e; cases e
  | succ n ih =>
    intro a0 h r e
    exact ra_sound (by omega) rfl ra_rV_ok (kX8_advance_149_ok N (nX8_advance_149 N n) ih) (fun m av h h1 e => (ra_c0_ok (ro := ra_oV)) m av h h1 e) (fun m av h x h1 e => (tIX8_advance_ok N) m av h (x, h1) e) (fun m av h x h1 e => (ra_c0_ok (ro := ra_oJ)) m av h (x, h1) e) (fun m av h x h1 e => (ra_c0_ok (ro := ra_oR)) m av h (x, h1) e) (fun m av h x h1 e => (ra_c0_ok (ro := ra_oN)) m av h (x, h1) e) (fun m av h x h1 e => (ra_c0_ok (ro := ra_oF)) m av h (x, h1) e) 36 lX8_advance_149 _ _ _ _ lX8_advance_149_ck (show ra_run ra_rV (kX8_advance_149 N (nX8_advance_149 N n)) ra_c0 (tIX8_advance N) ra_c0 ra_c0 ra_c0 ra_c0 36 lX8_advance_149 [some (.ref a0)] [] h = some r from e) _ _ rfl
def lX8_advance_38 : List ra_I := [(38, .aload_n 0, 1, 0, 0, 0, 0, 0, []),
  (39, .aload_n 0, 1, 0, 0, 0, 0, 0, []),
  (40, .getfield 39, 3, 8, 11, 0, 0, 0, []),
  (43, .putfield 69, 3, 8, 2, 0, 0, 0, []),
  (46, .aload_n 0, 1, 0, 0, 0, 0, 0, []),
  (47, .iconst (0), 1, 0, 0, 0, (0), 0, []),
  (48, .putfield 72, 3, 8, 10, 0, 0, 0, []),
  (51, .aload_n 0, 1, 0, 0, 0, 0, 0, []),
  (52, .getfield 69, 3, 8, 2, 0, 0, 0, []),
  (55, .aload_n 0, 1, 0, 0, 0, 0, 0, []),
  (56, .getfield 26, 3, 8, 1, 0, 0, 0, []),
  (59, .if_icmp .lt (11), 3, 70, 0, 0, 0, 0, []),
  (62, .aload_n 0, 1, 0, 0, 0, 0, 0, []),
  (63, .iconst (0), 1, 0, 0, 0, (0), 0, []),
  (64, .putfield 49, 3, 8, 9, 0, 0, 0, []),
  (67, .goto (179), 3, 246, 0, 0, 0, 0, []),
  (70, .aload_n 0, 1, 0, 0, 0, 0, 0, []),
  (71, .getfield 9, 3, 8, 0, 2, 0, 0, []),
  (74, .aload_n 0, 1, 0, 0, 0, 0, 0, []),
  (75, .getfield 69, 3, 8, 2, 0, 0, 0, []),
  (78, .iaload, 1, 0, 0, 0, 0, 0, []),
  (79, .invokestatic 75, 3, 44, 1, 1, 0, 0, []),
  (82, .ifCond .eq (47), 3, 129, 0, 0, 0, 0, []),
  (85, .aload_n 0, 1, 0, 0, 0, 0, 0, []),
  (86, .iconst (1), 1, 0, 0, 0, (1), 0, []),
  (87, .putfield 49, 3, 8, 9, 0, 0, 0, []),
  (129, .aload_n 0, 1, 0, 0, 0, 0, 0, []),
  (130, .getfield 9, 3, 8, 0, 2, 0, 0, []),
  (133, .aload_n 0, 1, 0, 0, 0, 0, 0, []),
  (134, .getfield 69, 3, 8, 2, 0, 0, 0, []),
  (137, .iaload, 1, 0, 0, 0, 0, 0, []),
  (138, .invokestatic 79, 3, 45, 1, 1, 0, 0, []),
  (141, .ifCond .eq (77), 3, 218, 0, 0, 0, 0, []),
  (144, .aload_n 0, 1, 0, 0, 0, 0, 0, []),
  (145, .iconst (2), 1, 0, 0, 0, (2), 0, []),
  (146, .putfield 49, 3, 8, 9, 0, 0, 0, []),
  (218, .aload_n 0, 1, 0, 0, 0, 0, 0, []),
  (219, .iconst (3), 1, 0, 0, 0, (3), 0, []),
  (220, .putfield 49, 3, 8, 9, 0, 0, 0, []),
  (223, .aload_n 0, 1, 0, 0, 0, 0, 0, []),
  (224, .aload_n 0, 1, 0, 0, 0, 0, 0, []),
  (225, .getfield 9, 3, 8, 0, 2, 0, 0, []),
  (228, .aload_n 0, 1, 0, 0, 0, 0, 0, []),
  (229, .getfield 69, 3, 8, 2, 0, 0, 0, []),
  (232, .iaload, 1, 0, 0, 0, 0, 0, []),
  (233, .putfield 72, 3, 8, 10, 0, 0, 0, []),
  (236, .aload_n 0, 1, 0, 0, 0, 0, 0, []),
  (237, .dup, 1, 0, 0, 0, 0, 0, []),
  (238, .getfield 39, 3, 8, 11, 0, 0, 0, []),
  (241, .iconst (1), 1, 0, 0, 0, (1), 0, []),
  (242, .iadd, 1, 0, 0, 0, 0, 0, []),
  (243, .putfield 39, 3, 8, 11, 0, 0, 0, [])]
set_option maxRecDepth 100000 in
theorem lX8_advance_38_ck : lX8_advance_38.all (ra_ck mX8_advance 8) = true := by decide +kernel
def nX8_advance_38 (N : Nat) (a0 : Nat) (h : ra_H) : Option ra_H :=
  (ra_fI h 8 a0 11).bind fun x1 =>
  (ra_fW h 8 a0 2 (.int x1)).bind fun h2 =>
  (ra_fW h2 8 a0 10 (.int ((0 : Int32)))).bind fun h3 =>
  (ra_fI h3 8 a0 2).bind fun x4 =>
  (ra_fI h3 8 a0 1).bind fun x5 =>
  if x4 < x5 then
    (ra_fR h3 8 a0 0).bind fun x6 =>
    (ra_fI h3 8 a0 2).bind fun x7 =>
    (ra_aI h3 0 x6 x7).bind fun x8 =>
    (fX8_isLetter N x8 h3).bind fun q9 =>
    if q9.1 = 0 then
      (ra_fR q9.2 8 a0 0).bind fun x10 =>
      (ra_fI q9.2 8 a0 2).bind fun x11 =>
      (ra_aI q9.2 0 x10 x11).bind fun x12 =>
      (fX8_isDigit N x12 q9.2).bind fun q13 =>
      if q13.1 = 0 then
        (ra_fW q13.2 8 a0 9 (.int ((3 : Int32)))).bind fun h14 =>
        (ra_fR h14 8 a0 0).bind fun x15 =>
        (ra_fI h14 8 a0 2).bind fun x16 =>
        (ra_aI h14 0 x15 x16).bind fun x17 =>
        (ra_fW h14 8 a0 10 (.int x17)).bind fun h18 =>
        (ra_fI h18 8 a0 11).bind fun x19 =>
        (ra_fW h18 8 a0 11 (.int (x19 + ((1 : Int32))))).bind fun h20 =>
        nX8_advance_246 N h20
      else
        (ra_fW q13.2 8 a0 9 (.int ((2 : Int32)))).bind fun h21 =>
        nX8_advance_149 N N a0 h21
    else
      (ra_fW q9.2 8 a0 9 (.int ((1 : Int32)))).bind fun h22 =>
      nX8_advance_90 N N a0 h22
  else
    (ra_fW h3 8 a0 9 (.int ((0 : Int32)))).bind fun h23 =>
    nX8_advance_246 N h23
def kX8_advance_38 (N : Nat) : Nat → List (Option Value) → List Value → ra_H → Option ra_H := (ra_k1 90 (fun L S h => match L, S with
  | [some (.ref a0)], [] => nX8_advance_90 N N a0 h
  | _, _ => none) (ra_k1 149 (fun L S h => match L, S with
  | [some (.ref a0)], [] => nX8_advance_149 N N a0 h
  | _, _ => none) (ra_k1 246 (fun L S h => match L, S with
  | [_], [] => nX8_advance_246 N h
  | _, _ => none) ra_k0)))
theorem kX8_advance_38_ok (N : Nat) : ra_kok 2 mX8_advance ra_oV (kX8_advance_38 N) := (ra_k1_ok (by
  intro L S h a e
  split at e
  · exact ra_Ru.weak (nX8_advance_90_ok N N _ _ _ e) ⟨rfl, trivial⟩
  · cases e) (ra_k1_ok (by
  intro L S h a e
  split at e
  · exact ra_Ru.weak (nX8_advance_149_ok N N _ _ _ e) ⟨rfl, trivial⟩
  · cases e) (ra_k1_ok (by
  intro L S h a e
  split at e
  · exact ra_Ru.weak (nX8_advance_246_ok N _ _ e) trivial
  · cases e) ra_k0_ok)))
set_option maxRecDepth 100000 in
theorem nX8_advance_38_ok (N : Nat) (a0 : Nat) (h : ra_H) (r : ra_H) (e : nX8_advance_38 N a0 h = some r) : ra_Ru 2 mX8_advance 38 [some (.ref a0)] [] h (ra_oV r) :=
  ra_sound (by omega) rfl ra_rV_ok (kX8_advance_38_ok N) (fun m av h h1 e => (ra_c0_ok (ro := ra_oV)) m av h h1 e) (fun m av h x h1 e => (tIX8_advance_ok N) m av h (x, h1) e) (fun m av h x h1 e => (ra_c0_ok (ro := ra_oJ)) m av h (x, h1) e) (fun m av h x h1 e => (ra_c0_ok (ro := ra_oR)) m av h (x, h1) e) (fun m av h x h1 e => (ra_c0_ok (ro := ra_oN)) m av h (x, h1) e) (fun m av h x h1 e => (ra_c0_ok (ro := ra_oF)) m av h (x, h1) e) 53 lX8_advance_38 _ _ _ _ lX8_advance_38_ck (show ra_run ra_rV (kX8_advance_38 N) ra_c0 (tIX8_advance N) ra_c0 ra_c0 ra_c0 ra_c0 53 lX8_advance_38 [some (.ref a0)] [] h = some r from e) _ _ rfl
def lX8_advance_0 : List ra_I := [(0, .aload_n 0, 1, 0, 0, 0, 0, 0, []),
  (1, .getfield 39, 3, 8, 11, 0, 0, 0, []),
  (4, .aload_n 0, 1, 0, 0, 0, 0, 0, []),
  (5, .getfield 26, 3, 8, 1, 0, 0, 0, []),
  (8, .if_icmp .ge (30), 3, 38, 0, 0, 0, 0, []),
  (11, .aload_n 0, 1, 0, 0, 0, 0, 0, []),
  (12, .getfield 9, 3, 8, 0, 2, 0, 0, []),
  (15, .aload_n 0, 1, 0, 0, 0, 0, 0, []),
  (16, .getfield 39, 3, 8, 11, 0, 0, 0, []),
  (19, .iaload, 1, 0, 0, 0, 0, 0, []),
  (20, .bipush (32), 2, 0, 0, 0, (32), 0, []),
  (22, .if_icmp .ne (16), 3, 38, 0, 0, 0, 0, []),
  (25, .aload_n 0, 1, 0, 0, 0, 0, 0, []),
  (26, .dup, 1, 0, 0, 0, 0, 0, []),
  (27, .getfield 39, 3, 8, 11, 0, 0, 0, []),
  (30, .iconst (1), 1, 0, 0, 0, (1), 0, []),
  (31, .iadd, 1, 0, 0, 0, 0, 0, []),
  (32, .putfield 39, 3, 8, 11, 0, 0, 0, []),
  (35, .goto (-35), 3, 0, 0, 0, 0, 0, [])]
set_option maxRecDepth 100000 in
theorem lX8_advance_0_ck : lX8_advance_0.all (ra_ck mX8_advance 8) = true := by decide +kernel
def nX8_advance_0 (N : Nat) : Nat → Nat → ra_H → Option ra_H
  | 0, _, _ => none
  | n + 1, a0, h =>
  (ra_fI h 8 a0 11).bind fun x1 =>
  (ra_fI h 8 a0 1).bind fun x2 =>
  if x1 < x2 then
    (ra_fR h 8 a0 0).bind fun x3 =>
    (ra_fI h 8 a0 11).bind fun x4 =>
    (ra_aI h 0 x3 x4).bind fun x5 =>
    if x5 = ((32 : Int32)) then
      (ra_fI h 8 a0 11).bind fun x6 =>
      (ra_fW h 8 a0 11 (.int (x6 + ((1 : Int32))))).bind fun h7 =>
      nX8_advance_0 N n a0 h7
    else
      nX8_advance_38 N a0 h
  else
    nX8_advance_38 N a0 h
def kX8_advance_0 (N : Nat) (cs : Nat → ra_H → Option ra_H) : Nat → List (Option Value) → List Value → ra_H → Option ra_H := (ra_k1 0 (fun L S h => match L, S with
  | [some (.ref a0)], [] => cs a0 h
  | _, _ => none) (ra_k1 38 (fun L S h => match L, S with
  | [some (.ref a0)], [] => nX8_advance_38 N a0 h
  | _, _ => none) ra_k0))
theorem kX8_advance_0_ok (N : Nat) (cs : Nat → ra_H → Option ra_H) (hcs : ∀ a0 h r, cs a0 h = some r → ra_Ru 2 mX8_advance 0 [some (.ref a0)] [] h (ra_oV r)) : ra_kok 2 mX8_advance ra_oV (kX8_advance_0 N cs) := (ra_k1_ok (by
  intro L S h a e
  split at e
  · exact ra_Ru.weak (hcs _ _ _ e) ⟨rfl, trivial⟩
  · cases e) (ra_k1_ok (by
  intro L S h a e
  split at e
  · exact ra_Ru.weak (nX8_advance_38_ok N _ _ _ e) ⟨rfl, trivial⟩
  · cases e) ra_k0_ok))
set_option maxRecDepth 100000 in
theorem nX8_advance_0_ok (N : Nat) : ∀ n a0 h r, nX8_advance_0 N n a0 h = some r → ra_Ru 2 mX8_advance 0 [some (.ref a0)] [] h (ra_oV r) := by
  intro n
  induction n with
  | zero => intro a0 h r e; cases e
  | succ n ih =>
    intro a0 h r e
    exact ra_sound (by omega) rfl ra_rV_ok (kX8_advance_0_ok N (nX8_advance_0 N n) ih) (fun m av h h1 e => (ra_c0_ok (ro := ra_oV)) m av h h1 e) (fun m av h x h1 e => (tIX8_advance_ok N) m av h (x, h1) e) (fun m av h x h1 e => (ra_c0_ok (ro := ra_oJ)) m av h (x, h1) e) (fun m av h x h1 e => (ra_c0_ok (ro := ra_oR)) m av h (x, h1) e) (fun m av h x h1 e => (ra_c0_ok (ro := ra_oN)) m av h (x, h1) e) (fun m av h x h1 e => (ra_c0_ok (ro := ra_oF)) m av h (x, h1) e) 20 lX8_advance_0 _ _ _ _ lX8_advance_0_ck (show ra_run ra_rV (kX8_advance_0 N (nX8_advance_0 N n)) ra_c0 (tIX8_advance N) ra_c0 ra_c0 ra_c0 ra_c0 20 lX8_advance_0 [some (.ref a0)] [] h = some r from e) _ _ rfl
def fX8_advance (N : Nat) (p0 : Nat) (h : ra_H) : Option ra_H := match ra_isOb h p0 8 with
  | true => nX8_advance_0 N N p0 h
  | false => none
set_option maxRecDepth 100000 in
theorem mtX8_advance : ra_MT[43]? = some (mX8_advance, 1, 0, (1, 4), (3, 114), (0, 6)) := rfl
theorem fX8_advance_co (N : Nat) (p0 : Nat) (h : ra_H) (r : ra_H) (e : fX8_advance N p0 h = some r) (D : Nat) (hD : 3 ≤ D) : ra_CO D 43 [.ref p0] h (ra_oV r).1 (ra_oV r).2 := by
  have hw : ra_nw2 [.ref p0] ≤ 1 := Nat.le_of_ble_eq_true rfl
  have hdb : ∀ v ∈ ([.ref p0] : List Value), ∀ x, v ≠ .double x := by
    intro v hv x hx
    simp [hx] at hv
  unfold fX8_advance at e
  split at e
  · rename_i ho
    have e1 := e
    exact ⟨2, _, mtX8_advance, hD, ra_ev_of (by decide) hdb hw trivial (ra_Ru.weak (nX8_advance_0_ok N N p0 h _ e1) ⟨rfl, trivial⟩), (fun _ => ⟨_, _, rfl, ra_rcv_of ho (by decide) rfl⟩), (fun h => absurd h (by decide))⟩
  · cases e
/-! RedMarks$Tape.isSign(C)Z -/
def mX8_isSign : ra_M := (yX8_isSign, cX8_isSign, 2, (some .boolean))
def lX8_isSign_21 : List ra_I := [(21, .ireturn, 1, 0, 0, 0, 0, 0, [])]
set_option maxRecDepth 100000 in
theorem lX8_isSign_21_ck : lX8_isSign_21.all (ra_ck mX8_isSign 8) = true := by decide +kernel
def nX8_isSign_21 (N : Nat) (b0 : Int32) (h : ra_H) : Option (Int32 × ra_H) :=
  some (b0, h)
def kX8_isSign_21 (N : Nat) : Nat → List (Option Value) → List Value → ra_H → Option (Int32 × ra_H) := ra_k0
theorem kX8_isSign_21_ok (N : Nat) : ra_kok 1 mX8_isSign ra_oI (kX8_isSign_21 N) := ra_k0_ok
set_option maxRecDepth 100000 in
theorem nX8_isSign_21_ok (N : Nat) (b0 : Int32) (h : ra_H) (r : (Int32 × ra_H)) (e : nX8_isSign_21 N b0 h = some r) : ra_Ru 1 mX8_isSign 21 [none, none] [.int b0] h (ra_oI r) :=
  ra_sound (by omega) rfl ra_rI_ok (kX8_isSign_21_ok N) (fun m av h h1 e => (ra_c0_ok (ro := ra_oV)) m av h h1 e) (fun m av h x h1 e => (ra_c0_ok (ro := ra_oI)) m av h (x, h1) e) (fun m av h x h1 e => (ra_c0_ok (ro := ra_oJ)) m av h (x, h1) e) (fun m av h x h1 e => (ra_c0_ok (ro := ra_oR)) m av h (x, h1) e) (fun m av h x h1 e => (ra_c0_ok (ro := ra_oN)) m av h (x, h1) e) (fun m av h x h1 e => (ra_c0_ok (ro := ra_oF)) m av h (x, h1) e) 2 lX8_isSign_21 _ _ _ _ lX8_isSign_21_ck (show ra_run ra_rI (kX8_isSign_21 N) ra_c0 ra_c0 ra_c0 ra_c0 ra_c0 ra_c0 2 lX8_isSign_21 [none, none] [.int b0] h = some r from e) _ _ rfl
def lX8_isSign_20 : List ra_I := [(20, .iconst (0), 1, 0, 0, 0, (0), 0, [])]
set_option maxRecDepth 100000 in
theorem lX8_isSign_20_ck : lX8_isSign_20.all (ra_ck mX8_isSign 8) = true := by decide +kernel
def nX8_isSign_20 (N : Nat) (h : ra_H) : Option (Int32 × ra_H) :=
  nX8_isSign_21 N ((0 : Int32)) h
def kX8_isSign_20 (N : Nat) : Nat → List (Option Value) → List Value → ra_H → Option (Int32 × ra_H) := (ra_k1 21 (fun L S h => match L, S with
  | [_, _], [.int b0] => nX8_isSign_21 N b0 h
  | _, _ => none) ra_k0)
theorem kX8_isSign_20_ok (N : Nat) : ra_kok 1 mX8_isSign ra_oI (kX8_isSign_20 N) := (ra_k1_ok (by
  intro L S h a e
  split at e
  · exact ra_Ru.weak (nX8_isSign_21_ok N _ _ _ e) trivial
  · cases e) ra_k0_ok)
set_option maxRecDepth 100000 in
theorem nX8_isSign_20_ok (N : Nat) (h : ra_H) (r : (Int32 × ra_H)) (e : nX8_isSign_20 N h = some r) : ra_Ru 1 mX8_isSign 20 [none, none] [] h (ra_oI r) :=
  ra_sound (by omega) rfl ra_rI_ok (kX8_isSign_20_ok N) (fun m av h h1 e => (ra_c0_ok (ro := ra_oV)) m av h h1 e) (fun m av h x h1 e => (ra_c0_ok (ro := ra_oI)) m av h (x, h1) e) (fun m av h x h1 e => (ra_c0_ok (ro := ra_oJ)) m av h (x, h1) e) (fun m av h x h1 e => (ra_c0_ok (ro := ra_oR)) m av h (x, h1) e) (fun m av h x h1 e => (ra_c0_ok (ro := ra_oN)) m av h (x, h1) e) (fun m av h x h1 e => (ra_c0_ok (ro := ra_oF)) m av h (x, h1) e) 2 lX8_isSign_20 _ _ _ _ lX8_isSign_20_ck (show ra_run ra_rI (kX8_isSign_20 N) ra_c0 ra_c0 ra_c0 ra_c0 ra_c0 ra_c0 2 lX8_isSign_20 [none, none] [] h = some r from e) _ _ rfl
def lX8_isSign_0 : List ra_I := [(0, .aload_n 0, 1, 0, 0, 0, 0, 0, []),
  (1, .getfield 49, 3, 8, 9, 0, 0, 0, []),
  (4, .iconst (3), 1, 0, 0, 0, (3), 0, []),
  (5, .if_icmp .ne (15), 3, 20, 0, 0, 0, 0, []),
  (8, .aload_n 0, 1, 0, 0, 0, 0, 0, []),
  (9, .getfield 72, 3, 8, 10, 0, 0, 0, []),
  (12, .iload_n 1, 1, 1, 0, 0, 0, 0, []),
  (13, .if_icmp .ne (7), 3, 20, 0, 0, 0, 0, []),
  (16, .iconst (1), 1, 0, 0, 0, (1), 0, []),
  (17, .goto (4), 3, 21, 0, 0, 0, 0, [])]
set_option maxRecDepth 100000 in
theorem lX8_isSign_0_ck : lX8_isSign_0.all (ra_ck mX8_isSign 8) = true := by decide +kernel
def nX8_isSign_0 (N : Nat) (a0 : Nat) (a1 : Int32) (h : ra_H) : Option (Int32 × ra_H) :=
  (ra_fI h 8 a0 9).bind fun x1 =>
  if x1 = ((3 : Int32)) then
    (ra_fI h 8 a0 10).bind fun x2 =>
    if x2 = a1 then
      nX8_isSign_21 N ((1 : Int32)) h
    else
      nX8_isSign_20 N h
  else
    nX8_isSign_20 N h
def kX8_isSign_0 (N : Nat) : Nat → List (Option Value) → List Value → ra_H → Option (Int32 × ra_H) := (ra_k1 20 (fun L S h => match L, S with
  | [_, _], [] => nX8_isSign_20 N h
  | _, _ => none) (ra_k1 21 (fun L S h => match L, S with
  | [_, _], [.int b0] => nX8_isSign_21 N b0 h
  | _, _ => none) ra_k0))
theorem kX8_isSign_0_ok (N : Nat) : ra_kok 1 mX8_isSign ra_oI (kX8_isSign_0 N) := (ra_k1_ok (by
  intro L S h a e
  split at e
  · exact ra_Ru.weak (nX8_isSign_20_ok N _ _ e) trivial
  · cases e) (ra_k1_ok (by
  intro L S h a e
  split at e
  · exact ra_Ru.weak (nX8_isSign_21_ok N _ _ _ e) trivial
  · cases e) ra_k0_ok))
set_option maxRecDepth 100000 in
theorem nX8_isSign_0_ok (N : Nat) (a0 : Nat) (a1 : Int32) (h : ra_H) (r : (Int32 × ra_H)) (e : nX8_isSign_0 N a0 a1 h = some r) : ra_Ru 1 mX8_isSign 0 [some (.ref a0), some (.int a1)] [] h (ra_oI r) :=
  ra_sound (by omega) rfl ra_rI_ok (kX8_isSign_0_ok N) (fun m av h h1 e => (ra_c0_ok (ro := ra_oV)) m av h h1 e) (fun m av h x h1 e => (ra_c0_ok (ro := ra_oI)) m av h (x, h1) e) (fun m av h x h1 e => (ra_c0_ok (ro := ra_oJ)) m av h (x, h1) e) (fun m av h x h1 e => (ra_c0_ok (ro := ra_oR)) m av h (x, h1) e) (fun m av h x h1 e => (ra_c0_ok (ro := ra_oN)) m av h (x, h1) e) (fun m av h x h1 e => (ra_c0_ok (ro := ra_oF)) m av h (x, h1) e) 11 lX8_isSign_0 _ _ _ _ lX8_isSign_0_ck (show ra_run ra_rI (kX8_isSign_0 N) ra_c0 ra_c0 ra_c0 ra_c0 ra_c0 ra_c0 11 lX8_isSign_0 [some (.ref a0), some (.int a1)] [] h = some r from e) _ _ rfl
def fX8_isSign (N : Nat) (p0 : Nat) (p1 : Int32) (h : ra_H) : Option (Int32 × ra_H) := match ra_isOb h p0 8 with
  | true => (nX8_isSign_0 N p0 p1 h).bind (fun q => ra_rz q.1 q.2)
  | false => none
set_option maxRecDepth 100000 in
theorem mtX8_isSign : ra_MT[65]? = some (mX8_isSign, 1, 1, (1, 4), (3, 207), (0, 13)) := rfl
theorem fX8_isSign_co (N : Nat) (p0 : Nat) (p1 : Int32) (h : ra_H) (r : (Int32 × ra_H)) (e : fX8_isSign N p0 p1 h = some r) (D : Nat) (hD : 2 ≤ D) : ra_CO D 65 [.ref p0, .int p1] h (ra_oI r).1 (ra_oI r).2 := by
  have hw : ra_nw2 [.ref p0, .int p1] ≤ 2 := Nat.le_of_ble_eq_true rfl
  have hdb : ∀ v ∈ ([.ref p0, .int p1] : List Value), ∀ x, v ≠ .double x := by
    intro v hv x hx
    simp [hx] at hv
  unfold fX8_isSign at e
  split at e
  · rename_i ho
    obtain ⟨q, e1, e2⟩ := Option.bind_eq_some_iff.mp e
    obtain ⟨rfl, hz⟩ := ra_rz_of e2
    exact ⟨1, _, mtX8_isSign, hD, ra_ev_of (by decide) hdb hw hz (ra_Ru.weak (nX8_isSign_0_ok N p0 p1 h _ e1) ⟨rfl, ⟨rfl, trivial⟩⟩), (fun _ => ⟨_, _, rfl, ra_rcv_of ho (by decide) rfl⟩), (fun h => absurd h (by decide))⟩
  · cases e
/-! RedMarks$Tape.headName(I)Ljava/lang/String; -/
def mX8_headName : ra_M := (yX8_headName, cX8_headName, 1, (some (.object "java/lang/String")))
def lX8_headName_0 : List ra_I := [(0, .iload_n 0, 1, 0, 0, 0, 0, 0, []),
  (1, .tableswitch (43) (0) (3) #[31, 34, 37, 40], 31, 44, 0, 0, 0, 0, [(0, 32), (1, 35), (2, 38), (3, 41)]),
  (32, .ldc 116, 2, 3, 0, 1, 0, 0, []),
  (34, .areturn, 1, 0, 0, 0, 0, 0, []),
  (35, .ldc 118, 2, 4, 0, 1, 0, 0, []),
  (37, .areturn, 1, 0, 0, 0, 0, 0, []),
  (38, .ldc 120, 2, 5, 0, 1, 0, 0, []),
  (40, .areturn, 1, 0, 0, 0, 0, 0, []),
  (41, .ldc 122, 2, 6, 0, 1, 0, 0, []),
  (43, .areturn, 1, 0, 0, 0, 0, 0, []),
  (44, .ldc 124, 2, 7, 0, 1, 0, 0, []),
  (46, .areturn, 1, 0, 0, 0, 0, 0, [])]
set_option maxRecDepth 100000 in
theorem lX8_headName_0_ck : lX8_headName_0.all (ra_ck mX8_headName 8) = true := by decide +kernel
def nX8_headName_0 (N : Nat) (a0 : Int32) (h : ra_H) : Option (UInt32 × ra_H) :=
  if a0 = (0 : Int32) then
    some ((3 : UInt32), h)
  else
  if a0 = (1 : Int32) then
    some ((4 : UInt32), h)
  else
  if a0 = (2 : Int32) then
    some ((5 : UInt32), h)
  else
  if a0 = (3 : Int32) then
    some ((6 : UInt32), h)
  else
  some ((7 : UInt32), h)
def kX8_headName_0 (N : Nat) : Nat → List (Option Value) → List Value → ra_H → Option (UInt32 × ra_H) := ra_k0
theorem kX8_headName_0_ok (N : Nat) : ra_kok 1 mX8_headName ra_oF (kX8_headName_0 N) := ra_k0_ok
set_option maxRecDepth 100000 in
theorem nX8_headName_0_ok (N : Nat) (a0 : Int32) (h : ra_H) (r : (UInt32 × ra_H)) (e : nX8_headName_0 N a0 h = some r) : ra_Ru 1 mX8_headName 0 [some (.int a0)] [] h (ra_oF r) :=
  ra_sound (by omega) rfl ra_rF_ok (kX8_headName_0_ok N) (fun m av h h1 e => (ra_c0_ok (ro := ra_oV)) m av h h1 e) (fun m av h x h1 e => (ra_c0_ok (ro := ra_oI)) m av h (x, h1) e) (fun m av h x h1 e => (ra_c0_ok (ro := ra_oJ)) m av h (x, h1) e) (fun m av h x h1 e => (ra_c0_ok (ro := ra_oR)) m av h (x, h1) e) (fun m av h x h1 e => (ra_c0_ok (ro := ra_oN)) m av h (x, h1) e) (fun m av h x h1 e => (ra_c0_ok (ro := ra_oF)) m av h (x, h1) e) 13 lX8_headName_0 _ _ _ _ lX8_headName_0_ck (show ra_run ra_rF (kX8_headName_0 N) ra_c0 ra_c0 ra_c0 ra_c0 ra_c0 ra_c0 13 lX8_headName_0 [some (.int a0)] [] h = some r from e) _ _ rfl
def fX8_headName (N : Nat) (p0 : Int32) (h : ra_H) : Option (UInt32 × ra_H) := nX8_headName_0 N p0 h
set_option maxRecDepth 100000 in
theorem mtX8_headName : ra_MT[49]? = some (mX8_headName, 0, 1, (1, 4), (3, 134), (0, 0)) := rfl
theorem fX8_headName_co (N : Nat) (p0 : Int32) (h : ra_H) (r : (UInt32 × ra_H)) (e : fX8_headName N p0 h = some r) (D : Nat) (hD : 2 ≤ D) : ra_CO D 49 [.int p0] h (ra_oF r).1 (ra_oF r).2 := by
  have hw : ra_nw2 [.int p0] ≤ 1 := Nat.le_of_ble_eq_true rfl
  have hdb : ∀ v ∈ ([.int p0] : List Value), ∀ x, v ≠ .double x := by
    intro v hv x hx
    simp [hx] at hv
  unfold fX8_headName at e
  have e1 := e
  exact ⟨1, _, mtX8_headName, hD, ra_ev_of (by decide) hdb hw trivial (ra_Ru.weak (nX8_headName_0_ok N p0 h _ e1) ⟨rfl, trivial⟩), (fun h => absurd h (by decide)), (fun h => absurd h (by decide))⟩
/-! RedMarks$Tape.emit(II)V -/
def mX8_emit : ra_M := (yX8_emit, cX8_emit, 3, none)
def lX8_emit_37 : List ra_I := [(37, .return_, 1, 0, 0, 0, 0, 0, [])]
set_option maxRecDepth 100000 in
theorem lX8_emit_37_ck : lX8_emit_37.all (ra_ck mX8_emit 8) = true := by decide +kernel
def nX8_emit_37 (N : Nat) (h : ra_H) : Option ra_H :=
  some h
def kX8_emit_37 (N : Nat) : Nat → List (Option Value) → List Value → ra_H → Option ra_H := ra_k0
theorem kX8_emit_37_ok (N : Nat) : ra_kok 1 mX8_emit ra_oV (kX8_emit_37 N) := ra_k0_ok
set_option maxRecDepth 100000 in
theorem nX8_emit_37_ok (N : Nat) (h : ra_H) (r : ra_H) (e : nX8_emit_37 N h = some r) : ra_Ru 1 mX8_emit 37 [none, none, none] [] h (ra_oV r) :=
  ra_sound (by omega) rfl ra_rV_ok (kX8_emit_37_ok N) (fun m av h h1 e => (ra_c0_ok (ro := ra_oV)) m av h h1 e) (fun m av h x h1 e => (ra_c0_ok (ro := ra_oI)) m av h (x, h1) e) (fun m av h x h1 e => (ra_c0_ok (ro := ra_oJ)) m av h (x, h1) e) (fun m av h x h1 e => (ra_c0_ok (ro := ra_oR)) m av h (x, h1) e) (fun m av h x h1 e => (ra_c0_ok (ro := ra_oN)) m av h (x, h1) e) (fun m av h x h1 e => (ra_c0_ok (ro := ra_oF)) m av h (x, h1) e) 2 lX8_emit_37 _ _ _ _ lX8_emit_37_ck (show ra_run ra_rV (kX8_emit_37 N) ra_c0 ra_c0 ra_c0 ra_c0 ra_c0 ra_c0 2 lX8_emit_37 [none, none, none] [] h = some r from e) _ _ rfl
def lX8_emit_0 : List ra_I := [(0, .aload_n 0, 1, 0, 0, 0, 0, 0, []),
  (1, .getfield 30, 3, 8, 6, 0, 0, 0, []),
  (4, .aload_n 0, 1, 0, 0, 0, 0, 0, []),
  (5, .getfield 15, 3, 8, 3, 2, 0, 0, []),
  (8, .arraylength, 1, 0, 0, 0, 0, 0, []),
  (9, .if_icmp .ge (28), 3, 37, 0, 0, 0, 0, []),
  (12, .aload_n 0, 1, 0, 0, 0, 0, 0, []),
  (13, .getfield 15, 3, 8, 3, 2, 0, 0, []),
  (16, .aload_n 0, 1, 0, 0, 0, 0, 0, []),
  (17, .getfield 30, 3, 8, 6, 0, 0, 0, []),
  (20, .iload_n 2, 1, 2, 0, 0, 0, 0, []),
  (21, .bipush (16), 2, 0, 0, 0, (16), 0, []),
  (23, .imul, 1, 0, 0, 0, 0, 0, []),
  (24, .iload_n 1, 1, 1, 0, 0, 0, 0, []),
  (25, .iadd, 1, 0, 0, 0, 0, 0, []),
  (26, .iastore, 1, 0, 0, 0, 0, 0, []),
  (27, .aload_n 0, 1, 0, 0, 0, 0, 0, []),
  (28, .dup, 1, 0, 0, 0, 0, 0, []),
  (29, .getfield 30, 3, 8, 6, 0, 0, 0, []),
  (32, .iconst (1), 1, 0, 0, 0, (1), 0, []),
  (33, .iadd, 1, 0, 0, 0, 0, 0, []),
  (34, .putfield 30, 3, 8, 6, 0, 0, 0, [])]
set_option maxRecDepth 100000 in
theorem lX8_emit_0_ck : lX8_emit_0.all (ra_ck mX8_emit 8) = true := by decide +kernel
def nX8_emit_0 (N : Nat) (a0 : Nat) (a1 : Int32) (a2 : Int32) (h : ra_H) : Option ra_H :=
  (ra_fI h 8 a0 6).bind fun x1 =>
  (ra_fR h 8 a0 3).bind fun x2 =>
  (ra_aL h x2).bind fun x3 =>
  if x1 < x3 then
    (ra_fR h 8 a0 3).bind fun x4 =>
    (ra_fI h 8 a0 6).bind fun x5 =>
    (ra_aW h 0 x4 x5 ((a2 * ((16 : Int32))) + a1)).bind fun h6 =>
    (ra_fI h6 8 a0 6).bind fun x7 =>
    (ra_fW h6 8 a0 6 (.int (x7 + ((1 : Int32))))).bind fun h8 =>
    nX8_emit_37 N h8
  else
    nX8_emit_37 N h
def kX8_emit_0 (N : Nat) : Nat → List (Option Value) → List Value → ra_H → Option ra_H := (ra_k1 37 (fun L S h => match L, S with
  | [_, _, _], [] => nX8_emit_37 N h
  | _, _ => none) ra_k0)
theorem kX8_emit_0_ok (N : Nat) : ra_kok 1 mX8_emit ra_oV (kX8_emit_0 N) := (ra_k1_ok (by
  intro L S h a e
  split at e
  · exact ra_Ru.weak (nX8_emit_37_ok N _ _ e) trivial
  · cases e) ra_k0_ok)
set_option maxRecDepth 100000 in
theorem nX8_emit_0_ok (N : Nat) (a0 : Nat) (a1 : Int32) (a2 : Int32) (h : ra_H) (r : ra_H) (e : nX8_emit_0 N a0 a1 a2 h = some r) : ra_Ru 1 mX8_emit 0 [some (.ref a0), some (.int a1), some (.int a2)] [] h (ra_oV r) :=
  ra_sound (by omega) rfl ra_rV_ok (kX8_emit_0_ok N) (fun m av h h1 e => (ra_c0_ok (ro := ra_oV)) m av h h1 e) (fun m av h x h1 e => (ra_c0_ok (ro := ra_oI)) m av h (x, h1) e) (fun m av h x h1 e => (ra_c0_ok (ro := ra_oJ)) m av h (x, h1) e) (fun m av h x h1 e => (ra_c0_ok (ro := ra_oR)) m av h (x, h1) e) (fun m av h x h1 e => (ra_c0_ok (ro := ra_oN)) m av h (x, h1) e) (fun m av h x h1 e => (ra_c0_ok (ro := ra_oF)) m av h (x, h1) e) 23 lX8_emit_0 _ _ _ _ lX8_emit_0_ck (show ra_run ra_rV (kX8_emit_0 N) ra_c0 ra_c0 ra_c0 ra_c0 ra_c0 ra_c0 23 lX8_emit_0 [some (.ref a0), some (.int a1), some (.int a2)] [] h = some r from e) _ _ rfl
def fX8_emit (N : Nat) (p0 : Nat) (p1 : Int32) (p2 : Int32) (h : ra_H) : Option ra_H := match ra_isOb h p0 8 with
  | true => nX8_emit_0 N p0 p1 p2 h
  | false => none
set_option maxRecDepth 100000 in
theorem mtX8_emit : ra_MT[69]? = some (mX8_emit, 1, 2, (1, 4), (3, 234), (0, 16)) := rfl
theorem fX8_emit_co (N : Nat) (p0 : Nat) (p1 : Int32) (p2 : Int32) (h : ra_H) (r : ra_H) (e : fX8_emit N p0 p1 p2 h = some r) (D : Nat) (hD : 2 ≤ D) : ra_CO D 69 [.ref p0, .int p1, .int p2] h (ra_oV r).1 (ra_oV r).2 := by
  have hw : ra_nw2 [.ref p0, .int p1, .int p2] ≤ 3 := Nat.le_of_ble_eq_true rfl
  have hdb : ∀ v ∈ ([.ref p0, .int p1, .int p2] : List Value), ∀ x, v ≠ .double x := by
    intro v hv x hx
    simp [hx] at hv
  unfold fX8_emit at e
  split at e
  · rename_i ho
    have e1 := e
    exact ⟨1, _, mtX8_emit, hD, ra_ev_of (by decide) hdb hw trivial (ra_Ru.weak (nX8_emit_0_ok N p0 p1 p2 h _ e1) ⟨rfl, ⟨rfl, ⟨rfl, trivial⟩⟩⟩), (fun _ => ⟨_, _, rfl, ra_rcv_of ho (by decide) rfl⟩), (fun h => absurd h (by decide))⟩
  · cases e
/-! RedMarks$Tape.factName(I)Ljava/lang/String; -/
def mX8_factName : ra_M := (yX8_factName, cX8_factName, 1, (some (.object "java/lang/String")))
def lX8_factName_0 : List ra_I := [(0, .iload_n 0, 1, 0, 0, 0, 0, 0, []),
  (1, .tableswitch (92) (0) (10) #[59, 62, 65, 68, 71, 74, 77, 80, 83, 86, 89], 59, 93, 0, 0, 0, 0, [(0, 60), (1, 63), (2, 66), (3, 69), (4, 72), (5, 75), (6, 78), (7, 81), (8, 84), (9, 87), (10, 90)]),
  (60, .ldc 129, 2, 8, 0, 1, 0, 0, []),
  (62, .areturn, 1, 0, 0, 0, 0, 0, []),
  (63, .ldc 131, 2, 9, 0, 1, 0, 0, []),
  (65, .areturn, 1, 0, 0, 0, 0, 0, []),
  (66, .ldc 133, 2, 10, 0, 1, 0, 0, []),
  (68, .areturn, 1, 0, 0, 0, 0, 0, []),
  (69, .ldc 135, 2, 11, 0, 1, 0, 0, []),
  (71, .areturn, 1, 0, 0, 0, 0, 0, []),
  (72, .ldc 137, 2, 12, 0, 1, 0, 0, []),
  (74, .areturn, 1, 0, 0, 0, 0, 0, []),
  (75, .ldc 139, 2, 13, 0, 1, 0, 0, []),
  (77, .areturn, 1, 0, 0, 0, 0, 0, []),
  (78, .ldc 141, 2, 14, 0, 1, 0, 0, []),
  (80, .areturn, 1, 0, 0, 0, 0, 0, []),
  (81, .ldc 143, 2, 15, 0, 1, 0, 0, []),
  (83, .areturn, 1, 0, 0, 0, 0, 0, []),
  (84, .ldc 145, 2, 16, 0, 1, 0, 0, []),
  (86, .areturn, 1, 0, 0, 0, 0, 0, []),
  (87, .ldc 147, 2, 17, 0, 1, 0, 0, []),
  (89, .areturn, 1, 0, 0, 0, 0, 0, []),
  (90, .ldc 149, 2, 18, 0, 1, 0, 0, []),
  (92, .areturn, 1, 0, 0, 0, 0, 0, []),
  (93, .ldc 151, 2, 19, 0, 1, 0, 0, []),
  (95, .areturn, 1, 0, 0, 0, 0, 0, [])]
set_option maxRecDepth 100000 in
theorem lX8_factName_0_ck : lX8_factName_0.all (ra_ck mX8_factName 8) = true := by decide +kernel
def nX8_factName_0 (N : Nat) (a0 : Int32) (h : ra_H) : Option (UInt32 × ra_H) :=
  if a0 = (0 : Int32) then
    some ((8 : UInt32), h)
  else
  if a0 = (1 : Int32) then
    some ((9 : UInt32), h)
  else
  if a0 = (2 : Int32) then
    some ((10 : UInt32), h)
  else
  if a0 = (3 : Int32) then
    some ((11 : UInt32), h)
  else
  if a0 = (4 : Int32) then
    some ((12 : UInt32), h)
  else
  if a0 = (5 : Int32) then
    some ((13 : UInt32), h)
  else
  if a0 = (6 : Int32) then
    some ((14 : UInt32), h)
  else
  if a0 = (7 : Int32) then
    some ((15 : UInt32), h)
  else
  if a0 = (8 : Int32) then
    some ((16 : UInt32), h)
  else
  if a0 = (9 : Int32) then
    some ((17 : UInt32), h)
  else
  if a0 = (10 : Int32) then
    some ((18 : UInt32), h)
  else
  some ((19 : UInt32), h)
def kX8_factName_0 (N : Nat) : Nat → List (Option Value) → List Value → ra_H → Option (UInt32 × ra_H) := ra_k0
theorem kX8_factName_0_ok (N : Nat) : ra_kok 1 mX8_factName ra_oF (kX8_factName_0 N) := ra_k0_ok
set_option maxRecDepth 100000 in
theorem nX8_factName_0_ok (N : Nat) (a0 : Int32) (h : ra_H) (r : (UInt32 × ra_H)) (e : nX8_factName_0 N a0 h = some r) : ra_Ru 1 mX8_factName 0 [some (.int a0)] [] h (ra_oF r) :=
  ra_sound (by omega) rfl ra_rF_ok (kX8_factName_0_ok N) (fun m av h h1 e => (ra_c0_ok (ro := ra_oV)) m av h h1 e) (fun m av h x h1 e => (ra_c0_ok (ro := ra_oI)) m av h (x, h1) e) (fun m av h x h1 e => (ra_c0_ok (ro := ra_oJ)) m av h (x, h1) e) (fun m av h x h1 e => (ra_c0_ok (ro := ra_oR)) m av h (x, h1) e) (fun m av h x h1 e => (ra_c0_ok (ro := ra_oN)) m av h (x, h1) e) (fun m av h x h1 e => (ra_c0_ok (ro := ra_oF)) m av h (x, h1) e) 27 lX8_factName_0 _ _ _ _ lX8_factName_0_ck (show ra_run ra_rF (kX8_factName_0 N) ra_c0 ra_c0 ra_c0 ra_c0 ra_c0 ra_c0 27 lX8_factName_0 [some (.int a0)] [] h = some r from e) _ _ rfl
def fX8_factName (N : Nat) (p0 : Int32) (h : ra_H) : Option (UInt32 × ra_H) := nX8_factName_0 N p0 h
set_option maxRecDepth 100000 in
theorem mtX8_factName : ra_MT[68]? = some (mX8_factName, 0, 1, (1, 4), (3, 218), (0, 0)) := rfl
theorem fX8_factName_co (N : Nat) (p0 : Int32) (h : ra_H) (r : (UInt32 × ra_H)) (e : fX8_factName N p0 h = some r) (D : Nat) (hD : 2 ≤ D) : ra_CO D 68 [.int p0] h (ra_oF r).1 (ra_oF r).2 := by
  have hw : ra_nw2 [.int p0] ≤ 1 := Nat.le_of_ble_eq_true rfl
  have hdb : ∀ v ∈ ([.int p0] : List Value), ∀ x, v ≠ .double x := by
    intro v hv x hx
    simp [hx] at hv
  unfold fX8_factName at e
  have e1 := e
  exact ⟨1, _, mtX8_factName, hD, ra_ev_of (by decide) hdb hw trivial (ra_Ru.weak (nX8_factName_0_ok N p0 h _ e1) ⟨rfl, trivial⟩), (fun h => absurd h (by decide)), (fun h => absurd h (by decide))⟩
/-! RedMarks$Tape.patch(II)V -/
def mX8_patch : ra_M := (yX8_patch, cX8_patch, 3, none)
def lX8_patch_23 : List ra_I := [(23, .return_, 1, 0, 0, 0, 0, 0, [])]
set_option maxRecDepth 100000 in
theorem lX8_patch_23_ck : lX8_patch_23.all (ra_ck mX8_patch 8) = true := by decide +kernel
def nX8_patch_23 (N : Nat) (h : ra_H) : Option ra_H :=
  some h
def kX8_patch_23 (N : Nat) : Nat → List (Option Value) → List Value → ra_H → Option ra_H := ra_k0
theorem kX8_patch_23_ok (N : Nat) : ra_kok 1 mX8_patch ra_oV (kX8_patch_23 N) := ra_k0_ok
set_option maxRecDepth 100000 in
theorem nX8_patch_23_ok (N : Nat) (h : ra_H) (r : ra_H) (e : nX8_patch_23 N h = some r) : ra_Ru 1 mX8_patch 23 [none, none, none] [] h (ra_oV r) :=
  ra_sound (by omega) rfl ra_rV_ok (kX8_patch_23_ok N) (fun m av h h1 e => (ra_c0_ok (ro := ra_oV)) m av h h1 e) (fun m av h x h1 e => (ra_c0_ok (ro := ra_oI)) m av h (x, h1) e) (fun m av h x h1 e => (ra_c0_ok (ro := ra_oJ)) m av h (x, h1) e) (fun m av h x h1 e => (ra_c0_ok (ro := ra_oR)) m av h (x, h1) e) (fun m av h x h1 e => (ra_c0_ok (ro := ra_oN)) m av h (x, h1) e) (fun m av h x h1 e => (ra_c0_ok (ro := ra_oF)) m av h (x, h1) e) 2 lX8_patch_23 _ _ _ _ lX8_patch_23_ck (show ra_run ra_rV (kX8_patch_23 N) ra_c0 ra_c0 ra_c0 ra_c0 ra_c0 ra_c0 2 lX8_patch_23 [none, none, none] [] h = some r from e) _ _ rfl
def lX8_patch_0 : List ra_I := [(0, .iload_n 2, 1, 2, 0, 0, 0, 0, []),
  (1, .aload_n 0, 1, 0, 0, 0, 0, 0, []),
  (2, .getfield 30, 3, 8, 6, 0, 0, 0, []),
  (5, .if_icmp .ge (18), 3, 23, 0, 0, 0, 0, []),
  (8, .aload_n 0, 1, 0, 0, 0, 0, 0, []),
  (9, .getfield 15, 3, 8, 3, 2, 0, 0, []),
  (12, .iload_n 2, 1, 2, 0, 0, 0, 0, []),
  (13, .aload_n 0, 1, 0, 0, 0, 0, 0, []),
  (14, .getfield 30, 3, 8, 6, 0, 0, 0, []),
  (17, .bipush (16), 2, 0, 0, 0, (16), 0, []),
  (19, .imul, 1, 0, 0, 0, 0, 0, []),
  (20, .iload_n 1, 1, 1, 0, 0, 0, 0, []),
  (21, .iadd, 1, 0, 0, 0, 0, 0, []),
  (22, .iastore, 1, 0, 0, 0, 0, 0, [])]
set_option maxRecDepth 100000 in
theorem lX8_patch_0_ck : lX8_patch_0.all (ra_ck mX8_patch 8) = true := by decide +kernel
def nX8_patch_0 (N : Nat) (a0 : Nat) (a1 : Int32) (a2 : Int32) (h : ra_H) : Option ra_H :=
  (ra_fI h 8 a0 6).bind fun x1 =>
  if a2 < x1 then
    (ra_fR h 8 a0 3).bind fun x2 =>
    (ra_fI h 8 a0 6).bind fun x3 =>
    (ra_aW h 0 x2 a2 ((x3 * ((16 : Int32))) + a1)).bind fun h4 =>
    nX8_patch_23 N h4
  else
    nX8_patch_23 N h
def kX8_patch_0 (N : Nat) : Nat → List (Option Value) → List Value → ra_H → Option ra_H := (ra_k1 23 (fun L S h => match L, S with
  | [_, _, _], [] => nX8_patch_23 N h
  | _, _ => none) ra_k0)
theorem kX8_patch_0_ok (N : Nat) : ra_kok 1 mX8_patch ra_oV (kX8_patch_0 N) := (ra_k1_ok (by
  intro L S h a e
  split at e
  · exact ra_Ru.weak (nX8_patch_23_ok N _ _ e) trivial
  · cases e) ra_k0_ok)
set_option maxRecDepth 100000 in
theorem nX8_patch_0_ok (N : Nat) (a0 : Nat) (a1 : Int32) (a2 : Int32) (h : ra_H) (r : ra_H) (e : nX8_patch_0 N a0 a1 a2 h = some r) : ra_Ru 1 mX8_patch 0 [some (.ref a0), some (.int a1), some (.int a2)] [] h (ra_oV r) :=
  ra_sound (by omega) rfl ra_rV_ok (kX8_patch_0_ok N) (fun m av h h1 e => (ra_c0_ok (ro := ra_oV)) m av h h1 e) (fun m av h x h1 e => (ra_c0_ok (ro := ra_oI)) m av h (x, h1) e) (fun m av h x h1 e => (ra_c0_ok (ro := ra_oJ)) m av h (x, h1) e) (fun m av h x h1 e => (ra_c0_ok (ro := ra_oR)) m av h (x, h1) e) (fun m av h x h1 e => (ra_c0_ok (ro := ra_oN)) m av h (x, h1) e) (fun m av h x h1 e => (ra_c0_ok (ro := ra_oF)) m av h (x, h1) e) 15 lX8_patch_0 _ _ _ _ lX8_patch_0_ck (show ra_run ra_rV (kX8_patch_0 N) ra_c0 ra_c0 ra_c0 ra_c0 ra_c0 ra_c0 15 lX8_patch_0 [some (.ref a0), some (.int a1), some (.int a2)] [] h = some r from e) _ _ rfl
def fX8_patch (N : Nat) (p0 : Nat) (p1 : Int32) (p2 : Int32) (h : ra_H) : Option ra_H := match ra_isOb h p0 8 with
  | true => nX8_patch_0 N p0 p1 p2 h
  | false => none
set_option maxRecDepth 100000 in
theorem mtX8_patch : ra_MT[75]? = some (mX8_patch, 1, 2, (1, 4), (4, 21), (0, 22)) := rfl
theorem fX8_patch_co (N : Nat) (p0 : Nat) (p1 : Int32) (p2 : Int32) (h : ra_H) (r : ra_H) (e : fX8_patch N p0 p1 p2 h = some r) (D : Nat) (hD : 2 ≤ D) : ra_CO D 75 [.ref p0, .int p1, .int p2] h (ra_oV r).1 (ra_oV r).2 := by
  have hw : ra_nw2 [.ref p0, .int p1, .int p2] ≤ 3 := Nat.le_of_ble_eq_true rfl
  have hdb : ∀ v ∈ ([.ref p0, .int p1, .int p2] : List Value), ∀ x, v ≠ .double x := by
    intro v hv x hx
    simp [hx] at hv
  unfold fX8_patch at e
  split at e
  · rename_i ho
    have e1 := e
    exact ⟨1, _, mtX8_patch, hD, ra_ev_of (by decide) hdb hw trivial (ra_Ru.weak (nX8_patch_0_ok N p0 p1 p2 h _ e1) ⟨rfl, ⟨rfl, ⟨rfl, trivial⟩⟩⟩), (fun _ => ⟨_, _, rfl, ra_rcv_of ho (by decide) rfl⟩), (fun h => absurd h (by decide))⟩
  · cases e
/-! RedMarks$Tape.comparisonHere()I -/
def mX8_comparisonHere : ra_M := (yX8_comparisonHere, cX8_comparisonHere, 1, (some .int))
def tIX8_comparisonHere (N : Nat) : Nat → List Value → ra_H → Option (Int32 × ra_H) := (ra_c1 65 (fun av h => match av with
  | [.ref z0, .int z1] => fX8_isSign N z0 z1 h
  | _ => none) ra_c0)
theorem tIX8_comparisonHere_ok (N : Nat) : ra_cok 2 ra_oI (tIX8_comparisonHere N) := (ra_c1_ok (by
  intro av h a e
  split at e
  · exact fX8_isSign_co N _ _ _ _ e 2 (by omega)
  · cases e) ra_c0_ok)
def lX8_comparisonHere_39 : List ra_I := [(39, .ireturn, 1, 0, 0, 0, 0, 0, [])]
set_option maxRecDepth 100000 in
theorem lX8_comparisonHere_39_ck : lX8_comparisonHere_39.all (ra_ck mX8_comparisonHere 8) = true := by decide +kernel
def nX8_comparisonHere_39 (N : Nat) (b0 : Int32) (h : ra_H) : Option (Int32 × ra_H) :=
  some (b0, h)
def kX8_comparisonHere_39 (N : Nat) : Nat → List (Option Value) → List Value → ra_H → Option (Int32 × ra_H) := ra_k0
theorem kX8_comparisonHere_39_ok (N : Nat) : ra_kok 2 mX8_comparisonHere ra_oI (kX8_comparisonHere_39 N) := ra_k0_ok
set_option maxRecDepth 100000 in
theorem nX8_comparisonHere_39_ok (N : Nat) (b0 : Int32) (h : ra_H) (r : (Int32 × ra_H)) (e : nX8_comparisonHere_39 N b0 h = some r) : ra_Ru 2 mX8_comparisonHere 39 [none] [.int b0] h (ra_oI r) :=
  ra_sound (by omega) rfl ra_rI_ok (kX8_comparisonHere_39_ok N) (fun m av h h1 e => (ra_c0_ok (ro := ra_oV)) m av h h1 e) (fun m av h x h1 e => (tIX8_comparisonHere_ok N) m av h (x, h1) e) (fun m av h x h1 e => (ra_c0_ok (ro := ra_oJ)) m av h (x, h1) e) (fun m av h x h1 e => (ra_c0_ok (ro := ra_oR)) m av h (x, h1) e) (fun m av h x h1 e => (ra_c0_ok (ro := ra_oN)) m av h (x, h1) e) (fun m av h x h1 e => (ra_c0_ok (ro := ra_oF)) m av h (x, h1) e) 2 lX8_comparisonHere_39 _ _ _ _ lX8_comparisonHere_39_ck (show ra_run ra_rI (kX8_comparisonHere_39 N) ra_c0 (tIX8_comparisonHere N) ra_c0 ra_c0 ra_c0 ra_c0 2 lX8_comparisonHere_39 [none] [.int b0] h = some r from e) _ _ rfl
def lX8_comparisonHere_0 : List ra_I := [(0, .aload_n 0, 1, 0, 0, 0, 0, 0, []),
  (1, .bipush (60), 2, 0, 0, 0, (60), 0, []),
  (3, .invokevirtual 56, 3, 65, 2, 1, 0, 0, []),
  (6, .ifCond .eq (6), 3, 12, 0, 0, 0, 0, []),
  (9, .bipush (6), 2, 0, 0, 0, (6), 0, []),
  (11, .ireturn, 1, 0, 0, 0, 0, 0, []),
  (12, .aload_n 0, 1, 0, 0, 0, 0, 0, []),
  (13, .bipush (62), 2, 0, 0, 0, (62), 0, []),
  (15, .invokevirtual 56, 3, 65, 2, 1, 0, 0, []),
  (18, .ifCond .eq (6), 3, 24, 0, 0, 0, 0, []),
  (21, .bipush (7), 2, 0, 0, 0, (7), 0, []),
  (23, .ireturn, 1, 0, 0, 0, 0, 0, []),
  (24, .aload_n 0, 1, 0, 0, 0, 0, 0, []),
  (25, .bipush (61), 2, 0, 0, 0, (61), 0, []),
  (27, .invokevirtual 56, 3, 65, 2, 1, 0, 0, []),
  (30, .ifCond .eq (8), 3, 38, 0, 0, 0, 0, []),
  (33, .bipush (8), 2, 0, 0, 0, (8), 0, []),
  (35, .goto (4), 3, 39, 0, 0, 0, 0, []),
  (38, .iconst (-1), 1, 0, 0, 0, (-1), 0, [])]
set_option maxRecDepth 100000 in
theorem lX8_comparisonHere_0_ck : lX8_comparisonHere_0.all (ra_ck mX8_comparisonHere 8) = true := by decide +kernel
def nX8_comparisonHere_0 (N : Nat) (a0 : Nat) (h : ra_H) : Option (Int32 × ra_H) :=
  (fX8_isSign N a0 ((60 : Int32)) h).bind fun q1 =>
  if q1.1 = 0 then
    (fX8_isSign N a0 ((62 : Int32)) q1.2).bind fun q2 =>
    if q2.1 = 0 then
      (fX8_isSign N a0 ((61 : Int32)) q2.2).bind fun q3 =>
      if q3.1 = 0 then
        nX8_comparisonHere_39 N ((-1 : Int32)) q3.2
      else
        nX8_comparisonHere_39 N ((8 : Int32)) q3.2
    else
      some ((7 : Int32), q2.2)
  else
    some ((6 : Int32), q1.2)
def kX8_comparisonHere_0 (N : Nat) : Nat → List (Option Value) → List Value → ra_H → Option (Int32 × ra_H) := (ra_k1 39 (fun L S h => match L, S with
  | [_], [.int b0] => nX8_comparisonHere_39 N b0 h
  | _, _ => none) ra_k0)
theorem kX8_comparisonHere_0_ok (N : Nat) : ra_kok 2 mX8_comparisonHere ra_oI (kX8_comparisonHere_0 N) := (ra_k1_ok (by
  intro L S h a e
  split at e
  · exact ra_Ru.weak (nX8_comparisonHere_39_ok N _ _ _ e) trivial
  · cases e) ra_k0_ok)
set_option maxRecDepth 100000 in
theorem nX8_comparisonHere_0_ok (N : Nat) (a0 : Nat) (h : ra_H) (r : (Int32 × ra_H)) (e : nX8_comparisonHere_0 N a0 h = some r) : ra_Ru 2 mX8_comparisonHere 0 [some (.ref a0)] [] h (ra_oI r) :=
  ra_sound (by omega) rfl ra_rI_ok (kX8_comparisonHere_0_ok N) (fun m av h h1 e => (ra_c0_ok (ro := ra_oV)) m av h h1 e) (fun m av h x h1 e => (tIX8_comparisonHere_ok N) m av h (x, h1) e) (fun m av h x h1 e => (ra_c0_ok (ro := ra_oJ)) m av h (x, h1) e) (fun m av h x h1 e => (ra_c0_ok (ro := ra_oR)) m av h (x, h1) e) (fun m av h x h1 e => (ra_c0_ok (ro := ra_oN)) m av h (x, h1) e) (fun m av h x h1 e => (ra_c0_ok (ro := ra_oF)) m av h (x, h1) e) 20 lX8_comparisonHere_0 _ _ _ _ lX8_comparisonHere_0_ck (show ra_run ra_rI (kX8_comparisonHere_0 N) ra_c0 (tIX8_comparisonHere N) ra_c0 ra_c0 ra_c0 ra_c0 20 lX8_comparisonHere_0 [some (.ref a0)] [] h = some r from e) _ _ rfl
def fX8_comparisonHere (N : Nat) (p0 : Nat) (h : ra_H) : Option (Int32 × ra_H) := match ra_isOb h p0 8 with
  | true => nX8_comparisonHere_0 N p0 h
  | false => none
set_option maxRecDepth 100000 in
theorem mtX8_comparisonHere : ra_MT[74]? = some (mX8_comparisonHere, 1, 0, (1, 4), (4, 16), (0, 21)) := rfl
theorem fX8_comparisonHere_co (N : Nat) (p0 : Nat) (h : ra_H) (r : (Int32 × ra_H)) (e : fX8_comparisonHere N p0 h = some r) (D : Nat) (hD : 3 ≤ D) : ra_CO D 74 [.ref p0] h (ra_oI r).1 (ra_oI r).2 := by
  have hw : ra_nw2 [.ref p0] ≤ 1 := Nat.le_of_ble_eq_true rfl
  have hdb : ∀ v ∈ ([.ref p0] : List Value), ∀ x, v ≠ .double x := by
    intro v hv x hx
    simp [hx] at hv
  unfold fX8_comparisonHere at e
  split at e
  · rename_i ho
    have e1 := e
    exact ⟨2, _, mtX8_comparisonHere, hD, ra_ev_of (by decide) hdb hw trivial (ra_Ru.weak (nX8_comparisonHere_0_ok N p0 h _ e1) ⟨rfl, trivial⟩), (fun _ => ⟨_, _, rfl, ra_rcv_of ho (by decide) rfl⟩), (fun h => absurd h (by decide))⟩
  · cases e
