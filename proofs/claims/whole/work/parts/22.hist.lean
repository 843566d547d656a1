/-! RedMarks$Histories.<init>(LRedMarks$Holdings;LRedMarks$Asker;)V -/
def mX1_init : ra_M := (yX1_init, cX1_init, 3, none)
def tVX1_init (N : Nat) : Nat → List Value → ra_H → Option ra_H := (ra_c1 7 (fun av h => match av with
  | [.ref z0] => fX7_init N z0 h
  | _ => none) ra_c0)
theorem tVX1_init_ok (N : Nat) : ra_cok 2 ra_oV (tVX1_init N) := (ra_c1_ok (by
  intro av h a e
  split at e
  · exact fX7_init_co N _ _ _ e 2 (by omega)
  · cases e) ra_c0_ok)
def lX1_init_0 : List ra_I := [(0, .aload_n 0, 1, 0, 0, 0, 0, 0, []),
  (1, .invokespecial 3, 3, 0, 0, 23, 0, 0, []),
  (4, .aload_n 0, 1, 0, 0, 0, 0, 0, []),
  (5, .sipush (320), 3, 0, 0, 0, (320), 0, []),
  (8, .newarray .int, 2, 0, 0, 0, 0, 0, []),
  (10, .putfield 9, 3, 1, 2, 2, 0, 0, []),
  (13, .aload_n 0, 1, 0, 0, 0, 0, 0, []),
  (14, .sipush (320), 3, 0, 0, 0, (320), 0, []),
  (17, .newarray .boolean, 2, 2, 0, 0, 0, 0, []),
  (19, .putfield 15, 3, 1, 3, 2, 0, 0, []),
  (22, .aload_n 0, 1, 0, 0, 0, 0, 0, []),
  (23, .sipush (320), 3, 0, 0, 0, (320), 0, []),
  (26, .newarray .int, 2, 0, 0, 0, 0, 0, []),
  (28, .putfield 19, 3, 1, 4, 2, 0, 0, []),
  (31, .aload_n 0, 1, 0, 0, 0, 0, 0, []),
  (32, .sipush (5346), 3, 0, 0, 0, (5346), 0, []),
  (35, .newarray .int, 2, 0, 0, 0, 0, 0, []),
  (37, .putfield 22, 3, 1, 5, 2, 0, 0, []),
  (40, .aload_n 0, 1, 0, 0, 0, 0, 0, []),
  (41, .bipush (40), 2, 0, 0, 0, (40), 0, []),
  (43, .newarray .int, 2, 0, 0, 0, 0, 0, []),
  (45, .putfield 25, 3, 1, 6, 2, 0, 0, []),
  (48, .aload_n 0, 1, 0, 0, 0, 0, 0, []),
  (49, .iconst (5), 1, 0, 0, 0, (5), 0, []),
  (50, .newarray .int, 2, 0, 0, 0, 0, 0, []),
  (52, .putfield 28, 3, 1, 7, 2, 0, 0, []),
  (55, .aload_n 0, 1, 0, 0, 0, 0, 0, []),
  (56, .new 31, 3, 7, 4, 0, 0, 0, []),
  (59, .dup, 1, 0, 0, 0, 0, 0, []),
  (60, .invokespecial 33, 3, 7, 1, 10, 0, 0, []),
  (63, .putfield 34, 3, 1, 8, 2, 0, 0, []),
  (66, .aload_n 0, 1, 0, 0, 0, 0, 0, []),
  (67, .new 31, 3, 7, 4, 0, 0, 0, []),
  (70, .dup, 1, 0, 0, 0, 0, 0, []),
  (71, .invokespecial 33, 3, 7, 1, 10, 0, 0, []),
  (74, .putfield 38, 3, 1, 11, 2, 0, 0, []),
  (77, .aload_n 0, 1, 0, 0, 0, 0, 0, []),
  (78, .aload_n 1, 1, 1, 0, 0, 0, 0, []),
  (79, .putfield 41, 3, 1, 0, 2, 0, 0, []),
  (82, .aload_n 0, 1, 0, 0, 0, 0, 0, []),
  (83, .aload_n 2, 1, 2, 0, 0, 0, 0, []),
  (84, .putfield 45, 3, 1, 1, 2, 0, 0, []),
  (87, .return_, 1, 0, 0, 0, 0, 0, [])]
set_option maxRecDepth 100000 in
theorem lX1_init_0_ck : lX1_init_0.all (ra_ck mX1_init 1) = true := by decide +kernel
def nX1_init_0 (N : Nat) (a0 : Nat) (a1 : Nat) (a2 : Nat) (h : ra_H) : Option ra_H :=
  if ((320 : Int32)) < 0 ∨ 50000000 < (Int32.toNatClampNeg ((320 : Int32))) then none else
  let h1 := ra_mk h (ra_na 0 (Int32.toNatClampNeg ((320 : Int32)))) (Int32.toNatClampNeg ((320 : Int32)))
  (ra_fW h1 1 a0 2 (.ref h.2.1)).bind fun h2 =>
  if ((320 : Int32)) < 0 ∨ 50000000 < (Int32.toNatClampNeg ((320 : Int32))) then none else
  let h3 := ra_mk h2 (ra_na 2 (Int32.toNatClampNeg ((320 : Int32)))) (Int32.toNatClampNeg ((320 : Int32)))
  (ra_fW h3 1 a0 3 (.ref h2.2.1)).bind fun h4 =>
  if ((320 : Int32)) < 0 ∨ 50000000 < (Int32.toNatClampNeg ((320 : Int32))) then none else
  let h5 := ra_mk h4 (ra_na 0 (Int32.toNatClampNeg ((320 : Int32)))) (Int32.toNatClampNeg ((320 : Int32)))
  (ra_fW h5 1 a0 4 (.ref h4.2.1)).bind fun h6 =>
  if ((5346 : Int32)) < 0 ∨ 50000000 < (Int32.toNatClampNeg ((5346 : Int32))) then none else
  let h7 := ra_mk h6 (ra_na 0 (Int32.toNatClampNeg ((5346 : Int32)))) (Int32.toNatClampNeg ((5346 : Int32)))
  (ra_fW h7 1 a0 5 (.ref h6.2.1)).bind fun h8 =>
  if ((40 : Int32)) < 0 ∨ 50000000 < (Int32.toNatClampNeg ((40 : Int32))) then none else
  let h9 := ra_mk h8 (ra_na 0 (Int32.toNatClampNeg ((40 : Int32)))) (Int32.toNatClampNeg ((40 : Int32)))
  (ra_fW h9 1 a0 6 (.ref h8.2.1)).bind fun h10 =>
  if ((5 : Int32)) < 0 ∨ 50000000 < (Int32.toNatClampNeg ((5 : Int32))) then none else
  let h11 := ra_mk h10 (ra_na 0 (Int32.toNatClampNeg ((5 : Int32)))) (Int32.toNatClampNeg ((5 : Int32)))
  (ra_fW h11 1 a0 7 (.ref h10.2.1)).bind fun h12 =>
  let h13 := ra_mk h12 (.inr (7, ra_df 7)) 4
  (fX7_init N h12.2.1 h13).bind fun h14 =>
  (ra_fW h14 1 a0 8 (.ref h12.2.1)).bind fun h15 =>
  let h16 := ra_mk h15 (.inr (7, ra_df 7)) 4
  (fX7_init N h15.2.1 h16).bind fun h17 =>
  (ra_fW h17 1 a0 11 (.ref h15.2.1)).bind fun h18 =>
  (ra_fW h18 1 a0 0 (.ref a1)).bind fun h19 =>
  (ra_fW h19 1 a0 1 (.ref a2)).bind fun h20 =>
  some h20
def kX1_init_0 (N : Nat) : Nat → List (Option Value) → List Value → ra_H → Option ra_H := ra_k0
theorem kX1_init_0_ok (N : Nat) : ra_kok 2 mX1_init ra_oV (kX1_init_0 N) := ra_k0_ok
set_option maxRecDepth 100000 in
theorem nX1_init_0_ok (N : Nat) (a0 : Nat) (a1 : Nat) (a2 : Nat) (h : ra_H) (r : ra_H) (e : nX1_init_0 N a0 a1 a2 h = some r) : ra_Ru 2 mX1_init 0 [some (.ref a0), some (.ref a1), some (.ref a2)] [] h (ra_oV r) :=
  ra_sound (by omega) rfl ra_rV_ok (kX1_init_0_ok N) (fun m av h h1 e => (tVX1_init_ok N) m av h h1 e) (fun m av h x h1 e => (ra_c0_ok (ro := ra_oI)) m av h (x, h1) e) (fun m av h x h1 e => (ra_c0_ok (ro := ra_oJ)) m av h (x, h1) e) (fun m av h x h1 e => (ra_c0_ok (ro := ra_oR)) m av h (x, h1) e) (fun m av h x h1 e => (ra_c0_ok (ro := ra_oN)) m av h (x, h1) e) (fun m av h x h1 e => (ra_c0_ok (ro := ra_oF)) m av h (x, h1) e) 44 lX1_init_0 _ _ _ _ lX1_init_0_ck (show ra_run ra_rV (kX1_init_0 N) (tVX1_init N) ra_c0 ra_c0 ra_c0 ra_c0 ra_c0 44 lX1_init_0 [some (.ref a0), some (.ref a1), some (.ref a2)] [] h = some r from e) _ _ rfl
def fX1_init (N : Nat) (p0 : Nat) (p1 : Nat) (p2 : Nat) (h : ra_H) : Option ra_H := nX1_init_0 N p0 p1 p2 h
set_option maxRecDepth 100000 in
theorem mtX1_init : ra_MT[6]? = some (mX1_init, 2, 2, (1, 6), (1, 198), (0, 0)) := rfl
theorem fX1_init_co (N : Nat) (p0 : Nat) (p1 : Nat) (p2 : Nat) (h : ra_H) (r : ra_H) (e : fX1_init N p0 p1 p2 h = some r) (D : Nat) (hD : 3 ≤ D) : ra_CO D 6 [.ref p0, .ref p1, .ref p2] h (ra_oV r).1 (ra_oV r).2 := by
  have hw : ra_nw2 [.ref p0, .ref p1, .ref p2] ≤ 3 := Nat.le_of_ble_eq_true rfl
  have hdb : ∀ v ∈ ([.ref p0, .ref p1, .ref p2] : List Value), ∀ x, v ≠ .double x := by
    intro v hv x hx
    simp [hx] at hv
  unfold fX1_init at e
  have e1 := e
  exact ⟨2, _, mtX1_init, hD, ra_ev_of (by decide) hdb hw trivial (ra_Ru.weak (nX1_init_0_ok N p0 p1 p2 h _ e1) ⟨rfl, ⟨rfl, ⟨rfl, trivial⟩⟩⟩), (fun h => absurd h (by decide)), (fun _ => ⟨_, _, rfl⟩)⟩
/-! RedMarks$Shelves.<init>(LRedMarks$Holdings;LRedMarks$Standing;)V -/
def mX5_init : ra_M := (yX5_init, cX5_init, 3, none)
def lX5_init_0 : List ra_I := [(0, .aload_n 0, 1, 0, 0, 0, 0, 0, []),
  (1, .invokespecial 3, 3, 0, 0, 23, 0, 0, []),
  (4, .aload_n 0, 1, 0, 0, 0, 0, 0, []),
  (5, .bipush (40), 2, 0, 0, 0, (40), 0, []),
  (7, .newarray .int, 2, 0, 0, 0, 0, 0, []),
  (9, .putfield 9, 3, 5, 2, 2, 0, 0, []),
  (12, .aload_n 0, 1, 0, 0, 0, 0, 0, []),
  (13, .aload_n 1, 1, 1, 0, 0, 0, 0, []),
  (14, .putfield 15, 3, 5, 0, 2, 0, 0, []),
  (17, .aload_n 0, 1, 0, 0, 0, 0, 0, []),
  (18, .aload_n 2, 1, 2, 0, 0, 0, 0, []),
  (19, .putfield 19, 3, 5, 1, 2, 0, 0, []),
  (22, .return_, 1, 0, 0, 0, 0, 0, [])]
set_option maxRecDepth 100000 in
theorem lX5_init_0_ck : lX5_init_0.all (ra_ck mX5_init 5) = true := by decide +kernel
def nX5_init_0 (N : Nat) (a0 : Nat) (a1 : Nat) (a2 : Nat) (h : ra_H) : Option ra_H :=
  if ((40 : Int32)) < 0 ∨ 50000000 < (Int32.toNatClampNeg ((40 : Int32))) then none else
  let h1 := ra_mk h (ra_na 0 (Int32.toNatClampNeg ((40 : Int32)))) (Int32.toNatClampNeg ((40 : Int32)))
  (ra_fW h1 5 a0 2 (.ref h.2.1)).bind fun h2 =>
  (ra_fW h2 5 a0 0 (.ref a1)).bind fun h3 =>
  (ra_fW h3 5 a0 1 (.ref a2)).bind fun h4 =>
  some h4
def kX5_init_0 (N : Nat) : Nat → List (Option Value) → List Value → ra_H → Option ra_H := ra_k0
theorem kX5_init_0_ok (N : Nat) : ra_kok 1 mX5_init ra_oV (kX5_init_0 N) := ra_k0_ok
set_option maxRecDepth 100000 in
theorem nX5_init_0_ok (N : Nat) (a0 : Nat) (a1 : Nat) (a2 : Nat) (h : ra_H) (r : ra_H) (e : nX5_init_0 N a0 a1 a2 h = some r) : ra_Ru 1 mX5_init 0 [some (.ref a0), some (.ref a1), some (.ref a2)] [] h (ra_oV r) :=
  ra_sound (by omega) rfl ra_rV_ok (kX5_init_0_ok N) (fun m av h h1 e => (ra_c0_ok (ro := ra_oV)) m av h h1 e) (fun m av h x h1 e => (ra_c0_ok (ro := ra_oI)) m av h (x, h1) e) (fun m av h x h1 e => (ra_c0_ok (ro := ra_oJ)) m av h (x, h1) e) (fun m av h x h1 e => (ra_c0_ok (ro := ra_oR)) m av h (x, h1) e) (fun m av h x h1 e => (ra_c0_ok (ro := ra_oN)) m av h (x, h1) e) (fun m av h x h1 e => (ra_c0_ok (ro := ra_oF)) m av h (x, h1) e) 14 lX5_init_0 _ _ _ _ lX5_init_0_ck (show ra_run ra_rV (kX5_init_0 N) ra_c0 ra_c0 ra_c0 ra_c0 ra_c0 ra_c0 14 lX5_init_0 [some (.ref a0), some (.ref a1), some (.ref a2)] [] h = some r from e) _ _ rfl
def fX5_init (N : Nat) (p0 : Nat) (p1 : Nat) (p2 : Nat) (h : ra_H) : Option ra_H := nX5_init_0 N p0 p1 p2 h
set_option maxRecDepth 100000 in
theorem mtX5_init : ra_MT[8]? = some (mX5_init, 2, 2, (1, 8), (2, 31), (0, 0)) := rfl
theorem fX5_init_co (N : Nat) (p0 : Nat) (p1 : Nat) (p2 : Nat) (h : ra_H) (r : ra_H) (e : fX5_init N p0 p1 p2 h = some r) (D : Nat) (hD : 2 ≤ D) : ra_CO D 8 [.ref p0, .ref p1, .ref p2] h (ra_oV r).1 (ra_oV r).2 := by
  have hw : ra_nw2 [.ref p0, .ref p1, .ref p2] ≤ 3 := Nat.le_of_ble_eq_true rfl
  have hdb : ∀ v ∈ ([.ref p0, .ref p1, .ref p2] : List Value), ∀ x, v ≠ .double x := by
    intro v hv x hx
    simp [hx] at hv
  unfold fX5_init at e
  have e1 := e
  exact ⟨1, _, mtX5_init, hD, ra_ev_of (by decide) hdb hw trivial (ra_Ru.weak (nX5_init_0_ok N p0 p1 p2 h _ e1) ⟨rfl, ⟨rfl, ⟨rfl, trivial⟩⟩⟩), (fun h => absurd h (by decide)), (fun _ => ⟨_, _, rfl⟩)⟩
/-! RedMarks$StackRow.<init>(LRedMarks$Holdings;)V -/
def mX6_init : ra_M := (yX6_init, cX6_init, 2, none)
def lX6_init_0 : List ra_I := [(0, .aload_n 0, 1, 0, 0, 0, 0, 0, []),
  (1, .invokespecial 3, 3, 0, 0, 23, 0, 0, []),
  (4, .aload_n 0, 1, 0, 0, 0, 0, 0, []),
  (5, .bipush (9), 2, 0, 0, 0, (9), 0, []),
  (7, .newarray .int, 2, 0, 0, 0, 0, 0, []),
  (9, .putfield 9, 3, 6, 1, 2, 0, 0, []),
  (12, .aload_n 0, 1, 0, 0, 0, 0, 0, []),
  (13, .bipush (81), 2, 0, 0, 0, (81), 0, []),
  (15, .newarray .int, 2, 0, 0, 0, 0, 0, []),
  (17, .putfield 15, 3, 6, 2, 2, 0, 0, []),
  (20, .aload_n 0, 1, 0, 0, 0, 0, 0, []),
  (21, .sipush (4608), 3, 0, 0, 0, (4608), 0, []),
  (24, .newarray .int, 2, 0, 0, 0, 0, 0, []),
  (26, .putfield 18, 3, 6, 3, 2, 0, 0, []),
  (29, .aload_n 0, 1, 0, 0, 0, 0, 0, []),
  (30, .bipush (9), 2, 0, 0, 0, (9), 0, []),
  (32, .newarray .int, 2, 0, 0, 0, 0, 0, []),
  (34, .putfield 21, 3, 6, 5, 2, 0, 0, []),
  (37, .aload_n 0, 1, 0, 0, 0, 0, 0, []),
  (38, .aload_n 1, 1, 1, 0, 0, 0, 0, []),
  (39, .putfield 24, 3, 6, 0, 2, 0, 0, []),
  (42, .return_, 1, 0, 0, 0, 0, 0, [])]
set_option maxRecDepth 100000 in
theorem lX6_init_0_ck : lX6_init_0.all (ra_ck mX6_init 6) = true := by decide +kernel
def nX6_init_0 (N : Nat) (a0 : Nat) (a1 : Nat) (h : ra_H) : Option ra_H :=
  if ((9 : Int32)) < 0 ∨ 50000000 < (Int32.toNatClampNeg ((9 : Int32))) then none else
  let h1 := ra_mk h (ra_na 0 (Int32.toNatClampNeg ((9 : Int32)))) (Int32.toNatClampNeg ((9 : Int32)))
  (ra_fW h1 6 a0 1 (.ref h.2.1)).bind fun h2 =>
  if ((81 : Int32)) < 0 ∨ 50000000 < (Int32.toNatClampNeg ((81 : Int32))) then none else
  let h3 := ra_mk h2 (ra_na 0 (Int32.toNatClampNeg ((81 : Int32)))) (Int32.toNatClampNeg ((81 : Int32)))
  (ra_fW h3 6 a0 2 (.ref h2.2.1)).bind fun h4 =>
  if ((4608 : Int32)) < 0 ∨ 50000000 < (Int32.toNatClampNeg ((4608 : Int32))) then none else
  let h5 := ra_mk h4 (ra_na 0 (Int32.toNatClampNeg ((4608 : Int32)))) (Int32.toNatClampNeg ((4608 : Int32)))
  (ra_fW h5 6 a0 3 (.ref h4.2.1)).bind fun h6 =>
  if ((9 : Int32)) < 0 ∨ 50000000 < (Int32.toNatClampNeg ((9 : Int32))) then none else
  let h7 := ra_mk h6 (ra_na 0 (Int32.toNatClampNeg ((9 : Int32)))) (Int32.toNatClampNeg ((9 : Int32)))
  (ra_fW h7 6 a0 5 (.ref h6.2.1)).bind fun h8 =>
  (ra_fW h8 6 a0 0 (.ref a1)).bind fun h9 =>
  some h9
def kX6_init_0 (N : Nat) : Nat → List (Option Value) → List Value → ra_H → Option ra_H := ra_k0
theorem kX6_init_0_ok (N : Nat) : ra_kok 1 mX6_init ra_oV (kX6_init_0 N) := ra_k0_ok
set_option maxRecDepth 100000 in
theorem nX6_init_0_ok (N : Nat) (a0 : Nat) (a1 : Nat) (h : ra_H) (r : ra_H) (e : nX6_init_0 N a0 a1 h = some r) : ra_Ru 1 mX6_init 0 [some (.ref a0), some (.ref a1)] [] h (ra_oV r) :=
  ra_sound (by omega) rfl ra_rV_ok (kX6_init_0_ok N) (fun m av h h1 e => (ra_c0_ok (ro := ra_oV)) m av h h1 e) (fun m av h x h1 e => (ra_c0_ok (ro := ra_oI)) m av h (x, h1) e) (fun m av h x h1 e => (ra_c0_ok (ro := ra_oJ)) m av h (x, h1) e) (fun m av h x h1 e => (ra_c0_ok (ro := ra_oR)) m av h (x, h1) e) (fun m av h x h1 e => (ra_c0_ok (ro := ra_oN)) m av h (x, h1) e) (fun m av h x h1 e => (ra_c0_ok (ro := ra_oF)) m av h (x, h1) e) 23 lX6_init_0 _ _ _ _ lX6_init_0_ck (show ra_run ra_rV (kX6_init_0 N) ra_c0 ra_c0 ra_c0 ra_c0 ra_c0 ra_c0 23 lX6_init_0 [some (.ref a0), some (.ref a1)] [] h = some r from e) _ _ rfl
def fX6_init (N : Nat) (p0 : Nat) (p1 : Nat) (h : ra_H) : Option ra_H := nX6_init_0 N p0 p1 h
set_option maxRecDepth 100000 in
theorem mtX6_init : ra_MT[11]? = some (mX6_init, 2, 1, (1, 11), (2, 145), (0, 0)) := rfl
theorem fX6_init_co (N : Nat) (p0 : Nat) (p1 : Nat) (h : ra_H) (r : ra_H) (e : fX6_init N p0 p1 h = some r) (D : Nat) (hD : 2 ≤ D) : ra_CO D 11 [.ref p0, .ref p1] h (ra_oV r).1 (ra_oV r).2 := by
  have hw : ra_nw2 [.ref p0, .ref p1] ≤ 2 := Nat.le_of_ble_eq_true rfl
  have hdb : ∀ v ∈ ([.ref p0, .ref p1] : List Value), ∀ x, v ≠ .double x := by
    intro v hv x hx
    simp [hx] at hv
  unfold fX6_init at e
  have e1 := e
  exact ⟨1, _, mtX6_init, hD, ra_ev_of (by decide) hdb hw trivial (ra_Ru.weak (nX6_init_0_ok N p0 p1 h _ e1) ⟨rfl, ⟨rfl, trivial⟩⟩), (fun h => absurd h (by decide)), (fun _ => ⟨_, _, rfl⟩)⟩
/-! RedMarks$Histories.forgetStanding()V -/
def mX1_forgetStanding : ra_M := (yX1_forgetStanding, cX1_forgetStanding, 1, none)
def lX1_forgetStanding_0 : List ra_I := [(0, .aload_n 0, 1, 0, 0, 0, 0, 0, []),
  (1, .iconst (0), 1, 0, 0, 0, (0), 0, []),
  (2, .putfield 49, 3, 1, 9, 4, 0, 0, []),
  (5, .aload_n 0, 1, 0, 0, 0, 0, 0, []),
  (6, .iconst (0), 1, 0, 0, 0, (0), 0, []),
  (7, .putfield 53, 3, 1, 10, 4, 0, 0, []),
  (10, .return_, 1, 0, 0, 0, 0, 0, [])]
set_option maxRecDepth 100000 in
theorem lX1_forgetStanding_0_ck : lX1_forgetStanding_0.all (ra_ck mX1_forgetStanding 1) = true := by decide +kernel
def nX1_forgetStanding_0 (N : Nat) (a0 : Nat) (h : ra_H) : Option ra_H :=
  if ((0 : Int32)) = 0 ∨ ((0 : Int32)) = 1 then
  (ra_fW h 1 a0 9 (.int ((0 : Int32)))).bind fun h1 =>
  if ((0 : Int32)) = 0 ∨ ((0 : Int32)) = 1 then
  (ra_fW h1 1 a0 10 (.int ((0 : Int32)))).bind fun h2 =>
  some h2
  else none
  else none
def kX1_forgetStanding_0 (N : Nat) : Nat → List (Option Value) → List Value → ra_H → Option ra_H := ra_k0
theorem kX1_forgetStanding_0_ok (N : Nat) : ra_kok 1 mX1_forgetStanding ra_oV (kX1_forgetStanding_0 N) := ra_k0_ok
set_option maxRecDepth 100000 in
theorem nX1_forgetStanding_0_ok (N : Nat) (a0 : Nat) (h : ra_H) (r : ra_H) (e : nX1_forgetStanding_0 N a0 h = some r) : ra_Ru 1 mX1_forgetStanding 0 [some (.ref a0)] [] h (ra_oV r) :=
  ra_sound (by omega) rfl ra_rV_ok (kX1_forgetStanding_0_ok N) (fun m av h h1 e => (ra_c0_ok (ro := ra_oV)) m av h h1 e) (fun m av h x h1 e => (ra_c0_ok (ro := ra_oI)) m av h (x, h1) e) (fun m av h x h1 e => (ra_c0_ok (ro := ra_oJ)) m av h (x, h1) e) (fun m av h x h1 e => (ra_c0_ok (ro := ra_oR)) m av h (x, h1) e) (fun m av h x h1 e => (ra_c0_ok (ro := ra_oN)) m av h (x, h1) e) (fun m av h x h1 e => (ra_c0_ok (ro := ra_oF)) m av h (x, h1) e) 8 lX1_forgetStanding_0 _ _ _ _ lX1_forgetStanding_0_ck (show ra_run ra_rV (kX1_forgetStanding_0 N) ra_c0 ra_c0 ra_c0 ra_c0 ra_c0 ra_c0 8 lX1_forgetStanding_0 [some (.ref a0)] [] h = some r from e) _ _ rfl
def fX1_forgetStanding (N : Nat) (p0 : Nat) (h : ra_H) : Option ra_H := match ra_isOb h p0 1 with
  | true => nX1_forgetStanding_0 N p0 h
  | false => none
set_option maxRecDepth 100000 in
theorem mtX1_forgetStanding : ra_MT[22]? = some (mX1_forgetStanding, 1, 0, (1, 6), (3, 29), (3, 30)) := rfl
theorem fX1_forgetStanding_co (N : Nat) (p0 : Nat) (h : ra_H) (r : ra_H) (e : fX1_forgetStanding N p0 h = some r) (D : Nat) (hD : 2 ≤ D) : ra_CO D 22 [.ref p0] h (ra_oV r).1 (ra_oV r).2 := by
  have hw : ra_nw2 [.ref p0] ≤ 1 := Nat.le_of_ble_eq_true rfl
  have hdb : ∀ v ∈ ([.ref p0] : List Value), ∀ x, v ≠ .double x := by
    intro v hv x hx
    simp [hx] at hv
  unfold fX1_forgetStanding at e
  split at e
  · rename_i ho
    have e1 := e
    exact ⟨1, _, mtX1_forgetStanding, hD, ra_ev_of (by decide) hdb hw trivial (ra_Ru.weak (nX1_forgetStanding_0_ok N p0 h _ e1) ⟨rfl, trivial⟩), (fun _ => ⟨_, _, rfl, ra_rcv_of ho (by decide) rfl⟩), (fun h => absurd h (by decide))⟩
  · cases e
/-! RedMarks$Histories.forgetBook(I)V -/
def mX1_forgetBook : ra_M := (yX1_forgetBook, cX1_forgetBook, 3, none)
def tVX1_forgetBook (N : Nat) : Nat → List Value → ra_H → Option ra_H := (ra_c1 22 (fun av h => match av with
  | [.ref z0] => fX1_forgetStanding N z0 h
  | _ => none) ra_c0)
theorem tVX1_forgetBook_ok (N : Nat) : ra_cok 2 ra_oV (tVX1_forgetBook N) := (ra_c1_ok (by
  intro av h a e
  split at e
  · exact fX1_forgetStanding_co N _ _ _ e 2 (by omega)
  · cases e) ra_c0_ok)
def lX1_forgetBook_2 : List ra_I := [(2, .iload_n 2, 1, 2, 0, 0, 0, 0, []),
  (3, .bipush (8), 2, 0, 0, 0, (8), 0, []),
  (5, .if_icmp .ge (21), 3, 26, 0, 0, 0, 0, []),
  (8, .aload_n 0, 1, 0, 0, 0, 0, 0, []),
  (9, .getfield 15, 3, 1, 3, 2, 0, 0, []),
  (12, .iload_n 2, 1, 2, 0, 0, 0, 0, []),
  (13, .bipush (40), 2, 0, 0, 0, (40), 0, []),
  (15, .imul, 1, 0, 0, 0, 0, 0, []),
  (16, .iload_n 1, 1, 1, 0, 0, 0, 0, []),
  (17, .iadd, 1, 0, 0, 0, 0, 0, []),
  (18, .iconst (0), 1, 0, 0, 0, (0), 0, []),
  (19, .bastore, 1, 0, 0, 0, 0, 0, []),
  (20, .iinc 2 (1), 3, 2, 0, 0, (1), 0, []),
  (23, .goto (-21), 3, 2, 0, 0, 0, 0, []),
  (26, .aload_n 0, 1, 0, 0, 0, 0, 0, []),
  (27, .invokevirtual 56, 3, 22, 1, 0, 0, 0, []),
  (30, .return_, 1, 0, 0, 0, 0, 0, [])]
set_option maxRecDepth 100000 in
theorem lX1_forgetBook_2_ck : lX1_forgetBook_2.all (ra_ck mX1_forgetBook 1) = true := by decide +kernel
def nX1_forgetBook_2 (N : Nat) : Nat → Nat → Int32 → Int32 → ra_H → Option ra_H
  | 0, _, _, _, _ => none
  | n + 1, a0, a1, a2, h =>
  if a2 < ((8 : Int32)) then
    (ra_fR h 1 a0 3).bind fun x2 =>
    (ra_aW h 2 x2 ((a2 * ((40 : Int32))) + a1) (vp_nar .boolean ((0 : Int32)))).bind fun h3 =>
    let y4 := a2 + (1 : Int32)
    nX1_forgetBook_2 N n a0 a1 y4 h3
  else
    (fX1_forgetStanding N a0 h).bind fun h1 =>
    some h1
def kX1_forgetBook_2 (N : Nat) (cs : Nat → Int32 → Int32 → ra_H → Option ra_H) : Nat → List (Option Value) → List Value → ra_H → Option ra_H := (ra_k1 2 (fun L S h => match L, S with
  | [some (.ref a0), some (.int a1), some (.int a2)], [] => cs a0 a1 a2 h
  | _, _ => none) ra_k0)
theorem kX1_forgetBook_2_ok (N : Nat) (cs : Nat → Int32 → Int32 → ra_H → Option ra_H) (hcs : ∀ a0 a1 a2 h r, cs a0 a1 a2 h = some r → ra_Ru 2 mX1_forgetBook 2 [some (.ref a0), some (.int a1), some (.int a2)] [] h (ra_oV r)) : ra_kok 2 mX1_forgetBook ra_oV (kX1_forgetBook_2 N cs) := (ra_k1_ok (by
  intro L S h a e
  split at e
  · exact ra_Ru.weak (hcs _ _ _ _ _ e) ⟨rfl, ⟨rfl, ⟨rfl, trivial⟩⟩⟩
  · cases e) ra_k0_ok)
set_option maxRecDepth 100000 in
theorem nX1_forgetBook_2_ok (N : Nat) : ∀ n a0 a1 a2 h r, nX1_forgetBook_2 N n a0 a1 a2 h = some r → ra_Ru 2 mX1_forgetBook 2 [some (.ref a0), some (.int a1), some (.int a2)] [] h (ra_oV r) := by
  intro n
  induction n with
  | zero => intro a0 a1 a2 h r e; cases e
  | succ n ih =>
    intro a0 a1 a2 h r e
    exact ra_sound (by omega) rfl ra_rV_ok (kX1_forgetBook_2_ok N (nX1_forgetBook_2 N n) ih) (fun m av h h1 e => (tVX1_forgetBook_ok N) m av h h1 e) (fun m av h x h1 e => (ra_c0_ok (ro := ra_oI)) m av h (x, h1) e) (fun m av h x h1 e => (ra_c0_ok (ro := ra_oJ)) m av h (x, h1) e) (fun m av h x h1 e => (ra_c0_ok (ro := ra_oR)) m av h (x, h1) e) (fun m av h x h1 e => (ra_c0_ok (ro := ra_oN)) m av h (x, h1) e) (fun m av h x h1 e => (ra_c0_ok (ro := ra_oF)) m av h (x, h1) e) 18 lX1_forgetBook_2 _ _ _ _ lX1_forgetBook_2_ck (show ra_run ra_rV (kX1_forgetBook_2 N (nX1_forgetBook_2 N n)) (tVX1_forgetBook N) ra_c0 ra_c0 ra_c0 ra_c0 ra_c0 18 lX1_forgetBook_2 [some (.ref a0), some (.int a1), some (.int a2)] [] h = some r from e) _ _ rfl
def lX1_forgetBook_0 : List ra_I := [(0, .iconst (0), 1, 0, 0, 0, (0), 0, []),
  (1, .istore_n 2, 1, 2, 0, 0, 0, 0, [])]
set_option maxRecDepth 100000 in
theorem lX1_forgetBook_0_ck : lX1_forgetBook_0.all (ra_ck mX1_forgetBook 1) = true := by decide +kernel
def nX1_forgetBook_0 (N : Nat) (a0 : Nat) (a1 : Int32) (h : ra_H) : Option ra_H :=
  nX1_forgetBook_2 N N a0 a1 ((0 : Int32)) h
def kX1_forgetBook_0 (N : Nat) : Nat → List (Option Value) → List Value → ra_H → Option ra_H := (ra_k1 2 (fun L S h => match L, S with
  | [some (.ref a0), some (.int a1), some (.int a2)], [] => nX1_forgetBook_2 N N a0 a1 a2 h
  | _, _ => none) ra_k0)
theorem kX1_forgetBook_0_ok (N : Nat) : ra_kok 2 mX1_forgetBook ra_oV (kX1_forgetBook_0 N) := (ra_k1_ok (by
  intro L S h a e
  split at e
  · exact ra_Ru.weak (nX1_forgetBook_2_ok N N _ _ _ _ _ e) ⟨rfl, ⟨rfl, ⟨rfl, trivial⟩⟩⟩
  · cases e) ra_k0_ok)
set_option maxRecDepth 100000 in
theorem nX1_forgetBook_0_ok (N : Nat) (a0 : Nat) (a1 : Int32) (h : ra_H) (r : ra_H) (e : nX1_forgetBook_0 N a0 a1 h = some r) : ra_Ru 2 mX1_forgetBook 0 [some (.ref a0), some (.int a1), none] [] h (ra_oV r) :=
  ra_sound (by omega) rfl ra_rV_ok (kX1_forgetBook_0_ok N) (fun m av h h1 e => (tVX1_forgetBook_ok N) m av h h1 e) (fun m av h x h1 e => (ra_c0_ok (ro := ra_oI)) m av h (x, h1) e) (fun m av h x h1 e => (ra_c0_ok (ro := ra_oJ)) m av h (x, h1) e) (fun m av h x h1 e => (ra_c0_ok (ro := ra_oR)) m av h (x, h1) e) (fun m av h x h1 e => (ra_c0_ok (ro := ra_oN)) m av h (x, h1) e) (fun m av h x h1 e => (ra_c0_ok (ro := ra_oF)) m av h (x, h1) e) 3 lX1_forgetBook_0 _ _ _ _ lX1_forgetBook_0_ck (show ra_run ra_rV (kX1_forgetBook_0 N) (tVX1_forgetBook N) ra_c0 ra_c0 ra_c0 ra_c0 ra_c0 3 lX1_forgetBook_0 [some (.ref a0), some (.int a1), none] [] h = some r from e) _ _ rfl
def fX1_forgetBook (N : Nat) (p0 : Nat) (p1 : Int32) (h : ra_H) : Option ra_H := match ra_isOb h p0 1 with
  | true => nX1_forgetBook_0 N p0 p1 h
  | false => none
set_option maxRecDepth 100000 in
theorem mtX1_forgetBook : ra_MT[21]? = some (mX1_forgetBook, 1, 1, (1, 6), (3, 25), (3, 26)) := rfl
theorem fX1_forgetBook_co (N : Nat) (p0 : Nat) (p1 : Int32) (h : ra_H) (r : ra_H) (e : fX1_forgetBook N p0 p1 h = some r) (D : Nat) (hD : 3 ≤ D) : ra_CO D 21 [.ref p0, .int p1] h (ra_oV r).1 (ra_oV r).2 := by
  have hw : ra_nw2 [.ref p0, .int p1] ≤ 3 := Nat.le_of_ble_eq_true rfl
  have hdb : ∀ v ∈ ([.ref p0, .int p1] : List Value), ∀ x, v ≠ .double x := by
    intro v hv x hx
    simp [hx] at hv
  unfold fX1_forgetBook at e
  split at e
  · rename_i ho
    have e1 := e
    exact ⟨2, _, mtX1_forgetBook, hD, ra_ev_of (by decide) hdb hw trivial (ra_Ru.weak (nX1_forgetBook_0_ok N p0 p1 h _ e1) ⟨rfl, ⟨rfl, trivial⟩⟩), (fun _ => ⟨_, _, rfl, ra_rcv_of ho (by decide) rfl⟩), (fun h => absurd h (by decide))⟩
  · cases e
/-! RedMarks$Histories.forgetScheme(I)V -/
def mX1_forgetScheme : ra_M := (yX1_forgetScheme, cX1_forgetScheme, 3, none)
def tVX1_forgetScheme (N : Nat) : Nat → List Value → ra_H → Option ra_H := (ra_c1 22 (fun av h => match av with
  | [.ref z0] => fX1_forgetStanding N z0 h
  | _ => none) ra_c0)
theorem tVX1_forgetScheme_ok (N : Nat) : ra_cok 2 ra_oV (tVX1_forgetScheme N) := (ra_c1_ok (by
  intro av h a e
  split at e
  · exact fX1_forgetStanding_co N _ _ _ e 2 (by omega)
  · cases e) ra_c0_ok)
def lX1_forgetScheme_2 : List ra_I := [(2, .iload_n 2, 1, 2, 0, 0, 0, 0, []),
  (3, .bipush (40), 2, 0, 0, 0, (40), 0, []),
  (5, .if_icmp .ge (21), 3, 26, 0, 0, 0, 0, []),
  (8, .aload_n 0, 1, 0, 0, 0, 0, 0, []),
  (9, .getfield 15, 3, 1, 3, 2, 0, 0, []),
  (12, .iload_n 1, 1, 1, 0, 0, 0, 0, []),
  (13, .bipush (40), 2, 0, 0, 0, (40), 0, []),
  (15, .imul, 1, 0, 0, 0, 0, 0, []),
  (16, .iload_n 2, 1, 2, 0, 0, 0, 0, []),
  (17, .iadd, 1, 0, 0, 0, 0, 0, []),
  (18, .iconst (0), 1, 0, 0, 0, (0), 0, []),
  (19, .bastore, 1, 0, 0, 0, 0, 0, []),
  (20, .iinc 2 (1), 3, 2, 0, 0, (1), 0, []),
  (23, .goto (-21), 3, 2, 0, 0, 0, 0, []),
  (26, .aload_n 0, 1, 0, 0, 0, 0, 0, []),
  (27, .invokevirtual 56, 3, 22, 1, 0, 0, 0, []),
  (30, .return_, 1, 0, 0, 0, 0, 0, [])]
set_option maxRecDepth 100000 in
theorem lX1_forgetScheme_2_ck : lX1_forgetScheme_2.all (ra_ck mX1_forgetScheme 1) = true := by decide +kernel
def nX1_forgetScheme_2 (N : Nat) : Nat → Nat → Int32 → Int32 → ra_H → Option ra_H
  | 0, _, _, _, _ => none
  | n + 1, a0, a1, a2, h =>
  if a2 < ((40 : Int32)) then
    (ra_fR h 1 a0 3).bind fun x2 =>
    (ra_aW h 2 x2 ((a1 * ((40 : Int32))) + a2) (vp_nar .boolean ((0 : Int32)))).bind fun h3 =>
    let y4 := a2 + (1 : Int32)
    nX1_forgetScheme_2 N n a0 a1 y4 h3
  else
    (fX1_forgetStanding N a0 h).bind fun h1 =>
    some h1
def kX1_forgetScheme_2 (N : Nat) (cs : Nat → Int32 → Int32 → ra_H → Option ra_H) : Nat → List (Option Value) → List Value → ra_H → Option ra_H := (ra_k1 2 (fun L S h => match L, S with
  | [some (.ref a0), some (.int a1), some (.int a2)], [] => cs a0 a1 a2 h
  | _, _ => none) ra_k0)
theorem kX1_forgetScheme_2_ok (N : Nat) (cs : Nat → Int32 → Int32 → ra_H → Option ra_H) (hcs : ∀ a0 a1 a2 h r, cs a0 a1 a2 h = some r → ra_Ru 2 mX1_forgetScheme 2 [some (.ref a0), some (.int a1), some (.int a2)] [] h (ra_oV r)) : ra_kok 2 mX1_forgetScheme ra_oV (kX1_forgetScheme_2 N cs) := (ra_k1_ok (by
  intro L S h a e
  split at e
  · exact ra_Ru.weak (hcs _ _ _ _ _ e) ⟨rfl, ⟨rfl, ⟨rfl, trivial⟩⟩⟩
  · cases e) ra_k0_ok)
set_option maxRecDepth 100000 in
theorem nX1_forgetScheme_2_ok (N : Nat) : ∀ n a0 a1 a2 h r, nX1_forgetScheme_2 N n a0 a1 a2 h = some r → ra_Ru 2 mX1_forgetScheme 2 [some (.ref a0), some (.int a1), some (.int a2)] [] h (ra_oV r) := by
  intro n
  induction n with
  | zero => intro a0 a1 a2 h r e; cases e
  | succ n ih =>
    intro a0 a1 a2 h r e
    exact ra_sound (by omega) rfl ra_rV_ok (kX1_forgetScheme_2_ok N (nX1_forgetScheme_2 N n) ih) (fun m av h h1 e => (tVX1_forgetScheme_ok N) m av h h1 e) (fun m av h x h1 e => (ra_c0_ok (ro := ra_oI)) m av h (x, h1) e) (fun m av h x h1 e => (ra_c0_ok (ro := ra_oJ)) m av h (x, h1) e) (fun m av h x h1 e => (ra_c0_ok (ro := ra_oR)) m av h (x, h1) e) (fun m av h x h1 e => (ra_c0_ok (ro := ra_oN)) m av h (x, h1) e) (fun m av h x h1 e => (ra_c0_ok (ro := ra_oF)) m av h (x, h1) e) 18 lX1_forgetScheme_2 _ _ _ _ lX1_forgetScheme_2_ck (show ra_run ra_rV (kX1_forgetScheme_2 N (nX1_forgetScheme_2 N n)) (tVX1_forgetScheme N) ra_c0 ra_c0 ra_c0 ra_c0 ra_c0 18 lX1_forgetScheme_2 [some (.ref a0), some (.int a1), some (.int a2)] [] h = some r from e) _ _ rfl
def lX1_forgetScheme_0 : List ra_I := [(0, .iconst (0), 1, 0, 0, 0, (0), 0, []),
  (1, .istore_n 2, 1, 2, 0, 0, 0, 0, [])]
set_option maxRecDepth 100000 in
theorem lX1_forgetScheme_0_ck : lX1_forgetScheme_0.all (ra_ck mX1_forgetScheme 1) = true := by decide +kernel
def nX1_forgetScheme_0 (N : Nat) (a0 : Nat) (a1 : Int32) (h : ra_H) : Option ra_H :=
  nX1_forgetScheme_2 N N a0 a1 ((0 : Int32)) h
def kX1_forgetScheme_0 (N : Nat) : Nat → List (Option Value) → List Value → ra_H → Option ra_H := (ra_k1 2 (fun L S h => match L, S with
  | [some (.ref a0), some (.int a1), some (.int a2)], [] => nX1_forgetScheme_2 N N a0 a1 a2 h
  | _, _ => none) ra_k0)
theorem kX1_forgetScheme_0_ok (N : Nat) : ra_kok 2 mX1_forgetScheme ra_oV (kX1_forgetScheme_0 N) := (ra_k1_ok (by
  intro L S h a e
  split at e
  · exact ra_Ru.weak (nX1_forgetScheme_2_ok N N _ _ _ _ _ e) ⟨rfl, ⟨rfl, ⟨rfl, trivial⟩⟩⟩
  · cases e) ra_k0_ok)
set_option maxRecDepth 100000 in
theorem nX1_forgetScheme_0_ok (N : Nat) (a0 : Nat) (a1 : Int32) (h : ra_H) (r : ra_H) (e : nX1_forgetScheme_0 N a0 a1 h = some r) : ra_Ru 2 mX1_forgetScheme 0 [some (.ref a0), some (.int a1), none] [] h (ra_oV r) :=
  ra_sound (by omega) rfl ra_rV_ok (kX1_forgetScheme_0_ok N) (fun m av h h1 e => (tVX1_forgetScheme_ok N) m av h h1 e) (fun m av h x h1 e => (ra_c0_ok (ro := ra_oI)) m av h (x, h1) e) (fun m av h x h1 e => (ra_c0_ok (ro := ra_oJ)) m av h (x, h1) e) (fun m av h x h1 e => (ra_c0_ok (ro := ra_oR)) m av h (x, h1) e) (fun m av h x h1 e => (ra_c0_ok (ro := ra_oN)) m av h (x, h1) e) (fun m av h x h1 e => (ra_c0_ok (ro := ra_oF)) m av h (x, h1) e) 3 lX1_forgetScheme_0 _ _ _ _ lX1_forgetScheme_0_ck (show ra_run ra_rV (kX1_forgetScheme_0 N) (tVX1_forgetScheme N) ra_c0 ra_c0 ra_c0 ra_c0 ra_c0 3 lX1_forgetScheme_0 [some (.ref a0), some (.int a1), none] [] h = some r from e) _ _ rfl
def fX1_forgetScheme (N : Nat) (p0 : Nat) (p1 : Int32) (h : ra_H) : Option ra_H := match ra_isOb h p0 1 with
  | true => nX1_forgetScheme_0 N p0 p1 h
  | false => none
set_option maxRecDepth 100000 in
theorem mtX1_forgetScheme : ra_MT[79]? = some (mX1_forgetScheme, 1, 1, (1, 6), (4, 63), (4, 64)) := rfl
theorem fX1_forgetScheme_co (N : Nat) (p0 : Nat) (p1 : Int32) (h : ra_H) (r : ra_H) (e : fX1_forgetScheme N p0 p1 h = some r) (D : Nat) (hD : 3 ≤ D) : ra_CO D 79 [.ref p0, .int p1] h (ra_oV r).1 (ra_oV r).2 := by
  have hw : ra_nw2 [.ref p0, .int p1] ≤ 3 := Nat.le_of_ble_eq_true rfl
  have hdb : ∀ v ∈ ([.ref p0, .int p1] : List Value), ∀ x, v ≠ .double x := by
    intro v hv x hx
    simp [hx] at hv
  unfold fX1_forgetScheme at e
  split at e
  · rename_i ho
    have e1 := e
    exact ⟨2, _, mtX1_forgetScheme, hD, ra_ev_of (by decide) hdb hw trivial (ra_Ru.weak (nX1_forgetScheme_0_ok N p0 p1 h _ e1) ⟨rfl, ⟨rfl, trivial⟩⟩), (fun _ => ⟨_, _, rfl, ra_rcv_of ho (by decide) rfl⟩), (fun h => absurd h (by decide))⟩
  · cases e
/-! RedMarks$Histories.forgetAll()V -/
def mX1_forgetAll : ra_M := (yX1_forgetAll, cX1_forgetAll, 2, none)
def tVX1_forgetAll (N : Nat) : Nat → List Value → ra_H → Option ra_H := (ra_c1 79 (fun av h => match av with
  | [.ref z0, .int z1] => fX1_forgetScheme N z0 z1 h
  | _ => none) ra_c0)
theorem tVX1_forgetAll_ok (N : Nat) : ra_cok 3 ra_oV (tVX1_forgetAll N) := (ra_c1_ok (by
  intro av h a e
  split at e
  · exact fX1_forgetScheme_co N _ _ _ _ e 3 (by omega)
  · cases e) ra_c0_ok)
def lX1_forgetAll_2 : List ra_I := [(2, .iload_n 1, 1, 1, 0, 0, 0, 0, []),
  (3, .bipush (8), 2, 0, 0, 0, (8), 0, []),
  (5, .if_icmp .ge (14), 3, 19, 0, 0, 0, 0, []),
  (8, .aload_n 0, 1, 0, 0, 0, 0, 0, []),
  (9, .iload_n 1, 1, 1, 0, 0, 0, 0, []),
  (10, .invokevirtual 59, 3, 79, 2, 0, 0, 0, []),
  (13, .iinc 1 (1), 3, 1, 0, 0, (1), 0, []),
  (16, .goto (-14), 3, 2, 0, 0, 0, 0, []),
  (19, .return_, 1, 0, 0, 0, 0, 0, [])]
set_option maxRecDepth 100000 in
theorem lX1_forgetAll_2_ck : lX1_forgetAll_2.all (ra_ck mX1_forgetAll 1) = true := by decide +kernel
def nX1_forgetAll_2 (N : Nat) : Nat → Nat → Int32 → ra_H → Option ra_H
  | 0, _, _, _ => none
  | n + 1, a0, a1, h =>
  if a1 < ((8 : Int32)) then
    (fX1_forgetScheme N a0 a1 h).bind fun h1 =>
    let y2 := a1 + (1 : Int32)
    nX1_forgetAll_2 N n a0 y2 h1
  else
    some h
def kX1_forgetAll_2 (N : Nat) (cs : Nat → Int32 → ra_H → Option ra_H) : Nat → List (Option Value) → List Value → ra_H → Option ra_H := (ra_k1 2 (fun L S h => match L, S with
  | [some (.ref a0), some (.int a1)], [] => cs a0 a1 h
  | _, _ => none) ra_k0)
theorem kX1_forgetAll_2_ok (N : Nat) (cs : Nat → Int32 → ra_H → Option ra_H) (hcs : ∀ a0 a1 h r, cs a0 a1 h = some r → ra_Ru 3 mX1_forgetAll 2 [some (.ref a0), some (.int a1)] [] h (ra_oV r)) : ra_kok 3 mX1_forgetAll ra_oV (kX1_forgetAll_2 N cs) := (ra_k1_ok (by
  intro L S h a e
  split at e
  · exact ra_Ru.weak (hcs _ _ _ _ e) ⟨rfl, ⟨rfl, trivial⟩⟩
  · cases e) ra_k0_ok)
set_option maxRecDepth 100000 in
theorem nX1_forgetAll_2_ok (N : Nat) : ∀ n a0 a1 h r, nX1_forgetAll_2 N n a0 a1 h = some r → ra_Ru 3 mX1_forgetAll 2 [some (.ref a0), some (.int a1)] [] h (ra_oV r) := by
  intro n
  induction n with
  | zero => intro a0 a1 h r e; cases e
  | succ n ih =>
    intro a0 a1 h r e
    exact ra_sound (by omega) rfl ra_rV_ok (kX1_forgetAll_2_ok N (nX1_forgetAll_2 N n) ih) (fun m av h h1 e => (tVX1_forgetAll_ok N) m av h h1 e) (fun m av h x h1 e => (ra_c0_ok (ro := ra_oI)) m av h (x, h1) e) (fun m av h x h1 e => (ra_c0_ok (ro := ra_oJ)) m av h (x, h1) e) (fun m av h x h1 e => (ra_c0_ok (ro := ra_oR)) m av h (x, h1) e) (fun m av h x h1 e => (ra_c0_ok (ro := ra_oN)) m av h (x, h1) e) (fun m av h x h1 e => (ra_c0_ok (ro := ra_oF)) m av h (x, h1) e) 10 lX1_forgetAll_2 _ _ _ _ lX1_forgetAll_2_ck (show ra_run ra_rV (kX1_forgetAll_2 N (nX1_forgetAll_2 N n)) (tVX1_forgetAll N) ra_c0 ra_c0 ra_c0 ra_c0 ra_c0 10 lX1_forgetAll_2 [some (.ref a0), some (.int a1)] [] h = some r from e) _ _ rfl
def lX1_forgetAll_0 : List ra_I := [(0, .iconst (0), 1, 0, 0, 0, (0), 0, []),
  (1, .istore_n 1, 1, 1, 0, 0, 0, 0, [])]
set_option maxRecDepth 100000 in
theorem lX1_forgetAll_0_ck : lX1_forgetAll_0.all (ra_ck mX1_forgetAll 1) = true := by decide +kernel
def nX1_forgetAll_0 (N : Nat) (a0 : Nat) (h : ra_H) : Option ra_H :=
  nX1_forgetAll_2 N N a0 ((0 : Int32)) h
def kX1_forgetAll_0 (N : Nat) : Nat → List (Option Value) → List Value → ra_H → Option ra_H := (ra_k1 2 (fun L S h => match L, S with
  | [some (.ref a0), some (.int a1)], [] => nX1_forgetAll_2 N N a0 a1 h
  | _, _ => none) ra_k0)
theorem kX1_forgetAll_0_ok (N : Nat) : ra_kok 3 mX1_forgetAll ra_oV (kX1_forgetAll_0 N) := (ra_k1_ok (by
  intro L S h a e
  split at e
  · exact ra_Ru.weak (nX1_forgetAll_2_ok N N _ _ _ _ e) ⟨rfl, ⟨rfl, trivial⟩⟩
  · cases e) ra_k0_ok)
set_option maxRecDepth 100000 in
theorem nX1_forgetAll_0_ok (N : Nat) (a0 : Nat) (h : ra_H) (r : ra_H) (e : nX1_forgetAll_0 N a0 h = some r) : ra_Ru 3 mX1_forgetAll 0 [some (.ref a0), none] [] h (ra_oV r) :=
  ra_sound (by omega) rfl ra_rV_ok (kX1_forgetAll_0_ok N) (fun m av h h1 e => (tVX1_forgetAll_ok N) m av h h1 e) (fun m av h x h1 e => (ra_c0_ok (ro := ra_oI)) m av h (x, h1) e) (fun m av h x h1 e => (ra_c0_ok (ro := ra_oJ)) m av h (x, h1) e) (fun m av h x h1 e => (ra_c0_ok (ro := ra_oR)) m av h (x, h1) e) (fun m av h x h1 e => (ra_c0_ok (ro := ra_oN)) m av h (x, h1) e) (fun m av h x h1 e => (ra_c0_ok (ro := ra_oF)) m av h (x, h1) e) 3 lX1_forgetAll_0 _ _ _ _ lX1_forgetAll_0_ck (show ra_run ra_rV (kX1_forgetAll_0 N) (tVX1_forgetAll N) ra_c0 ra_c0 ra_c0 ra_c0 ra_c0 3 lX1_forgetAll_0 [some (.ref a0), none] [] h = some r from e) _ _ rfl
def fX1_forgetAll (N : Nat) (p0 : Nat) (h : ra_H) : Option ra_H := match ra_isOb h p0 1 with
  | true => nX1_forgetAll_0 N p0 h
  | false => none
set_option maxRecDepth 100000 in
theorem mtX1_forgetAll : ra_MT[203]? = some (mX1_forgetAll, 1, 0, (1, 6), (6, 108), (6, 109)) := rfl
theorem fX1_forgetAll_co (N : Nat) (p0 : Nat) (h : ra_H) (r : ra_H) (e : fX1_forgetAll N p0 h = some r) (D : Nat) (hD : 4 ≤ D) : ra_CO D 203 [.ref p0] h (ra_oV r).1 (ra_oV r).2 := by
  have hw : ra_nw2 [.ref p0] ≤ 2 := Nat.le_of_ble_eq_true rfl
  have hdb : ∀ v ∈ ([.ref p0] : List Value), ∀ x, v ≠ .double x := by
    intro v hv x hx
    simp [hx] at hv
  unfold fX1_forgetAll at e
  split at e
  · rename_i ho
    have e1 := e
    exact ⟨3, _, mtX1_forgetAll, hD, ra_ev_of (by decide) hdb hw trivial (ra_Ru.weak (nX1_forgetAll_0_ok N p0 h _ e1) ⟨rfl, trivial⟩), (fun _ => ⟨_, _, rfl, ra_rcv_of ho (by decide) rfl⟩), (fun h => absurd h (by decide))⟩
  · cases e
/-! RedMarks$StackRow.forgetAll()V -/
def mX6_forgetAll : ra_M := (yX6_forgetAll, cX6_forgetAll, 1, none)
def lX6_forgetAll_0 : List ra_I := [(0, .aload_n 0, 1, 0, 0, 0, 0, 0, []),
  (1, .iconst (0), 1, 0, 0, 0, (0), 0, []),
  (2, .putfield 28, 3, 6, 4, 4, 0, 0, []),
  (5, .return_, 1, 0, 0, 0, 0, 0, [])]
set_option maxRecDepth 100000 in
theorem lX6_forgetAll_0_ck : lX6_forgetAll_0.all (ra_ck mX6_forgetAll 6) = true := by decide +kernel
def nX6_forgetAll_0 (N : Nat) (a0 : Nat) (h : ra_H) : Option ra_H :=
  if ((0 : Int32)) = 0 ∨ ((0 : Int32)) = 1 then
  (ra_fW h 6 a0 4 (.int ((0 : Int32)))).bind fun h1 =>
  some h1
  else none
def kX6_forgetAll_0 (N : Nat) : Nat → List (Option Value) → List Value → ra_H → Option ra_H := ra_k0
theorem kX6_forgetAll_0_ok (N : Nat) : ra_kok 1 mX6_forgetAll ra_oV (kX6_forgetAll_0 N) := ra_k0_ok
set_option maxRecDepth 100000 in
theorem nX6_forgetAll_0_ok (N : Nat) (a0 : Nat) (h : ra_H) (r : ra_H) (e : nX6_forgetAll_0 N a0 h = some r) : ra_Ru 1 mX6_forgetAll 0 [some (.ref a0)] [] h (ra_oV r) :=
  ra_sound (by omega) rfl ra_rV_ok (kX6_forgetAll_0_ok N) (fun m av h h1 e => (ra_c0_ok (ro := ra_oV)) m av h h1 e) (fun m av h x h1 e => (ra_c0_ok (ro := ra_oI)) m av h (x, h1) e) (fun m av h x h1 e => (ra_c0_ok (ro := ra_oJ)) m av h (x, h1) e) (fun m av h x h1 e => (ra_c0_ok (ro := ra_oR)) m av h (x, h1) e) (fun m av h x h1 e => (ra_c0_ok (ro := ra_oN)) m av h (x, h1) e) (fun m av h x h1 e => (ra_c0_ok (ro := ra_oF)) m av h (x, h1) e) 5 lX6_forgetAll_0 _ _ _ _ lX6_forgetAll_0_ck (show ra_run ra_rV (kX6_forgetAll_0 N) ra_c0 ra_c0 ra_c0 ra_c0 ra_c0 ra_c0 5 lX6_forgetAll_0 [some (.ref a0)] [] h = some r from e) _ _ rfl
def fX6_forgetAll (N : Nat) (p0 : Nat) (h : ra_H) : Option ra_H := match ra_isOb h p0 6 with
  | true => nX6_forgetAll_0 N p0 h
  | false => none
set_option maxRecDepth 100000 in
theorem mtX6_forgetAll : ra_MT[29]? = some (mX6_forgetAll, 1, 0, (1, 11), (3, 57), (3, 58)) := rfl
theorem fX6_forgetAll_co (N : Nat) (p0 : Nat) (h : ra_H) (r : ra_H) (e : fX6_forgetAll N p0 h = some r) (D : Nat) (hD : 2 ≤ D) : ra_CO D 29 [.ref p0] h (ra_oV r).1 (ra_oV r).2 := by
  have hw : ra_nw2 [.ref p0] ≤ 1 := Nat.le_of_ble_eq_true rfl
  have hdb : ∀ v ∈ ([.ref p0] : List Value), ∀ x, v ≠ .double x := by
    intro v hv x hx
    simp [hx] at hv
  unfold fX6_forgetAll at e
  split at e
  · rename_i ho
    have e1 := e
    exact ⟨1, _, mtX6_forgetAll, hD, ra_ev_of (by decide) hdb hw trivial (ra_Ru.weak (nX6_forgetAll_0_ok N p0 h _ e1) ⟨rfl, trivial⟩), (fun _ => ⟨_, _, rfl, ra_rcv_of ho (by decide) rfl⟩), (fun h => absurd h (by decide))⟩
  · cases e
/-! RedMarks$StackRow.costOf(III)I -/
def mX6_costOf : ra_M := (yX6_costOf, cX6_costOf, 4, (some .int))
def lX6_costOf_0 : List ra_I := [(0, .aload_n 0, 1, 0, 0, 0, 0, 0, []),
  (1, .getfield 15, 3, 6, 2, 2, 0, 0, []),
  (4, .iload_n 2, 1, 2, 0, 0, 0, 0, []),
  (5, .bipush (9), 2, 0, 0, 0, (9), 0, []),
  (7, .imul, 1, 0, 0, 0, 0, 0, []),
  (8, .iload_n 3, 1, 3, 0, 0, 0, 0, []),
  (9, .iadd, 1, 0, 0, 0, 0, 0, []),
  (10, .iaload, 1, 0, 0, 0, 0, 0, []),
  (11, .aload_n 0, 1, 0, 0, 0, 0, 0, []),
  (12, .getfield 18, 3, 6, 3, 2, 0, 0, []),
  (15, .iload_n 1, 1, 1, 0, 0, 0, 0, []),
  (16, .iconst (1), 1, 0, 0, 0, (1), 0, []),
  (17, .iload_n 3, 1, 3, 0, 0, 0, 0, []),
  (18, .ishl, 1, 0, 0, 0, 0, 0, []),
  (19, .ior, 1, 0, 0, 0, 0, 0, []),
  (20, .bipush (9), 2, 0, 0, 0, (9), 0, []),
  (22, .imul, 1, 0, 0, 0, 0, 0, []),
  (23, .iload_n 3, 1, 3, 0, 0, 0, 0, []),
  (24, .iadd, 1, 0, 0, 0, 0, 0, []),
  (25, .iaload, 1, 0, 0, 0, 0, 0, []),
  (26, .iadd, 1, 0, 0, 0, 0, 0, []),
  (27, .ireturn, 1, 0, 0, 0, 0, 0, [])]
set_option maxRecDepth 100000 in
theorem lX6_costOf_0_ck : lX6_costOf_0.all (ra_ck mX6_costOf 6) = true := by decide +kernel
def nX6_costOf_0 (N : Nat) (a0 : Nat) (a1 : Int32) (a2 : Int32) (a3 : Int32) (h : ra_H) : Option (Int32 × ra_H) :=
  (ra_fR h 6 a0 2).bind fun x1 =>
  (ra_aI h 0 x1 ((a2 * ((9 : Int32))) + a3)).bind fun x2 =>
  (ra_fR h 6 a0 3).bind fun x3 =>
  (ra_aI h 0 x3 (((a1 ||| (((1 : Int32)) <<< (a3 &&& 31))) * ((9 : Int32))) + a3)).bind fun x4 =>
  some (x2 + x4, h)
def kX6_costOf_0 (N : Nat) : Nat → List (Option Value) → List Value → ra_H → Option (Int32 × ra_H) := ra_k0
theorem kX6_costOf_0_ok (N : Nat) : ra_kok 1 mX6_costOf ra_oI (kX6_costOf_0 N) := ra_k0_ok
set_option maxRecDepth 100000 in
theorem nX6_costOf_0_ok (N : Nat) (a0 : Nat) (a1 : Int32) (a2 : Int32) (a3 : Int32) (h : ra_H) (r : (Int32 × ra_H)) (e : nX6_costOf_0 N a0 a1 a2 a3 h = some r) : ra_Ru 1 mX6_costOf 0 [some (.ref a0), some (.int a1), some (.int a2), some (.int a3)] [] h (ra_oI r) :=
  ra_sound (by omega) rfl ra_rI_ok (kX6_costOf_0_ok N) (fun m av h h1 e => (ra_c0_ok (ro := ra_oV)) m av h h1 e) (fun m av h x h1 e => (ra_c0_ok (ro := ra_oI)) m av h (x, h1) e) (fun m av h x h1 e => (ra_c0_ok (ro := ra_oJ)) m av h (x, h1) e) (fun m av h x h1 e => (ra_c0_ok (ro := ra_oR)) m av h (x, h1) e) (fun m av h x h1 e => (ra_c0_ok (ro := ra_oN)) m av h (x, h1) e) (fun m av h x h1 e => (ra_c0_ok (ro := ra_oF)) m av h (x, h1) e) 23 lX6_costOf_0 _ _ _ _ lX6_costOf_0_ck (show ra_run ra_rI (kX6_costOf_0 N) ra_c0 ra_c0 ra_c0 ra_c0 ra_c0 ra_c0 23 lX6_costOf_0 [some (.ref a0), some (.int a1), some (.int a2), some (.int a3)] [] h = some r from e) _ _ rfl
def fX6_costOf (N : Nat) (p0 : Nat) (p1 : Int32) (p2 : Int32) (p3 : Int32) (h : ra_H) : Option (Int32 × ra_H) := match ra_isOb h p0 6 with
  | true => nX6_costOf_0 N p0 p1 p2 p3 h
  | false => none
set_option maxRecDepth 100000 in
theorem mtX6_costOf : ra_MT[182]? = some (mX6_costOf, 1, 3, (1, 11), (6, 22), (0, 57)) := rfl
theorem fX6_costOf_co (N : Nat) (p0 : Nat) (p1 : Int32) (p2 : Int32) (p3 : Int32) (h : ra_H) (r : (Int32 × ra_H)) (e : fX6_costOf N p0 p1 p2 p3 h = some r) (D : Nat) (hD : 2 ≤ D) : ra_CO D 182 [.ref p0, .int p1, .int p2, .int p3] h (ra_oI r).1 (ra_oI r).2 := by
  have hw : ra_nw2 [.ref p0, .int p1, .int p2, .int p3] ≤ 4 := Nat.le_of_ble_eq_true rfl
  have hdb : ∀ v ∈ ([.ref p0, .int p1, .int p2, .int p3] : List Value), ∀ x, v ≠ .double x := by
    intro v hv x hx
    simp [hx] at hv
  unfold fX6_costOf at e
  split at e
  · rename_i ho
    have e1 := e
    exact ⟨1, _, mtX6_costOf, hD, ra_ev_of (by decide) hdb hw trivial (ra_Ru.weak (nX6_costOf_0_ok N p0 p1 p2 p3 h _ e1) ⟨rfl, ⟨rfl, ⟨rfl, ⟨rfl, trivial⟩⟩⟩⟩), (fun _ => ⟨_, _, rfl, ra_rcv_of ho (by decide) rfl⟩), (fun h => absurd h (by decide))⟩
  · cases e
/-! RedMarks$StackRow.cheapestAfter(II)I -/
def mX6_cheapestAfter : ra_M := (yX6_cheapestAfter, cX6_cheapestAfter, 7, (some .int))
def tIX6_cheapestAfter (N : Nat) : Nat → List Value → ra_H → Option (Int32 × ra_H) := (ra_c1 182 (fun av h => match av with
  | [.ref z0, .int z1, .int z2, .int z3] => fX6_costOf N z0 z1 z2 z3 h
  | _ => none) ra_c0)
theorem tIX6_cheapestAfter_ok (N : Nat) : ra_cok 2 ra_oI (tIX6_cheapestAfter N) := (ra_c1_ok (by
  intro av h a e
  split at e
  · exact fX6_costOf_co N _ _ _ _ _ _ e 2 (by omega)
  · cases e) ra_c0_ok)
def lX6_cheapestAfter_58 : List ra_I := [(58, .iinc 5 (1), 3, 5, 0, 0, (1), 0, []),
  (61, .goto (-53), 3, 8, 0, 0, 0, 0, [])]
set_option maxRecDepth 100000 in
theorem lX6_cheapestAfter_58_ck : lX6_cheapestAfter_58.all (ra_ck mX6_cheapestAfter 6) = true := by decide +kernel
def nX6_cheapestAfter_58 (N : Nat) (c8 : Nat → Int32 → Int32 → Int32 → Int32 → Int32 → ra_H → Option (Int32 × ra_H)) (a0 : Nat) (a1 : Int32) (a2 : Int32) (a3 : Int32) (a4 : Int32) (a5 : Int32) (h : ra_H) : Option (Int32 × ra_H) :=
  let y1 := a5 + (1 : Int32)
  c8 a0 a1 a2 a3 a4 y1 h
def kX6_cheapestAfter_58 (N : Nat) (c8 : Nat → Int32 → Int32 → Int32 → Int32 → Int32 → ra_H → Option (Int32 × ra_H)) : Nat → List (Option Value) → List Value → ra_H → Option (Int32 × ra_H) := (ra_k1 8 (fun L S h => match L, S with
  | [some (.ref a0), some (.int a1), some (.int a2), some (.int a3), some (.int a4), some (.int a5), _], [] => c8 a0 a1 a2 a3 a4 a5 h
  | _, _ => none) ra_k0)
theorem kX6_cheapestAfter_58_ok (N : Nat) (c8 : Nat → Int32 → Int32 → Int32 → Int32 → Int32 → ra_H → Option (Int32 × ra_H)) (hc8 : ∀ a0 a1 a2 a3 a4 a5 h r, c8 a0 a1 a2 a3 a4 a5 h = some r → ra_Ru 2 mX6_cheapestAfter 8 [some (.ref a0), some (.int a1), some (.int a2), some (.int a3), some (.int a4), some (.int a5), none] [] h (ra_oI r)) : ra_kok 2 mX6_cheapestAfter ra_oI (kX6_cheapestAfter_58 N c8) := (ra_k1_ok (by
  intro L S h a e
  split at e
  · exact ra_Ru.weak (hc8 _ _ _ _ _ _ _ _ e) ⟨rfl, ⟨rfl, ⟨rfl, ⟨rfl, ⟨rfl, ⟨rfl, trivial⟩⟩⟩⟩⟩⟩
  · cases e) ra_k0_ok)
set_option maxRecDepth 100000 in
theorem nX6_cheapestAfter_58_ok (N : Nat) (c8 : Nat → Int32 → Int32 → Int32 → Int32 → Int32 → ra_H → Option (Int32 × ra_H)) (hc8 : ∀ a0 a1 a2 a3 a4 a5 h r, c8 a0 a1 a2 a3 a4 a5 h = some r → ra_Ru 2 mX6_cheapestAfter 8 [some (.ref a0), some (.int a1), some (.int a2), some (.int a3), some (.int a4), some (.int a5), none] [] h (ra_oI r)) (a0 : Nat) (a1 : Int32) (a2 : Int32) (a3 : Int32) (a4 : Int32) (a5 : Int32) (h : ra_H) (r : (Int32 × ra_H)) (e : nX6_cheapestAfter_58 N c8 a0 a1 a2 a3 a4 a5 h = some r) : ra_Ru 2 mX6_cheapestAfter 58 [some (.ref a0), some (.int a1), some (.int a2), some (.int a3), some (.int a4), some (.int a5), none] [] h (ra_oI r) :=
  ra_sound (by omega) rfl ra_rI_ok (kX6_cheapestAfter_58_ok N c8 hc8) (fun m av h h1 e => (ra_c0_ok (ro := ra_oV)) m av h h1 e) (fun m av h x h1 e => (tIX6_cheapestAfter_ok N) m av h (x, h1) e) (fun m av h x h1 e => (ra_c0_ok (ro := ra_oJ)) m av h (x, h1) e) (fun m av h x h1 e => (ra_c0_ok (ro := ra_oR)) m av h (x, h1) e) (fun m av h x h1 e => (ra_c0_ok (ro := ra_oN)) m av h (x, h1) e) (fun m av h x h1 e => (ra_c0_ok (ro := ra_oF)) m av h (x, h1) e) 3 lX6_cheapestAfter_58 _ _ _ _ lX6_cheapestAfter_58_ck (show ra_run ra_rI (kX6_cheapestAfter_58 N c8) ra_c0 (tIX6_cheapestAfter N) ra_c0 ra_c0 ra_c0 ra_c0 3 lX6_cheapestAfter_58 [some (.ref a0), some (.int a1), some (.int a2), some (.int a3), some (.int a4), some (.int a5), none] [] h = some r from e) _ _ rfl
def lX6_cheapestAfter_51 : List ra_I := [(51, .iload 5, 2, 5, 0, 0, 0, 0, []),
  (53, .istore_n 3, 1, 3, 0, 0, 0, 0, []),
  (54, .iload 6, 2, 6, 0, 0, 0, 0, []),
  (56, .istore 4, 2, 4, 0, 0, 0, 0, [])]
set_option maxRecDepth 100000 in
theorem lX6_cheapestAfter_51_ck : lX6_cheapestAfter_51.all (ra_ck mX6_cheapestAfter 6) = true := by decide +kernel
def nX6_cheapestAfter_51 (N : Nat) (c8 : Nat → Int32 → Int32 → Int32 → Int32 → Int32 → ra_H → Option (Int32 × ra_H)) (a0 : Nat) (a1 : Int32) (a2 : Int32) (a5 : Int32) (a6 : Int32) (h : ra_H) : Option (Int32 × ra_H) :=
  nX6_cheapestAfter_58 N c8 a0 a1 a2 a5 a6 a5 h
def kX6_cheapestAfter_51 (N : Nat) (c8 : Nat → Int32 → Int32 → Int32 → Int32 → Int32 → ra_H → Option (Int32 × ra_H)) : Nat → List (Option Value) → List Value → ra_H → Option (Int32 × ra_H) := (ra_k1 58 (fun L S h => match L, S with
  | [some (.ref a0), some (.int a1), some (.int a2), some (.int a3), some (.int a4), some (.int a5), _], [] => nX6_cheapestAfter_58 N c8 a0 a1 a2 a3 a4 a5 h
  | _, _ => none) ra_k0)
theorem kX6_cheapestAfter_51_ok (N : Nat) (c8 : Nat → Int32 → Int32 → Int32 → Int32 → Int32 → ra_H → Option (Int32 × ra_H)) (hc8 : ∀ a0 a1 a2 a3 a4 a5 h r, c8 a0 a1 a2 a3 a4 a5 h = some r → ra_Ru 2 mX6_cheapestAfter 8 [some (.ref a0), some (.int a1), some (.int a2), some (.int a3), some (.int a4), some (.int a5), none] [] h (ra_oI r)) : ra_kok 2 mX6_cheapestAfter ra_oI (kX6_cheapestAfter_51 N c8) := (ra_k1_ok (by
  intro L S h a e
  split at e
  · exact ra_Ru.weak (nX6_cheapestAfter_58_ok N c8 hc8 _ _ _ _ _ _ _ _ e) ⟨rfl, ⟨rfl, ⟨rfl, ⟨rfl, ⟨rfl, ⟨rfl, trivial⟩⟩⟩⟩⟩⟩
  · cases e) ra_k0_ok)
set_option maxRecDepth 100000 in
theorem nX6_cheapestAfter_51_ok (N : Nat) (c8 : Nat → Int32 → Int32 → Int32 → Int32 → Int32 → ra_H → Option (Int32 × ra_H)) (hc8 : ∀ a0 a1 a2 a3 a4 a5 h r, c8 a0 a1 a2 a3 a4 a5 h = some r → ra_Ru 2 mX6_cheapestAfter 8 [some (.ref a0), some (.int a1), some (.int a2), some (.int a3), some (.int a4), some (.int a5), none] [] h (ra_oI r)) (a0 : Nat) (a1 : Int32) (a2 : Int32) (a5 : Int32) (a6 : Int32) (h : ra_H) (r : (Int32 × ra_H)) (e : nX6_cheapestAfter_51 N c8 a0 a1 a2 a5 a6 h = some r) : ra_Ru 2 mX6_cheapestAfter 51 [some (.ref a0), some (.int a1), some (.int a2), none, none, some (.int a5), some (.int a6)] [] h (ra_oI r) :=
  ra_sound (by omega) rfl ra_rI_ok (kX6_cheapestAfter_51_ok N c8 hc8) (fun m av h h1 e => (ra_c0_ok (ro := ra_oV)) m av h h1 e) (fun m av h x h1 e => (tIX6_cheapestAfter_ok N) m av h (x, h1) e) (fun m av h x h1 e => (ra_c0_ok (ro := ra_oJ)) m av h (x, h1) e) (fun m av h x h1 e => (ra_c0_ok (ro := ra_oR)) m av h (x, h1) e) (fun m av h x h1 e => (ra_c0_ok (ro := ra_oN)) m av h (x, h1) e) (fun m av h x h1 e => (ra_c0_ok (ro := ra_oF)) m av h (x, h1) e) 5 lX6_cheapestAfter_51 _ _ _ _ lX6_cheapestAfter_51_ck (show ra_run ra_rI (kX6_cheapestAfter_51 N c8) ra_c0 (tIX6_cheapestAfter N) ra_c0 ra_c0 ra_c0 ra_c0 5 lX6_cheapestAfter_51 [some (.ref a0), some (.int a1), some (.int a2), none, none, some (.int a5), some (.int a6)] [] h = some r from e) _ _ rfl
def lX6_cheapestAfter_8 : List ra_I := [(8, .iload 5, 2, 5, 0, 0, 0, 0, []),
  (10, .aload_n 0, 1, 0, 0, 0, 0, 0, []),
  (11, .getfield 24, 3, 6, 0, 2, 0, 0, []),
  (14, .getfield 38, 3, 2, 16, 0, 0, 0, []),
  (17, .if_icmp .ge (47), 3, 64, 0, 0, 0, 0, []),
  (20, .iload_n 1, 1, 1, 0, 0, 0, 0, []),
  (21, .iconst (1), 1, 0, 0, 0, (1), 0, []),
  (22, .iload 5, 2, 5, 0, 0, 0, 0, []),
  (24, .ishl, 1, 0, 0, 0, 0, 0, []),
  (25, .iand, 1, 0, 0, 0, 0, 0, []),
  (26, .ifCond .ne (32), 3, 58, 0, 0, 0, 0, []),
  (29, .aload_n 0, 1, 0, 0, 0, 0, 0, []),
  (30, .iload_n 1, 1, 1, 0, 0, 0, 0, []),
  (31, .iload_n 2, 1, 2, 0, 0, 0, 0, []),
  (32, .iload 5, 2, 5, 0, 0, 0, 0, []),
  (34, .invokevirtual 48, 3, 182, 4, 1, 0, 0, []),
  (37, .istore 6, 2, 6, 0, 0, 0, 0, []),
  (39, .iload_n 3, 1, 3, 0, 0, 0, 0, []),
  (40, .iconst (-1), 1, 0, 0, 0, (-1), 0, []),
  (41, .if_icmp .eq (10), 3, 51, 0, 0, 0, 0, []),
  (44, .iload 6, 2, 6, 0, 0, 0, 0, []),
  (46, .iload 4, 2, 4, 0, 0, 0, 0, []),
  (48, .if_icmp .ge (10), 3, 58, 0, 0, 0, 0, []),
  (64, .iload_n 3, 1, 3, 0, 0, 0, 0, []),
  (65, .ireturn, 1, 0, 0, 0, 0, 0, [])]
set_option maxRecDepth 100000 in
theorem lX6_cheapestAfter_8_ck : lX6_cheapestAfter_8.all (ra_ck mX6_cheapestAfter 6) = true := by decide +kernel
def nX6_cheapestAfter_8 (N : Nat) : Nat → Nat → Int32 → Int32 → Int32 → Int32 → Int32 → ra_H → Option (Int32 × ra_H)
  | 0, _, _, _, _, _, _, _ => none
  | n + 1, a0, a1, a2, a3, a4, a5, h =>
  (ra_fR h 6 a0 0).bind fun x1 =>
  (ra_fI h 2 x1 16).bind fun x2 =>
  if a5 < x2 then
    if (a1 &&& (((1 : Int32)) <<< (a5 &&& 31))) = 0 then
      (fX6_costOf N a0 a1 a2 a5 h).bind fun q3 =>
      if a3 = ((-1 : Int32)) then
        nX6_cheapestAfter_51 N (nX6_cheapestAfter_8 N n) a0 a1 a2 a5 q3.1 q3.2
      else
        if q3.1 < a4 then
          nX6_cheapestAfter_51 N (nX6_cheapestAfter_8 N n) a0 a1 a2 a5 q3.1 q3.2
        else
          nX6_cheapestAfter_58 N (nX6_cheapestAfter_8 N n) a0 a1 a2 a3 a4 a5 q3.2
    else
      nX6_cheapestAfter_58 N (nX6_cheapestAfter_8 N n) a0 a1 a2 a3 a4 a5 h
  else
    some (a3, h)
def kX6_cheapestAfter_8 (N : Nat) (cs : Nat → Int32 → Int32 → Int32 → Int32 → Int32 → ra_H → Option (Int32 × ra_H)) : Nat → List (Option Value) → List Value → ra_H → Option (Int32 × ra_H) := (ra_k1 51 (fun L S h => match L, S with
  | [some (.ref a0), some (.int a1), some (.int a2), _, _, some (.int a5), some (.int a6)], [] => nX6_cheapestAfter_51 N cs a0 a1 a2 a5 a6 h
  | _, _ => none) (ra_k1 58 (fun L S h => match L, S with
  | [some (.ref a0), some (.int a1), some (.int a2), some (.int a3), some (.int a4), some (.int a5), _], [] => nX6_cheapestAfter_58 N cs a0 a1 a2 a3 a4 a5 h
  | _, _ => none) ra_k0))
theorem kX6_cheapestAfter_8_ok (N : Nat) (cs : Nat → Int32 → Int32 → Int32 → Int32 → Int32 → ra_H → Option (Int32 × ra_H)) (hcs : ∀ a0 a1 a2 a3 a4 a5 h r, cs a0 a1 a2 a3 a4 a5 h = some r → ra_Ru 2 mX6_cheapestAfter 8 [some (.ref a0), some (.int a1), some (.int a2), some (.int a3), some (.int a4), some (.int a5), none] [] h (ra_oI r)) : ra_kok 2 mX6_cheapestAfter ra_oI (kX6_cheapestAfter_8 N cs) := (ra_k1_ok (by
  intro L S h a e
  split at e
  · exact ra_Ru.weak (nX6_cheapestAfter_51_ok N cs hcs _ _ _ _ _ _ _ e) ⟨rfl, ⟨rfl, ⟨rfl, ⟨rfl, ⟨rfl, trivial⟩⟩⟩⟩⟩
  · cases e) (ra_k1_ok (by
  intro L S h a e
  split at e
  · exact ra_Ru.weak (nX6_cheapestAfter_58_ok N cs hcs _ _ _ _ _ _ _ _ e) ⟨rfl, ⟨rfl, ⟨rfl, ⟨rfl, ⟨rfl, ⟨rfl, trivial⟩⟩⟩⟩⟩⟩
  · cases e) ra_k0_ok))
set_option maxRecDepth 100000 in
theorem nX6_cheapestAfter_8_ok (N : Nat) : ∀ n a0 a1 a2 a3 a4 a5 h r, nX6_cheapestAfter_8 N n a0 a1 a2 a3 a4 a5 h = some r → ra_Ru 2 mX6_cheapestAfter 8 [some (.ref a0), some (.int a1), some (.int a2), some (.int a3), some (.int a4), some (.int a5), none] [] h (ra_oI r) := by
  intro n
  induction n with
  | zero => intro a0 a1 a2 a3 a4 a5 h r e; cases e
  | succ n ih =>
    intro a0 a1 a2 a3 a4 a5 h r e
    exact ra_sound (by omega) rfl ra_rI_ok (kX6_cheapestAfter_8_ok N (nX6_cheapestAfter_8 N n) ih) (fun m av h h1 e => (ra_c0_ok (ro := ra_oV)) m av h h1 e) (fun m av h x h1 e => (tIX6_cheapestAfter_ok N) m av h (x, h1) e) (fun m av h x h1 e => (ra_c0_ok (ro := ra_oJ)) m av h (x, h1) e) (fun m av h x h1 e => (ra_c0_ok (ro := ra_oR)) m av h (x, h1) e) (fun m av h x h1 e => (ra_c0_ok (ro := ra_oN)) m av h (x, h1) e) (fun m av h x h1 e => (ra_c0_ok (ro := ra_oF)) m av h (x, h1) e) 26 lX6_cheapestAfter_8 _ _ _ _ lX6_cheapestAfter_8_ck (show ra_run ra_rI (kX6_cheapestAfter_8 N (nX6_cheapestAfter_8 N n)) ra_c0 (tIX6_cheapestAfter N) ra_c0 ra_c0 ra_c0 ra_c0 26 lX6_cheapestAfter_8 [some (.ref a0), some (.int a1), some (.int a2), some (.int a3), some (.int a4), some (.int a5), none] [] h = some r from e) _ _ rfl
def lX6_cheapestAfter_0 : List ra_I := [(0, .iconst (-1), 1, 0, 0, 0, (-1), 0, []),
  (1, .istore_n 3, 1, 3, 0, 0, 0, 0, []),
  (2, .iconst (0), 1, 0, 0, 0, (0), 0, []),
  (3, .istore 4, 2, 4, 0, 0, 0, 0, []),
  (5, .iconst (0), 1, 0, 0, 0, (0), 0, []),
  (6, .istore 5, 2, 5, 0, 0, 0, 0, [])]
set_option maxRecDepth 100000 in
theorem lX6_cheapestAfter_0_ck : lX6_cheapestAfter_0.all (ra_ck mX6_cheapestAfter 6) = true := by decide +kernel
def nX6_cheapestAfter_0 (N : Nat) (a0 : Nat) (a1 : Int32) (a2 : Int32) (h : ra_H) : Option (Int32 × ra_H) :=
  nX6_cheapestAfter_8 N N a0 a1 a2 ((-1 : Int32)) ((0 : Int32)) ((0 : Int32)) h
def kX6_cheapestAfter_0 (N : Nat) : Nat → List (Option Value) → List Value → ra_H → Option (Int32 × ra_H) := (ra_k1 8 (fun L S h => match L, S with
  | [some (.ref a0), some (.int a1), some (.int a2), some (.int a3), some (.int a4), some (.int a5), _], [] => nX6_cheapestAfter_8 N N a0 a1 a2 a3 a4 a5 h
  | _, _ => none) ra_k0)
theorem kX6_cheapestAfter_0_ok (N : Nat) : ra_kok 2 mX6_cheapestAfter ra_oI (kX6_cheapestAfter_0 N) := (ra_k1_ok (by
  intro L S h a e
  split at e
  · exact ra_Ru.weak (nX6_cheapestAfter_8_ok N N _ _ _ _ _ _ _ _ e) ⟨rfl, ⟨rfl, ⟨rfl, ⟨rfl, ⟨rfl, ⟨rfl, trivial⟩⟩⟩⟩⟩⟩
  · cases e) ra_k0_ok)
set_option maxRecDepth 100000 in
theorem nX6_cheapestAfter_0_ok (N : Nat) (a0 : Nat) (a1 : Int32) (a2 : Int32) (h : ra_H) (r : (Int32 × ra_H)) (e : nX6_cheapestAfter_0 N a0 a1 a2 h = some r) : ra_Ru 2 mX6_cheapestAfter 0 [some (.ref a0), some (.int a1), some (.int a2), none, none, none, none] [] h (ra_oI r) :=
  ra_sound (by omega) rfl ra_rI_ok (kX6_cheapestAfter_0_ok N) (fun m av h h1 e => (ra_c0_ok (ro := ra_oV)) m av h h1 e) (fun m av h x h1 e => (tIX6_cheapestAfter_ok N) m av h (x, h1) e) (fun m av h x h1 e => (ra_c0_ok (ro := ra_oJ)) m av h (x, h1) e) (fun m av h x h1 e => (ra_c0_ok (ro := ra_oR)) m av h (x, h1) e) (fun m av h x h1 e => (ra_c0_ok (ro := ra_oN)) m av h (x, h1) e) (fun m av h x h1 e => (ra_c0_ok (ro := ra_oF)) m av h (x, h1) e) 7 lX6_cheapestAfter_0 _ _ _ _ lX6_cheapestAfter_0_ck (show ra_run ra_rI (kX6_cheapestAfter_0 N) ra_c0 (tIX6_cheapestAfter N) ra_c0 ra_c0 ra_c0 ra_c0 7 lX6_cheapestAfter_0 [some (.ref a0), some (.int a1), some (.int a2), none, none, none, none] [] h = some r from e) _ _ rfl
def fX6_cheapestAfter (N : Nat) (p0 : Nat) (p1 : Int32) (p2 : Int32) (h : ra_H) : Option (Int32 × ra_H) := match ra_isOb h p0 6 with
  | true => nX6_cheapestAfter_0 N p0 p1 p2 h
  | false => none
set_option maxRecDepth 100000 in
theorem mtX6_cheapestAfter : ra_MT[181]? = some (mX6_cheapestAfter, 1, 2, (1, 11), (6, 18), (0, 56)) := rfl
theorem fX6_cheapestAfter_co (N : Nat) (p0 : Nat) (p1 : Int32) (p2 : Int32) (h : ra_H) (r : (Int32 × ra_H)) (e : fX6_cheapestAfter N p0 p1 p2 h = some r) (D : Nat) (hD : 3 ≤ D) : ra_CO D 181 [.ref p0, .int p1, .int p2] h (ra_oI r).1 (ra_oI r).2 := by
  have hw : ra_nw2 [.ref p0, .int p1, .int p2] ≤ 7 := Nat.le_of_ble_eq_true rfl
  have hdb : ∀ v ∈ ([.ref p0, .int p1, .int p2] : List Value), ∀ x, v ≠ .double x := by
    intro v hv x hx
    simp [hx] at hv
  unfold fX6_cheapestAfter at e
  split at e
  · rename_i ho
    have e1 := e
    exact ⟨2, _, mtX6_cheapestAfter, hD, ra_ev_of (by decide) hdb hw trivial (ra_Ru.weak (nX6_cheapestAfter_0_ok N p0 p1 p2 h _ e1) ⟨rfl, ⟨rfl, ⟨rfl, trivial⟩⟩⟩), (fun _ => ⟨_, _, rfl, ra_rcv_of ho (by decide) rfl⟩), (fun h => absurd h (by decide))⟩
  · cases e
/-! RedMarks$StackRow.measureSteps()V -/
def mX6_measureSteps : ra_M := (yX6_measureSteps, cX6_measureSteps, 4, none)
def tIX6_measureSteps (N : Nat) : Nat → List Value → ra_H → Option (Int32 × ra_H) := (ra_c1 27 (fun av h => match av with
  | [.ref z0, .int z1, .int z2] => fX2_factOf N z0 z1 z2 h
  | _ => none) (ra_c1 163 (fun av h => match av with
  | [.ref z0, .int z1, .int z2] => fX2_dampApart N z0 z1 z2 h
  | _ => none) ra_c0))
theorem tIX6_measureSteps_ok (N : Nat) : ra_cok 3 ra_oI (tIX6_measureSteps N) := (ra_c1_ok (by
  intro av h a e
  split at e
  · exact fX2_factOf_co N _ _ _ _ _ e 3 (by omega)
  · cases e) (ra_c1_ok (by
  intro av h a e
  split at e
  · exact fX2_dampApart_co N _ _ _ _ _ e 3 (by omega)
  · cases e) ra_c0_ok))
def lX6_measureSteps_103 : List ra_I := [(103, .iadd, 1, 0, 0, 0, 0, 0, []),
  (104, .iastore, 1, 0, 0, 0, 0, 0, []),
  (105, .iinc 2 (1), 3, 2, 0, 0, (1), 0, []),
  (108, .goto (-93), 3, 15, 0, 0, 0, 0, [])]
set_option maxRecDepth 100000 in
theorem lX6_measureSteps_103_ck : lX6_measureSteps_103.all (ra_ck mX6_measureSteps 6) = true := by decide +kernel
def nX6_measureSteps_103 (N : Nat) (c2 : Nat → Int32 → ra_H → Option ra_H) (c15 : Nat → Int32 → Int32 → ra_H → Option ra_H) (a0 : Nat) (a1 : Int32) (a2 : Int32) (b0 : Nat) (b1 : Int32) (b2 : Int32) (b3 : Int32) (h : ra_H) : Option ra_H :=
  (ra_aW h 0 b0 b1 (b2 + b3)).bind fun h1 =>
  let y2 := a2 + (1 : Int32)
  c15 a0 a1 y2 h1
def kX6_measureSteps_103 (N : Nat) (c2 : Nat → Int32 → ra_H → Option ra_H) (c15 : Nat → Int32 → Int32 → ra_H → Option ra_H) : Nat → List (Option Value) → List Value → ra_H → Option ra_H := (ra_k1 15 (fun L S h => match L, S with
  | [some (.ref a0), some (.int a1), some (.int a2), _], [] => c15 a0 a1 a2 h
  | _, _ => none) ra_k0)
theorem kX6_measureSteps_103_ok (N : Nat) (c2 : Nat → Int32 → ra_H → Option ra_H) (c15 : Nat → Int32 → Int32 → ra_H → Option ra_H) (hc2 : ∀ a0 a1 h r, c2 a0 a1 h = some r → ra_Ru 3 mX6_measureSteps 2 [some (.ref a0), some (.int a1), none, none] [] h (ra_oV r)) (hc15 : ∀ a0 a1 a2 h r, c15 a0 a1 a2 h = some r → ra_Ru 3 mX6_measureSteps 15 [some (.ref a0), some (.int a1), some (.int a2), none] [] h (ra_oV r)) : ra_kok 3 mX6_measureSteps ra_oV (kX6_measureSteps_103 N c2 c15) := (ra_k1_ok (by
  intro L S h a e
  split at e
  · exact ra_Ru.weak (hc15 _ _ _ _ _ e) ⟨rfl, ⟨rfl, ⟨rfl, trivial⟩⟩⟩
  · cases e) ra_k0_ok)
set_option maxRecDepth 100000 in
theorem nX6_measureSteps_103_ok (N : Nat) (c2 : Nat → Int32 → ra_H → Option ra_H) (c15 : Nat → Int32 → Int32 → ra_H → Option ra_H) (hc2 : ∀ a0 a1 h r, c2 a0 a1 h = some r → ra_Ru 3 mX6_measureSteps 2 [some (.ref a0), some (.int a1), none, none] [] h (ra_oV r)) (hc15 : ∀ a0 a1 a2 h r, c15 a0 a1 a2 h = some r → ra_Ru 3 mX6_measureSteps 15 [some (.ref a0), some (.int a1), some (.int a2), none] [] h (ra_oV r)) (a0 : Nat) (a1 : Int32) (a2 : Int32) (b0 : Nat) (b1 : Int32) (b2 : Int32) (b3 : Int32) (h : ra_H) (r : ra_H) (e : nX6_measureSteps_103 N c2 c15 a0 a1 a2 b0 b1 b2 b3 h = some r) : ra_Ru 3 mX6_measureSteps 103 [some (.ref a0), some (.int a1), some (.int a2), none] [.int b3, .int b2, .int b1, .ref b0] h (ra_oV r) :=
  ra_sound (by omega) rfl ra_rV_ok (kX6_measureSteps_103_ok N c2 c15 hc2 hc15) (fun m av h h1 e => (ra_c0_ok (ro := ra_oV)) m av h h1 e) (fun m av h x h1 e => (tIX6_measureSteps_ok N) m av h (x, h1) e) (fun m av h x h1 e => (ra_c0_ok (ro := ra_oJ)) m av h (x, h1) e) (fun m av h x h1 e => (ra_c0_ok (ro := ra_oR)) m av h (x, h1) e) (fun m av h x h1 e => (ra_c0_ok (ro := ra_oN)) m av h (x, h1) e) (fun m av h x h1 e => (ra_c0_ok (ro := ra_oF)) m av h (x, h1) e) 5 lX6_measureSteps_103 _ _ _ _ lX6_measureSteps_103_ck (show ra_run ra_rV (kX6_measureSteps_103 N c2 c15) ra_c0 (tIX6_measureSteps N) ra_c0 ra_c0 ra_c0 ra_c0 5 lX6_measureSteps_103 [some (.ref a0), some (.int a1), some (.int a2), none] [.int b3, .int b2, .int b1, .ref b0] h = some r from e) _ _ rfl
def lX6_measureSteps_64 : List ra_I := [(64, .istore_n 3, 1, 3, 0, 0, 0, 0, []),
  (65, .aload_n 0, 1, 0, 0, 0, 0, 0, []),
  (66, .getfield 15, 3, 6, 2, 2, 0, 0, []),
  (69, .iload_n 1, 1, 1, 0, 0, 0, 0, []),
  (70, .bipush (9), 2, 0, 0, 0, (9), 0, []),
  (72, .imul, 1, 0, 0, 0, 0, 0, []),
  (73, .iload_n 2, 1, 2, 0, 0, 0, 0, []),
  (74, .iadd, 1, 0, 0, 0, 0, 0, []),
  (75, .aload_n 0, 1, 0, 0, 0, 0, 0, []),
  (76, .getfield 24, 3, 6, 0, 2, 0, 0, []),
  (79, .aload_n 0, 1, 0, 0, 0, 0, 0, []),
  (80, .getfield 9, 3, 6, 1, 2, 0, 0, []),
  (83, .iload_n 1, 1, 1, 0, 0, 0, 0, []),
  (84, .iaload, 1, 0, 0, 0, 0, 0, []),
  (85, .aload_n 0, 1, 0, 0, 0, 0, 0, []),
  (86, .getfield 9, 3, 6, 1, 2, 0, 0, []),
  (89, .iload_n 2, 1, 2, 0, 0, 0, 0, []),
  (90, .iaload, 1, 0, 0, 0, 0, 0, []),
  (91, .invokevirtual 61, 3, 163, 3, 1, 0, 0, []),
  (94, .iload_n 3, 1, 3, 0, 0, 0, 0, []),
  (95, .ifCond .eq (7), 3, 102, 0, 0, 0, 0, []),
  (98, .iconst (0), 1, 0, 0, 0, (0), 0, []),
  (99, .goto (4), 3, 103, 0, 0, 0, 0, []),
  (102, .iconst (2), 1, 0, 0, 0, (2), 0, [])]
set_option maxRecDepth 100000 in
theorem lX6_measureSteps_64_ck : lX6_measureSteps_64.all (ra_ck mX6_measureSteps 6) = true := by decide +kernel
def nX6_measureSteps_64 (N : Nat) (c2 : Nat → Int32 → ra_H → Option ra_H) (c15 : Nat → Int32 → Int32 → ra_H → Option ra_H) (a0 : Nat) (a1 : Int32) (a2 : Int32) (b0 : Int32) (h : ra_H) : Option ra_H :=
  (ra_fR h 6 a0 2).bind fun x1 =>
  (ra_fR h 6 a0 0).bind fun x2 =>
  (ra_fR h 6 a0 1).bind fun x3 =>
  (ra_aI h 0 x3 a1).bind fun x4 =>
  (ra_fR h 6 a0 1).bind fun x5 =>
  (ra_aI h 0 x5 a2).bind fun x6 =>
  (fX2_dampApart N x2 x4 x6 h).bind fun q7 =>
  if b0 = 0 then
    nX6_measureSteps_103 N c2 c15 a0 a1 a2 x1 ((a1 * ((9 : Int32))) + a2) q7.1 ((2 : Int32)) q7.2
  else
    nX6_measureSteps_103 N c2 c15 a0 a1 a2 x1 ((a1 * ((9 : Int32))) + a2) q7.1 ((0 : Int32)) q7.2
def kX6_measureSteps_64 (N : Nat) (c2 : Nat → Int32 → ra_H → Option ra_H) (c15 : Nat → Int32 → Int32 → ra_H → Option ra_H) : Nat → List (Option Value) → List Value → ra_H → Option ra_H := (ra_k1 103 (fun L S h => match L, S with
  | [some (.ref a0), some (.int a1), some (.int a2), _], [.int b3, .int b2, .int b1, .ref b0] => nX6_measureSteps_103 N c2 c15 a0 a1 a2 b0 b1 b2 b3 h
  | _, _ => none) ra_k0)
theorem kX6_measureSteps_64_ok (N : Nat) (c2 : Nat → Int32 → ra_H → Option ra_H) (c15 : Nat → Int32 → Int32 → ra_H → Option ra_H) (hc2 : ∀ a0 a1 h r, c2 a0 a1 h = some r → ra_Ru 3 mX6_measureSteps 2 [some (.ref a0), some (.int a1), none, none] [] h (ra_oV r)) (hc15 : ∀ a0 a1 a2 h r, c15 a0 a1 a2 h = some r → ra_Ru 3 mX6_measureSteps 15 [some (.ref a0), some (.int a1), some (.int a2), none] [] h (ra_oV r)) : ra_kok 3 mX6_measureSteps ra_oV (kX6_measureSteps_64 N c2 c15) := (ra_k1_ok (by
  intro L S h a e
  split at e
  · exact ra_Ru.weak (nX6_measureSteps_103_ok N c2 c15 hc2 hc15 _ _ _ _ _ _ _ _ _ e) ⟨rfl, ⟨rfl, ⟨rfl, trivial⟩⟩⟩
  · cases e) ra_k0_ok)
set_option maxRecDepth 100000 in
theorem nX6_measureSteps_64_ok (N : Nat) (c2 : Nat → Int32 → ra_H → Option ra_H) (c15 : Nat → Int32 → Int32 → ra_H → Option ra_H) (hc2 : ∀ a0 a1 h r, c2 a0 a1 h = some r → ra_Ru 3 mX6_measureSteps 2 [some (.ref a0), some (.int a1), none, none] [] h (ra_oV r)) (hc15 : ∀ a0 a1 a2 h r, c15 a0 a1 a2 h = some r → ra_Ru 3 mX6_measureSteps 15 [some (.ref a0), some (.int a1), some (.int a2), none] [] h (ra_oV r)) (a0 : Nat) (a1 : Int32) (a2 : Int32) (b0 : Int32) (h : ra_H) (r : ra_H) (e : nX6_measureSteps_64 N c2 c15 a0 a1 a2 b0 h = some r) : ra_Ru 3 mX6_measureSteps 64 [some (.ref a0), some (.int a1), some (.int a2), none] [.int b0] h (ra_oV r) :=
  ra_sound (by omega) rfl ra_rV_ok (kX6_measureSteps_64_ok N c2 c15 hc2 hc15) (fun m av h h1 e => (ra_c0_ok (ro := ra_oV)) m av h h1 e) (fun m av h x h1 e => (tIX6_measureSteps_ok N) m av h (x, h1) e) (fun m av h x h1 e => (ra_c0_ok (ro := ra_oJ)) m av h (x, h1) e) (fun m av h x h1 e => (ra_c0_ok (ro := ra_oR)) m av h (x, h1) e) (fun m av h x h1 e => (ra_c0_ok (ro := ra_oN)) m av h (x, h1) e) (fun m av h x h1 e => (ra_c0_ok (ro := ra_oF)) m av h (x, h1) e) 25 lX6_measureSteps_64 _ _ _ _ lX6_measureSteps_64_ck (show ra_run ra_rV (kX6_measureSteps_64 N c2 c15) ra_c0 (tIX6_measureSteps N) ra_c0 ra_c0 ra_c0 ra_c0 25 lX6_measureSteps_64 [some (.ref a0), some (.int a1), some (.int a2), none] [.int b0] h = some r from e) _ _ rfl
def lX6_measureSteps_15 : List ra_I := [(15, .iload_n 2, 1, 2, 0, 0, 0, 0, []),
  (16, .aload_n 0, 1, 0, 0, 0, 0, 0, []),
  (17, .getfield 24, 3, 6, 0, 2, 0, 0, []),
  (20, .getfield 38, 3, 2, 16, 0, 0, 0, []),
  (23, .if_icmp .ge (88), 3, 111, 0, 0, 0, 0, []),
  (26, .aload_n 0, 1, 0, 0, 0, 0, 0, []),
  (27, .getfield 24, 3, 6, 0, 2, 0, 0, []),
  (30, .aload_n 0, 1, 0, 0, 0, 0, 0, []),
  (31, .getfield 9, 3, 6, 1, 2, 0, 0, []),
  (34, .iload_n 1, 1, 1, 0, 0, 0, 0, []),
  (35, .iaload, 1, 0, 0, 0, 0, 0, []),
  (36, .bipush (7), 2, 0, 0, 0, (7), 0, []),
  (38, .invokevirtual 58, 3, 27, 3, 1, 0, 0, []),
  (41, .aload_n 0, 1, 0, 0, 0, 0, 0, []),
  (42, .getfield 24, 3, 6, 0, 2, 0, 0, []),
  (45, .aload_n 0, 1, 0, 0, 0, 0, 0, []),
  (46, .getfield 9, 3, 6, 1, 2, 0, 0, []),
  (49, .iload_n 2, 1, 2, 0, 0, 0, 0, []),
  (50, .iaload, 1, 0, 0, 0, 0, 0, []),
  (51, .bipush (7), 2, 0, 0, 0, (7), 0, []),
  (53, .invokevirtual 58, 3, 27, 3, 1, 0, 0, []),
  (56, .if_icmp .ne (7), 3, 63, 0, 0, 0, 0, []),
  (59, .iconst (1), 1, 0, 0, 0, (1), 0, []),
  (60, .goto (4), 3, 64, 0, 0, 0, 0, []),
  (63, .iconst (0), 1, 0, 0, 0, (0), 0, []),
  (111, .iinc 1 (1), 3, 1, 0, 0, (1), 0, []),
  (114, .goto (-112), 3, 2, 0, 0, 0, 0, [])]
set_option maxRecDepth 100000 in
theorem lX6_measureSteps_15_ck : lX6_measureSteps_15.all (ra_ck mX6_measureSteps 6) = true := by decide +kernel
def nX6_measureSteps_15 (N : Nat) (c2 : Nat → Int32 → ra_H → Option ra_H) : Nat → Nat → Int32 → Int32 → ra_H → Option ra_H
  | 0, _, _, _, _ => none
  | n + 1, a0, a1, a2, h =>
  (ra_fR h 6 a0 0).bind fun x1 =>
  (ra_fI h 2 x1 16).bind fun x2 =>
  if a2 < x2 then
    (ra_fR h 6 a0 0).bind fun x4 =>
    (ra_fR h 6 a0 1).bind fun x5 =>
    (ra_aI h 0 x5 a1).bind fun x6 =>
    (fX2_factOf N x4 x6 ((7 : Int32)) h).bind fun q7 =>
    (ra_fR q7.2 6 a0 0).bind fun x8 =>
    (ra_fR q7.2 6 a0 1).bind fun x9 =>
    (ra_aI q7.2 0 x9 a2).bind fun x10 =>
    (fX2_factOf N x8 x10 ((7 : Int32)) q7.2).bind fun q11 =>
    if q7.1 = q11.1 then
      nX6_measureSteps_64 N c2 (nX6_measureSteps_15 N c2 n) a0 a1 a2 ((1 : Int32)) q11.2
    else
      nX6_measureSteps_64 N c2 (nX6_measureSteps_15 N c2 n) a0 a1 a2 ((0 : Int32)) q11.2
  else
    let y3 := a1 + (1 : Int32)
    c2 a0 y3 h
def kX6_measureSteps_15 (N : Nat) (c2 : Nat → Int32 → ra_H → Option ra_H) (cs : Nat → Int32 → Int32 → ra_H → Option ra_H) : Nat → List (Option Value) → List Value → ra_H → Option ra_H := (ra_k1 2 (fun L S h => match L, S with
  | [some (.ref a0), some (.int a1), _, _], [] => c2 a0 a1 h
  | _, _ => none) (ra_k1 64 (fun L S h => match L, S with
  | [some (.ref a0), some (.int a1), some (.int a2), _], [.int b0] => nX6_measureSteps_64 N c2 cs a0 a1 a2 b0 h
  | _, _ => none) ra_k0))
theorem kX6_measureSteps_15_ok (N : Nat) (c2 : Nat → Int32 → ra_H → Option ra_H) (hc2 : ∀ a0 a1 h r, c2 a0 a1 h = some r → ra_Ru 3 mX6_measureSteps 2 [some (.ref a0), some (.int a1), none, none] [] h (ra_oV r)) (cs : Nat → Int32 → Int32 → ra_H → Option ra_H) (hcs : ∀ a0 a1 a2 h r, cs a0 a1 a2 h = some r → ra_Ru 3 mX6_measureSteps 15 [some (.ref a0), some (.int a1), some (.int a2), none] [] h (ra_oV r)) : ra_kok 3 mX6_measureSteps ra_oV (kX6_measureSteps_15 N c2 cs) := (ra_k1_ok (by
  intro L S h a e
  split at e
  · exact ra_Ru.weak (hc2 _ _ _ _ e) ⟨rfl, ⟨rfl, trivial⟩⟩
  · cases e) (ra_k1_ok (by
  intro L S h a e
  split at e
  · exact ra_Ru.weak (nX6_measureSteps_64_ok N c2 cs hc2 hcs _ _ _ _ _ _ e) ⟨rfl, ⟨rfl, ⟨rfl, trivial⟩⟩⟩
  · cases e) ra_k0_ok))
set_option maxRecDepth 100000 in
theorem nX6_measureSteps_15_ok (N : Nat) (c2 : Nat → Int32 → ra_H → Option ra_H) (hc2 : ∀ a0 a1 h r, c2 a0 a1 h = some r → ra_Ru 3 mX6_measureSteps 2 [some (.ref a0), some (.int a1), none, none] [] h (ra_oV r)) : ∀ n a0 a1 a2 h r, nX6_measureSteps_15 N c2 n a0 a1 a2 h = some r → ra_Ru 3 mX6_measureSteps 15 [some (.ref a0), some (.int a1), some (.int a2), none] [] h (ra_oV r) := by
  intro n
  induction n with
  | zero => intro a0 a1 a2 h r e; cases e
  | succ n ih =>
    intro a0 a1 a2 h r e
    exact ra_sound (by omega) rfl ra_rV_ok (kX6_measureSteps_15_ok N c2 hc2 (nX6_measureSteps_15 N c2 n) ih) (fun m av h h1 e => (ra_c0_ok (ro := ra_oV)) m av h h1 e) (fun m av h x h1 e => (tIX6_measureSteps_ok N) m av h (x, h1) e) (fun m av h x h1 e => (ra_c0_ok (ro := ra_oJ)) m av h (x, h1) e) (fun m av h x h1 e => (ra_c0_ok (ro := ra_oR)) m av h (x, h1) e) (fun m av h x h1 e => (ra_c0_ok (ro := ra_oN)) m av h (x, h1) e) (fun m av h x h1 e => (ra_c0_ok (ro := ra_oF)) m av h (x, h1) e) 28 lX6_measureSteps_15 _ _ _ _ lX6_measureSteps_15_ck (show ra_run ra_rV (kX6_measureSteps_15 N c2 (nX6_measureSteps_15 N c2 n)) ra_c0 (tIX6_measureSteps N) ra_c0 ra_c0 ra_c0 ra_c0 28 lX6_measureSteps_15 [some (.ref a0), some (.int a1), some (.int a2), none] [] h = some r from e) _ _ rfl
def lX6_measureSteps_2 : List ra_I := [(2, .iload_n 1, 1, 1, 0, 0, 0, 0, []),
  (3, .aload_n 0, 1, 0, 0, 0, 0, 0, []),
  (4, .getfield 24, 3, 6, 0, 2, 0, 0, []),
  (7, .getfield 38, 3, 2, 16, 0, 0, 0, []),
  (10, .if_icmp .ge (107), 3, 117, 0, 0, 0, 0, []),
  (13, .iconst (0), 1, 0, 0, 0, (0), 0, []),
  (14, .istore_n 2, 1, 2, 0, 0, 0, 0, []),
  (117, .return_, 1, 0, 0, 0, 0, 0, [])]
set_option maxRecDepth 100000 in
theorem lX6_measureSteps_2_ck : lX6_measureSteps_2.all (ra_ck mX6_measureSteps 6) = true := by decide +kernel
def nX6_measureSteps_2 (N : Nat) : Nat → Nat → Int32 → ra_H → Option ra_H
  | 0, _, _, _ => none
  | n + 1, a0, a1, h =>
  (ra_fR h 6 a0 0).bind fun x1 =>
  (ra_fI h 2 x1 16).bind fun x2 =>
  if a1 < x2 then
    nX6_measureSteps_15 N (nX6_measureSteps_2 N n) N a0 a1 ((0 : Int32)) h
  else
    some h
def kX6_measureSteps_2 (N : Nat) (cs : Nat → Int32 → ra_H → Option ra_H) : Nat → List (Option Value) → List Value → ra_H → Option ra_H := (ra_k1 15 (fun L S h => match L, S with
  | [some (.ref a0), some (.int a1), some (.int a2), _], [] => nX6_measureSteps_15 N cs N a0 a1 a2 h
  | _, _ => none) ra_k0)
theorem kX6_measureSteps_2_ok (N : Nat) (cs : Nat → Int32 → ra_H → Option ra_H) (hcs : ∀ a0 a1 h r, cs a0 a1 h = some r → ra_Ru 3 mX6_measureSteps 2 [some (.ref a0), some (.int a1), none, none] [] h (ra_oV r)) : ra_kok 3 mX6_measureSteps ra_oV (kX6_measureSteps_2 N cs) := (ra_k1_ok (by
  intro L S h a e
  split at e
  · exact ra_Ru.weak (nX6_measureSteps_15_ok N cs hcs N _ _ _ _ _ e) ⟨rfl, ⟨rfl, ⟨rfl, trivial⟩⟩⟩
  · cases e) ra_k0_ok)
set_option maxRecDepth 100000 in
theorem nX6_measureSteps_2_ok (N : Nat) : ∀ n a0 a1 h r, nX6_measureSteps_2 N n a0 a1 h = some r → ra_Ru 3 mX6_measureSteps 2 [some (.ref a0), some (.int a1), none, none] [] h (ra_oV r) := by
  intro n
  induction n with
  | zero => intro a0 a1 h r e; cases e
  | succ n ih =>
    intro a0 a1 h r e
    exact ra_sound (by omega) rfl ra_rV_ok (kX6_measureSteps_2_ok N (nX6_measureSteps_2 N n) ih) (fun m av h h1 e => (ra_c0_ok (ro := ra_oV)) m av h h1 e) (fun m av h x h1 e => (tIX6_measureSteps_ok N) m av h (x, h1) e) (fun m av h x h1 e => (ra_c0_ok (ro := ra_oJ)) m av h (x, h1) e) (fun m av h x h1 e => (ra_c0_ok (ro := ra_oR)) m av h (x, h1) e) (fun m av h x h1 e => (ra_c0_ok (ro := ra_oN)) m av h (x, h1) e) (fun m av h x h1 e => (ra_c0_ok (ro := ra_oF)) m av h (x, h1) e) 9 lX6_measureSteps_2 _ _ _ _ lX6_measureSteps_2_ck (show ra_run ra_rV (kX6_measureSteps_2 N (nX6_measureSteps_2 N n)) ra_c0 (tIX6_measureSteps N) ra_c0 ra_c0 ra_c0 ra_c0 9 lX6_measureSteps_2 [some (.ref a0), some (.int a1), none, none] [] h = some r from e) _ _ rfl
def lX6_measureSteps_0 : List ra_I := [(0, .iconst (0), 1, 0, 0, 0, (0), 0, []),
  (1, .istore_n 1, 1, 1, 0, 0, 0, 0, [])]
set_option maxRecDepth 100000 in
theorem lX6_measureSteps_0_ck : lX6_measureSteps_0.all (ra_ck mX6_measureSteps 6) = true := by decide +kernel
def nX6_measureSteps_0 (N : Nat) (a0 : Nat) (h : ra_H) : Option ra_H :=
  nX6_measureSteps_2 N N a0 ((0 : Int32)) h
def kX6_measureSteps_0 (N : Nat) : Nat → List (Option Value) → List Value → ra_H → Option ra_H := (ra_k1 2 (fun L S h => match L, S with
  | [some (.ref a0), some (.int a1), _, _], [] => nX6_measureSteps_2 N N a0 a1 h
  | _, _ => none) ra_k0)
theorem kX6_measureSteps_0_ok (N : Nat) : ra_kok 3 mX6_measureSteps ra_oV (kX6_measureSteps_0 N) := (ra_k1_ok (by
  intro L S h a e
  split at e
  · exact ra_Ru.weak (nX6_measureSteps_2_ok N N _ _ _ _ e) ⟨rfl, ⟨rfl, trivial⟩⟩
  · cases e) ra_k0_ok)
set_option maxRecDepth 100000 in
theorem nX6_measureSteps_0_ok (N : Nat) (a0 : Nat) (h : ra_H) (r : ra_H) (e : nX6_measureSteps_0 N a0 h = some r) : ra_Ru 3 mX6_measureSteps 0 [some (.ref a0), none, none, none] [] h (ra_oV r) :=
  ra_sound (by omega) rfl ra_rV_ok (kX6_measureSteps_0_ok N) (fun m av h h1 e => (ra_c0_ok (ro := ra_oV)) m av h h1 e) (fun m av h x h1 e => (tIX6_measureSteps_ok N) m av h (x, h1) e) (fun m av h x h1 e => (ra_c0_ok (ro := ra_oJ)) m av h (x, h1) e) (fun m av h x h1 e => (ra_c0_ok (ro := ra_oR)) m av h (x, h1) e) (fun m av h x h1 e => (ra_c0_ok (ro := ra_oN)) m av h (x, h1) e) (fun m av h x h1 e => (ra_c0_ok (ro := ra_oF)) m av h (x, h1) e) 3 lX6_measureSteps_0 _ _ _ _ lX6_measureSteps_0_ck (show ra_run ra_rV (kX6_measureSteps_0 N) ra_c0 (tIX6_measureSteps N) ra_c0 ra_c0 ra_c0 ra_c0 3 lX6_measureSteps_0 [some (.ref a0), none, none, none] [] h = some r from e) _ _ rfl
def fX6_measureSteps (N : Nat) (p0 : Nat) (h : ra_H) : Option ra_H := match ra_isOb h p0 6 with
  | true => nX6_measureSteps_0 N p0 h
  | false => none
set_option maxRecDepth 100000 in
theorem mtX6_measureSteps : ra_MT[180]? = some (mX6_measureSteps, 1, 0, (1, 11), (6, 12), (0, 55)) := rfl
theorem fX6_measureSteps_co (N : Nat) (p0 : Nat) (h : ra_H) (r : ra_H) (e : fX6_measureSteps N p0 h = some r) (D : Nat) (hD : 4 ≤ D) : ra_CO D 180 [.ref p0] h (ra_oV r).1 (ra_oV r).2 := by
  have hw : ra_nw2 [.ref p0] ≤ 4 := Nat.le_of_ble_eq_true rfl
  have hdb : ∀ v ∈ ([.ref p0] : List Value), ∀ x, v ≠ .double x := by
    intro v hv x hx
    simp [hx] at hv
  unfold fX6_measureSteps at e
  split at e
  · rename_i ho
    have e1 := e
    exact ⟨3, _, mtX6_measureSteps, hD, ra_ev_of (by decide) hdb hw trivial (ra_Ru.weak (nX6_measureSteps_0_ok N p0 h _ e1) ⟨rfl, trivial⟩), (fun _ => ⟨_, _, rfl, ra_rcv_of ho (by decide) rfl⟩), (fun h => absurd h (by decide))⟩
  · cases e
/-! RedMarks$StackRow.sortStack()V -/
def mX6_sortStack : ra_M := (yX6_sortStack, cX6_sortStack, 3, none)
def lX6_sortStack_59 : List ra_I := [(59, .aload_n 0, 1, 0, 0, 0, 0, 0, []),
  (60, .getfield 9, 3, 6, 1, 2, 0, 0, []),
  (63, .iload_n 2, 1, 2, 0, 0, 0, 0, []),
  (64, .aload_n 0, 1, 0, 0, 0, 0, 0, []),
  (65, .getfield 24, 3, 6, 0, 2, 0, 0, []),
  (68, .getfield 55, 3, 2, 9, 2, 0, 0, []),
  (71, .iload_n 1, 1, 1, 0, 0, 0, 0, []),
  (72, .iaload, 1, 0, 0, 0, 0, 0, []),
  (73, .iastore, 1, 0, 0, 0, 0, 0, []),
  (74, .iinc 1 (1), 3, 1, 0, 0, (1), 0, []),
  (77, .goto (-75), 3, 2, 0, 0, 0, 0, [])]
set_option maxRecDepth 100000 in
theorem lX6_sortStack_59_ck : lX6_sortStack_59.all (ra_ck mX6_sortStack 6) = true := by decide +kernel
def nX6_sortStack_59 (N : Nat) (c2 : Nat → Int32 → ra_H → Option ra_H) (a0 : Nat) (a1 : Int32) (a2 : Int32) (h : ra_H) : Option ra_H :=
  (ra_fR h 6 a0 1).bind fun x1 =>
  (ra_fR h 6 a0 0).bind fun x2 =>
  (ra_fR h 2 x2 9).bind fun x3 =>
  (ra_aI h 0 x3 a1).bind fun x4 =>
  (ra_aW h 0 x1 a2 x4).bind fun h5 =>
  let y6 := a1 + (1 : Int32)
  c2 a0 y6 h5
def kX6_sortStack_59 (N : Nat) (c2 : Nat → Int32 → ra_H → Option ra_H) : Nat → List (Option Value) → List Value → ra_H → Option ra_H := (ra_k1 2 (fun L S h => match L, S with
  | [some (.ref a0), some (.int a1), _], [] => c2 a0 a1 h
  | _, _ => none) ra_k0)
theorem kX6_sortStack_59_ok (N : Nat) (c2 : Nat → Int32 → ra_H → Option ra_H) (hc2 : ∀ a0 a1 h r, c2 a0 a1 h = some r → ra_Ru 1 mX6_sortStack 2 [some (.ref a0), some (.int a1), none] [] h (ra_oV r)) : ra_kok 1 mX6_sortStack ra_oV (kX6_sortStack_59 N c2) := (ra_k1_ok (by
  intro L S h a e
  split at e
  · exact ra_Ru.weak (hc2 _ _ _ _ e) ⟨rfl, ⟨rfl, trivial⟩⟩
  · cases e) ra_k0_ok)
set_option maxRecDepth 100000 in
theorem nX6_sortStack_59_ok (N : Nat) (c2 : Nat → Int32 → ra_H → Option ra_H) (hc2 : ∀ a0 a1 h r, c2 a0 a1 h = some r → ra_Ru 1 mX6_sortStack 2 [some (.ref a0), some (.int a1), none] [] h (ra_oV r)) (a0 : Nat) (a1 : Int32) (a2 : Int32) (h : ra_H) (r : ra_H) (e : nX6_sortStack_59 N c2 a0 a1 a2 h = some r) : ra_Ru 1 mX6_sortStack 59 [some (.ref a0), some (.int a1), some (.int a2)] [] h (ra_oV r) :=
  ra_sound (by omega) rfl ra_rV_ok (kX6_sortStack_59_ok N c2 hc2) (fun m av h h1 e => (ra_c0_ok (ro := ra_oV)) m av h h1 e) (fun m av h x h1 e => (ra_c0_ok (ro := ra_oI)) m av h (x, h1) e) (fun m av h x h1 e => (ra_c0_ok (ro := ra_oJ)) m av h (x, h1) e) (fun m av h x h1 e => (ra_c0_ok (ro := ra_oR)) m av h (x, h1) e) (fun m av h x h1 e => (ra_c0_ok (ro := ra_oN)) m av h (x, h1) e) (fun m av h x h1 e => (ra_c0_ok (ro := ra_oF)) m av h (x, h1) e) 12 lX6_sortStack_59 _ _ _ _ lX6_sortStack_59_ck (show ra_run ra_rV (kX6_sortStack_59 N c2) ra_c0 ra_c0 ra_c0 ra_c0 ra_c0 ra_c0 12 lX6_sortStack_59 [some (.ref a0), some (.int a1), some (.int a2)] [] h = some r from e) _ _ rfl
def lX6_sortStack_15 : List ra_I := [(15, .iload_n 2, 1, 2, 0, 0, 0, 0, []),
  (16, .ifCond .le (43), 3, 59, 0, 0, 0, 0, []),
  (19, .aload_n 0, 1, 0, 0, 0, 0, 0, []),
  (20, .getfield 9, 3, 6, 1, 2, 0, 0, []),
  (23, .iload_n 2, 1, 2, 0, 0, 0, 0, []),
  (24, .iconst (1), 1, 0, 0, 0, (1), 0, []),
  (25, .isub, 1, 0, 0, 0, 0, 0, []),
  (26, .iaload, 1, 0, 0, 0, 0, 0, []),
  (27, .aload_n 0, 1, 0, 0, 0, 0, 0, []),
  (28, .getfield 24, 3, 6, 0, 2, 0, 0, []),
  (31, .getfield 55, 3, 2, 9, 2, 0, 0, []),
  (34, .iload_n 1, 1, 1, 0, 0, 0, 0, []),
  (35, .iaload, 1, 0, 0, 0, 0, 0, []),
  (36, .if_icmp .le (23), 3, 59, 0, 0, 0, 0, []),
  (39, .aload_n 0, 1, 0, 0, 0, 0, 0, []),
  (40, .getfield 9, 3, 6, 1, 2, 0, 0, []),
  (43, .iload_n 2, 1, 2, 0, 0, 0, 0, []),
  (44, .aload_n 0, 1, 0, 0, 0, 0, 0, []),
  (45, .getfield 9, 3, 6, 1, 2, 0, 0, []),
  (48, .iload_n 2, 1, 2, 0, 0, 0, 0, []),
  (49, .iconst (1), 1, 0, 0, 0, (1), 0, []),
  (50, .isub, 1, 0, 0, 0, 0, 0, []),
  (51, .iaload, 1, 0, 0, 0, 0, 0, []),
  (52, .iastore, 1, 0, 0, 0, 0, 0, []),
  (53, .iinc 2 (-1), 3, 2, 0, 0, (-1), 0, []),
  (56, .goto (-41), 3, 15, 0, 0, 0, 0, [])]
set_option maxRecDepth 100000 in
theorem lX6_sortStack_15_ck : lX6_sortStack_15.all (ra_ck mX6_sortStack 6) = true := by decide +kernel
def nX6_sortStack_15 (N : Nat) (c2 : Nat → Int32 → ra_H → Option ra_H) : Nat → Nat → Int32 → Int32 → ra_H → Option ra_H
  | 0, _, _, _, _ => none
  | n + 1, a0, a1, a2, h =>
  if a2 ≤ 0 then
    nX6_sortStack_59 N c2 a0 a1 a2 h
  else
    (ra_fR h 6 a0 1).bind fun x1 =>
    (ra_aI h 0 x1 (a2 - ((1 : Int32)))).bind fun x2 =>
    (ra_fR h 6 a0 0).bind fun x3 =>
    (ra_fR h 2 x3 9).bind fun x4 =>
    (ra_aI h 0 x4 a1).bind fun x5 =>
    if x2 ≤ x5 then
      nX6_sortStack_59 N c2 a0 a1 a2 h
    else
      (ra_fR h 6 a0 1).bind fun x6 =>
      (ra_fR h 6 a0 1).bind fun x7 =>
      (ra_aI h 0 x7 (a2 - ((1 : Int32)))).bind fun x8 =>
      (ra_aW h 0 x6 a2 x8).bind fun h9 =>
      let y10 := a2 + (-1 : Int32)
      nX6_sortStack_15 N c2 n a0 a1 y10 h9
def kX6_sortStack_15 (N : Nat) (c2 : Nat → Int32 → ra_H → Option ra_H) (cs : Nat → Int32 → Int32 → ra_H → Option ra_H) : Nat → List (Option Value) → List Value → ra_H → Option ra_H := (ra_k1 15 (fun L S h => match L, S with
  | [some (.ref a0), some (.int a1), some (.int a2)], [] => cs a0 a1 a2 h
  | _, _ => none) (ra_k1 59 (fun L S h => match L, S with
  | [some (.ref a0), some (.int a1), some (.int a2)], [] => nX6_sortStack_59 N c2 a0 a1 a2 h
  | _, _ => none) ra_k0))
theorem kX6_sortStack_15_ok (N : Nat) (c2 : Nat → Int32 → ra_H → Option ra_H) (hc2 : ∀ a0 a1 h r, c2 a0 a1 h = some r → ra_Ru 1 mX6_sortStack 2 [some (.ref a0), some (.int a1), none] [] h (ra_oV r)) (cs : Nat → Int32 → Int32 → ra_H → Option ra_H) (hcs : ∀ a0 a1 a2 h r, cs a0 a1 a2 h = some r → ra_Ru 1 mX6_sortStack 15 [some (.ref a0), some (.int a1), some (.int a2)] [] h (ra_oV r)) : ra_kok 1 mX6_sortStack ra_oV (kX6_sortStack_15 N c2 cs) := (ra_k1_ok (by
  intro L S h a e
  split at e
  · exact ra_Ru.weak (hcs _ _ _ _ _ e) ⟨rfl, ⟨rfl, ⟨rfl, trivial⟩⟩⟩
  · cases e) (ra_k1_ok (by
  intro L S h a e
  split at e
  · exact ra_Ru.weak (nX6_sortStack_59_ok N c2 hc2 _ _ _ _ _ e) ⟨rfl, ⟨rfl, ⟨rfl, trivial⟩⟩⟩
  · cases e) ra_k0_ok))
set_option maxRecDepth 100000 in
theorem nX6_sortStack_15_ok (N : Nat) (c2 : Nat → Int32 → ra_H → Option ra_H) (hc2 : ∀ a0 a1 h r, c2 a0 a1 h = some r → ra_Ru 1 mX6_sortStack 2 [some (.ref a0), some (.int a1), none] [] h (ra_oV r)) : ∀ n a0 a1 a2 h r, nX6_sortStack_15 N c2 n a0 a1 a2 h = some r → ra_Ru 1 mX6_sortStack 15 [some (.ref a0), some (.int a1), some (.int a2)] [] h (ra_oV r) := by
  intro n
  induction n with
  | zero => intro a0 a1 a2 h r e; cases e
  | succ n ih =>
    intro a0 a1 a2 h r e
    exact ra_sound (by omega) rfl ra_rV_ok (kX6_sortStack_15_ok N c2 hc2 (nX6_sortStack_15 N c2 n) ih) (fun m av h h1 e => (ra_c0_ok (ro := ra_oV)) m av h h1 e) (fun m av h x h1 e => (ra_c0_ok (ro := ra_oI)) m av h (x, h1) e) (fun m av h x h1 e => (ra_c0_ok (ro := ra_oJ)) m av h (x, h1) e) (fun m av h x h1 e => (ra_c0_ok (ro := ra_oR)) m av h (x, h1) e) (fun m av h x h1 e => (ra_c0_ok (ro := ra_oN)) m av h (x, h1) e) (fun m av h x h1 e => (ra_c0_ok (ro := ra_oF)) m av h (x, h1) e) 27 lX6_sortStack_15 _ _ _ _ lX6_sortStack_15_ck (show ra_run ra_rV (kX6_sortStack_15 N c2 (nX6_sortStack_15 N c2 n)) ra_c0 ra_c0 ra_c0 ra_c0 ra_c0 ra_c0 27 lX6_sortStack_15 [some (.ref a0), some (.int a1), some (.int a2)] [] h = some r from e) _ _ rfl
def lX6_sortStack_2 : List ra_I := [(2, .iload_n 1, 1, 1, 0, 0, 0, 0, []),
  (3, .aload_n 0, 1, 0, 0, 0, 0, 0, []),
  (4, .getfield 24, 3, 6, 0, 2, 0, 0, []),
  (7, .getfield 38, 3, 2, 16, 0, 0, 0, []),
  (10, .if_icmp .ge (70), 3, 80, 0, 0, 0, 0, []),
  (13, .iload_n 1, 1, 1, 0, 0, 0, 0, []),
  (14, .istore_n 2, 1, 2, 0, 0, 0, 0, []),
  (80, .return_, 1, 0, 0, 0, 0, 0, [])]
set_option maxRecDepth 100000 in
theorem lX6_sortStack_2_ck : lX6_sortStack_2.all (ra_ck mX6_sortStack 6) = true := by decide +kernel
def nX6_sortStack_2 (N : Nat) : Nat → Nat → Int32 → ra_H → Option ra_H
  | 0, _, _, _ => none
  | n + 1, a0, a1, h =>
  (ra_fR h 6 a0 0).bind fun x1 =>
  (ra_fI h 2 x1 16).bind fun x2 =>
  if a1 < x2 then
    nX6_sortStack_15 N (nX6_sortStack_2 N n) N a0 a1 a1 h
  else
    some h
def kX6_sortStack_2 (N : Nat) (cs : Nat → Int32 → ra_H → Option ra_H) : Nat → List (Option Value) → List Value → ra_H → Option ra_H := (ra_k1 15 (fun L S h => match L, S with
  | [some (.ref a0), some (.int a1), some (.int a2)], [] => nX6_sortStack_15 N cs N a0 a1 a2 h
  | _, _ => none) ra_k0)
theorem kX6_sortStack_2_ok (N : Nat) (cs : Nat → Int32 → ra_H → Option ra_H) (hcs : ∀ a0 a1 h r, cs a0 a1 h = some r → ra_Ru 1 mX6_sortStack 2 [some (.ref a0), some (.int a1), none] [] h (ra_oV r)) : ra_kok 1 mX6_sortStack ra_oV (kX6_sortStack_2 N cs) := (ra_k1_ok (by
  intro L S h a e
  split at e
  · exact ra_Ru.weak (nX6_sortStack_15_ok N cs hcs N _ _ _ _ _ e) ⟨rfl, ⟨rfl, ⟨rfl, trivial⟩⟩⟩
  · cases e) ra_k0_ok)
set_option maxRecDepth 100000 in
theorem nX6_sortStack_2_ok (N : Nat) : ∀ n a0 a1 h r, nX6_sortStack_2 N n a0 a1 h = some r → ra_Ru 1 mX6_sortStack 2 [some (.ref a0), some (.int a1), none] [] h (ra_oV r) := by
  intro n
  induction n with
  | zero => intro a0 a1 h r e; cases e
  | succ n ih =>
    intro a0 a1 h r e
    exact ra_sound (by omega) rfl ra_rV_ok (kX6_sortStack_2_ok N (nX6_sortStack_2 N n) ih) (fun m av h h1 e => (ra_c0_ok (ro := ra_oV)) m av h h1 e) (fun m av h x h1 e => (ra_c0_ok (ro := ra_oI)) m av h (x, h1) e) (fun m av h x h1 e => (ra_c0_ok (ro := ra_oJ)) m av h (x, h1) e) (fun m av h x h1 e => (ra_c0_ok (ro := ra_oR)) m av h (x, h1) e) (fun m av h x h1 e => (ra_c0_ok (ro := ra_oN)) m av h (x, h1) e) (fun m av h x h1 e => (ra_c0_ok (ro := ra_oF)) m av h (x, h1) e) 9 lX6_sortStack_2 _ _ _ _ lX6_sortStack_2_ck (show ra_run ra_rV (kX6_sortStack_2 N (nX6_sortStack_2 N n)) ra_c0 ra_c0 ra_c0 ra_c0 ra_c0 ra_c0 9 lX6_sortStack_2 [some (.ref a0), some (.int a1), none] [] h = some r from e) _ _ rfl
def lX6_sortStack_0 : List ra_I := [(0, .iconst (0), 1, 0, 0, 0, (0), 0, []),
  (1, .istore_n 1, 1, 1, 0, 0, 0, 0, [])]
set_option maxRecDepth 100000 in
theorem lX6_sortStack_0_ck : lX6_sortStack_0.all (ra_ck mX6_sortStack 6) = true := by decide +kernel
def nX6_sortStack_0 (N : Nat) (a0 : Nat) (h : ra_H) : Option ra_H :=
  nX6_sortStack_2 N N a0 ((0 : Int32)) h
def kX6_sortStack_0 (N : Nat) : Nat → List (Option Value) → List Value → ra_H → Option ra_H := (ra_k1 2 (fun L S h => match L, S with
  | [some (.ref a0), some (.int a1), _], [] => nX6_sortStack_2 N N a0 a1 h
  | _, _ => none) ra_k0)
theorem kX6_sortStack_0_ok (N : Nat) : ra_kok 1 mX6_sortStack ra_oV (kX6_sortStack_0 N) := (ra_k1_ok (by
  intro L S h a e
  split at e
  · exact ra_Ru.weak (nX6_sortStack_2_ok N N _ _ _ _ e) ⟨rfl, ⟨rfl, trivial⟩⟩
  · cases e) ra_k0_ok)
set_option maxRecDepth 100000 in
theorem nX6_sortStack_0_ok (N : Nat) (a0 : Nat) (h : ra_H) (r : ra_H) (e : nX6_sortStack_0 N a0 h = some r) : ra_Ru 1 mX6_sortStack 0 [some (.ref a0), none, none] [] h (ra_oV r) :=
  ra_sound (by omega) rfl ra_rV_ok (kX6_sortStack_0_ok N) (fun m av h h1 e => (ra_c0_ok (ro := ra_oV)) m av h h1 e) (fun m av h x h1 e => (ra_c0_ok (ro := ra_oI)) m av h (x, h1) e) (fun m av h x h1 e => (ra_c0_ok (ro := ra_oJ)) m av h (x, h1) e) (fun m av h x h1 e => (ra_c0_ok (ro := ra_oR)) m av h (x, h1) e) (fun m av h x h1 e => (ra_c0_ok (ro := ra_oN)) m av h (x, h1) e) (fun m av h x h1 e => (ra_c0_ok (ro := ra_oF)) m av h (x, h1) e) 3 lX6_sortStack_0 _ _ _ _ lX6_sortStack_0_ck (show ra_run ra_rV (kX6_sortStack_0 N) ra_c0 ra_c0 ra_c0 ra_c0 ra_c0 ra_c0 3 lX6_sortStack_0 [some (.ref a0), none, none] [] h = some r from e) _ _ rfl
def fX6_sortStack (N : Nat) (p0 : Nat) (h : ra_H) : Option ra_H := match ra_isOb h p0 6 with
  | true => nX6_sortStack_0 N p0 h
  | false => none
set_option maxRecDepth 100000 in
theorem mtX6_sortStack : ra_MT[179]? = some (mX6_sortStack, 1, 0, (1, 11), (6, 8), (0, 54)) := rfl
theorem fX6_sortStack_co (N : Nat) (p0 : Nat) (h : ra_H) (r : ra_H) (e : fX6_sortStack N p0 h = some r) (D : Nat) (hD : 2 ≤ D) : ra_CO D 179 [.ref p0] h (ra_oV r).1 (ra_oV r).2 := by
  have hw : ra_nw2 [.ref p0] ≤ 3 := Nat.le_of_ble_eq_true rfl
  have hdb : ∀ v ∈ ([.ref p0] : List Value), ∀ x, v ≠ .double x := by
    intro v hv x hx
    simp [hx] at hv
  unfold fX6_sortStack at e
  split at e
  · rename_i ho
    have e1 := e
    exact ⟨1, _, mtX6_sortStack, hD, ra_ev_of (by decide) hdb hw trivial (ra_Ru.weak (nX6_sortStack_0_ok N p0 h _ e1) ⟨rfl, trivial⟩), (fun _ => ⟨_, _, rfl, ra_rcv_of ho (by decide) rfl⟩), (fun h => absurd h (by decide))⟩
  · cases e
/-! RedMarks$StackRow.takeFirstRow()V -/
def mX6_takeFirstRow : ra_M := (yX6_takeFirstRow, cX6_takeFirstRow, 4, none)
def tIX6_takeFirstRow (N : Nat) : Nat → List Value → ra_H → Option (Int32 × ra_H) := (ra_c1 181 (fun av h => match av with
  | [.ref z0, .int z1, .int z2] => fX6_cheapestAfter N z0 z1 z2 h
  | _ => none) ra_c0)
theorem tIX6_takeFirstRow_ok (N : Nat) : ra_cok 3 ra_oI (tIX6_takeFirstRow N) := (ra_c1_ok (by
  intro av h a e
  split at e
  · exact fX6_cheapestAfter_co N _ _ _ _ _ e 3 (by omega)
  · cases e) ra_c0_ok)
def lX6_takeFirstRow_46 : List ra_I := [(46, .iinc 2 (1), 3, 2, 0, 0, (1), 0, []),
  (49, .goto (-45), 3, 4, 0, 0, 0, 0, [])]
set_option maxRecDepth 100000 in
theorem lX6_takeFirstRow_46_ck : lX6_takeFirstRow_46.all (ra_ck mX6_takeFirstRow 6) = true := by decide +kernel
def nX6_takeFirstRow_46 (N : Nat) (c4 : Nat → Int32 → Int32 → ra_H → Option ra_H) (a0 : Nat) (a1 : Int32) (a2 : Int32) (h : ra_H) : Option ra_H :=
  let y1 := a2 + (1 : Int32)
  c4 a0 a1 y1 h
def kX6_takeFirstRow_46 (N : Nat) (c4 : Nat → Int32 → Int32 → ra_H → Option ra_H) : Nat → List (Option Value) → List Value → ra_H → Option ra_H := (ra_k1 4 (fun L S h => match L, S with
  | [some (.ref a0), some (.int a1), some (.int a2), _], [] => c4 a0 a1 a2 h
  | _, _ => none) ra_k0)
theorem kX6_takeFirstRow_46_ok (N : Nat) (c4 : Nat → Int32 → Int32 → ra_H → Option ra_H) (hc4 : ∀ a0 a1 a2 h r, c4 a0 a1 a2 h = some r → ra_Ru 3 mX6_takeFirstRow 4 [some (.ref a0), some (.int a1), some (.int a2), none] [] h (ra_oV r)) : ra_kok 3 mX6_takeFirstRow ra_oV (kX6_takeFirstRow_46 N c4) := (ra_k1_ok (by
  intro L S h a e
  split at e
  · exact ra_Ru.weak (hc4 _ _ _ _ _ e) ⟨rfl, ⟨rfl, ⟨rfl, trivial⟩⟩⟩
  · cases e) ra_k0_ok)
set_option maxRecDepth 100000 in
theorem nX6_takeFirstRow_46_ok (N : Nat) (c4 : Nat → Int32 → Int32 → ra_H → Option ra_H) (hc4 : ∀ a0 a1 a2 h r, c4 a0 a1 a2 h = some r → ra_Ru 3 mX6_takeFirstRow 4 [some (.ref a0), some (.int a1), some (.int a2), none] [] h (ra_oV r)) (a0 : Nat) (a1 : Int32) (a2 : Int32) (h : ra_H) (r : ra_H) (e : nX6_takeFirstRow_46 N c4 a0 a1 a2 h = some r) : ra_Ru 3 mX6_takeFirstRow 46 [some (.ref a0), some (.int a1), some (.int a2), none] [] h (ra_oV r) :=
  ra_sound (by omega) rfl ra_rV_ok (kX6_takeFirstRow_46_ok N c4 hc4) (fun m av h h1 e => (ra_c0_ok (ro := ra_oV)) m av h h1 e) (fun m av h x h1 e => (tIX6_takeFirstRow_ok N) m av h (x, h1) e) (fun m av h x h1 e => (ra_c0_ok (ro := ra_oJ)) m av h (x, h1) e) (fun m av h x h1 e => (ra_c0_ok (ro := ra_oR)) m av h (x, h1) e) (fun m av h x h1 e => (ra_c0_ok (ro := ra_oN)) m av h (x, h1) e) (fun m av h x h1 e => (ra_c0_ok (ro := ra_oF)) m av h (x, h1) e) 3 lX6_takeFirstRow_46 _ _ _ _ lX6_takeFirstRow_46_ck (show ra_run ra_rV (kX6_takeFirstRow_46 N c4) ra_c0 (tIX6_takeFirstRow N) ra_c0 ra_c0 ra_c0 ra_c0 3 lX6_takeFirstRow_46 [some (.ref a0), some (.int a1), some (.int a2), none] [] h = some r from e) _ _ rfl
def lX6_takeFirstRow_120 : List ra_I := [(120, .return_, 1, 0, 0, 0, 0, 0, [])]
set_option maxRecDepth 100000 in
theorem lX6_takeFirstRow_120_ck : lX6_takeFirstRow_120.all (ra_ck mX6_takeFirstRow 6) = true := by decide +kernel
def nX6_takeFirstRow_120 (N : Nat) (h : ra_H) : Option ra_H :=
  some h
def kX6_takeFirstRow_120 (N : Nat) : Nat → List (Option Value) → List Value → ra_H → Option ra_H := ra_k0
theorem kX6_takeFirstRow_120_ok (N : Nat) : ra_kok 3 mX6_takeFirstRow ra_oV (kX6_takeFirstRow_120 N) := ra_k0_ok
set_option maxRecDepth 100000 in
theorem nX6_takeFirstRow_120_ok (N : Nat) (h : ra_H) (r : ra_H) (e : nX6_takeFirstRow_120 N h = some r) : ra_Ru 3 mX6_takeFirstRow 120 [none, none, none, none] [] h (ra_oV r) :=
  ra_sound (by omega) rfl ra_rV_ok (kX6_takeFirstRow_120_ok N) (fun m av h h1 e => (ra_c0_ok (ro := ra_oV)) m av h h1 e) (fun m av h x h1 e => (tIX6_takeFirstRow_ok N) m av h (x, h1) e) (fun m av h x h1 e => (ra_c0_ok (ro := ra_oJ)) m av h (x, h1) e) (fun m av h x h1 e => (ra_c0_ok (ro := ra_oR)) m av h (x, h1) e) (fun m av h x h1 e => (ra_c0_ok (ro := ra_oN)) m av h (x, h1) e) (fun m av h x h1 e => (ra_c0_ok (ro := ra_oF)) m av h (x, h1) e) 2 lX6_takeFirstRow_120 _ _ _ _ lX6_takeFirstRow_120_ck (show ra_run ra_rV (kX6_takeFirstRow_120 N) ra_c0 (tIX6_takeFirstRow N) ra_c0 ra_c0 ra_c0 ra_c0 2 lX6_takeFirstRow_120 [none, none, none, none] [] h = some r from e) _ _ rfl
def lX6_takeFirstRow_73 : List ra_I := [(73, .iload_n 3, 1, 3, 0, 0, 0, 0, []),
  (74, .aload_n 0, 1, 0, 0, 0, 0, 0, []),
  (75, .getfield 24, 3, 6, 0, 2, 0, 0, []),
  (78, .getfield 38, 3, 2, 16, 0, 0, 0, []),
  (81, .if_icmp .ge (39), 3, 120, 0, 0, 0, 0, []),
  (84, .iload_n 1, 1, 1, 0, 0, 0, 0, []),
  (85, .iconst (-1), 1, 0, 0, 0, (-1), 0, []),
  (86, .if_icmp .eq (34), 3, 120, 0, 0, 0, 0, []),
  (89, .aload_n 0, 1, 0, 0, 0, 0, 0, []),
  (90, .getfield 21, 3, 6, 5, 2, 0, 0, []),
  (93, .iload_n 3, 1, 3, 0, 0, 0, 0, []),
  (94, .aload_n 0, 1, 0, 0, 0, 0, 0, []),
  (95, .getfield 9, 3, 6, 1, 2, 0, 0, []),
  (98, .iload_n 1, 1, 1, 0, 0, 0, 0, []),
  (99, .iaload, 1, 0, 0, 0, 0, 0, []),
  (100, .iastore, 1, 0, 0, 0, 0, 0, []),
  (101, .iload_n 2, 1, 2, 0, 0, 0, 0, []),
  (102, .iconst (1), 1, 0, 0, 0, (1), 0, []),
  (103, .iload_n 1, 1, 1, 0, 0, 0, 0, []),
  (104, .ishl, 1, 0, 0, 0, 0, 0, []),
  (105, .ior, 1, 0, 0, 0, 0, 0, []),
  (106, .istore_n 2, 1, 2, 0, 0, 0, 0, []),
  (107, .aload_n 0, 1, 0, 0, 0, 0, 0, []),
  (108, .iload_n 2, 1, 2, 0, 0, 0, 0, []),
  (109, .iload_n 1, 1, 1, 0, 0, 0, 0, []),
  (110, .invokevirtual 44, 3, 181, 3, 1, 0, 0, []),
  (113, .istore_n 1, 1, 1, 0, 0, 0, 0, []),
  (114, .iinc 3 (1), 3, 3, 0, 0, (1), 0, []),
  (117, .goto (-44), 3, 73, 0, 0, 0, 0, [])]
set_option maxRecDepth 100000 in
theorem lX6_takeFirstRow_73_ck : lX6_takeFirstRow_73.all (ra_ck mX6_takeFirstRow 6) = true := by decide +kernel
def nX6_takeFirstRow_73 (N : Nat) : Nat → Nat → Int32 → Int32 → Int32 → ra_H → Option ra_H
  | 0, _, _, _, _, _ => none
  | n + 1, a0, a1, a2, a3, h =>
  (ra_fR h 6 a0 0).bind fun x1 =>
  (ra_fI h 2 x1 16).bind fun x2 =>
  if a3 < x2 then
    if a1 = ((-1 : Int32)) then
      nX6_takeFirstRow_120 N h
    else
      (ra_fR h 6 a0 5).bind fun x3 =>
      (ra_fR h 6 a0 1).bind fun x4 =>
      (ra_aI h 0 x4 a1).bind fun x5 =>
      (ra_aW h 0 x3 a3 x5).bind fun h6 =>
      let y7 := a2 ||| (((1 : Int32)) <<< (a1 &&& 31))
      (fX6_cheapestAfter N a0 y7 a1 h6).bind fun q8 =>
      let y9 := a3 + (1 : Int32)
      nX6_takeFirstRow_73 N n a0 q8.1 y7 y9 q8.2
  else
    nX6_takeFirstRow_120 N h
def kX6_takeFirstRow_73 (N : Nat) (cs : Nat → Int32 → Int32 → Int32 → ra_H → Option ra_H) : Nat → List (Option Value) → List Value → ra_H → Option ra_H := (ra_k1 73 (fun L S h => match L, S with
  | [some (.ref a0), some (.int a1), some (.int a2), some (.int a3)], [] => cs a0 a1 a2 a3 h
  | _, _ => none) (ra_k1 120 (fun L S h => match L, S with
  | [_, _, _, _], [] => nX6_takeFirstRow_120 N h
  | _, _ => none) ra_k0))
theorem kX6_takeFirstRow_73_ok (N : Nat) (cs : Nat → Int32 → Int32 → Int32 → ra_H → Option ra_H) (hcs : ∀ a0 a1 a2 a3 h r, cs a0 a1 a2 a3 h = some r → ra_Ru 3 mX6_takeFirstRow 73 [some (.ref a0), some (.int a1), some (.int a2), some (.int a3)] [] h (ra_oV r)) : ra_kok 3 mX6_takeFirstRow ra_oV (kX6_takeFirstRow_73 N cs) := (ra_k1_ok (by
  intro L S h a e
  split at e
  · exact ra_Ru.weak (hcs _ _ _ _ _ _ e) ⟨rfl, ⟨rfl, ⟨rfl, ⟨rfl, trivial⟩⟩⟩⟩
  · cases e) (ra_k1_ok (by
  intro L S h a e
  split at e
  · exact ra_Ru.weak (nX6_takeFirstRow_120_ok N _ _ e) trivial
  · cases e) ra_k0_ok))
set_option maxRecDepth 100000 in
theorem nX6_takeFirstRow_73_ok (N : Nat) : ∀ n a0 a1 a2 a3 h r, nX6_takeFirstRow_73 N n a0 a1 a2 a3 h = some r → ra_Ru 3 mX6_takeFirstRow 73 [some (.ref a0), some (.int a1), some (.int a2), some (.int a3)] [] h (ra_oV r) := by
  intro n
  induction n with
  | zero => intro a0 a1 a2 a3 h r e; cases e
  | succ n ih =>
    intro a0 a1 a2 a3 h r e
    exact ra_sound (by omega) rfl ra_rV_ok (kX6_takeFirstRow_73_ok N (nX6_takeFirstRow_73 N n) ih) (fun m av h h1 e => (ra_c0_ok (ro := ra_oV)) m av h h1 e) (fun m av h x h1 e => (tIX6_takeFirstRow_ok N) m av h (x, h1) e) (fun m av h x h1 e => (ra_c0_ok (ro := ra_oJ)) m av h (x, h1) e) (fun m av h x h1 e => (ra_c0_ok (ro := ra_oR)) m av h (x, h1) e) (fun m av h x h1 e => (ra_c0_ok (ro := ra_oN)) m av h (x, h1) e) (fun m av h x h1 e => (ra_c0_ok (ro := ra_oF)) m av h (x, h1) e) 30 lX6_takeFirstRow_73 _ _ _ _ lX6_takeFirstRow_73_ck (show ra_run ra_rV (kX6_takeFirstRow_73 N (nX6_takeFirstRow_73 N n)) ra_c0 (tIX6_takeFirstRow N) ra_c0 ra_c0 ra_c0 ra_c0 30 lX6_takeFirstRow_73 [some (.ref a0), some (.int a1), some (.int a2), some (.int a3)] [] h = some r from e) _ _ rfl
def lX6_takeFirstRow_4 : List ra_I := [(4, .iload_n 2, 1, 2, 0, 0, 0, 0, []),
  (5, .aload_n 0, 1, 0, 0, 0, 0, 0, []),
  (6, .getfield 24, 3, 6, 0, 2, 0, 0, []),
  (9, .getfield 38, 3, 2, 16, 0, 0, 0, []),
  (12, .if_icmp .ge (40), 3, 52, 0, 0, 0, 0, []),
  (15, .aload_n 0, 1, 0, 0, 0, 0, 0, []),
  (16, .getfield 18, 3, 6, 3, 2, 0, 0, []),
  (19, .iconst (1), 1, 0, 0, 0, (1), 0, []),
  (20, .iload_n 2, 1, 2, 0, 0, 0, 0, []),
  (21, .ishl, 1, 0, 0, 0, 0, 0, []),
  (22, .bipush (9), 2, 0, 0, 0, (9), 0, []),
  (24, .imul, 1, 0, 0, 0, 0, 0, []),
  (25, .iload_n 2, 1, 2, 0, 0, 0, 0, []),
  (26, .iadd, 1, 0, 0, 0, 0, 0, []),
  (27, .iaload, 1, 0, 0, 0, 0, 0, []),
  (28, .aload_n 0, 1, 0, 0, 0, 0, 0, []),
  (29, .getfield 18, 3, 6, 3, 2, 0, 0, []),
  (32, .iconst (1), 1, 0, 0, 0, (1), 0, []),
  (33, .iload_n 1, 1, 1, 0, 0, 0, 0, []),
  (34, .ishl, 1, 0, 0, 0, 0, 0, []),
  (35, .bipush (9), 2, 0, 0, 0, (9), 0, []),
  (37, .imul, 1, 0, 0, 0, 0, 0, []),
  (38, .iload_n 1, 1, 1, 0, 0, 0, 0, []),
  (39, .iadd, 1, 0, 0, 0, 0, 0, []),
  (40, .iaload, 1, 0, 0, 0, 0, 0, []),
  (41, .if_icmp .ge (5), 3, 46, 0, 0, 0, 0, []),
  (44, .iload_n 2, 1, 2, 0, 0, 0, 0, []),
  (45, .istore_n 1, 1, 1, 0, 0, 0, 0, []),
  (52, .aload_n 0, 1, 0, 0, 0, 0, 0, []),
  (53, .aload_n 0, 1, 0, 0, 0, 0, 0, []),
  (54, .getfield 18, 3, 6, 3, 2, 0, 0, []),
  (57, .iconst (1), 1, 0, 0, 0, (1), 0, []),
  (58, .iload_n 1, 1, 1, 0, 0, 0, 0, []),
  (59, .ishl, 1, 0, 0, 0, 0, 0, []),
  (60, .bipush (9), 2, 0, 0, 0, (9), 0, []),
  (62, .imul, 1, 0, 0, 0, 0, 0, []),
  (63, .iload_n 1, 1, 1, 0, 0, 0, 0, []),
  (64, .iadd, 1, 0, 0, 0, 0, 0, []),
  (65, .iaload, 1, 0, 0, 0, 0, 0, []),
  (66, .putfield 64, 3, 6, 6, 0, 0, 0, []),
  (69, .iconst (0), 1, 0, 0, 0, (0), 0, []),
  (70, .istore_n 2, 1, 2, 0, 0, 0, 0, []),
  (71, .iconst (0), 1, 0, 0, 0, (0), 0, []),
  (72, .istore_n 3, 1, 3, 0, 0, 0, 0, [])]
set_option maxRecDepth 100000 in
theorem lX6_takeFirstRow_4_ck : lX6_takeFirstRow_4.all (ra_ck mX6_takeFirstRow 6) = true := by decide +kernel
def nX6_takeFirstRow_4 (N : Nat) : Nat → Nat → Int32 → Int32 → ra_H → Option ra_H
  | 0, _, _, _, _ => none
  | n + 1, a0, a1, a2, h =>
  (ra_fR h 6 a0 0).bind fun x1 =>
  (ra_fI h 2 x1 16).bind fun x2 =>
  if a2 < x2 then
    (ra_fR h 6 a0 3).bind fun x6 =>
    (ra_aI h 0 x6 (((((1 : Int32)) <<< (a2 &&& 31)) * ((9 : Int32))) + a2)).bind fun x7 =>
    (ra_fR h 6 a0 3).bind fun x8 =>
    (ra_aI h 0 x8 (((((1 : Int32)) <<< (a1 &&& 31)) * ((9 : Int32))) + a1)).bind fun x9 =>
    if x7 < x9 then
      nX6_takeFirstRow_46 N (nX6_takeFirstRow_4 N n) a0 a2 a2 h
    else
      nX6_takeFirstRow_46 N (nX6_takeFirstRow_4 N n) a0 a1 a2 h
  else
    (ra_fR h 6 a0 3).bind fun x3 =>
    (ra_aI h 0 x3 (((((1 : Int32)) <<< (a1 &&& 31)) * ((9 : Int32))) + a1)).bind fun x4 =>
    (ra_fW h 6 a0 6 (.int x4)).bind fun h5 =>
    nX6_takeFirstRow_73 N N a0 a1 ((0 : Int32)) ((0 : Int32)) h5
def kX6_takeFirstRow_4 (N : Nat) (cs : Nat → Int32 → Int32 → ra_H → Option ra_H) : Nat → List (Option Value) → List Value → ra_H → Option ra_H := (ra_k1 46 (fun L S h => match L, S with
  | [some (.ref a0), some (.int a1), some (.int a2), _], [] => nX6_takeFirstRow_46 N cs a0 a1 a2 h
  | _, _ => none) (ra_k1 73 (fun L S h => match L, S with
  | [some (.ref a0), some (.int a1), some (.int a2), some (.int a3)], [] => nX6_takeFirstRow_73 N N a0 a1 a2 a3 h
  | _, _ => none) ra_k0))
theorem kX6_takeFirstRow_4_ok (N : Nat) (cs : Nat → Int32 → Int32 → ra_H → Option ra_H) (hcs : ∀ a0 a1 a2 h r, cs a0 a1 a2 h = some r → ra_Ru 3 mX6_takeFirstRow 4 [some (.ref a0), some (.int a1), some (.int a2), none] [] h (ra_oV r)) : ra_kok 3 mX6_takeFirstRow ra_oV (kX6_takeFirstRow_4 N cs) := (ra_k1_ok (by
  intro L S h a e
  split at e
  · exact ra_Ru.weak (nX6_takeFirstRow_46_ok N cs hcs _ _ _ _ _ e) ⟨rfl, ⟨rfl, ⟨rfl, trivial⟩⟩⟩
  · cases e) (ra_k1_ok (by
  intro L S h a e
  split at e
  · exact ra_Ru.weak (nX6_takeFirstRow_73_ok N N _ _ _ _ _ _ e) ⟨rfl, ⟨rfl, ⟨rfl, ⟨rfl, trivial⟩⟩⟩⟩
  · cases e) ra_k0_ok))
set_option maxRecDepth 100000 in
theorem nX6_takeFirstRow_4_ok (N : Nat) : ∀ n a0 a1 a2 h r, nX6_takeFirstRow_4 N n a0 a1 a2 h = some r → ra_Ru 3 mX6_takeFirstRow 4 [some (.ref a0), some (.int a1), some (.int a2), none] [] h (ra_oV r) := by
  intro n
  induction n with
  | zero => intro a0 a1 a2 h r e; cases e
  | succ n ih =>
    intro a0 a1 a2 h r e
    exact ra_sound (by omega) rfl ra_rV_ok (kX6_takeFirstRow_4_ok N (nX6_takeFirstRow_4 N n) ih) (fun m av h h1 e => (ra_c0_ok (ro := ra_oV)) m av h h1 e) (fun m av h x h1 e => (tIX6_takeFirstRow_ok N) m av h (x, h1) e) (fun m av h x h1 e => (ra_c0_ok (ro := ra_oJ)) m av h (x, h1) e) (fun m av h x h1 e => (ra_c0_ok (ro := ra_oR)) m av h (x, h1) e) (fun m av h x h1 e => (ra_c0_ok (ro := ra_oN)) m av h (x, h1) e) (fun m av h x h1 e => (ra_c0_ok (ro := ra_oF)) m av h (x, h1) e) 45 lX6_takeFirstRow_4 _ _ _ _ lX6_takeFirstRow_4_ck (show ra_run ra_rV (kX6_takeFirstRow_4 N (nX6_takeFirstRow_4 N n)) ra_c0 (tIX6_takeFirstRow N) ra_c0 ra_c0 ra_c0 ra_c0 45 lX6_takeFirstRow_4 [some (.ref a0), some (.int a1), some (.int a2), none] [] h = some r from e) _ _ rfl
def lX6_takeFirstRow_0 : List ra_I := [(0, .iconst (0), 1, 0, 0, 0, (0), 0, []),
  (1, .istore_n 1, 1, 1, 0, 0, 0, 0, []),
  (2, .iconst (1), 1, 0, 0, 0, (1), 0, []),
  (3, .istore_n 2, 1, 2, 0, 0, 0, 0, [])]
set_option maxRecDepth 100000 in
theorem lX6_takeFirstRow_0_ck : lX6_takeFirstRow_0.all (ra_ck mX6_takeFirstRow 6) = true := by decide +kernel
def nX6_takeFirstRow_0 (N : Nat) (a0 : Nat) (h : ra_H) : Option ra_H :=
  nX6_takeFirstRow_4 N N a0 ((0 : Int32)) ((1 : Int32)) h
def kX6_takeFirstRow_0 (N : Nat) : Nat → List (Option Value) → List Value → ra_H → Option ra_H := (ra_k1 4 (fun L S h => match L, S with
  | [some (.ref a0), some (.int a1), some (.int a2), _], [] => nX6_takeFirstRow_4 N N a0 a1 a2 h
  | _, _ => none) ra_k0)
theorem kX6_takeFirstRow_0_ok (N : Nat) : ra_kok 3 mX6_takeFirstRow ra_oV (kX6_takeFirstRow_0 N) := (ra_k1_ok (by
  intro L S h a e
  split at e
  · exact ra_Ru.weak (nX6_takeFirstRow_4_ok N N _ _ _ _ _ e) ⟨rfl, ⟨rfl, ⟨rfl, trivial⟩⟩⟩
  · cases e) ra_k0_ok)
set_option maxRecDepth 100000 in
theorem nX6_takeFirstRow_0_ok (N : Nat) (a0 : Nat) (h : ra_H) (r : ra_H) (e : nX6_takeFirstRow_0 N a0 h = some r) : ra_Ru 3 mX6_takeFirstRow 0 [some (.ref a0), none, none, none] [] h (ra_oV r) :=
  ra_sound (by omega) rfl ra_rV_ok (kX6_takeFirstRow_0_ok N) (fun m av h h1 e => (ra_c0_ok (ro := ra_oV)) m av h h1 e) (fun m av h x h1 e => (tIX6_takeFirstRow_ok N) m av h (x, h1) e) (fun m av h x h1 e => (ra_c0_ok (ro := ra_oJ)) m av h (x, h1) e) (fun m av h x h1 e => (ra_c0_ok (ro := ra_oR)) m av h (x, h1) e) (fun m av h x h1 e => (ra_c0_ok (ro := ra_oN)) m av h (x, h1) e) (fun m av h x h1 e => (ra_c0_ok (ro := ra_oF)) m av h (x, h1) e) 5 lX6_takeFirstRow_0 _ _ _ _ lX6_takeFirstRow_0_ck (show ra_run ra_rV (kX6_takeFirstRow_0 N) ra_c0 (tIX6_takeFirstRow N) ra_c0 ra_c0 ra_c0 ra_c0 5 lX6_takeFirstRow_0 [some (.ref a0), none, none, none] [] h = some r from e) _ _ rfl
def fX6_takeFirstRow (N : Nat) (p0 : Nat) (h : ra_H) : Option ra_H := match ra_isOb h p0 6 with
  | true => nX6_takeFirstRow_0 N p0 h
  | false => none
set_option maxRecDepth 100000 in
theorem mtX6_takeFirstRow : ra_MT[183]? = some (mX6_takeFirstRow, 1, 0, (1, 11), (6, 26), (0, 58)) := rfl
theorem fX6_takeFirstRow_co (N : Nat) (p0 : Nat) (h : ra_H) (r : ra_H) (e : fX6_takeFirstRow N p0 h = some r) (D : Nat) (hD : 4 ≤ D) : ra_CO D 183 [.ref p0] h (ra_oV r).1 (ra_oV r).2 := by
  have hw : ra_nw2 [.ref p0] ≤ 4 := Nat.le_of_ble_eq_true rfl
  have hdb : ∀ v ∈ ([.ref p0] : List Value), ∀ x, v ≠ .double x := by
    intro v hv x hx
    simp [hx] at hv
  unfold fX6_takeFirstRow at e
  split at e
  · rename_i ho
    have e1 := e
    exact ⟨3, _, mtX6_takeFirstRow, hD, ra_ev_of (by decide) hdb hw trivial (ra_Ru.weak (nX6_takeFirstRow_0_ok N p0 h _ e1) ⟨rfl, trivial⟩), (fun _ => ⟨_, _, rfl, ra_rcv_of ho (by decide) rfl⟩), (fun h => absurd h (by decide))⟩
  · cases e
/-! RedMarks$StackRow.layOut()V -/
def mX6_layOut : ra_M := (yX6_layOut, cX6_layOut, 4, none)
def tVX6_layOut (N : Nat) : Nat → List Value → ra_H → Option ra_H := (ra_c1 179 (fun av h => match av with
  | [.ref z0] => fX6_sortStack N z0 h
  | _ => none) (ra_c1 180 (fun av h => match av with
  | [.ref z0] => fX6_measureSteps N z0 h
  | _ => none) (ra_c1 183 (fun av h => match av with
  | [.ref z0] => fX6_takeFirstRow N z0 h
  | _ => none) ra_c0)))
theorem tVX6_layOut_ok (N : Nat) : ra_cok 4 ra_oV (tVX6_layOut N) := (ra_c1_ok (by
  intro av h a e
  split at e
  · exact fX6_sortStack_co N _ _ _ e 4 (by omega)
  · cases e) (ra_c1_ok (by
  intro av h a e
  split at e
  · exact fX6_measureSteps_co N _ _ _ e 4 (by omega)
  · cases e) (ra_c1_ok (by
  intro av h a e
  split at e
  · exact fX6_takeFirstRow_co N _ _ _ e 4 (by omega)
  · cases e) ra_c0_ok)))
def tIX6_layOut (N : Nat) : Nat → List Value → ra_H → Option (Int32 × ra_H) := (ra_c1 181 (fun av h => match av with
  | [.ref z0, .int z1, .int z2] => fX6_cheapestAfter N z0 z1 z2 h
  | _ => none) (ra_c1 182 (fun av h => match av with
  | [.ref z0, .int z1, .int z2, .int z3] => fX6_costOf N z0 z1 z2 z3 h
  | _ => none) ra_c0))
theorem tIX6_layOut_ok (N : Nat) : ra_cok 4 ra_oI (tIX6_layOut N) := (ra_c1_ok (by
  intro av h a e
  split at e
  · exact fX6_cheapestAfter_co N _ _ _ _ _ e 4 (by omega)
  · cases e) (ra_c1_ok (by
  intro av h a e
  split at e
  · exact fX6_costOf_co N _ _ _ _ _ _ e 4 (by omega)
  · cases e) ra_c0_ok))
def lX6_layOut_92 : List ra_I := [(92, .iinc 2 (1), 3, 2, 0, 0, (1), 0, []),
  (95, .goto (-56), 3, 39, 0, 0, 0, 0, [])]
set_option maxRecDepth 100000 in
theorem lX6_layOut_92_ck : lX6_layOut_92.all (ra_ck mX6_layOut 6) = true := by decide +kernel
def nX6_layOut_92 (N : Nat) (c33 : Nat → Int32 → ra_H → Option ra_H) (c39 : Nat → Int32 → Int32 → ra_H → Option ra_H) (a0 : Nat) (a1 : Int32) (a2 : Int32) (h : ra_H) : Option ra_H :=
  let y1 := a2 + (1 : Int32)
  c39 a0 a1 y1 h
def kX6_layOut_92 (N : Nat) (c33 : Nat → Int32 → ra_H → Option ra_H) (c39 : Nat → Int32 → Int32 → ra_H → Option ra_H) : Nat → List (Option Value) → List Value → ra_H → Option ra_H := (ra_k1 39 (fun L S h => match L, S with
  | [some (.ref a0), some (.int a1), some (.int a2), _], [] => c39 a0 a1 a2 h
  | _, _ => none) ra_k0)
theorem kX6_layOut_92_ok (N : Nat) (c33 : Nat → Int32 → ra_H → Option ra_H) (c39 : Nat → Int32 → Int32 → ra_H → Option ra_H) (hc33 : ∀ a0 a1 h r, c33 a0 a1 h = some r → ra_Ru 4 mX6_layOut 33 [some (.ref a0), some (.int a1), none, none] [] h (ra_oV r)) (hc39 : ∀ a0 a1 a2 h r, c39 a0 a1 a2 h = some r → ra_Ru 4 mX6_layOut 39 [some (.ref a0), some (.int a1), some (.int a2), none] [] h (ra_oV r)) : ra_kok 4 mX6_layOut ra_oV (kX6_layOut_92 N c33 c39) := (ra_k1_ok (by
  intro L S h a e
  split at e
  · exact ra_Ru.weak (hc39 _ _ _ _ _ e) ⟨rfl, ⟨rfl, ⟨rfl, trivial⟩⟩⟩
  · cases e) ra_k0_ok)
set_option maxRecDepth 100000 in
theorem nX6_layOut_92_ok (N : Nat) (c33 : Nat → Int32 → ra_H → Option ra_H) (c39 : Nat → Int32 → Int32 → ra_H → Option ra_H) (hc33 : ∀ a0 a1 h r, c33 a0 a1 h = some r → ra_Ru 4 mX6_layOut 33 [some (.ref a0), some (.int a1), none, none] [] h (ra_oV r)) (hc39 : ∀ a0 a1 a2 h r, c39 a0 a1 a2 h = some r → ra_Ru 4 mX6_layOut 39 [some (.ref a0), some (.int a1), some (.int a2), none] [] h (ra_oV r)) (a0 : Nat) (a1 : Int32) (a2 : Int32) (h : ra_H) (r : ra_H) (e : nX6_layOut_92 N c33 c39 a0 a1 a2 h = some r) : ra_Ru 4 mX6_layOut 92 [some (.ref a0), some (.int a1), some (.int a2), none] [] h (ra_oV r) :=
  ra_sound (by omega) rfl ra_rV_ok (kX6_layOut_92_ok N c33 c39 hc33 hc39) (fun m av h h1 e => (tVX6_layOut_ok N) m av h h1 e) (fun m av h x h1 e => (tIX6_layOut_ok N) m av h (x, h1) e) (fun m av h x h1 e => (ra_c0_ok (ro := ra_oJ)) m av h (x, h1) e) (fun m av h x h1 e => (ra_c0_ok (ro := ra_oR)) m av h (x, h1) e) (fun m av h x h1 e => (ra_c0_ok (ro := ra_oN)) m av h (x, h1) e) (fun m av h x h1 e => (ra_c0_ok (ro := ra_oF)) m av h (x, h1) e) 3 lX6_layOut_92 _ _ _ _ lX6_layOut_92_ck (show ra_run ra_rV (kX6_layOut_92 N c33 c39) (tVX6_layOut N) (tIX6_layOut N) ra_c0 ra_c0 ra_c0 ra_c0 3 lX6_layOut_92 [some (.ref a0), some (.int a1), some (.int a2), none] [] h = some r from e) _ _ rfl
def lX6_layOut_91 : List ra_I := [(91, .iastore, 1, 0, 0, 0, 0, 0, [])]
set_option maxRecDepth 100000 in
theorem lX6_layOut_91_ck : lX6_layOut_91.all (ra_ck mX6_layOut 6) = true := by decide +kernel
def nX6_layOut_91 (N : Nat) (c33 : Nat → Int32 → ra_H → Option ra_H) (c39 : Nat → Int32 → Int32 → ra_H → Option ra_H) (a0 : Nat) (a1 : Int32) (a2 : Int32) (b0 : Nat) (b1 : Int32) (b2 : Int32) (h : ra_H) : Option ra_H :=
  (ra_aW h 0 b0 b1 b2).bind fun h1 =>
  nX6_layOut_92 N c33 c39 a0 a1 a2 h1
def kX6_layOut_91 (N : Nat) (c33 : Nat → Int32 → ra_H → Option ra_H) (c39 : Nat → Int32 → Int32 → ra_H → Option ra_H) : Nat → List (Option Value) → List Value → ra_H → Option ra_H := (ra_k1 92 (fun L S h => match L, S with
  | [some (.ref a0), some (.int a1), some (.int a2), _], [] => nX6_layOut_92 N c33 c39 a0 a1 a2 h
  | _, _ => none) ra_k0)
theorem kX6_layOut_91_ok (N : Nat) (c33 : Nat → Int32 → ra_H → Option ra_H) (c39 : Nat → Int32 → Int32 → ra_H → Option ra_H) (hc33 : ∀ a0 a1 h r, c33 a0 a1 h = some r → ra_Ru 4 mX6_layOut 33 [some (.ref a0), some (.int a1), none, none] [] h (ra_oV r)) (hc39 : ∀ a0 a1 a2 h r, c39 a0 a1 a2 h = some r → ra_Ru 4 mX6_layOut 39 [some (.ref a0), some (.int a1), some (.int a2), none] [] h (ra_oV r)) : ra_kok 4 mX6_layOut ra_oV (kX6_layOut_91 N c33 c39) := (ra_k1_ok (by
  intro L S h a e
  split at e
  · exact ra_Ru.weak (nX6_layOut_92_ok N c33 c39 hc33 hc39 _ _ _ _ _ e) ⟨rfl, ⟨rfl, ⟨rfl, trivial⟩⟩⟩
  · cases e) ra_k0_ok)
set_option maxRecDepth 100000 in
theorem nX6_layOut_91_ok (N : Nat) (c33 : Nat → Int32 → ra_H → Option ra_H) (c39 : Nat → Int32 → Int32 → ra_H → Option ra_H) (hc33 : ∀ a0 a1 h r, c33 a0 a1 h = some r → ra_Ru 4 mX6_layOut 33 [some (.ref a0), some (.int a1), none, none] [] h (ra_oV r)) (hc39 : ∀ a0 a1 a2 h r, c39 a0 a1 a2 h = some r → ra_Ru 4 mX6_layOut 39 [some (.ref a0), some (.int a1), some (.int a2), none] [] h (ra_oV r)) (a0 : Nat) (a1 : Int32) (a2 : Int32) (b0 : Nat) (b1 : Int32) (b2 : Int32) (h : ra_H) (r : ra_H) (e : nX6_layOut_91 N c33 c39 a0 a1 a2 b0 b1 b2 h = some r) : ra_Ru 4 mX6_layOut 91 [some (.ref a0), some (.int a1), some (.int a2), none] [.int b2, .int b1, .ref b0] h (ra_oV r) :=
  ra_sound (by omega) rfl ra_rV_ok (kX6_layOut_91_ok N c33 c39 hc33 hc39) (fun m av h h1 e => (tVX6_layOut_ok N) m av h h1 e) (fun m av h x h1 e => (tIX6_layOut_ok N) m av h (x, h1) e) (fun m av h x h1 e => (ra_c0_ok (ro := ra_oJ)) m av h (x, h1) e) (fun m av h x h1 e => (ra_c0_ok (ro := ra_oR)) m av h (x, h1) e) (fun m av h x h1 e => (ra_c0_ok (ro := ra_oN)) m av h (x, h1) e) (fun m av h x h1 e => (ra_c0_ok (ro := ra_oF)) m av h (x, h1) e) 2 lX6_layOut_91 _ _ _ _ lX6_layOut_91_ck (show ra_run ra_rV (kX6_layOut_91 N c33 c39) (tVX6_layOut N) (tIX6_layOut N) ra_c0 ra_c0 ra_c0 ra_c0 2 lX6_layOut_91 [some (.ref a0), some (.int a1), some (.int a2), none] [.int b2, .int b1, .ref b0] h = some r from e) _ _ rfl
def lX6_layOut_39 : List ra_I := [(39, .iload_n 2, 1, 2, 0, 0, 0, 0, []),
  (40, .aload_n 0, 1, 0, 0, 0, 0, 0, []),
  (41, .getfield 24, 3, 6, 0, 2, 0, 0, []),
  (44, .getfield 38, 3, 2, 16, 0, 0, 0, []),
  (47, .if_icmp .ge (51), 3, 98, 0, 0, 0, 0, []),
  (50, .iload_n 1, 1, 1, 0, 0, 0, 0, []),
  (51, .iconst (1), 1, 0, 0, 0, (1), 0, []),
  (52, .iload_n 2, 1, 2, 0, 0, 0, 0, []),
  (53, .ishl, 1, 0, 0, 0, 0, 0, []),
  (54, .iand, 1, 0, 0, 0, 0, 0, []),
  (55, .ifCond .eq (37), 3, 92, 0, 0, 0, 0, []),
  (58, .aload_n 0, 1, 0, 0, 0, 0, 0, []),
  (59, .iload_n 1, 1, 1, 0, 0, 0, 0, []),
  (60, .iload_n 2, 1, 2, 0, 0, 0, 0, []),
  (61, .invokevirtual 44, 3, 181, 3, 1, 0, 0, []),
  (64, .istore_n 3, 1, 3, 0, 0, 0, 0, []),
  (65, .aload_n 0, 1, 0, 0, 0, 0, 0, []),
  (66, .getfield 18, 3, 6, 3, 2, 0, 0, []),
  (69, .iload_n 1, 1, 1, 0, 0, 0, 0, []),
  (70, .bipush (9), 2, 0, 0, 0, (9), 0, []),
  (72, .imul, 1, 0, 0, 0, 0, 0, []),
  (73, .iload_n 2, 1, 2, 0, 0, 0, 0, []),
  (74, .iadd, 1, 0, 0, 0, 0, 0, []),
  (75, .iload_n 3, 1, 3, 0, 0, 0, 0, []),
  (76, .iconst (-1), 1, 0, 0, 0, (-1), 0, []),
  (77, .if_icmp .ne (7), 3, 84, 0, 0, 0, 0, []),
  (80, .iconst (0), 1, 0, 0, 0, (0), 0, []),
  (81, .goto (10), 3, 91, 0, 0, 0, 0, []),
  (84, .aload_n 0, 1, 0, 0, 0, 0, 0, []),
  (85, .iload_n 1, 1, 1, 0, 0, 0, 0, []),
  (86, .iload_n 2, 1, 2, 0, 0, 0, 0, []),
  (87, .iload_n 3, 1, 3, 0, 0, 0, 0, []),
  (88, .invokevirtual 48, 3, 182, 4, 1, 0, 0, []),
  (98, .iinc 1 (-1), 3, 1, 0, 0, (-1), 0, []),
  (101, .goto (-68), 3, 33, 0, 0, 0, 0, [])]
set_option maxRecDepth 100000 in
theorem lX6_layOut_39_ck : lX6_layOut_39.all (ra_ck mX6_layOut 6) = true := by decide +kernel
def nX6_layOut_39 (N : Nat) (c33 : Nat → Int32 → ra_H → Option ra_H) : Nat → Nat → Int32 → Int32 → ra_H → Option ra_H
  | 0, _, _, _, _ => none
  | n + 1, a0, a1, a2, h =>
  (ra_fR h 6 a0 0).bind fun x1 =>
  (ra_fI h 2 x1 16).bind fun x2 =>
  if a2 < x2 then
    if (a1 &&& (((1 : Int32)) <<< (a2 &&& 31))) = 0 then
      nX6_layOut_92 N c33 (nX6_layOut_39 N c33 n) a0 a1 a2 h
    else
      (fX6_cheapestAfter N a0 a1 a2 h).bind fun q4 =>
      (ra_fR q4.2 6 a0 3).bind fun x5 =>
      if q4.1 = ((-1 : Int32)) then
        nX6_layOut_91 N c33 (nX6_layOut_39 N c33 n) a0 a1 a2 x5 ((a1 * ((9 : Int32))) + a2) ((0 : Int32)) q4.2
      else
        (fX6_costOf N a0 a1 a2 q4.1 q4.2).bind fun q6 =>
        nX6_layOut_91 N c33 (nX6_layOut_39 N c33 n) a0 a1 a2 x5 ((a1 * ((9 : Int32))) + a2) q6.1 q6.2
  else
    let y3 := a1 + (-1 : Int32)
    c33 a0 y3 h
def kX6_layOut_39 (N : Nat) (c33 : Nat → Int32 → ra_H → Option ra_H) (cs : Nat → Int32 → Int32 → ra_H → Option ra_H) : Nat → List (Option Value) → List Value → ra_H → Option ra_H := (ra_k1 33 (fun L S h => match L, S with
  | [some (.ref a0), some (.int a1), _, _], [] => c33 a0 a1 h
  | _, _ => none) (ra_k1 91 (fun L S h => match L, S with
  | [some (.ref a0), some (.int a1), some (.int a2), _], [.int b2, .int b1, .ref b0] => nX6_layOut_91 N c33 cs a0 a1 a2 b0 b1 b2 h
  | _, _ => none) (ra_k1 92 (fun L S h => match L, S with
  | [some (.ref a0), some (.int a1), some (.int a2), _], [] => nX6_layOut_92 N c33 cs a0 a1 a2 h
  | _, _ => none) ra_k0)))
theorem kX6_layOut_39_ok (N : Nat) (c33 : Nat → Int32 → ra_H → Option ra_H) (hc33 : ∀ a0 a1 h r, c33 a0 a1 h = some r → ra_Ru 4 mX6_layOut 33 [some (.ref a0), some (.int a1), none, none] [] h (ra_oV r)) (cs : Nat → Int32 → Int32 → ra_H → Option ra_H) (hcs : ∀ a0 a1 a2 h r, cs a0 a1 a2 h = some r → ra_Ru 4 mX6_layOut 39 [some (.ref a0), some (.int a1), some (.int a2), none] [] h (ra_oV r)) : ra_kok 4 mX6_layOut ra_oV (kX6_layOut_39 N c33 cs) := (ra_k1_ok (by
  intro L S h a e
  split at e
  · exact ra_Ru.weak (hc33 _ _ _ _ e) ⟨rfl, ⟨rfl, trivial⟩⟩
  · cases e) (ra_k1_ok (by
  intro L S h a e
  split at e
  · exact ra_Ru.weak (nX6_layOut_91_ok N c33 cs hc33 hcs _ _ _ _ _ _ _ _ e) ⟨rfl, ⟨rfl, ⟨rfl, trivial⟩⟩⟩
  · cases e) (ra_k1_ok (by
  intro L S h a e
  split at e
  · exact ra_Ru.weak (nX6_layOut_92_ok N c33 cs hc33 hcs _ _ _ _ _ e) ⟨rfl, ⟨rfl, ⟨rfl, trivial⟩⟩⟩
  · cases e) ra_k0_ok)))
set_option maxRecDepth 100000 in
theorem nX6_layOut_39_ok (N : Nat) (c33 : Nat → Int32 → ra_H → Option ra_H) (hc33 : ∀ a0 a1 h r, c33 a0 a1 h = some r → ra_Ru 4 mX6_layOut 33 [some (.ref a0), some (.int a1), none, none] [] h (ra_oV r)) : ∀ n a0 a1 a2 h r, nX6_layOut_39 N c33 n a0 a1 a2 h = some r → ra_Ru 4 mX6_layOut 39 [some (.ref a0), some (.int a1), some (.int a2), none] [] h (ra_oV r) := by
  intro n
  induction n with
  | zero => intro a0 a1 a2 h r e; cases e
  | succ n ih =>
    intro a0 a1 a2 h r e
    exact ra_sound (by omega) rfl ra_rV_ok (kX6_layOut_39_ok N c33 hc33 (nX6_layOut_39 N c33 n) ih) (fun m av h h1 e => (tVX6_layOut_ok N) m av h h1 e) (fun m av h x h1 e => (tIX6_layOut_ok N) m av h (x, h1) e) (fun m av h x h1 e => (ra_c0_ok (ro := ra_oJ)) m av h (x, h1) e) (fun m av h x h1 e => (ra_c0_ok (ro := ra_oR)) m av h (x, h1) e) (fun m av h x h1 e => (ra_c0_ok (ro := ra_oN)) m av h (x, h1) e) (fun m av h x h1 e => (ra_c0_ok (ro := ra_oF)) m av h (x, h1) e) 36 lX6_layOut_39 _ _ _ _ lX6_layOut_39_ck (show ra_run ra_rV (kX6_layOut_39 N c33 (nX6_layOut_39 N c33 n)) (tVX6_layOut N) (tIX6_layOut N) ra_c0 ra_c0 ra_c0 ra_c0 36 lX6_layOut_39 [some (.ref a0), some (.int a1), some (.int a2), none] [] h = some r from e) _ _ rfl
def lX6_layOut_33 : List ra_I := [(33, .iload_n 1, 1, 1, 0, 0, 0, 0, []),
  (34, .ifCond .le (70), 3, 104, 0, 0, 0, 0, []),
  (37, .iconst (0), 1, 0, 0, 0, (0), 0, []),
  (38, .istore_n 2, 1, 2, 0, 0, 0, 0, []),
  (104, .aload_n 0, 1, 0, 0, 0, 0, 0, []),
  (105, .invokevirtual 52, 3, 183, 1, 0, 0, 0, []),
  (108, .return_, 1, 0, 0, 0, 0, 0, [])]
set_option maxRecDepth 100000 in
theorem lX6_layOut_33_ck : lX6_layOut_33.all (ra_ck mX6_layOut 6) = true := by decide +kernel
def nX6_layOut_33 (N : Nat) : Nat → Nat → Int32 → ra_H → Option ra_H
  | 0, _, _, _ => none
  | n + 1, a0, a1, h =>
  if a1 ≤ 0 then
    (fX6_takeFirstRow N a0 h).bind fun h1 =>
    some h1
  else
    nX6_layOut_39 N (nX6_layOut_33 N n) N a0 a1 ((0 : Int32)) h
def kX6_layOut_33 (N : Nat) (cs : Nat → Int32 → ra_H → Option ra_H) : Nat → List (Option Value) → List Value → ra_H → Option ra_H := (ra_k1 39 (fun L S h => match L, S with
  | [some (.ref a0), some (.int a1), some (.int a2), _], [] => nX6_layOut_39 N cs N a0 a1 a2 h
  | _, _ => none) ra_k0)
theorem kX6_layOut_33_ok (N : Nat) (cs : Nat → Int32 → ra_H → Option ra_H) (hcs : ∀ a0 a1 h r, cs a0 a1 h = some r → ra_Ru 4 mX6_layOut 33 [some (.ref a0), some (.int a1), none, none] [] h (ra_oV r)) : ra_kok 4 mX6_layOut ra_oV (kX6_layOut_33 N cs) := (ra_k1_ok (by
  intro L S h a e
  split at e
  · exact ra_Ru.weak (nX6_layOut_39_ok N cs hcs N _ _ _ _ _ e) ⟨rfl, ⟨rfl, ⟨rfl, trivial⟩⟩⟩
  · cases e) ra_k0_ok)
set_option maxRecDepth 100000 in
theorem nX6_layOut_33_ok (N : Nat) : ∀ n a0 a1 h r, nX6_layOut_33 N n a0 a1 h = some r → ra_Ru 4 mX6_layOut 33 [some (.ref a0), some (.int a1), none, none] [] h (ra_oV r) := by
  intro n
  induction n with
  | zero => intro a0 a1 h r e; cases e
  | succ n ih =>
    intro a0 a1 h r e
    exact ra_sound (by omega) rfl ra_rV_ok (kX6_layOut_33_ok N (nX6_layOut_33 N n) ih) (fun m av h h1 e => (tVX6_layOut_ok N) m av h h1 e) (fun m av h x h1 e => (tIX6_layOut_ok N) m av h (x, h1) e) (fun m av h x h1 e => (ra_c0_ok (ro := ra_oJ)) m av h (x, h1) e) (fun m av h x h1 e => (ra_c0_ok (ro := ra_oR)) m av h (x, h1) e) (fun m av h x h1 e => (ra_c0_ok (ro := ra_oN)) m av h (x, h1) e) (fun m av h x h1 e => (ra_c0_ok (ro := ra_oF)) m av h (x, h1) e) 8 lX6_layOut_33 _ _ _ _ lX6_layOut_33_ck (show ra_run ra_rV (kX6_layOut_33 N (nX6_layOut_33 N n)) (tVX6_layOut N) (tIX6_layOut N) ra_c0 ra_c0 ra_c0 ra_c0 8 lX6_layOut_33 [some (.ref a0), some (.int a1), none, none] [] h = some r from e) _ _ rfl
def lX6_layOut_0 : List ra_I := [(0, .aload_n 0, 1, 0, 0, 0, 0, 0, []),
  (1, .getfield 28, 3, 6, 4, 0, 0, 0, []),
  (4, .ifCond .eq (4), 3, 8, 0, 0, 0, 0, []),
  (7, .return_, 1, 0, 0, 0, 0, 0, []),
  (8, .aload_n 0, 1, 0, 0, 0, 0, 0, []),
  (9, .iconst (1), 1, 0, 0, 0, (1), 0, []),
  (10, .putfield 28, 3, 6, 4, 4, 0, 0, []),
  (13, .aload_n 0, 1, 0, 0, 0, 0, 0, []),
  (14, .invokevirtual 32, 3, 179, 1, 0, 0, 0, []),
  (17, .aload_n 0, 1, 0, 0, 0, 0, 0, []),
  (18, .invokevirtual 35, 3, 180, 1, 0, 0, 0, []),
  (21, .iconst (1), 1, 0, 0, 0, (1), 0, []),
  (22, .aload_n 0, 1, 0, 0, 0, 0, 0, []),
  (23, .getfield 24, 3, 6, 0, 2, 0, 0, []),
  (26, .getfield 38, 3, 2, 16, 0, 0, 0, []),
  (29, .ishl, 1, 0, 0, 0, 0, 0, []),
  (30, .iconst (1), 1, 0, 0, 0, (1), 0, []),
  (31, .isub, 1, 0, 0, 0, 0, 0, []),
  (32, .istore_n 1, 1, 1, 0, 0, 0, 0, [])]
set_option maxRecDepth 100000 in
theorem lX6_layOut_0_ck : lX6_layOut_0.all (ra_ck mX6_layOut 6) = true := by decide +kernel
def nX6_layOut_0 (N : Nat) (a0 : Nat) (h : ra_H) : Option ra_H :=
  (ra_fI h 6 a0 4).bind fun x1 =>
  if x1 = 0 then
    if ((1 : Int32)) = 0 ∨ ((1 : Int32)) = 1 then
    (ra_fW h 6 a0 4 (.int ((1 : Int32)))).bind fun h2 =>
    (fX6_sortStack N a0 h2).bind fun h3 =>
    (fX6_measureSteps N a0 h3).bind fun h4 =>
    (ra_fR h4 6 a0 0).bind fun x5 =>
    (ra_fI h4 2 x5 16).bind fun x6 =>
    let y7 := (((1 : Int32)) <<< (x6 &&& 31)) - ((1 : Int32))
    nX6_layOut_33 N N a0 y7 h4
    else none
  else
    some h
def kX6_layOut_0 (N : Nat) : Nat → List (Option Value) → List Value → ra_H → Option ra_H := (ra_k1 33 (fun L S h => match L, S with
  | [some (.ref a0), some (.int a1), _, _], [] => nX6_layOut_33 N N a0 a1 h
  | _, _ => none) ra_k0)
theorem kX6_layOut_0_ok (N : Nat) : ra_kok 4 mX6_layOut ra_oV (kX6_layOut_0 N) := (ra_k1_ok (by
  intro L S h a e
  split at e
  · exact ra_Ru.weak (nX6_layOut_33_ok N N _ _ _ _ e) ⟨rfl, ⟨rfl, trivial⟩⟩
  · cases e) ra_k0_ok)
set_option maxRecDepth 100000 in
theorem nX6_layOut_0_ok (N : Nat) (a0 : Nat) (h : ra_H) (r : ra_H) (e : nX6_layOut_0 N a0 h = some r) : ra_Ru 4 mX6_layOut 0 [some (.ref a0), none, none, none] [] h (ra_oV r) :=
  ra_sound (by omega) rfl ra_rV_ok (kX6_layOut_0_ok N) (fun m av h h1 e => (tVX6_layOut_ok N) m av h h1 e) (fun m av h x h1 e => (tIX6_layOut_ok N) m av h (x, h1) e) (fun m av h x h1 e => (ra_c0_ok (ro := ra_oJ)) m av h (x, h1) e) (fun m av h x h1 e => (ra_c0_ok (ro := ra_oR)) m av h (x, h1) e) (fun m av h x h1 e => (ra_c0_ok (ro := ra_oN)) m av h (x, h1) e) (fun m av h x h1 e => (ra_c0_ok (ro := ra_oF)) m av h (x, h1) e) 20 lX6_layOut_0 _ _ _ _ lX6_layOut_0_ck (show ra_run ra_rV (kX6_layOut_0 N) (tVX6_layOut N) (tIX6_layOut N) ra_c0 ra_c0 ra_c0 ra_c0 20 lX6_layOut_0 [some (.ref a0), none, none, none] [] h = some r from e) _ _ rfl
def fX6_layOut (N : Nat) (p0 : Nat) (h : ra_H) : Option ra_H := match ra_isOb h p0 6 with
  | true => nX6_layOut_0 N p0 h
  | false => none
set_option maxRecDepth 100000 in
theorem mtX6_layOut : ra_MT[178]? = some (mX6_layOut, 1, 0, (1, 11), (6, 3), (6, 4)) := rfl
theorem fX6_layOut_co (N : Nat) (p0 : Nat) (h : ra_H) (r : ra_H) (e : fX6_layOut N p0 h = some r) (D : Nat) (hD : 5 ≤ D) : ra_CO D 178 [.ref p0] h (ra_oV r).1 (ra_oV r).2 := by
  have hw : ra_nw2 [.ref p0] ≤ 4 := Nat.le_of_ble_eq_true rfl
  have hdb : ∀ v ∈ ([.ref p0] : List Value), ∀ x, v ≠ .double x := by
    intro v hv x hx
    simp [hx] at hv
  unfold fX6_layOut at e
  split at e
  · rename_i ho
    have e1 := e
    exact ⟨4, _, mtX6_layOut, hD, ra_ev_of (by decide) hdb hw trivial (ra_Ru.weak (nX6_layOut_0_ok N p0 h _ e1) ⟨rfl, trivial⟩), (fun _ => ⟨_, _, rfl, ra_rcv_of ho (by decide) rfl⟩), (fun h => absurd h (by decide))⟩
  · cases e
/-! RedMarks.isShelf(II)Z -/
def mX11_isShelf : ra_M := (yX11_isShelf, cX11_isShelf, 2, (some .boolean))
def lX11_isShelf_25 : List ra_I := [(25, .ireturn, 1, 0, 0, 0, 0, 0, [])]
set_option maxRecDepth 100000 in
theorem lX11_isShelf_25_ck : lX11_isShelf_25.all (ra_ck mX11_isShelf 11) = true := by decide +kernel
def nX11_isShelf_25 (N : Nat) (b0 : Int32) (h : ra_H) : Option (Int32 × ra_H) :=
  some (b0, h)
def kX11_isShelf_25 (N : Nat) : Nat → List (Option Value) → List Value → ra_H → Option (Int32 × ra_H) := ra_k0
theorem kX11_isShelf_25_ok (N : Nat) : ra_kok 1 mX11_isShelf ra_oI (kX11_isShelf_25 N) := ra_k0_ok
set_option maxRecDepth 100000 in
theorem nX11_isShelf_25_ok (N : Nat) (b0 : Int32) (h : ra_H) (r : (Int32 × ra_H)) (e : nX11_isShelf_25 N b0 h = some r) : ra_Ru 1 mX11_isShelf 25 [none, none] [.int b0] h (ra_oI r) :=
  ra_sound (by omega) rfl ra_rI_ok (kX11_isShelf_25_ok N) (fun m av h h1 e => (ra_c0_ok (ro := ra_oV)) m av h h1 e) (fun m av h x h1 e => (ra_c0_ok (ro := ra_oI)) m av h (x, h1) e) (fun m av h x h1 e => (ra_c0_ok (ro := ra_oJ)) m av h (x, h1) e) (fun m av h x h1 e => (ra_c0_ok (ro := ra_oR)) m av h (x, h1) e) (fun m av h x h1 e => (ra_c0_ok (ro := ra_oN)) m av h (x, h1) e) (fun m av h x h1 e => (ra_c0_ok (ro := ra_oF)) m av h (x, h1) e) 2 lX11_isShelf_25 _ _ _ _ lX11_isShelf_25_ck (show ra_run ra_rI (kX11_isShelf_25 N) ra_c0 ra_c0 ra_c0 ra_c0 ra_c0 ra_c0 2 lX11_isShelf_25 [none, none] [.int b0] h = some r from e) _ _ rfl
def lX11_isShelf_24 : List ra_I := [(24, .iconst (0), 1, 0, 0, 0, (0), 0, [])]
set_option maxRecDepth 100000 in
theorem lX11_isShelf_24_ck : lX11_isShelf_24.all (ra_ck mX11_isShelf 11) = true := by decide +kernel
def nX11_isShelf_24 (N : Nat) (h : ra_H) : Option (Int32 × ra_H) :=
  nX11_isShelf_25 N ((0 : Int32)) h
def kX11_isShelf_24 (N : Nat) : Nat → List (Option Value) → List Value → ra_H → Option (Int32 × ra_H) := (ra_k1 25 (fun L S h => match L, S with
  | [_, _], [.int b0] => nX11_isShelf_25 N b0 h
  | _, _ => none) ra_k0)
theorem kX11_isShelf_24_ok (N : Nat) : ra_kok 1 mX11_isShelf ra_oI (kX11_isShelf_24 N) := (ra_k1_ok (by
  intro L S h a e
  split at e
  · exact ra_Ru.weak (nX11_isShelf_25_ok N _ _ _ e) trivial
  · cases e) ra_k0_ok)
set_option maxRecDepth 100000 in
theorem nX11_isShelf_24_ok (N : Nat) (h : ra_H) (r : (Int32 × ra_H)) (e : nX11_isShelf_24 N h = some r) : ra_Ru 1 mX11_isShelf 24 [none, none] [] h (ra_oI r) :=
  ra_sound (by omega) rfl ra_rI_ok (kX11_isShelf_24_ok N) (fun m av h h1 e => (ra_c0_ok (ro := ra_oV)) m av h h1 e) (fun m av h x h1 e => (ra_c0_ok (ro := ra_oI)) m av h (x, h1) e) (fun m av h x h1 e => (ra_c0_ok (ro := ra_oJ)) m av h (x, h1) e) (fun m av h x h1 e => (ra_c0_ok (ro := ra_oR)) m av h (x, h1) e) (fun m av h x h1 e => (ra_c0_ok (ro := ra_oN)) m av h (x, h1) e) (fun m av h x h1 e => (ra_c0_ok (ro := ra_oF)) m av h (x, h1) e) 2 lX11_isShelf_24 _ _ _ _ lX11_isShelf_24_ck (show ra_run ra_rI (kX11_isShelf_24 N) ra_c0 ra_c0 ra_c0 ra_c0 ra_c0 ra_c0 2 lX11_isShelf_24 [none, none] [] h = some r from e) _ _ rfl
def lX11_isShelf_0 : List ra_I := [(0, .iload_n 0, 1, 0, 0, 0, 0, 0, []),
  (1, .ifCond .lt (23), 3, 24, 0, 0, 0, 0, []),
  (4, .iload_n 0, 1, 0, 0, 0, 0, 0, []),
  (5, .bipush (9), 2, 0, 0, 0, (9), 0, []),
  (7, .if_icmp .ge (17), 3, 24, 0, 0, 0, 0, []),
  (10, .iload_n 1, 1, 1, 0, 0, 0, 0, []),
  (11, .ifCond .lt (13), 3, 24, 0, 0, 0, 0, []),
  (14, .iload_n 1, 1, 1, 0, 0, 0, 0, []),
  (15, .bipush (6), 2, 0, 0, 0, (6), 0, []),
  (17, .if_icmp .ge (7), 3, 24, 0, 0, 0, 0, []),
  (20, .iconst (1), 1, 0, 0, 0, (1), 0, []),
  (21, .goto (4), 3, 25, 0, 0, 0, 0, [])]
set_option maxRecDepth 100000 in
theorem lX11_isShelf_0_ck : lX11_isShelf_0.all (ra_ck mX11_isShelf 11) = true := by decide +kernel
def nX11_isShelf_0 (N : Nat) (a0 : Int32) (a1 : Int32) (h : ra_H) : Option (Int32 × ra_H) :=
  if a0 < 0 then
    nX11_isShelf_24 N h
  else
    if a0 < ((9 : Int32)) then
      if a1 < 0 then
        nX11_isShelf_24 N h
      else
        if a1 < ((6 : Int32)) then
          nX11_isShelf_25 N ((1 : Int32)) h
        else
          nX11_isShelf_24 N h
    else
      nX11_isShelf_24 N h
def kX11_isShelf_0 (N : Nat) : Nat → List (Option Value) → List Value → ra_H → Option (Int32 × ra_H) := (ra_k1 24 (fun L S h => match L, S with
  | [_, _], [] => nX11_isShelf_24 N h
  | _, _ => none) (ra_k1 25 (fun L S h => match L, S with
  | [_, _], [.int b0] => nX11_isShelf_25 N b0 h
  | _, _ => none) ra_k0))
theorem kX11_isShelf_0_ok (N : Nat) : ra_kok 1 mX11_isShelf ra_oI (kX11_isShelf_0 N) := (ra_k1_ok (by
  intro L S h a e
  split at e
  · exact ra_Ru.weak (nX11_isShelf_24_ok N _ _ e) trivial
  · cases e) (ra_k1_ok (by
  intro L S h a e
  split at e
  · exact ra_Ru.weak (nX11_isShelf_25_ok N _ _ _ e) trivial
  · cases e) ra_k0_ok))
set_option maxRecDepth 100000 in
theorem nX11_isShelf_0_ok (N : Nat) (a0 : Int32) (a1 : Int32) (h : ra_H) (r : (Int32 × ra_H)) (e : nX11_isShelf_0 N a0 a1 h = some r) : ra_Ru 1 mX11_isShelf 0 [some (.int a0), some (.int a1)] [] h (ra_oI r) :=
  ra_sound (by omega) rfl ra_rI_ok (kX11_isShelf_0_ok N) (fun m av h h1 e => (ra_c0_ok (ro := ra_oV)) m av h h1 e) (fun m av h x h1 e => (ra_c0_ok (ro := ra_oI)) m av h (x, h1) e) (fun m av h x h1 e => (ra_c0_ok (ro := ra_oJ)) m av h (x, h1) e) (fun m av h x h1 e => (ra_c0_ok (ro := ra_oR)) m av h (x, h1) e) (fun m av h x h1 e => (ra_c0_ok (ro := ra_oN)) m av h (x, h1) e) (fun m av h x h1 e => (ra_c0_ok (ro := ra_oF)) m av h (x, h1) e) 13 lX11_isShelf_0 _ _ _ _ lX11_isShelf_0_ck (show ra_run ra_rI (kX11_isShelf_0 N) ra_c0 ra_c0 ra_c0 ra_c0 ra_c0 ra_c0 13 lX11_isShelf_0 [some (.int a0), some (.int a1)] [] h = some r from e) _ _ rfl
def fX11_isShelf (N : Nat) (p0 : Int32) (p1 : Int32) (h : ra_H) : Option (Int32 × ra_H) := (nX11_isShelf_0 N p0 p1 h).bind (fun q => ra_rz q.1 q.2)
set_option maxRecDepth 100000 in
theorem mtX11_isShelf : ra_MT[34]? = some (mX11_isShelf, 0, 2, (1, 1), (3, 78), (0, 0)) := rfl
theorem fX11_isShelf_co (N : Nat) (p0 : Int32) (p1 : Int32) (h : ra_H) (r : (Int32 × ra_H)) (e : fX11_isShelf N p0 p1 h = some r) (D : Nat) (hD : 2 ≤ D) : ra_CO D 34 [.int p0, .int p1] h (ra_oI r).1 (ra_oI r).2 := by
  have hw : ra_nw2 [.int p0, .int p1] ≤ 2 := Nat.le_of_ble_eq_true rfl
  have hdb : ∀ v ∈ ([.int p0, .int p1] : List Value), ∀ x, v ≠ .double x := by
    intro v hv x hx
    simp [hx] at hv
  unfold fX11_isShelf at e
  obtain ⟨q, e1, e2⟩ := Option.bind_eq_some_iff.mp e
  obtain ⟨rfl, hz⟩ := ra_rz_of e2
  exact ⟨1, _, mtX11_isShelf, hD, ra_ev_of (by decide) hdb hw hz (ra_Ru.weak (nX11_isShelf_0_ok N p0 p1 h _ e1) ⟨rfl, ⟨rfl, trivial⟩⟩), (fun h => absurd h (by decide)), (fun h => absurd h (by decide))⟩
/-! RedMarks$Histories.seatNumber(III)I -/
def mX1_seatNumber : ra_M := (yX1_seatNumber, cX1_seatNumber, 3, (some .int))
def tIX1_seatNumber (N : Nat) : Nat → List Value → ra_H → Option (Int32 × ra_H) := (ra_c1 34 (fun av h => match av with
  | [.int z0, .int z1] => fX11_isShelf N z0 z1 h
  | _ => none) ra_c0)
theorem tIX1_seatNumber_ok (N : Nat) : ra_cok 2 ra_oI (tIX1_seatNumber N) := (ra_c1_ok (by
  intro av h a e
  split at e
  · exact fX11_isShelf_co N _ _ _ _ e 2 (by omega)
  · cases e) ra_c0_ok)
def lX1_seatNumber_19 : List ra_I := [(19, .iconst (-1), 1, 0, 0, 0, (-1), 0, []),
  (20, .ireturn, 1, 0, 0, 0, 0, 0, [])]
set_option maxRecDepth 100000 in
theorem lX1_seatNumber_19_ck : lX1_seatNumber_19.all (ra_ck mX1_seatNumber 1) = true := by decide +kernel
def nX1_seatNumber_19 (N : Nat) (h : ra_H) : Option (Int32 × ra_H) :=
  some ((-1 : Int32), h)
def kX1_seatNumber_19 (N : Nat) : Nat → List (Option Value) → List Value → ra_H → Option (Int32 × ra_H) := ra_k0
theorem kX1_seatNumber_19_ok (N : Nat) : ra_kok 2 mX1_seatNumber ra_oI (kX1_seatNumber_19 N) := ra_k0_ok
set_option maxRecDepth 100000 in
theorem nX1_seatNumber_19_ok (N : Nat) (h : ra_H) (r : (Int32 × ra_H)) (e : nX1_seatNumber_19 N h = some r) : ra_Ru 2 mX1_seatNumber 19 [none, none, none] [] h (ra_oI r) :=
  ra_sound (by omega) rfl ra_rI_ok (kX1_seatNumber_19_ok N) (fun m av h h1 e => (ra_c0_ok (ro := ra_oV)) m av h h1 e) (fun m av h x h1 e => (tIX1_seatNumber_ok N) m av h (x, h1) e) (fun m av h x h1 e => (ra_c0_ok (ro := ra_oJ)) m av h (x, h1) e) (fun m av h x h1 e => (ra_c0_ok (ro := ra_oR)) m av h (x, h1) e) (fun m av h x h1 e => (ra_c0_ok (ro := ra_oN)) m av h (x, h1) e) (fun m av h x h1 e => (ra_c0_ok (ro := ra_oF)) m av h (x, h1) e) 3 lX1_seatNumber_19 _ _ _ _ lX1_seatNumber_19_ck (show ra_run ra_rI (kX1_seatNumber_19 N) ra_c0 (tIX1_seatNumber N) ra_c0 ra_c0 ra_c0 ra_c0 3 lX1_seatNumber_19 [none, none, none] [] h = some r from e) _ _ rfl
def lX1_seatNumber_0 : List ra_I := [(0, .iload_n 0, 1, 0, 0, 0, 0, 0, []),
  (1, .iload_n 1, 1, 1, 0, 0, 0, 0, []),
  (2, .invokestatic 89, 3, 34, 2, 11, 0, 0, []),
  (5, .ifCond .eq (14), 3, 19, 0, 0, 0, 0, []),
  (8, .iload_n 2, 1, 2, 0, 0, 0, 0, []),
  (9, .iconst (1), 1, 0, 0, 0, (1), 0, []),
  (10, .if_icmp .lt (9), 3, 19, 0, 0, 0, 0, []),
  (13, .iload_n 2, 1, 2, 0, 0, 0, 0, []),
  (14, .bipush (99), 2, 0, 0, 0, (99), 0, []),
  (16, .if_icmp .le (5), 3, 21, 0, 0, 0, 0, []),
  (21, .iload_n 0, 1, 0, 0, 0, 0, 0, []),
  (22, .bipush (6), 2, 0, 0, 0, (6), 0, []),
  (24, .imul, 1, 0, 0, 0, 0, 0, []),
  (25, .iload_n 1, 1, 1, 0, 0, 0, 0, []),
  (26, .iadd, 1, 0, 0, 0, 0, 0, []),
  (27, .bipush (99), 2, 0, 0, 0, (99), 0, []),
  (29, .imul, 1, 0, 0, 0, 0, 0, []),
  (30, .iload_n 2, 1, 2, 0, 0, 0, 0, []),
  (31, .iadd, 1, 0, 0, 0, 0, 0, []),
  (32, .iconst (1), 1, 0, 0, 0, (1), 0, []),
  (33, .isub, 1, 0, 0, 0, 0, 0, []),
  (34, .ireturn, 1, 0, 0, 0, 0, 0, [])]
set_option maxRecDepth 100000 in
theorem lX1_seatNumber_0_ck : lX1_seatNumber_0.all (ra_ck mX1_seatNumber 1) = true := by decide +kernel
def nX1_seatNumber_0 (N : Nat) (a0 : Int32) (a1 : Int32) (a2 : Int32) (h : ra_H) : Option (Int32 × ra_H) :=
  (fX11_isShelf N a0 a1 h).bind fun q1 =>
  if q1.1 = 0 then
    nX1_seatNumber_19 N q1.2
  else
    if a2 < ((1 : Int32)) then
      nX1_seatNumber_19 N q1.2
    else
      if a2 ≤ ((99 : Int32)) then
        some (((((a0 * ((6 : Int32))) + a1) * ((99 : Int32))) + a2) - ((1 : Int32)), q1.2)
      else
        nX1_seatNumber_19 N q1.2
def kX1_seatNumber_0 (N : Nat) : Nat → List (Option Value) → List Value → ra_H → Option (Int32 × ra_H) := (ra_k1 19 (fun L S h => match L, S with
  | [_, _, _], [] => nX1_seatNumber_19 N h
  | _, _ => none) ra_k0)
theorem kX1_seatNumber_0_ok (N : Nat) : ra_kok 2 mX1_seatNumber ra_oI (kX1_seatNumber_0 N) := (ra_k1_ok (by
  intro L S h a e
  split at e
  · exact ra_Ru.weak (nX1_seatNumber_19_ok N _ _ e) trivial
  · cases e) ra_k0_ok)
set_option maxRecDepth 100000 in
theorem nX1_seatNumber_0_ok (N : Nat) (a0 : Int32) (a1 : Int32) (a2 : Int32) (h : ra_H) (r : (Int32 × ra_H)) (e : nX1_seatNumber_0 N a0 a1 a2 h = some r) : ra_Ru 2 mX1_seatNumber 0 [some (.int a0), some (.int a1), some (.int a2)] [] h (ra_oI r) :=
  ra_sound (by omega) rfl ra_rI_ok (kX1_seatNumber_0_ok N) (fun m av h h1 e => (ra_c0_ok (ro := ra_oV)) m av h h1 e) (fun m av h x h1 e => (tIX1_seatNumber_ok N) m av h (x, h1) e) (fun m av h x h1 e => (ra_c0_ok (ro := ra_oJ)) m av h (x, h1) e) (fun m av h x h1 e => (ra_c0_ok (ro := ra_oR)) m av h (x, h1) e) (fun m av h x h1 e => (ra_c0_ok (ro := ra_oN)) m av h (x, h1) e) (fun m av h x h1 e => (ra_c0_ok (ro := ra_oF)) m av h (x, h1) e) 23 lX1_seatNumber_0 _ _ _ _ lX1_seatNumber_0_ck (show ra_run ra_rI (kX1_seatNumber_0 N) ra_c0 (tIX1_seatNumber N) ra_c0 ra_c0 ra_c0 ra_c0 23 lX1_seatNumber_0 [some (.int a0), some (.int a1), some (.int a2)] [] h = some r from e) _ _ rfl
def fX1_seatNumber (N : Nat) (p0 : Int32) (p1 : Int32) (p2 : Int32) (h : ra_H) : Option (Int32 × ra_H) := nX1_seatNumber_0 N p0 p1 p2 h
set_option maxRecDepth 100000 in
theorem mtX1_seatNumber : ra_MT[89]? = some (mX1_seatNumber, 0, 3, (1, 6), (4, 106), (0, 0)) := rfl
theorem fX1_seatNumber_co (N : Nat) (p0 : Int32) (p1 : Int32) (p2 : Int32) (h : ra_H) (r : (Int32 × ra_H)) (e : fX1_seatNumber N p0 p1 p2 h = some r) (D : Nat) (hD : 3 ≤ D) : ra_CO D 89 [.int p0, .int p1, .int p2] h (ra_oI r).1 (ra_oI r).2 := by
  have hw : ra_nw2 [.int p0, .int p1, .int p2] ≤ 3 := Nat.le_of_ble_eq_true rfl
  have hdb : ∀ v ∈ ([.int p0, .int p1, .int p2] : List Value), ∀ x, v ≠ .double x := by
    intro v hv x hx
    simp [hx] at hv
  unfold fX1_seatNumber at e
  have e1 := e
  exact ⟨2, _, mtX1_seatNumber, hD, ra_ev_of (by decide) hdb hw trivial (ra_Ru.weak (nX1_seatNumber_0_ok N p0 p1 p2 h _ e1) ⟨rfl, ⟨rfl, ⟨rfl, trivial⟩⟩⟩), (fun h => absurd h (by decide)), (fun h => absurd h (by decide))⟩
/-! RedMarks$Histories.seatOf(II)I -/
def mX1_seatOf : ra_M := (yX1_seatOf, cX1_seatOf, 8, (some .int))
def tIX1_seatOf (N : Nat) : Nat → List Value → ra_H → Option (Int32 × ra_H) := (ra_c1 84 (fun av h => match av with
  | [.ref z0, .int z1] => fX2_isMarked N z0 z1 h
  | _ => none) (ra_c1 85 (fun av h => match av with
  | [.ref z0, .ref z1, .int z2, .ref z3, .int z4] => fX0_told N z0 z1 z2 z3 z4 h
  | _ => none) (ra_c1 89 (fun av h => match av with
  | [.int z0, .int z1, .int z2] => fX1_seatNumber N z0 z1 z2 h
  | _ => none) ra_c0)))
theorem tIX1_seatOf_ok (N : Nat) : ra_cok 4 ra_oI (tIX1_seatOf N) := (ra_c1_ok (by
  intro av h a e
  split at e
  · exact fX2_isMarked_co N _ _ _ _ e 4 (by omega)
  · cases e) (ra_c1_ok (by
  intro av h a e
  split at e
  · exact fX0_told_co N _ _ _ _ _ _ _ e 4 (by omega)
  · cases e) (ra_c1_ok (by
  intro av h a e
  split at e
  · exact fX1_seatNumber_co N _ _ _ _ _ e 4 (by omega)
  · cases e) ra_c0_ok)))
def lX1_seatOf_147 : List ra_I := [(147, .aload_n 0, 1, 0, 0, 0, 0, 0, []),
  (148, .getfield 9, 3, 1, 2, 2, 0, 0, []),
  (151, .iload_n 3, 1, 3, 0, 0, 0, 0, []),
  (152, .iaload, 1, 0, 0, 0, 0, 0, []),
  (153, .ireturn, 1, 0, 0, 0, 0, 0, [])]
set_option maxRecDepth 100000 in
theorem lX1_seatOf_147_ck : lX1_seatOf_147.all (ra_ck mX1_seatOf 1) = true := by decide +kernel
def nX1_seatOf_147 (N : Nat) (a0 : Nat) (a3 : Int32) (h : ra_H) : Option (Int32 × ra_H) :=
  (ra_fR h 1 a0 2).bind fun x1 =>
  (ra_aI h 0 x1 a3).bind fun x2 =>
  some (x2, h)
def kX1_seatOf_147 (N : Nat) : Nat → List (Option Value) → List Value → ra_H → Option (Int32 × ra_H) := ra_k0
theorem kX1_seatOf_147_ok (N : Nat) : ra_kok 4 mX1_seatOf ra_oI (kX1_seatOf_147 N) := ra_k0_ok
set_option maxRecDepth 100000 in
theorem nX1_seatOf_147_ok (N : Nat) (a0 : Nat) (a3 : Int32) (h : ra_H) (r : (Int32 × ra_H)) (e : nX1_seatOf_147 N a0 a3 h = some r) : ra_Ru 4 mX1_seatOf 147 [some (.ref a0), none, none, some (.int a3), none, none, none, none] [] h (ra_oI r) :=
  ra_sound (by omega) rfl ra_rI_ok (kX1_seatOf_147_ok N) (fun m av h h1 e => (ra_c0_ok (ro := ra_oV)) m av h h1 e) (fun m av h x h1 e => (tIX1_seatOf_ok N) m av h (x, h1) e) (fun m av h x h1 e => (ra_c0_ok (ro := ra_oJ)) m av h (x, h1) e) (fun m av h x h1 e => (ra_c0_ok (ro := ra_oR)) m av h (x, h1) e) (fun m av h x h1 e => (ra_c0_ok (ro := ra_oN)) m av h (x, h1) e) (fun m av h x h1 e => (ra_c0_ok (ro := ra_oF)) m av h (x, h1) e) 6 lX1_seatOf_147 _ _ _ _ lX1_seatOf_147_ck (show ra_run ra_rI (kX1_seatOf_147 N) ra_c0 (tIX1_seatOf N) ra_c0 ra_c0 ra_c0 ra_c0 6 lX1_seatOf_147 [some (.ref a0), none, none, some (.int a3), none, none, none, none] [] h = some r from e) _ _ rfl
def lX1_seatOf_141 : List ra_I := [(141, .iload 7, 2, 7, 0, 0, 0, 0, []),
  (143, .invokestatic 85, 3, 89, 3, 1, 0, 0, []),
  (146, .iastore, 1, 0, 0, 0, 0, 0, [])]
set_option maxRecDepth 100000 in
theorem lX1_seatOf_141_ck : lX1_seatOf_141.all (ra_ck mX1_seatOf 1) = true := by decide +kernel
def nX1_seatOf_141 (N : Nat) (a0 : Nat) (a3 : Int32) (a7 : Int32) (b0 : Nat) (b1 : Int32) (b2 : Int32) (b3 : Int32) (h : ra_H) : Option (Int32 × ra_H) :=
  (fX1_seatNumber N b2 b3 a7 h).bind fun q1 =>
  (ra_aW q1.2 0 b0 b1 q1.1).bind fun h2 =>
  nX1_seatOf_147 N a0 a3 h2
def kX1_seatOf_141 (N : Nat) : Nat → List (Option Value) → List Value → ra_H → Option (Int32 × ra_H) := (ra_k1 147 (fun L S h => match L, S with
  | [some (.ref a0), _, _, some (.int a3), _, _, _, _], [] => nX1_seatOf_147 N a0 a3 h
  | _, _ => none) ra_k0)
theorem kX1_seatOf_141_ok (N : Nat) : ra_kok 4 mX1_seatOf ra_oI (kX1_seatOf_141 N) := (ra_k1_ok (by
  intro L S h a e
  split at e
  · exact ra_Ru.weak (nX1_seatOf_147_ok N _ _ _ _ e) ⟨rfl, ⟨rfl, trivial⟩⟩
  · cases e) ra_k0_ok)
set_option maxRecDepth 100000 in
theorem nX1_seatOf_141_ok (N : Nat) (a0 : Nat) (a3 : Int32) (a7 : Int32) (b0 : Nat) (b1 : Int32) (b2 : Int32) (b3 : Int32) (h : ra_H) (r : (Int32 × ra_H)) (e : nX1_seatOf_141 N a0 a3 a7 b0 b1 b2 b3 h = some r) : ra_Ru 4 mX1_seatOf 141 [some (.ref a0), none, none, some (.int a3), none, none, none, some (.int a7)] [.int b3, .int b2, .int b1, .ref b0] h (ra_oI r) :=
  ra_sound (by omega) rfl ra_rI_ok (kX1_seatOf_141_ok N) (fun m av h h1 e => (ra_c0_ok (ro := ra_oV)) m av h h1 e) (fun m av h x h1 e => (tIX1_seatOf_ok N) m av h (x, h1) e) (fun m av h x h1 e => (ra_c0_ok (ro := ra_oJ)) m av h (x, h1) e) (fun m av h x h1 e => (ra_c0_ok (ro := ra_oR)) m av h (x, h1) e) (fun m av h x h1 e => (ra_c0_ok (ro := ra_oN)) m av h (x, h1) e) (fun m av h x h1 e => (ra_c0_ok (ro := ra_oF)) m av h (x, h1) e) 4 lX1_seatOf_141 _ _ _ _ lX1_seatOf_141_ck (show ra_run ra_rI (kX1_seatOf_141 N) ra_c0 (tIX1_seatOf N) ra_c0 ra_c0 ra_c0 ra_c0 4 lX1_seatOf_141 [some (.ref a0), none, none, some (.int a3), none, none, none, some (.int a7)] [.int b3, .int b2, .int b1, .ref b0] h = some r from e) _ _ rfl
def lX1_seatOf_0 : List ra_I := [(0, .iload_n 1, 1, 1, 0, 0, 0, 0, []),
  (1, .bipush (40), 2, 0, 0, 0, (40), 0, []),
  (3, .imul, 1, 0, 0, 0, 0, 0, []),
  (4, .iload_n 2, 1, 2, 0, 0, 0, 0, []),
  (5, .iadd, 1, 0, 0, 0, 0, 0, []),
  (6, .istore_n 3, 1, 3, 0, 0, 0, 0, []),
  (7, .aload_n 0, 1, 0, 0, 0, 0, 0, []),
  (8, .getfield 15, 3, 1, 3, 2, 0, 0, []),
  (11, .iload_n 3, 1, 3, 0, 0, 0, 0, []),
  (12, .baload, 1, 0, 0, 0, 0, 0, []),
  (13, .ifCond .ne (134), 3, 147, 0, 0, 0, 0, []),
  (16, .aload_n 0, 1, 0, 0, 0, 0, 0, []),
  (17, .getfield 15, 3, 1, 3, 2, 0, 0, []),
  (20, .iload_n 3, 1, 3, 0, 0, 0, 0, []),
  (21, .iconst (1), 1, 0, 0, 0, (1), 0, []),
  (22, .bastore, 1, 0, 0, 0, 0, 0, []),
  (23, .aload_n 0, 1, 0, 0, 0, 0, 0, []),
  (24, .getfield 9, 3, 1, 2, 2, 0, 0, []),
  (27, .iload_n 3, 1, 3, 0, 0, 0, 0, []),
  (28, .iconst (-1), 1, 0, 0, 0, (-1), 0, []),
  (29, .iastore, 1, 0, 0, 0, 0, 0, []),
  (30, .aload_n 0, 1, 0, 0, 0, 0, 0, []),
  (31, .getfield 41, 3, 1, 0, 2, 0, 0, []),
  (34, .iload_n 2, 1, 2, 0, 0, 0, 0, []),
  (35, .invokevirtual 63, 3, 84, 2, 1, 0, 0, []),
  (38, .ifCond .eq (109), 3, 147, 0, 0, 0, 0, []),
  (41, .aload_n 0, 1, 0, 0, 0, 0, 0, []),
  (42, .getfield 41, 3, 1, 0, 2, 0, 0, []),
  (45, .getfield 69, 3, 2, 4, 2, 0, 0, []),
  (48, .iload_n 1, 1, 1, 0, 0, 0, 0, []),
  (49, .aaload, 1, 0, 0, 0, 0, 0, []),
  (50, .astore 4, 2, 4, 0, 0, 0, 0, []),
  (52, .aload_n 0, 1, 0, 0, 0, 0, 0, []),
  (53, .getfield 45, 3, 1, 1, 2, 0, 0, []),
  (56, .aload 4, 2, 4, 0, 0, 0, 0, []),
  (58, .iconst (0), 1, 0, 0, 0, (0), 0, []),
  (59, .aload_n 0, 1, 0, 0, 0, 0, 0, []),
  (60, .getfield 41, 3, 1, 0, 2, 0, 0, []),
  (63, .getfield 75, 3, 2, 0, 2, 0, 0, []),
  (66, .iload_n 2, 1, 2, 0, 0, 0, 0, []),
  (67, .bipush (12), 2, 0, 0, 0, (12), 0, []),
  (69, .imul, 1, 0, 0, 0, 0, 0, []),
  (70, .invokevirtual 78, 3, 85, 5, 1, 0, 0, []),
  (73, .istore 5, 2, 5, 0, 0, 0, 0, []),
  (75, .aload_n 0, 1, 0, 0, 0, 0, 0, []),
  (76, .getfield 45, 3, 1, 1, 2, 0, 0, []),
  (79, .aload 4, 2, 4, 0, 0, 0, 0, []),
  (81, .iconst (1), 1, 0, 0, 0, (1), 0, []),
  (82, .aload_n 0, 1, 0, 0, 0, 0, 0, []),
  (83, .getfield 41, 3, 1, 0, 2, 0, 0, []),
  (86, .getfield 75, 3, 2, 0, 2, 0, 0, []),
  (89, .iload_n 2, 1, 2, 0, 0, 0, 0, []),
  (90, .bipush (12), 2, 0, 0, 0, (12), 0, []),
  (92, .imul, 1, 0, 0, 0, 0, 0, []),
  (93, .invokevirtual 78, 3, 85, 5, 1, 0, 0, []),
  (96, .istore 6, 2, 6, 0, 0, 0, 0, []),
  (98, .aload_n 0, 1, 0, 0, 0, 0, 0, []),
  (99, .getfield 45, 3, 1, 1, 2, 0, 0, []),
  (102, .aload 4, 2, 4, 0, 0, 0, 0, []),
  (104, .iconst (2), 1, 0, 0, 0, (2), 0, []),
  (105, .aload_n 0, 1, 0, 0, 0, 0, 0, []),
  (106, .getfield 41, 3, 1, 0, 2, 0, 0, []),
  (109, .getfield 75, 3, 2, 0, 2, 0, 0, []),
  (112, .iload_n 2, 1, 2, 0, 0, 0, 0, []),
  (113, .bipush (12), 2, 0, 0, 0, (12), 0, []),
  (115, .imul, 1, 0, 0, 0, 0, 0, []),
  (116, .invokevirtual 78, 3, 85, 5, 1, 0, 0, []),
  (119, .istore 7, 2, 7, 0, 0, 0, 0, []),
  (121, .aload_n 0, 1, 0, 0, 0, 0, 0, []),
  (122, .getfield 9, 3, 1, 2, 2, 0, 0, []),
  (125, .iload_n 3, 1, 3, 0, 0, 0, 0, []),
  (126, .iload 5, 2, 5, 0, 0, 0, 0, []),
  (128, .iload 6, 2, 6, 0, 0, 0, 0, []),
  (130, .ldc 84, 2, 0, 0, 0, (-2000000000), 0, []),
  (132, .if_icmp .ne (7), 3, 139, 0, 0, 0, 0, []),
  (135, .iconst (0), 1, 0, 0, 0, (0), 0, []),
  (136, .goto (5), 3, 141, 0, 0, 0, 0, []),
  (139, .iload 6, 2, 6, 0, 0, 0, 0, [])]
set_option maxRecDepth 100000 in
theorem lX1_seatOf_0_ck : lX1_seatOf_0.all (ra_ck mX1_seatOf 1) = true := by decide +kernel
def nX1_seatOf_0 (N : Nat) (a0 : Nat) (a1 : Int32) (a2 : Int32) (h : ra_H) : Option (Int32 × ra_H) :=
  let y1 := (a1 * ((40 : Int32))) + a2
  (ra_fR h 1 a0 3).bind fun x2 =>
  (ra_aI h 2 x2 y1).bind fun x3 =>
  if x3 = 0 then
    (ra_fR h 1 a0 3).bind fun x4 =>
    (ra_aW h 2 x4 y1 (vp_nar .boolean ((1 : Int32)))).bind fun h5 =>
    (ra_fR h5 1 a0 2).bind fun x6 =>
    (ra_aW h5 0 x6 y1 ((-1 : Int32))).bind fun h7 =>
    (ra_fR h7 1 a0 0).bind fun x8 =>
    (fX2_isMarked N x8 a2 h7).bind fun q9 =>
    if q9.1 = 0 then
      nX1_seatOf_147 N a0 y1 q9.2
    else
      (ra_fR q9.2 1 a0 0).bind fun x10 =>
      (ra_fR q9.2 2 x10 4).bind fun x11 =>
      (ra_aN q9.2 x11 a1).bind fun r12 => match r12 with
      | none =>
        (ra_fR q9.2 1 a0 1).bind fun x14 =>
        (ra_fR q9.2 1 a0 0).bind fun x15 =>
        (ra_fR q9.2 2 x15 0).bind fun x16 =>
        none
      | some x13 =>
        (ra_fR q9.2 1 a0 1).bind fun x17 =>
        (ra_fR q9.2 1 a0 0).bind fun x18 =>
        (ra_fR q9.2 2 x18 0).bind fun x19 =>
        (fX0_told N x17 x13 ((0 : Int32)) x19 (a2 * ((12 : Int32))) q9.2).bind fun q20 =>
        (ra_fR q20.2 1 a0 1).bind fun x21 =>
        (ra_fR q20.2 1 a0 0).bind fun x22 =>
        (ra_fR q20.2 2 x22 0).bind fun x23 =>
        (fX0_told N x21 x13 ((1 : Int32)) x23 (a2 * ((12 : Int32))) q20.2).bind fun q24 =>
        (ra_fR q24.2 1 a0 1).bind fun x25 =>
        (ra_fR q24.2 1 a0 0).bind fun x26 =>
        (ra_fR q24.2 2 x26 0).bind fun x27 =>
        (fX0_told N x25 x13 ((2 : Int32)) x27 (a2 * ((12 : Int32))) q24.2).bind fun q28 =>
        (ra_fR q28.2 1 a0 2).bind fun x29 =>
        if q24.1 = ((-2000000000 : Int32)) then
          nX1_seatOf_141 N a0 y1 q28.1 x29 y1 q20.1 ((0 : Int32)) q28.2
        else
          nX1_seatOf_141 N a0 y1 q28.1 x29 y1 q20.1 q24.1 q28.2
  else
    nX1_seatOf_147 N a0 y1 h
def kX1_seatOf_0 (N : Nat) : Nat → List (Option Value) → List Value → ra_H → Option (Int32 × ra_H) := (ra_k1 141 (fun L S h => match L, S with
  | [some (.ref a0), _, _, some (.int a3), _, _, _, some (.int a7)], [.int b3, .int b2, .int b1, .ref b0] => nX1_seatOf_141 N a0 a3 a7 b0 b1 b2 b3 h
  | _, _ => none) (ra_k1 147 (fun L S h => match L, S with
  | [some (.ref a0), _, _, some (.int a3), _, _, _, _], [] => nX1_seatOf_147 N a0 a3 h
  | _, _ => none) ra_k0))
theorem kX1_seatOf_0_ok (N : Nat) : ra_kok 4 mX1_seatOf ra_oI (kX1_seatOf_0 N) := (ra_k1_ok (by
  intro L S h a e
  split at e
  · exact ra_Ru.weak (nX1_seatOf_141_ok N _ _ _ _ _ _ _ _ _ e) ⟨rfl, ⟨rfl, ⟨rfl, trivial⟩⟩⟩
  · cases e) (ra_k1_ok (by
  intro L S h a e
  split at e
  · exact ra_Ru.weak (nX1_seatOf_147_ok N _ _ _ _ e) ⟨rfl, ⟨rfl, trivial⟩⟩
  · cases e) ra_k0_ok))
set_option maxRecDepth 100000 in
theorem nX1_seatOf_0_ok (N : Nat) (a0 : Nat) (a1 : Int32) (a2 : Int32) (h : ra_H) (r : (Int32 × ra_H)) (e : nX1_seatOf_0 N a0 a1 a2 h = some r) : ra_Ru 4 mX1_seatOf 0 [some (.ref a0), some (.int a1), some (.int a2), none, none, none, none, none] [] h (ra_oI r) :=
  ra_sound (by omega) rfl ra_rI_ok (kX1_seatOf_0_ok N) (fun m av h h1 e => (ra_c0_ok (ro := ra_oV)) m av h h1 e) (fun m av h x h1 e => (tIX1_seatOf_ok N) m av h (x, h1) e) (fun m av h x h1 e => (ra_c0_ok (ro := ra_oJ)) m av h (x, h1) e) (fun m av h x h1 e => (ra_c0_ok (ro := ra_oR)) m av h (x, h1) e) (fun m av h x h1 e => (ra_c0_ok (ro := ra_oN)) m av h (x, h1) e) (fun m av h x h1 e => (ra_c0_ok (ro := ra_oF)) m av h (x, h1) e) 79 lX1_seatOf_0 _ _ _ _ lX1_seatOf_0_ck (show ra_run ra_rI (kX1_seatOf_0 N) ra_c0 (tIX1_seatOf N) ra_c0 ra_c0 ra_c0 ra_c0 79 lX1_seatOf_0 [some (.ref a0), some (.int a1), some (.int a2), none, none, none, none, none] [] h = some r from e) _ _ rfl
def fX1_seatOf (N : Nat) (p0 : Nat) (p1 : Int32) (p2 : Int32) (h : ra_H) : Option (Int32 × ra_H) := match ra_isOb h p0 1 with
  | true => nX1_seatOf_0 N p0 p1 p2 h
  | false => none
set_option maxRecDepth 100000 in
theorem mtX1_seatOf : ra_MT[83]? = some (mX1_seatOf, 1, 2, (1, 6), (4, 79), (4, 80)) := rfl
theorem fX1_seatOf_co (N : Nat) (p0 : Nat) (p1 : Int32) (p2 : Int32) (h : ra_H) (r : (Int32 × ra_H)) (e : fX1_seatOf N p0 p1 p2 h = some r) (D : Nat) (hD : 5 ≤ D) : ra_CO D 83 [.ref p0, .int p1, .int p2] h (ra_oI r).1 (ra_oI r).2 := by
  have hw : ra_nw2 [.ref p0, .int p1, .int p2] ≤ 8 := Nat.le_of_ble_eq_true rfl
  have hdb : ∀ v ∈ ([.ref p0, .int p1, .int p2] : List Value), ∀ x, v ≠ .double x := by
    intro v hv x hx
    simp [hx] at hv
  unfold fX1_seatOf at e
  split at e
  · rename_i ho
    have e1 := e
    exact ⟨4, _, mtX1_seatOf, hD, ra_ev_of (by decide) hdb hw trivial (ra_Ru.weak (nX1_seatOf_0_ok N p0 p1 p2 h _ e1) ⟨rfl, ⟨rfl, ⟨rfl, trivial⟩⟩⟩), (fun _ => ⟨_, _, rfl, ra_rcv_of ho (by decide) rfl⟩), (fun h => absurd h (by decide))⟩
  · cases e
/-! RedMarks$Histories.sortByYears()V -/
def mX1_sortByYears : ra_M := (yX1_sortByYears, cX1_sortByYears, 3, none)
def tIX1_sortByYears (N : Nat) : Nat → List Value → ra_H → Option (Int32 × ra_H) := (ra_c1 27 (fun av h => match av with
  | [.ref z0, .int z1, .int z2] => fX2_factOf N z0 z1 z2 h
  | _ => none) ra_c0)
theorem tIX1_sortByYears_ok (N : Nat) : ra_cok 2 ra_oI (tIX1_sortByYears N) := (ra_c1_ok (by
  intro av h a e
  split at e
  · exact fX2_factOf_co N _ _ _ _ _ e 2 (by omega)
  · cases e) ra_c0_ok)
def lX1_sortByYears_67 : List ra_I := [(67, .aload_n 0, 1, 0, 0, 0, 0, 0, []),
  (68, .getfield 25, 3, 1, 6, 2, 0, 0, []),
  (71, .iload_n 2, 1, 2, 0, 0, 0, 0, []),
  (72, .iload_n 1, 1, 1, 0, 0, 0, 0, []),
  (73, .iastore, 1, 0, 0, 0, 0, 0, []),
  (74, .iinc 1 (1), 3, 1, 0, 0, (1), 0, []),
  (77, .goto (-75), 3, 2, 0, 0, 0, 0, [])]
set_option maxRecDepth 100000 in
theorem lX1_sortByYears_67_ck : lX1_sortByYears_67.all (ra_ck mX1_sortByYears 1) = true := by decide +kernel
def nX1_sortByYears_67 (N : Nat) (c2 : Nat → Int32 → ra_H → Option ra_H) (a0 : Nat) (a1 : Int32) (a2 : Int32) (h : ra_H) : Option ra_H :=
  (ra_fR h 1 a0 6).bind fun x1 =>
  (ra_aW h 0 x1 a2 a1).bind fun h2 =>
  let y3 := a1 + (1 : Int32)
  c2 a0 y3 h2
def kX1_sortByYears_67 (N : Nat) (c2 : Nat → Int32 → ra_H → Option ra_H) : Nat → List (Option Value) → List Value → ra_H → Option ra_H := (ra_k1 2 (fun L S h => match L, S with
  | [some (.ref a0), some (.int a1), _], [] => c2 a0 a1 h
  | _, _ => none) ra_k0)
theorem kX1_sortByYears_67_ok (N : Nat) (c2 : Nat → Int32 → ra_H → Option ra_H) (hc2 : ∀ a0 a1 h r, c2 a0 a1 h = some r → ra_Ru 2 mX1_sortByYears 2 [some (.ref a0), some (.int a1), none] [] h (ra_oV r)) : ra_kok 2 mX1_sortByYears ra_oV (kX1_sortByYears_67 N c2) := (ra_k1_ok (by
  intro L S h a e
  split at e
  · exact ra_Ru.weak (hc2 _ _ _ _ e) ⟨rfl, ⟨rfl, trivial⟩⟩
  · cases e) ra_k0_ok)
set_option maxRecDepth 100000 in
theorem nX1_sortByYears_67_ok (N : Nat) (c2 : Nat → Int32 → ra_H → Option ra_H) (hc2 : ∀ a0 a1 h r, c2 a0 a1 h = some r → ra_Ru 2 mX1_sortByYears 2 [some (.ref a0), some (.int a1), none] [] h (ra_oV r)) (a0 : Nat) (a1 : Int32) (a2 : Int32) (h : ra_H) (r : ra_H) (e : nX1_sortByYears_67 N c2 a0 a1 a2 h = some r) : ra_Ru 2 mX1_sortByYears 67 [some (.ref a0), some (.int a1), some (.int a2)] [] h (ra_oV r) :=
  ra_sound (by omega) rfl ra_rV_ok (kX1_sortByYears_67_ok N c2 hc2) (fun m av h h1 e => (ra_c0_ok (ro := ra_oV)) m av h h1 e) (fun m av h x h1 e => (tIX1_sortByYears_ok N) m av h (x, h1) e) (fun m av h x h1 e => (ra_c0_ok (ro := ra_oJ)) m av h (x, h1) e) (fun m av h x h1 e => (ra_c0_ok (ro := ra_oR)) m av h (x, h1) e) (fun m av h x h1 e => (ra_c0_ok (ro := ra_oN)) m av h (x, h1) e) (fun m av h x h1 e => (ra_c0_ok (ro := ra_oF)) m av h (x, h1) e) 8 lX1_sortByYears_67 _ _ _ _ lX1_sortByYears_67_ck (show ra_run ra_rV (kX1_sortByYears_67 N c2) ra_c0 (tIX1_sortByYears N) ra_c0 ra_c0 ra_c0 ra_c0 8 lX1_sortByYears_67 [some (.ref a0), some (.int a1), some (.int a2)] [] h = some r from e) _ _ rfl
def lX1_sortByYears_15 : List ra_I := [(15, .iload_n 2, 1, 2, 0, 0, 0, 0, []),
  (16, .ifCond .le (51), 3, 67, 0, 0, 0, 0, []),
  (19, .aload_n 0, 1, 0, 0, 0, 0, 0, []),
  (20, .getfield 41, 3, 1, 0, 2, 0, 0, []),
  (23, .aload_n 0, 1, 0, 0, 0, 0, 0, []),
  (24, .getfield 25, 3, 1, 6, 2, 0, 0, []),
  (27, .iload_n 2, 1, 2, 0, 0, 0, 0, []),
  (28, .iconst (1), 1, 0, 0, 0, (1), 0, []),
  (29, .isub, 1, 0, 0, 0, 0, 0, []),
  (30, .iaload, 1, 0, 0, 0, 0, 0, []),
  (31, .iconst (2), 1, 0, 0, 0, (2), 0, []),
  (32, .invokevirtual 122, 3, 27, 3, 1, 0, 0, []),
  (35, .aload_n 0, 1, 0, 0, 0, 0, 0, []),
  (36, .getfield 41, 3, 1, 0, 2, 0, 0, []),
  (39, .iload_n 1, 1, 1, 0, 0, 0, 0, []),
  (40, .iconst (2), 1, 0, 0, 0, (2), 0, []),
  (41, .invokevirtual 122, 3, 27, 3, 1, 0, 0, []),
  (44, .if_icmp .le (23), 3, 67, 0, 0, 0, 0, []),
  (47, .aload_n 0, 1, 0, 0, 0, 0, 0, []),
  (48, .getfield 25, 3, 1, 6, 2, 0, 0, []),
  (51, .iload_n 2, 1, 2, 0, 0, 0, 0, []),
  (52, .aload_n 0, 1, 0, 0, 0, 0, 0, []),
  (53, .getfield 25, 3, 1, 6, 2, 0, 0, []),
  (56, .iload_n 2, 1, 2, 0, 0, 0, 0, []),
  (57, .iconst (1), 1, 0, 0, 0, (1), 0, []),
  (58, .isub, 1, 0, 0, 0, 0, 0, []),
  (59, .iaload, 1, 0, 0, 0, 0, 0, []),
  (60, .iastore, 1, 0, 0, 0, 0, 0, []),
  (61, .iinc 2 (-1), 3, 2, 0, 0, (-1), 0, []),
  (64, .goto (-49), 3, 15, 0, 0, 0, 0, [])]
set_option maxRecDepth 100000 in
theorem lX1_sortByYears_15_ck : lX1_sortByYears_15.all (ra_ck mX1_sortByYears 1) = true := by decide +kernel
def nX1_sortByYears_15 (N : Nat) (c2 : Nat → Int32 → ra_H → Option ra_H) : Nat → Nat → Int32 → Int32 → ra_H → Option ra_H
  | 0, _, _, _, _ => none
  | n + 1, a0, a1, a2, h =>
  if a2 ≤ 0 then
    nX1_sortByYears_67 N c2 a0 a1 a2 h
  else
    (ra_fR h 1 a0 0).bind fun x1 =>
    (ra_fR h 1 a0 6).bind fun x2 =>
    (ra_aI h 0 x2 (a2 - ((1 : Int32)))).bind fun x3 =>
    (fX2_factOf N x1 x3 ((2 : Int32)) h).bind fun q4 =>
    (ra_fR q4.2 1 a0 0).bind fun x5 =>
    (fX2_factOf N x5 a1 ((2 : Int32)) q4.2).bind fun q6 =>
    if q4.1 ≤ q6.1 then
      nX1_sortByYears_67 N c2 a0 a1 a2 q6.2
    else
      (ra_fR q6.2 1 a0 6).bind fun x7 =>
      (ra_fR q6.2 1 a0 6).bind fun x8 =>
      (ra_aI q6.2 0 x8 (a2 - ((1 : Int32)))).bind fun x9 =>
      (ra_aW q6.2 0 x7 a2 x9).bind fun h10 =>
      let y11 := a2 + (-1 : Int32)
      nX1_sortByYears_15 N c2 n a0 a1 y11 h10
def kX1_sortByYears_15 (N : Nat) (c2 : Nat → Int32 → ra_H → Option ra_H) (cs : Nat → Int32 → Int32 → ra_H → Option ra_H) : Nat → List (Option Value) → List Value → ra_H → Option ra_H := (ra_k1 15 (fun L S h => match L, S with
  | [some (.ref a0), some (.int a1), some (.int a2)], [] => cs a0 a1 a2 h
  | _, _ => none) (ra_k1 67 (fun L S h => match L, S with
  | [some (.ref a0), some (.int a1), some (.int a2)], [] => nX1_sortByYears_67 N c2 a0 a1 a2 h
  | _, _ => none) ra_k0))
theorem kX1_sortByYears_15_ok (N : Nat) (c2 : Nat → Int32 → ra_H → Option ra_H) (hc2 : ∀ a0 a1 h r, c2 a0 a1 h = some r → ra_Ru 2 mX1_sortByYears 2 [some (.ref a0), some (.int a1), none] [] h (ra_oV r)) (cs : Nat → Int32 → Int32 → ra_H → Option ra_H) (hcs : ∀ a0 a1 a2 h r, cs a0 a1 a2 h = some r → ra_Ru 2 mX1_sortByYears 15 [some (.ref a0), some (.int a1), some (.int a2)] [] h (ra_oV r)) : ra_kok 2 mX1_sortByYears ra_oV (kX1_sortByYears_15 N c2 cs) := (ra_k1_ok (by
  intro L S h a e
  split at e
  · exact ra_Ru.weak (hcs _ _ _ _ _ e) ⟨rfl, ⟨rfl, ⟨rfl, trivial⟩⟩⟩
  · cases e) (ra_k1_ok (by
  intro L S h a e
  split at e
  · exact ra_Ru.weak (nX1_sortByYears_67_ok N c2 hc2 _ _ _ _ _ e) ⟨rfl, ⟨rfl, ⟨rfl, trivial⟩⟩⟩
  · cases e) ra_k0_ok))
set_option maxRecDepth 100000 in
theorem nX1_sortByYears_15_ok (N : Nat) (c2 : Nat → Int32 → ra_H → Option ra_H) (hc2 : ∀ a0 a1 h r, c2 a0 a1 h = some r → ra_Ru 2 mX1_sortByYears 2 [some (.ref a0), some (.int a1), none] [] h (ra_oV r)) : ∀ n a0 a1 a2 h r, nX1_sortByYears_15 N c2 n a0 a1 a2 h = some r → ra_Ru 2 mX1_sortByYears 15 [some (.ref a0), some (.int a1), some (.int a2)] [] h (ra_oV r) := by
  intro n
  induction n with
  | zero => intro a0 a1 a2 h r e; cases e
  | succ n ih =>
    intro a0 a1 a2 h r e
    exact ra_sound (by omega) rfl ra_rV_ok (kX1_sortByYears_15_ok N c2 hc2 (nX1_sortByYears_15 N c2 n) ih) (fun m av h h1 e => (ra_c0_ok (ro := ra_oV)) m av h h1 e) (fun m av h x h1 e => (tIX1_sortByYears_ok N) m av h (x, h1) e) (fun m av h x h1 e => (ra_c0_ok (ro := ra_oJ)) m av h (x, h1) e) (fun m av h x h1 e => (ra_c0_ok (ro := ra_oR)) m av h (x, h1) e) (fun m av h x h1 e => (ra_c0_ok (ro := ra_oN)) m av h (x, h1) e) (fun m av h x h1 e => (ra_c0_ok (ro := ra_oF)) m av h (x, h1) e) 31 lX1_sortByYears_15 _ _ _ _ lX1_sortByYears_15_ck (show ra_run ra_rV (kX1_sortByYears_15 N c2 (nX1_sortByYears_15 N c2 n)) ra_c0 (tIX1_sortByYears N) ra_c0 ra_c0 ra_c0 ra_c0 31 lX1_sortByYears_15 [some (.ref a0), some (.int a1), some (.int a2)] [] h = some r from e) _ _ rfl
def lX1_sortByYears_2 : List ra_I := [(2, .iload_n 1, 1, 1, 0, 0, 0, 0, []),
  (3, .aload_n 0, 1, 0, 0, 0, 0, 0, []),
  (4, .getfield 41, 3, 1, 0, 2, 0, 0, []),
  (7, .getfield 119, 3, 2, 13, 0, 0, 0, []),
  (10, .if_icmp .ge (70), 3, 80, 0, 0, 0, 0, []),
  (13, .iload_n 1, 1, 1, 0, 0, 0, 0, []),
  (14, .istore_n 2, 1, 2, 0, 0, 0, 0, []),
  (80, .return_, 1, 0, 0, 0, 0, 0, [])]
set_option maxRecDepth 100000 in
theorem lX1_sortByYears_2_ck : lX1_sortByYears_2.all (ra_ck mX1_sortByYears 1) = true := by decide +kernel
def nX1_sortByYears_2 (N : Nat) : Nat → Nat → Int32 → ra_H → Option ra_H
  | 0, _, _, _ => none
  | n + 1, a0, a1, h =>
  (ra_fR h 1 a0 0).bind fun x1 =>
  (ra_fI h 2 x1 13).bind fun x2 =>
  if a1 < x2 then
    nX1_sortByYears_15 N (nX1_sortByYears_2 N n) N a0 a1 a1 h
  else
    some h
def kX1_sortByYears_2 (N : Nat) (cs : Nat → Int32 → ra_H → Option ra_H) : Nat → List (Option Value) → List Value → ra_H → Option ra_H := (ra_k1 15 (fun L S h => match L, S with
  | [some (.ref a0), some (.int a1), some (.int a2)], [] => nX1_sortByYears_15 N cs N a0 a1 a2 h
  | _, _ => none) ra_k0)
theorem kX1_sortByYears_2_ok (N : Nat) (cs : Nat → Int32 → ra_H → Option ra_H) (hcs : ∀ a0 a1 h r, cs a0 a1 h = some r → ra_Ru 2 mX1_sortByYears 2 [some (.ref a0), some (.int a1), none] [] h (ra_oV r)) : ra_kok 2 mX1_sortByYears ra_oV (kX1_sortByYears_2 N cs) := (ra_k1_ok (by
  intro L S h a e
  split at e
  · exact ra_Ru.weak (nX1_sortByYears_15_ok N cs hcs N _ _ _ _ _ e) ⟨rfl, ⟨rfl, ⟨rfl, trivial⟩⟩⟩
  · cases e) ra_k0_ok)
set_option maxRecDepth 100000 in
theorem nX1_sortByYears_2_ok (N : Nat) : ∀ n a0 a1 h r, nX1_sortByYears_2 N n a0 a1 h = some r → ra_Ru 2 mX1_sortByYears 2 [some (.ref a0), some (.int a1), none] [] h (ra_oV r) := by
  intro n
  induction n with
  | zero => intro a0 a1 h r e; cases e
  | succ n ih =>
    intro a0 a1 h r e
    exact ra_sound (by omega) rfl ra_rV_ok (kX1_sortByYears_2_ok N (nX1_sortByYears_2 N n) ih) (fun m av h h1 e => (ra_c0_ok (ro := ra_oV)) m av h h1 e) (fun m av h x h1 e => (tIX1_sortByYears_ok N) m av h (x, h1) e) (fun m av h x h1 e => (ra_c0_ok (ro := ra_oJ)) m av h (x, h1) e) (fun m av h x h1 e => (ra_c0_ok (ro := ra_oR)) m av h (x, h1) e) (fun m av h x h1 e => (ra_c0_ok (ro := ra_oN)) m av h (x, h1) e) (fun m av h x h1 e => (ra_c0_ok (ro := ra_oF)) m av h (x, h1) e) 9 lX1_sortByYears_2 _ _ _ _ lX1_sortByYears_2_ck (show ra_run ra_rV (kX1_sortByYears_2 N (nX1_sortByYears_2 N n)) ra_c0 (tIX1_sortByYears N) ra_c0 ra_c0 ra_c0 ra_c0 9 lX1_sortByYears_2 [some (.ref a0), some (.int a1), none] [] h = some r from e) _ _ rfl
def lX1_sortByYears_0 : List ra_I := [(0, .iconst (0), 1, 0, 0, 0, (0), 0, []),
  (1, .istore_n 1, 1, 1, 0, 0, 0, 0, [])]
set_option maxRecDepth 100000 in
theorem lX1_sortByYears_0_ck : lX1_sortByYears_0.all (ra_ck mX1_sortByYears 1) = true := by decide +kernel
def nX1_sortByYears_0 (N : Nat) (a0 : Nat) (h : ra_H) : Option ra_H :=
  nX1_sortByYears_2 N N a0 ((0 : Int32)) h
def kX1_sortByYears_0 (N : Nat) : Nat → List (Option Value) → List Value → ra_H → Option ra_H := (ra_k1 2 (fun L S h => match L, S with
  | [some (.ref a0), some (.int a1), _], [] => nX1_sortByYears_2 N N a0 a1 h
  | _, _ => none) ra_k0)
theorem kX1_sortByYears_0_ok (N : Nat) : ra_kok 2 mX1_sortByYears ra_oV (kX1_sortByYears_0 N) := (ra_k1_ok (by
  intro L S h a e
  split at e
  · exact ra_Ru.weak (nX1_sortByYears_2_ok N N _ _ _ _ e) ⟨rfl, ⟨rfl, trivial⟩⟩
  · cases e) ra_k0_ok)
set_option maxRecDepth 100000 in
theorem nX1_sortByYears_0_ok (N : Nat) (a0 : Nat) (h : ra_H) (r : ra_H) (e : nX1_sortByYears_0 N a0 h = some r) : ra_Ru 2 mX1_sortByYears 0 [some (.ref a0), none, none] [] h (ra_oV r) :=
  ra_sound (by omega) rfl ra_rV_ok (kX1_sortByYears_0_ok N) (fun m av h h1 e => (ra_c0_ok (ro := ra_oV)) m av h h1 e) (fun m av h x h1 e => (tIX1_sortByYears_ok N) m av h (x, h1) e) (fun m av h x h1 e => (ra_c0_ok (ro := ra_oJ)) m av h (x, h1) e) (fun m av h x h1 e => (ra_c0_ok (ro := ra_oR)) m av h (x, h1) e) (fun m av h x h1 e => (ra_c0_ok (ro := ra_oN)) m av h (x, h1) e) (fun m av h x h1 e => (ra_c0_ok (ro := ra_oF)) m av h (x, h1) e) 3 lX1_sortByYears_0 _ _ _ _ lX1_sortByYears_0_ck (show ra_run ra_rV (kX1_sortByYears_0 N) ra_c0 (tIX1_sortByYears N) ra_c0 ra_c0 ra_c0 ra_c0 3 lX1_sortByYears_0 [some (.ref a0), none, none] [] h = some r from e) _ _ rfl
def fX1_sortByYears (N : Nat) (p0 : Nat) (h : ra_H) : Option ra_H := match ra_isOb h p0 1 with
  | true => nX1_sortByYears_0 N p0 h
  | false => none
set_option maxRecDepth 100000 in
theorem mtX1_sortByYears : ra_MT[99]? = some (mX1_sortByYears, 1, 0, (1, 6), (4, 150), (0, 28)) := rfl
theorem fX1_sortByYears_co (N : Nat) (p0 : Nat) (h : ra_H) (r : ra_H) (e : fX1_sortByYears N p0 h = some r) (D : Nat) (hD : 3 ≤ D) : ra_CO D 99 [.ref p0] h (ra_oV r).1 (ra_oV r).2 := by
  have hw : ra_nw2 [.ref p0] ≤ 3 := Nat.le_of_ble_eq_true rfl
  have hdb : ∀ v ∈ ([.ref p0] : List Value), ∀ x, v ≠ .double x := by
    intro v hv x hx
    simp [hx] at hv
  unfold fX1_sortByYears at e
  split at e
  · rename_i ho
    have e1 := e
    exact ⟨2, _, mtX1_sortByYears, hD, ra_ev_of (by decide) hdb hw trivial (ra_Ru.weak (nX1_sortByYears_0_ok N p0 h _ e1) ⟨rfl, trivial⟩), (fun _ => ⟨_, _, rfl, ra_rcv_of ho (by decide) rfl⟩), (fun h => absurd h (by decide))⟩
  · cases e
/-! RedMarks$Histories.enter(I)I -/
def mX1_enter : ra_M := (yX1_enter, cX1_enter, 2, (some .int))
def lX1_enter_32 : List ra_I := [(32, .ireturn, 1, 0, 0, 0, 0, 0, [])]
set_option maxRecDepth 100000 in
theorem lX1_enter_32_ck : lX1_enter_32.all (ra_ck mX1_enter 1) = true := by decide +kernel
def nX1_enter_32 (N : Nat) (b0 : Int32) (h : ra_H) : Option (Int32 × ra_H) :=
  some (b0, h)
def kX1_enter_32 (N : Nat) : Nat → List (Option Value) → List Value → ra_H → Option (Int32 × ra_H) := ra_k0
theorem kX1_enter_32_ok (N : Nat) : ra_kok 1 mX1_enter ra_oI (kX1_enter_32 N) := ra_k0_ok
set_option maxRecDepth 100000 in
theorem nX1_enter_32_ok (N : Nat) (b0 : Int32) (h : ra_H) (r : (Int32 × ra_H)) (e : nX1_enter_32 N b0 h = some r) : ra_Ru 1 mX1_enter 32 [none, none] [.int b0] h (ra_oI r) :=
  ra_sound (by omega) rfl ra_rI_ok (kX1_enter_32_ok N) (fun m av h h1 e => (ra_c0_ok (ro := ra_oV)) m av h h1 e) (fun m av h x h1 e => (ra_c0_ok (ro := ra_oI)) m av h (x, h1) e) (fun m av h x h1 e => (ra_c0_ok (ro := ra_oJ)) m av h (x, h1) e) (fun m av h x h1 e => (ra_c0_ok (ro := ra_oR)) m av h (x, h1) e) (fun m av h x h1 e => (ra_c0_ok (ro := ra_oN)) m av h (x, h1) e) (fun m av h x h1 e => (ra_c0_ok (ro := ra_oF)) m av h (x, h1) e) 2 lX1_enter_32 _ _ _ _ lX1_enter_32_ck (show ra_run ra_rI (kX1_enter_32 N) ra_c0 ra_c0 ra_c0 ra_c0 ra_c0 ra_c0 2 lX1_enter_32 [none, none] [.int b0] h = some r from e) _ _ rfl
def lX1_enter_0 : List ra_I := [(0, .iload_n 1, 1, 1, 0, 0, 0, 0, []),
  (1, .iconst (-1), 1, 0, 0, 0, (-1), 0, []),
  (2, .if_icmp .ne (5), 3, 7, 0, 0, 0, 0, []),
  (5, .iconst (0), 1, 0, 0, 0, (0), 0, []),
  (6, .ireturn, 1, 0, 0, 0, 0, 0, []),
  (7, .aload_n 0, 1, 0, 0, 0, 0, 0, []),
  (8, .getfield 22, 3, 1, 5, 2, 0, 0, []),
  (11, .iload_n 1, 1, 1, 0, 0, 0, 0, []),
  (12, .dup2, 1, 0, 0, 0, 0, 0, []),
  (13, .iaload, 1, 0, 0, 0, 0, 0, []),
  (14, .iconst (1), 1, 0, 0, 0, (1), 0, []),
  (15, .iadd, 1, 0, 0, 0, 0, 0, []),
  (16, .iastore, 1, 0, 0, 0, 0, 0, []),
  (17, .aload_n 0, 1, 0, 0, 0, 0, 0, []),
  (18, .getfield 22, 3, 1, 5, 2, 0, 0, []),
  (21, .iload_n 1, 1, 1, 0, 0, 0, 0, []),
  (22, .iaload, 1, 0, 0, 0, 0, 0, []),
  (23, .iconst (1), 1, 0, 0, 0, (1), 0, []),
  (24, .if_icmp .ne (7), 3, 31, 0, 0, 0, 0, []),
  (27, .iconst (1), 1, 0, 0, 0, (1), 0, []),
  (28, .goto (4), 3, 32, 0, 0, 0, 0, []),
  (31, .iconst (0), 1, 0, 0, 0, (0), 0, [])]
set_option maxRecDepth 100000 in
theorem lX1_enter_0_ck : lX1_enter_0.all (ra_ck mX1_enter 1) = true := by decide +kernel
def nX1_enter_0 (N : Nat) (a0 : Nat) (a1 : Int32) (h : ra_H) : Option (Int32 × ra_H) :=
  if a1 = ((-1 : Int32)) then
    some ((0 : Int32), h)
  else
    (ra_fR h 1 a0 5).bind fun x1 =>
    (ra_aI h 0 x1 a1).bind fun x2 =>
    (ra_aW h 0 x1 a1 (x2 + ((1 : Int32)))).bind fun h3 =>
    (ra_fR h3 1 a0 5).bind fun x4 =>
    (ra_aI h3 0 x4 a1).bind fun x5 =>
    if x5 = ((1 : Int32)) then
      nX1_enter_32 N ((1 : Int32)) h3
    else
      nX1_enter_32 N ((0 : Int32)) h3
def kX1_enter_0 (N : Nat) : Nat → List (Option Value) → List Value → ra_H → Option (Int32 × ra_H) := (ra_k1 32 (fun L S h => match L, S with
  | [_, _], [.int b0] => nX1_enter_32 N b0 h
  | _, _ => none) ra_k0)
theorem kX1_enter_0_ok (N : Nat) : ra_kok 1 mX1_enter ra_oI (kX1_enter_0 N) := (ra_k1_ok (by
  intro L S h a e
  split at e
  · exact ra_Ru.weak (nX1_enter_32_ok N _ _ _ e) trivial
  · cases e) ra_k0_ok)
set_option maxRecDepth 100000 in
theorem nX1_enter_0_ok (N : Nat) (a0 : Nat) (a1 : Int32) (h : ra_H) (r : (Int32 × ra_H)) (e : nX1_enter_0 N a0 a1 h = some r) : ra_Ru 1 mX1_enter 0 [some (.ref a0), some (.int a1)] [] h (ra_oI r) :=
  ra_sound (by omega) rfl ra_rI_ok (kX1_enter_0_ok N) (fun m av h h1 e => (ra_c0_ok (ro := ra_oV)) m av h h1 e) (fun m av h x h1 e => (ra_c0_ok (ro := ra_oI)) m av h (x, h1) e) (fun m av h x h1 e => (ra_c0_ok (ro := ra_oJ)) m av h (x, h1) e) (fun m av h x h1 e => (ra_c0_ok (ro := ra_oR)) m av h (x, h1) e) (fun m av h x h1 e => (ra_c0_ok (ro := ra_oN)) m av h (x, h1) e) (fun m av h x h1 e => (ra_c0_ok (ro := ra_oF)) m av h (x, h1) e) 23 lX1_enter_0 _ _ _ _ lX1_enter_0_ck (show ra_run ra_rI (kX1_enter_0 N) ra_c0 ra_c0 ra_c0 ra_c0 ra_c0 ra_c0 23 lX1_enter_0 [some (.ref a0), some (.int a1)] [] h = some r from e) _ _ rfl
def fX1_enter (N : Nat) (p0 : Nat) (p1 : Int32) (h : ra_H) : Option (Int32 × ra_H) := match ra_isOb h p0 1 with
  | true => nX1_enter_0 N p0 p1 h
  | false => none
set_option maxRecDepth 100000 in
theorem mtX1_enter : ra_MT[101]? = some (mX1_enter, 1, 1, (1, 6), (4, 158), (0, 30)) := rfl
theorem fX1_enter_co (N : Nat) (p0 : Nat) (p1 : Int32) (h : ra_H) (r : (Int32 × ra_H)) (e : fX1_enter N p0 p1 h = some r) (D : Nat) (hD : 2 ≤ D) : ra_CO D 101 [.ref p0, .int p1] h (ra_oI r).1 (ra_oI r).2 := by
  have hw : ra_nw2 [.ref p0, .int p1] ≤ 2 := Nat.le_of_ble_eq_true rfl
  have hdb : ∀ v ∈ ([.ref p0, .int p1] : List Value), ∀ x, v ≠ .double x := by
    intro v hv x hx
    simp [hx] at hv
  unfold fX1_enter at e
  split at e
  · rename_i ho
    have e1 := e
    exact ⟨1, _, mtX1_enter, hD, ra_ev_of (by decide) hdb hw trivial (ra_Ru.weak (nX1_enter_0_ok N p0 p1 h _ e1) ⟨rfl, ⟨rfl, trivial⟩⟩), (fun _ => ⟨_, _, rfl, ra_rcv_of ho (by decide) rfl⟩), (fun h => absurd h (by decide))⟩
  · cases e
/-! RedMarks$Histories.leave(I)I -/
def mX1_leave : ra_M := (yX1_leave, cX1_leave, 2, (some .int))
def lX1_leave_31 : List ra_I := [(31, .ireturn, 1, 0, 0, 0, 0, 0, [])]
set_option maxRecDepth 100000 in
theorem lX1_leave_31_ck : lX1_leave_31.all (ra_ck mX1_leave 1) = true := by decide +kernel
def nX1_leave_31 (N : Nat) (b0 : Int32) (h : ra_H) : Option (Int32 × ra_H) :=
  some (b0, h)
def kX1_leave_31 (N : Nat) : Nat → List (Option Value) → List Value → ra_H → Option (Int32 × ra_H) := ra_k0
theorem kX1_leave_31_ok (N : Nat) : ra_kok 1 mX1_leave ra_oI (kX1_leave_31 N) := ra_k0_ok
set_option maxRecDepth 100000 in
theorem nX1_leave_31_ok (N : Nat) (b0 : Int32) (h : ra_H) (r : (Int32 × ra_H)) (e : nX1_leave_31 N b0 h = some r) : ra_Ru 1 mX1_leave 31 [none, none] [.int b0] h (ra_oI r) :=
  ra_sound (by omega) rfl ra_rI_ok (kX1_leave_31_ok N) (fun m av h h1 e => (ra_c0_ok (ro := ra_oV)) m av h h1 e) (fun m av h x h1 e => (ra_c0_ok (ro := ra_oI)) m av h (x, h1) e) (fun m av h x h1 e => (ra_c0_ok (ro := ra_oJ)) m av h (x, h1) e) (fun m av h x h1 e => (ra_c0_ok (ro := ra_oR)) m av h (x, h1) e) (fun m av h x h1 e => (ra_c0_ok (ro := ra_oN)) m av h (x, h1) e) (fun m av h x h1 e => (ra_c0_ok (ro := ra_oF)) m av h (x, h1) e) 2 lX1_leave_31 _ _ _ _ lX1_leave_31_ck (show ra_run ra_rI (kX1_leave_31 N) ra_c0 ra_c0 ra_c0 ra_c0 ra_c0 ra_c0 2 lX1_leave_31 [none, none] [.int b0] h = some r from e) _ _ rfl
def lX1_leave_0 : List ra_I := [(0, .iload_n 1, 1, 1, 0, 0, 0, 0, []),
  (1, .iconst (-1), 1, 0, 0, 0, (-1), 0, []),
  (2, .if_icmp .ne (5), 3, 7, 0, 0, 0, 0, []),
  (5, .iconst (0), 1, 0, 0, 0, (0), 0, []),
  (6, .ireturn, 1, 0, 0, 0, 0, 0, []),
  (7, .aload_n 0, 1, 0, 0, 0, 0, 0, []),
  (8, .getfield 22, 3, 1, 5, 2, 0, 0, []),
  (11, .iload_n 1, 1, 1, 0, 0, 0, 0, []),
  (12, .dup2, 1, 0, 0, 0, 0, 0, []),
  (13, .iaload, 1, 0, 0, 0, 0, 0, []),
  (14, .iconst (1), 1, 0, 0, 0, (1), 0, []),
  (15, .isub, 1, 0, 0, 0, 0, 0, []),
  (16, .iastore, 1, 0, 0, 0, 0, 0, []),
  (17, .aload_n 0, 1, 0, 0, 0, 0, 0, []),
  (18, .getfield 22, 3, 1, 5, 2, 0, 0, []),
  (21, .iload_n 1, 1, 1, 0, 0, 0, 0, []),
  (22, .iaload, 1, 0, 0, 0, 0, 0, []),
  (23, .ifCond .ne (7), 3, 30, 0, 0, 0, 0, []),
  (26, .iconst (1), 1, 0, 0, 0, (1), 0, []),
  (27, .goto (4), 3, 31, 0, 0, 0, 0, []),
  (30, .iconst (0), 1, 0, 0, 0, (0), 0, [])]
set_option maxRecDepth 100000 in
theorem lX1_leave_0_ck : lX1_leave_0.all (ra_ck mX1_leave 1) = true := by decide +kernel
def nX1_leave_0 (N : Nat) (a0 : Nat) (a1 : Int32) (h : ra_H) : Option (Int32 × ra_H) :=
  if a1 = ((-1 : Int32)) then
    some ((0 : Int32), h)
  else
    (ra_fR h 1 a0 5).bind fun x1 =>
    (ra_aI h 0 x1 a1).bind fun x2 =>
    (ra_aW h 0 x1 a1 (x2 - ((1 : Int32)))).bind fun h3 =>
    (ra_fR h3 1 a0 5).bind fun x4 =>
    (ra_aI h3 0 x4 a1).bind fun x5 =>
    if x5 = 0 then
      nX1_leave_31 N ((1 : Int32)) h3
    else
      nX1_leave_31 N ((0 : Int32)) h3
def kX1_leave_0 (N : Nat) : Nat → List (Option Value) → List Value → ra_H → Option (Int32 × ra_H) := (ra_k1 31 (fun L S h => match L, S with
  | [_, _], [.int b0] => nX1_leave_31 N b0 h
  | _, _ => none) ra_k0)
theorem kX1_leave_0_ok (N : Nat) : ra_kok 1 mX1_leave ra_oI (kX1_leave_0 N) := (ra_k1_ok (by
  intro L S h a e
  split at e
  · exact ra_Ru.weak (nX1_leave_31_ok N _ _ _ e) trivial
  · cases e) ra_k0_ok)
set_option maxRecDepth 100000 in
theorem nX1_leave_0_ok (N : Nat) (a0 : Nat) (a1 : Int32) (h : ra_H) (r : (Int32 × ra_H)) (e : nX1_leave_0 N a0 a1 h = some r) : ra_Ru 1 mX1_leave 0 [some (.ref a0), some (.int a1)] [] h (ra_oI r) :=
  ra_sound (by omega) rfl ra_rI_ok (kX1_leave_0_ok N) (fun m av h h1 e => (ra_c0_ok (ro := ra_oV)) m av h h1 e) (fun m av h x h1 e => (ra_c0_ok (ro := ra_oI)) m av h (x, h1) e) (fun m av h x h1 e => (ra_c0_ok (ro := ra_oJ)) m av h (x, h1) e) (fun m av h x h1 e => (ra_c0_ok (ro := ra_oR)) m av h (x, h1) e) (fun m av h x h1 e => (ra_c0_ok (ro := ra_oN)) m av h (x, h1) e) (fun m av h x h1 e => (ra_c0_ok (ro := ra_oF)) m av h (x, h1) e) 22 lX1_leave_0 _ _ _ _ lX1_leave_0_ck (show ra_run ra_rI (kX1_leave_0 N) ra_c0 ra_c0 ra_c0 ra_c0 ra_c0 ra_c0 22 lX1_leave_0 [some (.ref a0), some (.int a1)] [] h = some r from e) _ _ rfl
def fX1_leave (N : Nat) (p0 : Nat) (p1 : Int32) (h : ra_H) : Option (Int32 × ra_H) := match ra_isOb h p0 1 with
  | true => nX1_leave_0 N p0 p1 h
  | false => none
set_option maxRecDepth 100000 in
theorem mtX1_leave : ra_MT[103]? = some (mX1_leave, 1, 1, (1, 6), (4, 166), (0, 32)) := rfl
theorem fX1_leave_co (N : Nat) (p0 : Nat) (p1 : Int32) (h : ra_H) (r : (Int32 × ra_H)) (e : fX1_leave N p0 p1 h = some r) (D : Nat) (hD : 2 ≤ D) : ra_CO D 103 [.ref p0, .int p1] h (ra_oI r).1 (ra_oI r).2 := by
  have hw : ra_nw2 [.ref p0, .int p1] ≤ 2 := Nat.le_of_ble_eq_true rfl
  have hdb : ∀ v ∈ ([.ref p0, .int p1] : List Value), ∀ x, v ≠ .double x := by
    intro v hv x hx
    simp [hx] at hv
  unfold fX1_leave at e
  split at e
  · rename_i ho
    have e1 := e
    exact ⟨1, _, mtX1_leave, hD, ra_ev_of (by decide) hdb hw trivial (ra_Ru.weak (nX1_leave_0_ok N p0 p1 h _ e1) ⟨rfl, ⟨rfl, trivial⟩⟩), (fun _ => ⟨_, _, rfl, ra_rcv_of ho (by decide) rfl⟩), (fun h => absurd h (by decide))⟩
  · cases e
/-! RedMarks$Histories.weighYears(IIIII)V -/
def mX1_weighYears : ra_M := (yX1_weighYears, cX1_weighYears, 6, none)
def lX1_weighYears_73 : List ra_I := [(73, .return_, 1, 0, 0, 0, 0, 0, [])]
set_option maxRecDepth 100000 in
theorem lX1_weighYears_73_ck : lX1_weighYears_73.all (ra_ck mX1_weighYears 1) = true := by decide +kernel
def nX1_weighYears_73 (N : Nat) (h : ra_H) : Option ra_H :=
  some h
def kX1_weighYears_73 (N : Nat) : Nat → List (Option Value) → List Value → ra_H → Option ra_H := ra_k0
theorem kX1_weighYears_73_ok (N : Nat) : ra_kok 1 mX1_weighYears ra_oV (kX1_weighYears_73 N) := ra_k0_ok
set_option maxRecDepth 100000 in
theorem nX1_weighYears_73_ok (N : Nat) (h : ra_H) (r : ra_H) (e : nX1_weighYears_73 N h = some r) : ra_Ru 1 mX1_weighYears 73 [none, none, none, none, none, none] [] h (ra_oV r) :=
  ra_sound (by omega) rfl ra_rV_ok (kX1_weighYears_73_ok N) (fun m av h h1 e => (ra_c0_ok (ro := ra_oV)) m av h h1 e) (fun m av h x h1 e => (ra_c0_ok (ro := ra_oI)) m av h (x, h1) e) (fun m av h x h1 e => (ra_c0_ok (ro := ra_oJ)) m av h (x, h1) e) (fun m av h x h1 e => (ra_c0_ok (ro := ra_oR)) m av h (x, h1) e) (fun m av h x h1 e => (ra_c0_ok (ro := ra_oN)) m av h (x, h1) e) (fun m av h x h1 e => (ra_c0_ok (ro := ra_oF)) m av h (x, h1) e) 2 lX1_weighYears_73 _ _ _ _ lX1_weighYears_73_ck (show ra_run ra_rV (kX1_weighYears_73 N) ra_c0 ra_c0 ra_c0 ra_c0 ra_c0 ra_c0 2 lX1_weighYears_73 [none, none, none, none, none, none] [] h = some r from e) _ _ rfl
def lX1_weighYears_0 : List ra_I := [(0, .iload 5, 2, 5, 0, 0, 0, 0, []),
  (2, .aload_n 0, 1, 0, 0, 0, 0, 0, []),
  (3, .getfield 28, 3, 1, 7, 2, 0, 0, []),
  (6, .iconst (0), 1, 0, 0, 0, (0), 0, []),
  (7, .iaload, 1, 0, 0, 0, 0, 0, []),
  (8, .if_icmp .le (43), 3, 51, 0, 0, 0, 0, []),
  (11, .aload_n 0, 1, 0, 0, 0, 0, 0, []),
  (12, .getfield 28, 3, 1, 7, 2, 0, 0, []),
  (15, .iconst (0), 1, 0, 0, 0, (0), 0, []),
  (16, .iload 5, 2, 5, 0, 0, 0, 0, []),
  (18, .iastore, 1, 0, 0, 0, 0, 0, []),
  (19, .aload_n 0, 1, 0, 0, 0, 0, 0, []),
  (20, .getfield 28, 3, 1, 7, 2, 0, 0, []),
  (23, .iconst (1), 1, 0, 0, 0, (1), 0, []),
  (24, .iload_n 1, 1, 1, 0, 0, 0, 0, []),
  (25, .iastore, 1, 0, 0, 0, 0, 0, []),
  (26, .aload_n 0, 1, 0, 0, 0, 0, 0, []),
  (27, .getfield 28, 3, 1, 7, 2, 0, 0, []),
  (30, .iconst (2), 1, 0, 0, 0, (2), 0, []),
  (31, .iload_n 2, 1, 2, 0, 0, 0, 0, []),
  (32, .iastore, 1, 0, 0, 0, 0, 0, []),
  (33, .aload_n 0, 1, 0, 0, 0, 0, 0, []),
  (34, .getfield 28, 3, 1, 7, 2, 0, 0, []),
  (37, .iconst (3), 1, 0, 0, 0, (3), 0, []),
  (38, .iload_n 3, 1, 3, 0, 0, 0, 0, []),
  (39, .iastore, 1, 0, 0, 0, 0, 0, []),
  (40, .aload_n 0, 1, 0, 0, 0, 0, 0, []),
  (41, .getfield 28, 3, 1, 7, 2, 0, 0, []),
  (44, .iconst (4), 1, 0, 0, 0, (4), 0, []),
  (45, .iload 4, 2, 4, 0, 0, 0, 0, []),
  (47, .iastore, 1, 0, 0, 0, 0, 0, []),
  (48, .goto (25), 3, 73, 0, 0, 0, 0, []),
  (51, .iload 5, 2, 5, 0, 0, 0, 0, []),
  (53, .aload_n 0, 1, 0, 0, 0, 0, 0, []),
  (54, .getfield 28, 3, 1, 7, 2, 0, 0, []),
  (57, .iconst (0), 1, 0, 0, 0, (0), 0, []),
  (58, .iaload, 1, 0, 0, 0, 0, 0, []),
  (59, .if_icmp .ne (14), 3, 73, 0, 0, 0, 0, []),
  (62, .aload_n 0, 1, 0, 0, 0, 0, 0, []),
  (63, .getfield 28, 3, 1, 7, 2, 0, 0, []),
  (66, .iconst (4), 1, 0, 0, 0, (4), 0, []),
  (67, .dup2, 1, 0, 0, 0, 0, 0, []),
  (68, .iaload, 1, 0, 0, 0, 0, 0, []),
  (69, .iload 4, 2, 4, 0, 0, 0, 0, []),
  (71, .iadd, 1, 0, 0, 0, 0, 0, []),
  (72, .iastore, 1, 0, 0, 0, 0, 0, [])]
set_option maxRecDepth 100000 in
theorem lX1_weighYears_0_ck : lX1_weighYears_0.all (ra_ck mX1_weighYears 1) = true := by decide +kernel
def nX1_weighYears_0 (N : Nat) (a0 : Nat) (a1 : Int32) (a2 : Int32) (a3 : Int32) (a4 : Int32) (a5 : Int32) (h : ra_H) : Option ra_H :=
  (ra_fR h 1 a0 7).bind fun x1 =>
  (ra_aI h 0 x1 ((0 : Int32))).bind fun x2 =>
  if a5 ≤ x2 then
    (ra_fR h 1 a0 7).bind fun x3 =>
    (ra_aI h 0 x3 ((0 : Int32))).bind fun x4 =>
    if a5 = x4 then
      (ra_fR h 1 a0 7).bind fun x5 =>
      (ra_aI h 0 x5 ((4 : Int32))).bind fun x6 =>
      (ra_aW h 0 x5 ((4 : Int32)) (x6 + a4)).bind fun h7 =>
      nX1_weighYears_73 N h7
    else
      nX1_weighYears_73 N h
  else
    (ra_fR h 1 a0 7).bind fun x8 =>
    (ra_aW h 0 x8 ((0 : Int32)) a5).bind fun h9 =>
    (ra_fR h9 1 a0 7).bind fun x10 =>
    (ra_aW h9 0 x10 ((1 : Int32)) a1).bind fun h11 =>
    (ra_fR h11 1 a0 7).bind fun x12 =>
    (ra_aW h11 0 x12 ((2 : Int32)) a2).bind fun h13 =>
    (ra_fR h13 1 a0 7).bind fun x14 =>
    (ra_aW h13 0 x14 ((3 : Int32)) a3).bind fun h15 =>
    (ra_fR h15 1 a0 7).bind fun x16 =>
    (ra_aW h15 0 x16 ((4 : Int32)) a4).bind fun h17 =>
    nX1_weighYears_73 N h17
def kX1_weighYears_0 (N : Nat) : Nat → List (Option Value) → List Value → ra_H → Option ra_H := (ra_k1 73 (fun L S h => match L, S with
  | [_, _, _, _, _, _], [] => nX1_weighYears_73 N h
  | _, _ => none) ra_k0)
theorem kX1_weighYears_0_ok (N : Nat) : ra_kok 1 mX1_weighYears ra_oV (kX1_weighYears_0 N) := (ra_k1_ok (by
  intro L S h a e
  split at e
  · exact ra_Ru.weak (nX1_weighYears_73_ok N _ _ e) trivial
  · cases e) ra_k0_ok)
set_option maxRecDepth 100000 in
theorem nX1_weighYears_0_ok (N : Nat) (a0 : Nat) (a1 : Int32) (a2 : Int32) (a3 : Int32) (a4 : Int32) (a5 : Int32) (h : ra_H) (r : ra_H) (e : nX1_weighYears_0 N a0 a1 a2 a3 a4 a5 h = some r) : ra_Ru 1 mX1_weighYears 0 [some (.ref a0), some (.int a1), some (.int a2), some (.int a3), some (.int a4), some (.int a5)] [] h (ra_oV r) :=
  ra_sound (by omega) rfl ra_rV_ok (kX1_weighYears_0_ok N) (fun m av h h1 e => (ra_c0_ok (ro := ra_oV)) m av h h1 e) (fun m av h x h1 e => (ra_c0_ok (ro := ra_oI)) m av h (x, h1) e) (fun m av h x h1 e => (ra_c0_ok (ro := ra_oJ)) m av h (x, h1) e) (fun m av h x h1 e => (ra_c0_ok (ro := ra_oR)) m av h (x, h1) e) (fun m av h x h1 e => (ra_c0_ok (ro := ra_oN)) m av h (x, h1) e) (fun m av h x h1 e => (ra_c0_ok (ro := ra_oF)) m av h (x, h1) e) 47 lX1_weighYears_0 _ _ _ _ lX1_weighYears_0_ck (show ra_run ra_rV (kX1_weighYears_0 N) ra_c0 ra_c0 ra_c0 ra_c0 ra_c0 ra_c0 47 lX1_weighYears_0 [some (.ref a0), some (.int a1), some (.int a2), some (.int a3), some (.int a4), some (.int a5)] [] h = some r from e) _ _ rfl
def fX1_weighYears (N : Nat) (p0 : Nat) (p1 : Int32) (p2 : Int32) (p3 : Int32) (p4 : Int32) (p5 : Int32) (h : ra_H) : Option ra_H := match ra_isOb h p0 1 with
  | true => nX1_weighYears_0 N p0 p1 p2 p3 p4 p5 h
  | false => none
set_option maxRecDepth 100000 in
theorem mtX1_weighYears : ra_MT[102]? = some (mX1_weighYears, 1, 5, (1, 6), (4, 162), (0, 31)) := rfl
theorem fX1_weighYears_co (N : Nat) (p0 : Nat) (p1 : Int32) (p2 : Int32) (p3 : Int32) (p4 : Int32) (p5 : Int32) (h : ra_H) (r : ra_H) (e : fX1_weighYears N p0 p1 p2 p3 p4 p5 h = some r) (D : Nat) (hD : 2 ≤ D) : ra_CO D 102 [.ref p0, .int p1, .int p2, .int p3, .int p4, .int p5] h (ra_oV r).1 (ra_oV r).2 := by
  have hw : ra_nw2 [.ref p0, .int p1, .int p2, .int p3, .int p4, .int p5] ≤ 6 := Nat.le_of_ble_eq_true rfl
  have hdb : ∀ v ∈ ([.ref p0, .int p1, .int p2, .int p3, .int p4, .int p5] : List Value), ∀ x, v ≠ .double x := by
    intro v hv x hx
    simp [hx] at hv
  unfold fX1_weighYears at e
  split at e
  · rename_i ho
    have e1 := e
    exact ⟨1, _, mtX1_weighYears, hD, ra_ev_of (by decide) hdb hw trivial (ra_Ru.weak (nX1_weighYears_0_ok N p0 p1 p2 p3 p4 p5 h _ e1) ⟨rfl, ⟨rfl, ⟨rfl, ⟨rfl, ⟨rfl, ⟨rfl, trivial⟩⟩⟩⟩⟩⟩), (fun _ => ⟨_, _, rfl, ra_rcv_of ho (by decide) rfl⟩), (fun h => absurd h (by decide))⟩
  · cases e
/-! RedMarks$Histories.weighPair(II)V -/
def mX1_weighPair : ra_M := (yX1_weighPair, cX1_weighPair, 8, none)
def tVX1_weighPair (N : Nat) : Nat → List Value → ra_H → Option ra_H := (ra_c1 102 (fun av h => match av with
  | [.ref z0, .int z1, .int z2, .int z3, .int z4, .int z5] => fX1_weighYears N z0 z1 z2 z3 z4 z5 h
  | _ => none) ra_c0)
theorem tVX1_weighPair_ok (N : Nat) : ra_cok 2 ra_oV (tVX1_weighPair N) := (ra_c1_ok (by
  intro av h a e
  split at e
  · exact fX1_weighYears_co N _ _ _ _ _ _ _ _ e 2 (by omega)
  · cases e) ra_c0_ok)
def tIX1_weighPair (N : Nat) : Nat → List Value → ra_H → Option (Int32 × ra_H) := (ra_c1 27 (fun av h => match av with
  | [.ref z0, .int z1, .int z2] => fX2_factOf N z0 z1 z2 h
  | _ => none) (ra_c1 101 (fun av h => match av with
  | [.ref z0, .int z1] => fX1_enter N z0 z1 h
  | _ => none) (ra_c1 103 (fun av h => match av with
  | [.ref z0, .int z1] => fX1_leave N z0 z1 h
  | _ => none) ra_c0)))
theorem tIX1_weighPair_ok (N : Nat) : ra_cok 2 ra_oI (tIX1_weighPair N) := (ra_c1_ok (by
  intro av h a e
  split at e
  · exact fX2_factOf_co N _ _ _ _ _ e 2 (by omega)
  · cases e) (ra_c1_ok (by
  intro av h a e
  split at e
  · exact fX1_enter_co N _ _ _ _ e 2 (by omega)
  · cases e) (ra_c1_ok (by
  intro av h a e
  split at e
  · exact fX1_leave_co N _ _ _ _ e 2 (by omega)
  · cases e) ra_c0_ok)))
def lX1_weighPair_108 : List ra_I := [(108, .iload_n 3, 1, 3, 0, 0, 0, 0, []),
  (109, .aload_n 0, 1, 0, 0, 0, 0, 0, []),
  (110, .aload_n 0, 1, 0, 0, 0, 0, 0, []),
  (111, .getfield 19, 3, 1, 4, 2, 0, 0, []),
  (114, .iload_n 2, 1, 2, 0, 0, 0, 0, []),
  (115, .bipush (40), 2, 0, 0, 0, (40), 0, []),
  (117, .imul, 1, 0, 0, 0, 0, 0, []),
  (118, .iload 6, 2, 6, 0, 0, 0, 0, []),
  (120, .iadd, 1, 0, 0, 0, 0, 0, []),
  (121, .iaload, 1, 0, 0, 0, 0, 0, []),
  (122, .invokevirtual 162, 3, 103, 2, 1, 0, 0, []),
  (125, .isub, 1, 0, 0, 0, 0, 0, []),
  (126, .istore_n 3, 1, 3, 0, 0, 0, 0, []),
  (127, .iload_n 3, 1, 3, 0, 0, 0, 0, []),
  (128, .aload_n 0, 1, 0, 0, 0, 0, 0, []),
  (129, .aload_n 0, 1, 0, 0, 0, 0, 0, []),
  (130, .getfield 19, 3, 1, 4, 2, 0, 0, []),
  (133, .iload_n 1, 1, 1, 0, 0, 0, 0, []),
  (134, .bipush (40), 2, 0, 0, 0, (40), 0, []),
  (136, .imul, 1, 0, 0, 0, 0, 0, []),
  (137, .iload 6, 2, 6, 0, 0, 0, 0, []),
  (139, .iadd, 1, 0, 0, 0, 0, 0, []),
  (140, .iaload, 1, 0, 0, 0, 0, 0, []),
  (141, .invokevirtual 154, 3, 101, 2, 1, 0, 0, []),
  (144, .iadd, 1, 0, 0, 0, 0, 0, []),
  (145, .istore_n 3, 1, 3, 0, 0, 0, 0, []),
  (146, .iinc 5 (1), 3, 5, 0, 0, (1), 0, []),
  (149, .goto (-101), 3, 48, 0, 0, 0, 0, [])]
set_option maxRecDepth 100000 in
theorem lX1_weighPair_108_ck : lX1_weighPair_108.all (ra_ck mX1_weighPair 1) = true := by decide +kernel
def nX1_weighPair_108 (N : Nat) (c48 : Nat → Int32 → Int32 → Int32 → Int32 → Int32 → ra_H → Option ra_H) (a0 : Nat) (a1 : Int32) (a2 : Int32) (a3 : Int32) (a4 : Int32) (a5 : Int32) (a6 : Int32) (h : ra_H) : Option ra_H :=
  (ra_fR h 1 a0 4).bind fun x1 =>
  (ra_aI h 0 x1 ((a2 * ((40 : Int32))) + a6)).bind fun x2 =>
  (fX1_leave N a0 x2 h).bind fun q3 =>
  let y4 := a3 - q3.1
  (ra_fR q3.2 1 a0 4).bind fun x5 =>
  (ra_aI q3.2 0 x5 ((a1 * ((40 : Int32))) + a6)).bind fun x6 =>
  (fX1_enter N a0 x6 q3.2).bind fun q7 =>
  let y8 := y4 + q7.1
  let y9 := a5 + (1 : Int32)
  c48 a0 a1 a2 y8 a4 y9 q7.2
def kX1_weighPair_108 (N : Nat) (c48 : Nat → Int32 → Int32 → Int32 → Int32 → Int32 → ra_H → Option ra_H) : Nat → List (Option Value) → List Value → ra_H → Option ra_H := (ra_k1 48 (fun L S h => match L, S with
  | [some (.ref a0), some (.int a1), some (.int a2), some (.int a3), some (.int a4), some (.int a5), _, _], [] => c48 a0 a1 a2 a3 a4 a5 h
  | _, _ => none) ra_k0)
theorem kX1_weighPair_108_ok (N : Nat) (c48 : Nat → Int32 → Int32 → Int32 → Int32 → Int32 → ra_H → Option ra_H) (hc48 : ∀ a0 a1 a2 a3 a4 a5 h r, c48 a0 a1 a2 a3 a4 a5 h = some r → ra_Ru 2 mX1_weighPair 48 [some (.ref a0), some (.int a1), some (.int a2), some (.int a3), some (.int a4), some (.int a5), none, none] [] h (ra_oV r)) : ra_kok 2 mX1_weighPair ra_oV (kX1_weighPair_108 N c48) := (ra_k1_ok (by
  intro L S h a e
  split at e
  · exact ra_Ru.weak (hc48 _ _ _ _ _ _ _ _ e) ⟨rfl, ⟨rfl, ⟨rfl, ⟨rfl, ⟨rfl, ⟨rfl, trivial⟩⟩⟩⟩⟩⟩
  · cases e) ra_k0_ok)
set_option maxRecDepth 100000 in
theorem nX1_weighPair_108_ok (N : Nat) (c48 : Nat → Int32 → Int32 → Int32 → Int32 → Int32 → ra_H → Option ra_H) (hc48 : ∀ a0 a1 a2 a3 a4 a5 h r, c48 a0 a1 a2 a3 a4 a5 h = some r → ra_Ru 2 mX1_weighPair 48 [some (.ref a0), some (.int a1), some (.int a2), some (.int a3), some (.int a4), some (.int a5), none, none] [] h (ra_oV r)) (a0 : Nat) (a1 : Int32) (a2 : Int32) (a3 : Int32) (a4 : Int32) (a5 : Int32) (a6 : Int32) (h : ra_H) (r : ra_H) (e : nX1_weighPair_108 N c48 a0 a1 a2 a3 a4 a5 a6 h = some r) : ra_Ru 2 mX1_weighPair 108 [some (.ref a0), some (.int a1), some (.int a2), some (.int a3), some (.int a4), some (.int a5), some (.int a6), none] [] h (ra_oV r) :=
  ra_sound (by omega) rfl ra_rV_ok (kX1_weighPair_108_ok N c48 hc48) (fun m av h h1 e => (tVX1_weighPair_ok N) m av h h1 e) (fun m av h x h1 e => (tIX1_weighPair_ok N) m av h (x, h1) e) (fun m av h x h1 e => (ra_c0_ok (ro := ra_oJ)) m av h (x, h1) e) (fun m av h x h1 e => (ra_c0_ok (ro := ra_oR)) m av h (x, h1) e) (fun m av h x h1 e => (ra_c0_ok (ro := ra_oN)) m av h (x, h1) e) (fun m av h x h1 e => (ra_c0_ok (ro := ra_oF)) m av h (x, h1) e) 29 lX1_weighPair_108 _ _ _ _ lX1_weighPair_108_ck (show ra_run ra_rV (kX1_weighPair_108 N c48) (tVX1_weighPair N) (tIX1_weighPair N) ra_c0 ra_c0 ra_c0 ra_c0 29 lX1_weighPair_108 [some (.ref a0), some (.int a1), some (.int a2), some (.int a3), some (.int a4), some (.int a5), some (.int a6), none] [] h = some r from e) _ _ rfl
def lX1_weighPair_170 : List ra_I := [(170, .iload 5, 2, 5, 0, 0, 0, 0, []),
  (172, .aload_n 0, 1, 0, 0, 0, 0, 0, []),
  (173, .getfield 41, 3, 1, 0, 2, 0, 0, []),
  (176, .getfield 119, 3, 2, 13, 0, 0, 0, []),
  (179, .if_icmp .ge (26), 3, 205, 0, 0, 0, 0, []),
  (182, .aload_n 0, 1, 0, 0, 0, 0, 0, []),
  (183, .aload_n 0, 1, 0, 0, 0, 0, 0, []),
  (184, .getfield 19, 3, 1, 4, 2, 0, 0, []),
  (187, .iload_n 1, 1, 1, 0, 0, 0, 0, []),
  (188, .bipush (40), 2, 0, 0, 0, (40), 0, []),
  (190, .imul, 1, 0, 0, 0, 0, 0, []),
  (191, .iload 5, 2, 5, 0, 0, 0, 0, []),
  (193, .iadd, 1, 0, 0, 0, 0, 0, []),
  (194, .iaload, 1, 0, 0, 0, 0, 0, []),
  (195, .invokevirtual 162, 3, 103, 2, 1, 0, 0, []),
  (198, .pop, 1, 0, 0, 0, 0, 0, []),
  (199, .iinc 5 (1), 3, 5, 0, 0, (1), 0, []),
  (202, .goto (-32), 3, 170, 0, 0, 0, 0, []),
  (205, .return_, 1, 0, 0, 0, 0, 0, [])]
set_option maxRecDepth 100000 in
theorem lX1_weighPair_170_ck : lX1_weighPair_170.all (ra_ck mX1_weighPair 1) = true := by decide +kernel
def nX1_weighPair_170 (N : Nat) : Nat → Nat → Int32 → Int32 → ra_H → Option ra_H
  | 0, _, _, _, _ => none
  | n + 1, a0, a1, a5, h =>
  (ra_fR h 1 a0 0).bind fun x1 =>
  (ra_fI h 2 x1 13).bind fun x2 =>
  if a5 < x2 then
    (ra_fR h 1 a0 4).bind fun x3 =>
    (ra_aI h 0 x3 ((a1 * ((40 : Int32))) + a5)).bind fun x4 =>
    (fX1_leave N a0 x4 h).bind fun q5 =>
    let y6 := a5 + (1 : Int32)
    nX1_weighPair_170 N n a0 a1 y6 q5.2
  else
    some h
def kX1_weighPair_170 (N : Nat) (cs : Nat → Int32 → Int32 → ra_H → Option ra_H) : Nat → List (Option Value) → List Value → ra_H → Option ra_H := (ra_k1 170 (fun L S h => match L, S with
  | [some (.ref a0), some (.int a1), _, _, _, some (.int a5), _, _], [] => cs a0 a1 a5 h
  | _, _ => none) ra_k0)
theorem kX1_weighPair_170_ok (N : Nat) (cs : Nat → Int32 → Int32 → ra_H → Option ra_H) (hcs : ∀ a0 a1 a5 h r, cs a0 a1 a5 h = some r → ra_Ru 2 mX1_weighPair 170 [some (.ref a0), some (.int a1), none, none, none, some (.int a5), none, none] [] h (ra_oV r)) : ra_kok 2 mX1_weighPair ra_oV (kX1_weighPair_170 N cs) := (ra_k1_ok (by
  intro L S h a e
  split at e
  · exact ra_Ru.weak (hcs _ _ _ _ _ e) ⟨rfl, ⟨rfl, ⟨rfl, trivial⟩⟩⟩
  · cases e) ra_k0_ok)
set_option maxRecDepth 100000 in
theorem nX1_weighPair_170_ok (N : Nat) : ∀ n a0 a1 a5 h r, nX1_weighPair_170 N n a0 a1 a5 h = some r → ra_Ru 2 mX1_weighPair 170 [some (.ref a0), some (.int a1), none, none, none, some (.int a5), none, none] [] h (ra_oV r) := by
  intro n
  induction n with
  | zero => intro a0 a1 a5 h r e; cases e
  | succ n ih =>
    intro a0 a1 a5 h r e
    exact ra_sound (by omega) rfl ra_rV_ok (kX1_weighPair_170_ok N (nX1_weighPair_170 N n) ih) (fun m av h h1 e => (tVX1_weighPair_ok N) m av h h1 e) (fun m av h x h1 e => (tIX1_weighPair_ok N) m av h (x, h1) e) (fun m av h x h1 e => (ra_c0_ok (ro := ra_oJ)) m av h (x, h1) e) (fun m av h x h1 e => (ra_c0_ok (ro := ra_oR)) m av h (x, h1) e) (fun m av h x h1 e => (ra_c0_ok (ro := ra_oN)) m av h (x, h1) e) (fun m av h x h1 e => (ra_c0_ok (ro := ra_oF)) m av h (x, h1) e) 20 lX1_weighPair_170 _ _ _ _ lX1_weighPair_170_ck (show ra_run ra_rV (kX1_weighPair_170 N (nX1_weighPair_170 N n)) (tVX1_weighPair N) (tIX1_weighPair N) ra_c0 ra_c0 ra_c0 ra_c0 20 lX1_weighPair_170 [some (.ref a0), some (.int a1), none, none, none, some (.int a5), none, none] [] h = some r from e) _ _ rfl
def lX1_weighPair_48 : List ra_I := [(48, .iload 5, 2, 5, 0, 0, 0, 0, []),
  (50, .aload_n 0, 1, 0, 0, 0, 0, 0, []),
  (51, .getfield 41, 3, 1, 0, 2, 0, 0, []),
  (54, .getfield 119, 3, 2, 13, 0, 0, 0, []),
  (57, .if_icmp .ge (95), 3, 152, 0, 0, 0, 0, []),
  (60, .aload_n 0, 1, 0, 0, 0, 0, 0, []),
  (61, .getfield 25, 3, 1, 6, 2, 0, 0, []),
  (64, .iload 5, 2, 5, 0, 0, 0, 0, []),
  (66, .iaload, 1, 0, 0, 0, 0, 0, []),
  (67, .istore 6, 2, 6, 0, 0, 0, 0, []),
  (69, .aload_n 0, 1, 0, 0, 0, 0, 0, []),
  (70, .getfield 41, 3, 1, 0, 2, 0, 0, []),
  (73, .iload 6, 2, 6, 0, 0, 0, 0, []),
  (75, .iconst (2), 1, 0, 0, 0, (2), 0, []),
  (76, .invokevirtual 122, 3, 27, 3, 1, 0, 0, []),
  (79, .iconst (1), 1, 0, 0, 0, (1), 0, []),
  (80, .iadd, 1, 0, 0, 0, 0, 0, []),
  (81, .istore 7, 2, 7, 0, 0, 0, 0, []),
  (83, .iload 7, 2, 7, 0, 0, 0, 0, []),
  (85, .iload 4, 2, 4, 0, 0, 0, 0, []),
  (87, .if_icmp .le (21), 3, 108, 0, 0, 0, 0, []),
  (90, .aload_n 0, 1, 0, 0, 0, 0, 0, []),
  (91, .iload_n 1, 1, 1, 0, 0, 0, 0, []),
  (92, .iload_n 2, 1, 2, 0, 0, 0, 0, []),
  (93, .iload 4, 2, 4, 0, 0, 0, 0, []),
  (95, .iload 7, 2, 7, 0, 0, 0, 0, []),
  (97, .iload 4, 2, 4, 0, 0, 0, 0, []),
  (99, .isub, 1, 0, 0, 0, 0, 0, []),
  (100, .iload_n 3, 1, 3, 0, 0, 0, 0, []),
  (101, .invokevirtual 158, 3, 102, 6, 0, 0, 0, []),
  (104, .iload 7, 2, 7, 0, 0, 0, 0, []),
  (106, .istore 4, 2, 4, 0, 0, 0, 0, []),
  (152, .aload_n 0, 1, 0, 0, 0, 0, 0, []),
  (153, .iload_n 1, 1, 1, 0, 0, 0, 0, []),
  (154, .iload_n 2, 1, 2, 0, 0, 0, 0, []),
  (155, .iload 4, 2, 4, 0, 0, 0, 0, []),
  (157, .sipush (201), 3, 0, 0, 0, (201), 0, []),
  (160, .iload 4, 2, 4, 0, 0, 0, 0, []),
  (162, .isub, 1, 0, 0, 0, 0, 0, []),
  (163, .iload_n 3, 1, 3, 0, 0, 0, 0, []),
  (164, .invokevirtual 158, 3, 102, 6, 0, 0, 0, []),
  (167, .iconst (0), 1, 0, 0, 0, (0), 0, []),
  (168, .istore 5, 2, 5, 0, 0, 0, 0, [])]
set_option maxRecDepth 100000 in
theorem lX1_weighPair_48_ck : lX1_weighPair_48.all (ra_ck mX1_weighPair 1) = true := by decide +kernel
def nX1_weighPair_48 (N : Nat) : Nat → Nat → Int32 → Int32 → Int32 → Int32 → Int32 → ra_H → Option ra_H
  | 0, _, _, _, _, _, _, _ => none
  | n + 1, a0, a1, a2, a3, a4, a5, h =>
  (ra_fR h 1 a0 0).bind fun x1 =>
  (ra_fI h 2 x1 13).bind fun x2 =>
  if a5 < x2 then
    (ra_fR h 1 a0 6).bind fun x4 =>
    (ra_aI h 0 x4 a5).bind fun x5 =>
    (ra_fR h 1 a0 0).bind fun x6 =>
    (fX2_factOf N x6 x5 ((2 : Int32)) h).bind fun q7 =>
    let y8 := q7.1 + ((1 : Int32))
    if y8 ≤ a4 then
      nX1_weighPair_108 N (nX1_weighPair_48 N n) a0 a1 a2 a3 a4 a5 x5 q7.2
    else
      (fX1_weighYears N a0 a1 a2 a4 (y8 - a4) a3 q7.2).bind fun h9 =>
      nX1_weighPair_108 N (nX1_weighPair_48 N n) a0 a1 a2 a3 y8 a5 x5 h9
  else
    (fX1_weighYears N a0 a1 a2 a4 (((201 : Int32)) - a4) a3 h).bind fun h3 =>
    nX1_weighPair_170 N N a0 a1 ((0 : Int32)) h3
def kX1_weighPair_48 (N : Nat) (cs : Nat → Int32 → Int32 → Int32 → Int32 → Int32 → ra_H → Option ra_H) : Nat → List (Option Value) → List Value → ra_H → Option ra_H := (ra_k1 108 (fun L S h => match L, S with
  | [some (.ref a0), some (.int a1), some (.int a2), some (.int a3), some (.int a4), some (.int a5), some (.int a6), _], [] => nX1_weighPair_108 N cs a0 a1 a2 a3 a4 a5 a6 h
  | _, _ => none) (ra_k1 170 (fun L S h => match L, S with
  | [some (.ref a0), some (.int a1), _, _, _, some (.int a5), _, _], [] => nX1_weighPair_170 N N a0 a1 a5 h
  | _, _ => none) ra_k0))
theorem kX1_weighPair_48_ok (N : Nat) (cs : Nat → Int32 → Int32 → Int32 → Int32 → Int32 → ra_H → Option ra_H) (hcs : ∀ a0 a1 a2 a3 a4 a5 h r, cs a0 a1 a2 a3 a4 a5 h = some r → ra_Ru 2 mX1_weighPair 48 [some (.ref a0), some (.int a1), some (.int a2), some (.int a3), some (.int a4), some (.int a5), none, none] [] h (ra_oV r)) : ra_kok 2 mX1_weighPair ra_oV (kX1_weighPair_48 N cs) := (ra_k1_ok (by
  intro L S h a e
  split at e
  · exact ra_Ru.weak (nX1_weighPair_108_ok N cs hcs _ _ _ _ _ _ _ _ _ e) ⟨rfl, ⟨rfl, ⟨rfl, ⟨rfl, ⟨rfl, ⟨rfl, ⟨rfl, trivial⟩⟩⟩⟩⟩⟩⟩
  · cases e) (ra_k1_ok (by
  intro L S h a e
  split at e
  · exact ra_Ru.weak (nX1_weighPair_170_ok N N _ _ _ _ _ e) ⟨rfl, ⟨rfl, ⟨rfl, trivial⟩⟩⟩
  · cases e) ra_k0_ok))
set_option maxRecDepth 100000 in
theorem nX1_weighPair_48_ok (N : Nat) : ∀ n a0 a1 a2 a3 a4 a5 h r, nX1_weighPair_48 N n a0 a1 a2 a3 a4 a5 h = some r → ra_Ru 2 mX1_weighPair 48 [some (.ref a0), some (.int a1), some (.int a2), some (.int a3), some (.int a4), some (.int a5), none, none] [] h (ra_oV r) := by
  intro n
  induction n with
  | zero => intro a0 a1 a2 a3 a4 a5 h r e; cases e
  | succ n ih =>
    intro a0 a1 a2 a3 a4 a5 h r e
    exact ra_sound (by omega) rfl ra_rV_ok (kX1_weighPair_48_ok N (nX1_weighPair_48 N n) ih) (fun m av h h1 e => (tVX1_weighPair_ok N) m av h h1 e) (fun m av h x h1 e => (tIX1_weighPair_ok N) m av h (x, h1) e) (fun m av h x h1 e => (ra_c0_ok (ro := ra_oJ)) m av h (x, h1) e) (fun m av h x h1 e => (ra_c0_ok (ro := ra_oR)) m av h (x, h1) e) (fun m av h x h1 e => (ra_c0_ok (ro := ra_oN)) m av h (x, h1) e) (fun m av h x h1 e => (ra_c0_ok (ro := ra_oF)) m av h (x, h1) e) 44 lX1_weighPair_48 _ _ _ _ lX1_weighPair_48_ck (show ra_run ra_rV (kX1_weighPair_48 N (nX1_weighPair_48 N n)) (tVX1_weighPair N) (tIX1_weighPair N) ra_c0 ra_c0 ra_c0 ra_c0 44 lX1_weighPair_48 [some (.ref a0), some (.int a1), some (.int a2), some (.int a3), some (.int a4), some (.int a5), none, none] [] h = some r from e) _ _ rfl
def lX1_weighPair_5 : List ra_I := [(5, .iload 4, 2, 4, 0, 0, 0, 0, []),
  (7, .aload_n 0, 1, 0, 0, 0, 0, 0, []),
  (8, .getfield 41, 3, 1, 0, 2, 0, 0, []),
  (11, .getfield 119, 3, 2, 13, 0, 0, 0, []),
  (14, .if_icmp .ge (28), 3, 42, 0, 0, 0, 0, []),
  (17, .iload_n 3, 1, 3, 0, 0, 0, 0, []),
  (18, .aload_n 0, 1, 0, 0, 0, 0, 0, []),
  (19, .aload_n 0, 1, 0, 0, 0, 0, 0, []),
  (20, .getfield 19, 3, 1, 4, 2, 0, 0, []),
  (23, .iload_n 2, 1, 2, 0, 0, 0, 0, []),
  (24, .bipush (40), 2, 0, 0, 0, (40), 0, []),
  (26, .imul, 1, 0, 0, 0, 0, 0, []),
  (27, .iload 4, 2, 4, 0, 0, 0, 0, []),
  (29, .iadd, 1, 0, 0, 0, 0, 0, []),
  (30, .iaload, 1, 0, 0, 0, 0, 0, []),
  (31, .invokevirtual 154, 3, 101, 2, 1, 0, 0, []),
  (34, .iadd, 1, 0, 0, 0, 0, 0, []),
  (35, .istore_n 3, 1, 3, 0, 0, 0, 0, []),
  (36, .iinc 4 (1), 3, 4, 0, 0, (1), 0, []),
  (39, .goto (-34), 3, 5, 0, 0, 0, 0, []),
  (42, .iconst (0), 1, 0, 0, 0, (0), 0, []),
  (43, .istore 4, 2, 4, 0, 0, 0, 0, []),
  (45, .iconst (0), 1, 0, 0, 0, (0), 0, []),
  (46, .istore 5, 2, 5, 0, 0, 0, 0, [])]
set_option maxRecDepth 100000 in
theorem lX1_weighPair_5_ck : lX1_weighPair_5.all (ra_ck mX1_weighPair 1) = true := by decide +kernel
def nX1_weighPair_5 (N : Nat) : Nat → Nat → Int32 → Int32 → Int32 → Int32 → ra_H → Option ra_H
  | 0, _, _, _, _, _, _ => none
  | n + 1, a0, a1, a2, a3, a4, h =>
  (ra_fR h 1 a0 0).bind fun x1 =>
  (ra_fI h 2 x1 13).bind fun x2 =>
  if a4 < x2 then
    (ra_fR h 1 a0 4).bind fun x3 =>
    (ra_aI h 0 x3 ((a2 * ((40 : Int32))) + a4)).bind fun x4 =>
    (fX1_enter N a0 x4 h).bind fun q5 =>
    let y6 := a3 + q5.1
    let y7 := a4 + (1 : Int32)
    nX1_weighPair_5 N n a0 a1 a2 y6 y7 q5.2
  else
    nX1_weighPair_48 N N a0 a1 a2 a3 ((0 : Int32)) ((0 : Int32)) h
def kX1_weighPair_5 (N : Nat) (cs : Nat → Int32 → Int32 → Int32 → Int32 → ra_H → Option ra_H) : Nat → List (Option Value) → List Value → ra_H → Option ra_H := (ra_k1 5 (fun L S h => match L, S with
  | [some (.ref a0), some (.int a1), some (.int a2), some (.int a3), some (.int a4), _, _, _], [] => cs a0 a1 a2 a3 a4 h
  | _, _ => none) (ra_k1 48 (fun L S h => match L, S with
  | [some (.ref a0), some (.int a1), some (.int a2), some (.int a3), some (.int a4), some (.int a5), _, _], [] => nX1_weighPair_48 N N a0 a1 a2 a3 a4 a5 h
  | _, _ => none) ra_k0))
theorem kX1_weighPair_5_ok (N : Nat) (cs : Nat → Int32 → Int32 → Int32 → Int32 → ra_H → Option ra_H) (hcs : ∀ a0 a1 a2 a3 a4 h r, cs a0 a1 a2 a3 a4 h = some r → ra_Ru 2 mX1_weighPair 5 [some (.ref a0), some (.int a1), some (.int a2), some (.int a3), some (.int a4), none, none, none] [] h (ra_oV r)) : ra_kok 2 mX1_weighPair ra_oV (kX1_weighPair_5 N cs) := (ra_k1_ok (by
  intro L S h a e
  split at e
  · exact ra_Ru.weak (hcs _ _ _ _ _ _ _ e) ⟨rfl, ⟨rfl, ⟨rfl, ⟨rfl, ⟨rfl, trivial⟩⟩⟩⟩⟩
  · cases e) (ra_k1_ok (by
  intro L S h a e
  split at e
  · exact ra_Ru.weak (nX1_weighPair_48_ok N N _ _ _ _ _ _ _ _ e) ⟨rfl, ⟨rfl, ⟨rfl, ⟨rfl, ⟨rfl, ⟨rfl, trivial⟩⟩⟩⟩⟩⟩
  · cases e) ra_k0_ok))
set_option maxRecDepth 100000 in
theorem nX1_weighPair_5_ok (N : Nat) : ∀ n a0 a1 a2 a3 a4 h r, nX1_weighPair_5 N n a0 a1 a2 a3 a4 h = some r → ra_Ru 2 mX1_weighPair 5 [some (.ref a0), some (.int a1), some (.int a2), some (.int a3), some (.int a4), none, none, none] [] h (ra_oV r) := by
  intro n
  induction n with
  | zero => intro a0 a1 a2 a3 a4 h r e; cases e
  | succ n ih =>
    intro a0 a1 a2 a3 a4 h r e
    exact ra_sound (by omega) rfl ra_rV_ok (kX1_weighPair_5_ok N (nX1_weighPair_5 N n) ih) (fun m av h h1 e => (tVX1_weighPair_ok N) m av h h1 e) (fun m av h x h1 e => (tIX1_weighPair_ok N) m av h (x, h1) e) (fun m av h x h1 e => (ra_c0_ok (ro := ra_oJ)) m av h (x, h1) e) (fun m av h x h1 e => (ra_c0_ok (ro := ra_oR)) m av h (x, h1) e) (fun m av h x h1 e => (ra_c0_ok (ro := ra_oN)) m av h (x, h1) e) (fun m av h x h1 e => (ra_c0_ok (ro := ra_oF)) m av h (x, h1) e) 25 lX1_weighPair_5 _ _ _ _ lX1_weighPair_5_ck (show ra_run ra_rV (kX1_weighPair_5 N (nX1_weighPair_5 N n)) (tVX1_weighPair N) (tIX1_weighPair N) ra_c0 ra_c0 ra_c0 ra_c0 25 lX1_weighPair_5 [some (.ref a0), some (.int a1), some (.int a2), some (.int a3), some (.int a4), none, none, none] [] h = some r from e) _ _ rfl
def lX1_weighPair_0 : List ra_I := [(0, .iconst (0), 1, 0, 0, 0, (0), 0, []),
  (1, .istore_n 3, 1, 3, 0, 0, 0, 0, []),
  (2, .iconst (0), 1, 0, 0, 0, (0), 0, []),
  (3, .istore 4, 2, 4, 0, 0, 0, 0, [])]
set_option maxRecDepth 100000 in
theorem lX1_weighPair_0_ck : lX1_weighPair_0.all (ra_ck mX1_weighPair 1) = true := by decide +kernel
def nX1_weighPair_0 (N : Nat) (a0 : Nat) (a1 : Int32) (a2 : Int32) (h : ra_H) : Option ra_H :=
  nX1_weighPair_5 N N a0 a1 a2 ((0 : Int32)) ((0 : Int32)) h
def kX1_weighPair_0 (N : Nat) : Nat → List (Option Value) → List Value → ra_H → Option ra_H := (ra_k1 5 (fun L S h => match L, S with
  | [some (.ref a0), some (.int a1), some (.int a2), some (.int a3), some (.int a4), _, _, _], [] => nX1_weighPair_5 N N a0 a1 a2 a3 a4 h
  | _, _ => none) ra_k0)
theorem kX1_weighPair_0_ok (N : Nat) : ra_kok 2 mX1_weighPair ra_oV (kX1_weighPair_0 N) := (ra_k1_ok (by
  intro L S h a e
  split at e
  · exact ra_Ru.weak (nX1_weighPair_5_ok N N _ _ _ _ _ _ _ e) ⟨rfl, ⟨rfl, ⟨rfl, ⟨rfl, ⟨rfl, trivial⟩⟩⟩⟩⟩
  · cases e) ra_k0_ok)
set_option maxRecDepth 100000 in
theorem nX1_weighPair_0_ok (N : Nat) (a0 : Nat) (a1 : Int32) (a2 : Int32) (h : ra_H) (r : ra_H) (e : nX1_weighPair_0 N a0 a1 a2 h = some r) : ra_Ru 2 mX1_weighPair 0 [some (.ref a0), some (.int a1), some (.int a2), none, none, none, none, none] [] h (ra_oV r) :=
  ra_sound (by omega) rfl ra_rV_ok (kX1_weighPair_0_ok N) (fun m av h h1 e => (tVX1_weighPair_ok N) m av h h1 e) (fun m av h x h1 e => (tIX1_weighPair_ok N) m av h (x, h1) e) (fun m av h x h1 e => (ra_c0_ok (ro := ra_oJ)) m av h (x, h1) e) (fun m av h x h1 e => (ra_c0_ok (ro := ra_oR)) m av h (x, h1) e) (fun m av h x h1 e => (ra_c0_ok (ro := ra_oN)) m av h (x, h1) e) (fun m av h x h1 e => (ra_c0_ok (ro := ra_oF)) m av h (x, h1) e) 5 lX1_weighPair_0 _ _ _ _ lX1_weighPair_0_ck (show ra_run ra_rV (kX1_weighPair_0 N) (tVX1_weighPair N) (tIX1_weighPair N) ra_c0 ra_c0 ra_c0 ra_c0 5 lX1_weighPair_0 [some (.ref a0), some (.int a1), some (.int a2), none, none, none, none, none] [] h = some r from e) _ _ rfl
def fX1_weighPair (N : Nat) (p0 : Nat) (p1 : Int32) (p2 : Int32) (h : ra_H) : Option ra_H := match ra_isOb h p0 1 with
  | true => nX1_weighPair_0 N p0 p1 p2 h
  | false => none
set_option maxRecDepth 100000 in
theorem mtX1_weighPair : ra_MT[100]? = some (mX1_weighPair, 1, 2, (1, 6), (4, 154), (0, 29)) := rfl
theorem fX1_weighPair_co (N : Nat) (p0 : Nat) (p1 : Int32) (p2 : Int32) (h : ra_H) (r : ra_H) (e : fX1_weighPair N p0 p1 p2 h = some r) (D : Nat) (hD : 3 ≤ D) : ra_CO D 100 [.ref p0, .int p1, .int p2] h (ra_oV r).1 (ra_oV r).2 := by
  have hw : ra_nw2 [.ref p0, .int p1, .int p2] ≤ 8 := Nat.le_of_ble_eq_true rfl
  have hdb : ∀ v ∈ ([.ref p0, .int p1, .int p2] : List Value), ∀ x, v ≠ .double x := by
    intro v hv x hx
    simp [hx] at hv
  unfold fX1_weighPair at e
  split at e
  · rename_i ho
    have e1 := e
    exact ⟨2, _, mtX1_weighPair, hD, ra_ev_of (by decide) hdb hw trivial (ra_Ru.weak (nX1_weighPair_0_ok N p0 p1 p2 h _ e1) ⟨rfl, ⟨rfl, ⟨rfl, trivial⟩⟩⟩), (fun _ => ⟨_, _, rfl, ra_rcv_of ho (by decide) rfl⟩), (fun h => absurd h (by decide))⟩
  · cases e
/-! RedMarks$Histories.weighAllPairs()V -/
def mX1_weighAllPairs : ra_M := (yX1_weighAllPairs, cX1_weighAllPairs, 5, none)
def tVX1_weighAllPairs (N : Nat) : Nat → List Value → ra_H → Option ra_H := (ra_c1 3 (fun av h => match av with
  | [.ref z0, .int z1] => fJ7_fill_53178 N z0 z1 h
  | _ => none) (ra_c1 99 (fun av h => match av with
  | [.ref z0] => fX1_sortByYears N z0 h
  | _ => none) (ra_c1 100 (fun av h => match av with
  | [.ref z0, .int z1, .int z2] => fX1_weighPair N z0 z1 z2 h
  | _ => none) ra_c0)))
theorem tVX1_weighAllPairs_ok (N : Nat) : ra_cok 5 ra_oV (tVX1_weighAllPairs N) := (ra_c1_ok (by
  intro av h a e
  split at e
  · exact fJ7_fill_53178_co N _ _ _ _ e 5 (by omega)
  · cases e) (ra_c1_ok (by
  intro av h a e
  split at e
  · exact fX1_sortByYears_co N _ _ _ e 5 (by omega)
  · cases e) (ra_c1_ok (by
  intro av h a e
  split at e
  · exact fX1_weighPair_co N _ _ _ _ _ e 5 (by omega)
  · cases e) ra_c0_ok)))
def tIX1_weighAllPairs (N : Nat) : Nat → List Value → ra_H → Option (Int32 × ra_H) := (ra_c1 83 (fun av h => match av with
  | [.ref z0, .int z1, .int z2] => fX1_seatOf N z0 z1 z2 h
  | _ => none) (ra_c1 90 (fun av h => match av with
  | [.ref z0, .int z1, .int z2] => fX2_isRight N z0 z1 z2 h
  | _ => none) ra_c0))
theorem tIX1_weighAllPairs_ok (N : Nat) : ra_cok 5 ra_oI (tIX1_weighAllPairs N) := (ra_c1_ok (by
  intro av h a e
  split at e
  · exact fX1_seatOf_co N _ _ _ _ _ e 5 (by omega)
  · cases e) (ra_c1_ok (by
  intro av h a e
  split at e
  · exact fX2_isRight_co N _ _ _ _ _ e 5 (by omega)
  · cases e) ra_c0_ok))
def lX1_weighAllPairs_89 : List ra_I := [(89, .iastore, 1, 0, 0, 0, 0, 0, []),
  (90, .iinc 2 (1), 3, 2, 0, 0, (1), 0, []),
  (93, .goto (-66), 3, 27, 0, 0, 0, 0, [])]
set_option maxRecDepth 100000 in
theorem lX1_weighAllPairs_89_ck : lX1_weighAllPairs_89.all (ra_ck mX1_weighAllPairs 1) = true := by decide +kernel
def nX1_weighAllPairs_89 (N : Nat) (c14 : Nat → Int32 → ra_H → Option ra_H) (c27 : Nat → Int32 → Int32 → ra_H → Option ra_H) (a0 : Nat) (a1 : Int32) (a2 : Int32) (b0 : Nat) (b1 : Int32) (b2 : Int32) (h : ra_H) : Option ra_H :=
  (ra_aW h 0 b0 b1 b2).bind fun h1 =>
  let y2 := a2 + (1 : Int32)
  c27 a0 a1 y2 h1
def kX1_weighAllPairs_89 (N : Nat) (c14 : Nat → Int32 → ra_H → Option ra_H) (c27 : Nat → Int32 → Int32 → ra_H → Option ra_H) : Nat → List (Option Value) → List Value → ra_H → Option ra_H := (ra_k1 27 (fun L S h => match L, S with
  | [some (.ref a0), some (.int a1), some (.int a2), _, _], [] => c27 a0 a1 a2 h
  | _, _ => none) ra_k0)
theorem kX1_weighAllPairs_89_ok (N : Nat) (c14 : Nat → Int32 → ra_H → Option ra_H) (c27 : Nat → Int32 → Int32 → ra_H → Option ra_H) (hc14 : ∀ a0 a1 h r, c14 a0 a1 h = some r → ra_Ru 5 mX1_weighAllPairs 14 [some (.ref a0), some (.int a1), none, none, none] [] h (ra_oV r)) (hc27 : ∀ a0 a1 a2 h r, c27 a0 a1 a2 h = some r → ra_Ru 5 mX1_weighAllPairs 27 [some (.ref a0), some (.int a1), some (.int a2), none, none] [] h (ra_oV r)) : ra_kok 5 mX1_weighAllPairs ra_oV (kX1_weighAllPairs_89 N c14 c27) := (ra_k1_ok (by
  intro L S h a e
  split at e
  · exact ra_Ru.weak (hc27 _ _ _ _ _ e) ⟨rfl, ⟨rfl, ⟨rfl, trivial⟩⟩⟩
  · cases e) ra_k0_ok)
set_option maxRecDepth 100000 in
theorem nX1_weighAllPairs_89_ok (N : Nat) (c14 : Nat → Int32 → ra_H → Option ra_H) (c27 : Nat → Int32 → Int32 → ra_H → Option ra_H) (hc14 : ∀ a0 a1 h r, c14 a0 a1 h = some r → ra_Ru 5 mX1_weighAllPairs 14 [some (.ref a0), some (.int a1), none, none, none] [] h (ra_oV r)) (hc27 : ∀ a0 a1 a2 h r, c27 a0 a1 a2 h = some r → ra_Ru 5 mX1_weighAllPairs 27 [some (.ref a0), some (.int a1), some (.int a2), none, none] [] h (ra_oV r)) (a0 : Nat) (a1 : Int32) (a2 : Int32) (b0 : Nat) (b1 : Int32) (b2 : Int32) (h : ra_H) (r : ra_H) (e : nX1_weighAllPairs_89 N c14 c27 a0 a1 a2 b0 b1 b2 h = some r) : ra_Ru 5 mX1_weighAllPairs 89 [some (.ref a0), some (.int a1), some (.int a2), none, none] [.int b2, .int b1, .ref b0] h (ra_oV r) :=
  ra_sound (by omega) rfl ra_rV_ok (kX1_weighAllPairs_89_ok N c14 c27 hc14 hc27) (fun m av h h1 e => (tVX1_weighAllPairs_ok N) m av h h1 e) (fun m av h x h1 e => (tIX1_weighAllPairs_ok N) m av h (x, h1) e) (fun m av h x h1 e => (ra_c0_ok (ro := ra_oJ)) m av h (x, h1) e) (fun m av h x h1 e => (ra_c0_ok (ro := ra_oR)) m av h (x, h1) e) (fun m av h x h1 e => (ra_c0_ok (ro := ra_oN)) m av h (x, h1) e) (fun m av h x h1 e => (ra_c0_ok (ro := ra_oF)) m av h (x, h1) e) 4 lX1_weighAllPairs_89 _ _ _ _ lX1_weighAllPairs_89_ck (show ra_run ra_rV (kX1_weighAllPairs_89 N c14 c27) (tVX1_weighAllPairs N) (tIX1_weighAllPairs N) ra_c0 ra_c0 ra_c0 ra_c0 4 lX1_weighAllPairs_89 [some (.ref a0), some (.int a1), some (.int a2), none, none] [.int b2, .int b1, .ref b0] h = some r from e) _ _ rfl
def lX1_weighAllPairs_67 : List ra_I := [(67, .istore 4, 2, 4, 0, 0, 0, 0, []),
  (69, .aload_n 0, 1, 0, 0, 0, 0, 0, []),
  (70, .getfield 19, 3, 1, 4, 2, 0, 0, []),
  (73, .iload_n 1, 1, 1, 0, 0, 0, 0, []),
  (74, .bipush (40), 2, 0, 0, 0, (40), 0, []),
  (76, .imul, 1, 0, 0, 0, 0, 0, []),
  (77, .iload_n 2, 1, 2, 0, 0, 0, 0, []),
  (78, .iadd, 1, 0, 0, 0, 0, 0, []),
  (79, .iload 4, 2, 4, 0, 0, 0, 0, []),
  (81, .ifCond .eq (7), 3, 88, 0, 0, 0, 0, []),
  (84, .iload_n 3, 1, 3, 0, 0, 0, 0, []),
  (85, .goto (4), 3, 89, 0, 0, 0, 0, []),
  (88, .iconst (-1), 1, 0, 0, 0, (-1), 0, [])]
set_option maxRecDepth 100000 in
theorem lX1_weighAllPairs_67_ck : lX1_weighAllPairs_67.all (ra_ck mX1_weighAllPairs 1) = true := by decide +kernel
def nX1_weighAllPairs_67 (N : Nat) (c14 : Nat → Int32 → ra_H → Option ra_H) (c27 : Nat → Int32 → Int32 → ra_H → Option ra_H) (a0 : Nat) (a1 : Int32) (a2 : Int32) (a3 : Int32) (b0 : Int32) (h : ra_H) : Option ra_H :=
  (ra_fR h 1 a0 4).bind fun x1 =>
  if b0 = 0 then
    nX1_weighAllPairs_89 N c14 c27 a0 a1 a2 x1 ((a1 * ((40 : Int32))) + a2) ((-1 : Int32)) h
  else
    nX1_weighAllPairs_89 N c14 c27 a0 a1 a2 x1 ((a1 * ((40 : Int32))) + a2) a3 h
def kX1_weighAllPairs_67 (N : Nat) (c14 : Nat → Int32 → ra_H → Option ra_H) (c27 : Nat → Int32 → Int32 → ra_H → Option ra_H) : Nat → List (Option Value) → List Value → ra_H → Option ra_H := (ra_k1 89 (fun L S h => match L, S with
  | [some (.ref a0), some (.int a1), some (.int a2), _, _], [.int b2, .int b1, .ref b0] => nX1_weighAllPairs_89 N c14 c27 a0 a1 a2 b0 b1 b2 h
  | _, _ => none) ra_k0)
theorem kX1_weighAllPairs_67_ok (N : Nat) (c14 : Nat → Int32 → ra_H → Option ra_H) (c27 : Nat → Int32 → Int32 → ra_H → Option ra_H) (hc14 : ∀ a0 a1 h r, c14 a0 a1 h = some r → ra_Ru 5 mX1_weighAllPairs 14 [some (.ref a0), some (.int a1), none, none, none] [] h (ra_oV r)) (hc27 : ∀ a0 a1 a2 h r, c27 a0 a1 a2 h = some r → ra_Ru 5 mX1_weighAllPairs 27 [some (.ref a0), some (.int a1), some (.int a2), none, none] [] h (ra_oV r)) : ra_kok 5 mX1_weighAllPairs ra_oV (kX1_weighAllPairs_67 N c14 c27) := (ra_k1_ok (by
  intro L S h a e
  split at e
  · exact ra_Ru.weak (nX1_weighAllPairs_89_ok N c14 c27 hc14 hc27 _ _ _ _ _ _ _ _ e) ⟨rfl, ⟨rfl, ⟨rfl, trivial⟩⟩⟩
  · cases e) ra_k0_ok)
set_option maxRecDepth 100000 in
theorem nX1_weighAllPairs_67_ok (N : Nat) (c14 : Nat → Int32 → ra_H → Option ra_H) (c27 : Nat → Int32 → Int32 → ra_H → Option ra_H) (hc14 : ∀ a0 a1 h r, c14 a0 a1 h = some r → ra_Ru 5 mX1_weighAllPairs 14 [some (.ref a0), some (.int a1), none, none, none] [] h (ra_oV r)) (hc27 : ∀ a0 a1 a2 h r, c27 a0 a1 a2 h = some r → ra_Ru 5 mX1_weighAllPairs 27 [some (.ref a0), some (.int a1), some (.int a2), none, none] [] h (ra_oV r)) (a0 : Nat) (a1 : Int32) (a2 : Int32) (a3 : Int32) (b0 : Int32) (h : ra_H) (r : ra_H) (e : nX1_weighAllPairs_67 N c14 c27 a0 a1 a2 a3 b0 h = some r) : ra_Ru 5 mX1_weighAllPairs 67 [some (.ref a0), some (.int a1), some (.int a2), some (.int a3), none] [.int b0] h (ra_oV r) :=
  ra_sound (by omega) rfl ra_rV_ok (kX1_weighAllPairs_67_ok N c14 c27 hc14 hc27) (fun m av h h1 e => (tVX1_weighAllPairs_ok N) m av h h1 e) (fun m av h x h1 e => (tIX1_weighAllPairs_ok N) m av h (x, h1) e) (fun m av h x h1 e => (ra_c0_ok (ro := ra_oJ)) m av h (x, h1) e) (fun m av h x h1 e => (ra_c0_ok (ro := ra_oR)) m av h (x, h1) e) (fun m av h x h1 e => (ra_c0_ok (ro := ra_oN)) m av h (x, h1) e) (fun m av h x h1 e => (ra_c0_ok (ro := ra_oF)) m av h (x, h1) e) 14 lX1_weighAllPairs_67 _ _ _ _ lX1_weighAllPairs_67_ck (show ra_run ra_rV (kX1_weighAllPairs_67 N c14 c27) (tVX1_weighAllPairs N) (tIX1_weighAllPairs N) ra_c0 ra_c0 ra_c0 ra_c0 14 lX1_weighAllPairs_67 [some (.ref a0), some (.int a1), some (.int a2), some (.int a3), none] [.int b0] h = some r from e) _ _ rfl
def lX1_weighAllPairs_66 : List ra_I := [(66, .iconst (0), 1, 0, 0, 0, (0), 0, [])]
set_option maxRecDepth 100000 in
theorem lX1_weighAllPairs_66_ck : lX1_weighAllPairs_66.all (ra_ck mX1_weighAllPairs 1) = true := by decide +kernel
def nX1_weighAllPairs_66 (N : Nat) (c14 : Nat → Int32 → ra_H → Option ra_H) (c27 : Nat → Int32 → Int32 → ra_H → Option ra_H) (a0 : Nat) (a1 : Int32) (a2 : Int32) (a3 : Int32) (h : ra_H) : Option ra_H :=
  nX1_weighAllPairs_67 N c14 c27 a0 a1 a2 a3 ((0 : Int32)) h
def kX1_weighAllPairs_66 (N : Nat) (c14 : Nat → Int32 → ra_H → Option ra_H) (c27 : Nat → Int32 → Int32 → ra_H → Option ra_H) : Nat → List (Option Value) → List Value → ra_H → Option ra_H := (ra_k1 67 (fun L S h => match L, S with
  | [some (.ref a0), some (.int a1), some (.int a2), some (.int a3), _], [.int b0] => nX1_weighAllPairs_67 N c14 c27 a0 a1 a2 a3 b0 h
  | _, _ => none) ra_k0)
theorem kX1_weighAllPairs_66_ok (N : Nat) (c14 : Nat → Int32 → ra_H → Option ra_H) (c27 : Nat → Int32 → Int32 → ra_H → Option ra_H) (hc14 : ∀ a0 a1 h r, c14 a0 a1 h = some r → ra_Ru 5 mX1_weighAllPairs 14 [some (.ref a0), some (.int a1), none, none, none] [] h (ra_oV r)) (hc27 : ∀ a0 a1 a2 h r, c27 a0 a1 a2 h = some r → ra_Ru 5 mX1_weighAllPairs 27 [some (.ref a0), some (.int a1), some (.int a2), none, none] [] h (ra_oV r)) : ra_kok 5 mX1_weighAllPairs ra_oV (kX1_weighAllPairs_66 N c14 c27) := (ra_k1_ok (by
  intro L S h a e
  split at e
  · exact ra_Ru.weak (nX1_weighAllPairs_67_ok N c14 c27 hc14 hc27 _ _ _ _ _ _ _ e) ⟨rfl, ⟨rfl, ⟨rfl, ⟨rfl, trivial⟩⟩⟩⟩
  · cases e) ra_k0_ok)
set_option maxRecDepth 100000 in
theorem nX1_weighAllPairs_66_ok (N : Nat) (c14 : Nat → Int32 → ra_H → Option ra_H) (c27 : Nat → Int32 → Int32 → ra_H → Option ra_H) (hc14 : ∀ a0 a1 h r, c14 a0 a1 h = some r → ra_Ru 5 mX1_weighAllPairs 14 [some (.ref a0), some (.int a1), none, none, none] [] h (ra_oV r)) (hc27 : ∀ a0 a1 a2 h r, c27 a0 a1 a2 h = some r → ra_Ru 5 mX1_weighAllPairs 27 [some (.ref a0), some (.int a1), some (.int a2), none, none] [] h (ra_oV r)) (a0 : Nat) (a1 : Int32) (a2 : Int32) (a3 : Int32) (h : ra_H) (r : ra_H) (e : nX1_weighAllPairs_66 N c14 c27 a0 a1 a2 a3 h = some r) : ra_Ru 5 mX1_weighAllPairs 66 [some (.ref a0), some (.int a1), some (.int a2), some (.int a3), none] [] h (ra_oV r) :=
  ra_sound (by omega) rfl ra_rV_ok (kX1_weighAllPairs_66_ok N c14 c27 hc14 hc27) (fun m av h h1 e => (tVX1_weighAllPairs_ok N) m av h h1 e) (fun m av h x h1 e => (tIX1_weighAllPairs_ok N) m av h (x, h1) e) (fun m av h x h1 e => (ra_c0_ok (ro := ra_oJ)) m av h (x, h1) e) (fun m av h x h1 e => (ra_c0_ok (ro := ra_oR)) m av h (x, h1) e) (fun m av h x h1 e => (ra_c0_ok (ro := ra_oN)) m av h (x, h1) e) (fun m av h x h1 e => (ra_c0_ok (ro := ra_oF)) m av h (x, h1) e) 2 lX1_weighAllPairs_66 _ _ _ _ lX1_weighAllPairs_66_ck (show ra_run ra_rV (kX1_weighAllPairs_66 N c14 c27) (tVX1_weighAllPairs N) (tIX1_weighAllPairs N) ra_c0 ra_c0 ra_c0 ra_c0 2 lX1_weighAllPairs_66 [some (.ref a0), some (.int a1), some (.int a2), some (.int a3), none] [] h = some r from e) _ _ rfl
def lX1_weighAllPairs_27 : List ra_I := [(27, .iload_n 2, 1, 2, 0, 0, 0, 0, []),
  (28, .aload_n 0, 1, 0, 0, 0, 0, 0, []),
  (29, .getfield 41, 3, 1, 0, 2, 0, 0, []),
  (32, .getfield 119, 3, 2, 13, 0, 0, 0, []),
  (35, .if_icmp .ge (61), 3, 96, 0, 0, 0, 0, []),
  (38, .aload_n 0, 1, 0, 0, 0, 0, 0, []),
  (39, .iload_n 1, 1, 1, 0, 0, 0, 0, []),
  (40, .iload_n 2, 1, 2, 0, 0, 0, 0, []),
  (41, .invokevirtual 126, 3, 83, 3, 1, 0, 0, []),
  (44, .istore_n 3, 1, 3, 0, 0, 0, 0, []),
  (45, .iload_n 3, 1, 3, 0, 0, 0, 0, []),
  (46, .iconst (-1), 1, 0, 0, 0, (-1), 0, []),
  (47, .if_icmp .eq (19), 3, 66, 0, 0, 0, 0, []),
  (50, .aload_n 0, 1, 0, 0, 0, 0, 0, []),
  (51, .getfield 41, 3, 1, 0, 2, 0, 0, []),
  (54, .iload_n 2, 1, 2, 0, 0, 0, 0, []),
  (55, .iload_n 3, 1, 3, 0, 0, 0, 0, []),
  (56, .invokevirtual 138, 3, 90, 3, 1, 0, 0, []),
  (59, .ifCond .eq (7), 3, 66, 0, 0, 0, 0, []),
  (62, .iconst (1), 1, 0, 0, 0, (1), 0, []),
  (63, .goto (4), 3, 67, 0, 0, 0, 0, []),
  (96, .iinc 1 (1), 3, 1, 0, 0, (1), 0, []),
  (99, .goto (-85), 3, 14, 0, 0, 0, 0, [])]
set_option maxRecDepth 100000 in
theorem lX1_weighAllPairs_27_ck : lX1_weighAllPairs_27.all (ra_ck mX1_weighAllPairs 1) = true := by decide +kernel
def nX1_weighAllPairs_27 (N : Nat) (c14 : Nat → Int32 → ra_H → Option ra_H) : Nat → Nat → Int32 → Int32 → ra_H → Option ra_H
  | 0, _, _, _, _ => none
  | n + 1, a0, a1, a2, h =>
  (ra_fR h 1 a0 0).bind fun x1 =>
  (ra_fI h 2 x1 13).bind fun x2 =>
  if a2 < x2 then
    (fX1_seatOf N a0 a1 a2 h).bind fun q4 =>
    if q4.1 = ((-1 : Int32)) then
      nX1_weighAllPairs_66 N c14 (nX1_weighAllPairs_27 N c14 n) a0 a1 a2 q4.1 q4.2
    else
      (ra_fR q4.2 1 a0 0).bind fun x5 =>
      (fX2_isRight N x5 a2 q4.1 q4.2).bind fun q6 =>
      if q6.1 = 0 then
        nX1_weighAllPairs_66 N c14 (nX1_weighAllPairs_27 N c14 n) a0 a1 a2 q4.1 q6.2
      else
        nX1_weighAllPairs_67 N c14 (nX1_weighAllPairs_27 N c14 n) a0 a1 a2 q4.1 ((1 : Int32)) q6.2
  else
    let y3 := a1 + (1 : Int32)
    c14 a0 y3 h
def kX1_weighAllPairs_27 (N : Nat) (c14 : Nat → Int32 → ra_H → Option ra_H) (cs : Nat → Int32 → Int32 → ra_H → Option ra_H) : Nat → List (Option Value) → List Value → ra_H → Option ra_H := (ra_k1 14 (fun L S h => match L, S with
  | [some (.ref a0), some (.int a1), _, _, _], [] => c14 a0 a1 h
  | _, _ => none) (ra_k1 66 (fun L S h => match L, S with
  | [some (.ref a0), some (.int a1), some (.int a2), some (.int a3), _], [] => nX1_weighAllPairs_66 N c14 cs a0 a1 a2 a3 h
  | _, _ => none) (ra_k1 67 (fun L S h => match L, S with
  | [some (.ref a0), some (.int a1), some (.int a2), some (.int a3), _], [.int b0] => nX1_weighAllPairs_67 N c14 cs a0 a1 a2 a3 b0 h
  | _, _ => none) ra_k0)))
theorem kX1_weighAllPairs_27_ok (N : Nat) (c14 : Nat → Int32 → ra_H → Option ra_H) (hc14 : ∀ a0 a1 h r, c14 a0 a1 h = some r → ra_Ru 5 mX1_weighAllPairs 14 [some (.ref a0), some (.int a1), none, none, none] [] h (ra_oV r)) (cs : Nat → Int32 → Int32 → ra_H → Option ra_H) (hcs : ∀ a0 a1 a2 h r, cs a0 a1 a2 h = some r → ra_Ru 5 mX1_weighAllPairs 27 [some (.ref a0), some (.int a1), some (.int a2), none, none] [] h (ra_oV r)) : ra_kok 5 mX1_weighAllPairs ra_oV (kX1_weighAllPairs_27 N c14 cs) := (ra_k1_ok (by
  intro L S h a e
  split at e
  · exact ra_Ru.weak (hc14 _ _ _ _ e) ⟨rfl, ⟨rfl, trivial⟩⟩
  · cases e) (ra_k1_ok (by
  intro L S h a e
  split at e
  · exact ra_Ru.weak (nX1_weighAllPairs_66_ok N c14 cs hc14 hcs _ _ _ _ _ _ e) ⟨rfl, ⟨rfl, ⟨rfl, ⟨rfl, trivial⟩⟩⟩⟩
  · cases e) (ra_k1_ok (by
  intro L S h a e
  split at e
  · exact ra_Ru.weak (nX1_weighAllPairs_67_ok N c14 cs hc14 hcs _ _ _ _ _ _ _ e) ⟨rfl, ⟨rfl, ⟨rfl, ⟨rfl, trivial⟩⟩⟩⟩
  · cases e) ra_k0_ok)))
set_option maxRecDepth 100000 in
theorem nX1_weighAllPairs_27_ok (N : Nat) (c14 : Nat → Int32 → ra_H → Option ra_H) (hc14 : ∀ a0 a1 h r, c14 a0 a1 h = some r → ra_Ru 5 mX1_weighAllPairs 14 [some (.ref a0), some (.int a1), none, none, none] [] h (ra_oV r)) : ∀ n a0 a1 a2 h r, nX1_weighAllPairs_27 N c14 n a0 a1 a2 h = some r → ra_Ru 5 mX1_weighAllPairs 27 [some (.ref a0), some (.int a1), some (.int a2), none, none] [] h (ra_oV r) := by
  intro n
  induction n with
  | zero => intro a0 a1 a2 h r e; cases e
  | succ n ih =>
    intro a0 a1 a2 h r e
    exact ra_sound (by omega) rfl ra_rV_ok (kX1_weighAllPairs_27_ok N c14 hc14 (nX1_weighAllPairs_27 N c14 n) ih) (fun m av h h1 e => (tVX1_weighAllPairs_ok N) m av h h1 e) (fun m av h x h1 e => (tIX1_weighAllPairs_ok N) m av h (x, h1) e) (fun m av h x h1 e => (ra_c0_ok (ro := ra_oJ)) m av h (x, h1) e) (fun m av h x h1 e => (ra_c0_ok (ro := ra_oR)) m av h (x, h1) e) (fun m av h x h1 e => (ra_c0_ok (ro := ra_oN)) m av h (x, h1) e) (fun m av h x h1 e => (ra_c0_ok (ro := ra_oF)) m av h (x, h1) e) 24 lX1_weighAllPairs_27 _ _ _ _ lX1_weighAllPairs_27_ck (show ra_run ra_rV (kX1_weighAllPairs_27 N c14 (nX1_weighAllPairs_27 N c14 n)) (tVX1_weighAllPairs N) (tIX1_weighAllPairs N) ra_c0 ra_c0 ra_c0 ra_c0 24 lX1_weighAllPairs_27 [some (.ref a0), some (.int a1), some (.int a2), none, none] [] h = some r from e) _ _ rfl
def lX1_weighAllPairs_117 : List ra_I := [(117, .iload_n 2, 1, 2, 0, 0, 0, 0, []),
  (118, .aload_n 0, 1, 0, 0, 0, 0, 0, []),
  (119, .getfield 41, 3, 1, 0, 2, 0, 0, []),
  (122, .getfield 147, 3, 2, 14, 0, 0, 0, []),
  (125, .if_icmp .ge (15), 3, 140, 0, 0, 0, 0, []),
  (128, .aload_n 0, 1, 0, 0, 0, 0, 0, []),
  (129, .iload_n 1, 1, 1, 0, 0, 0, 0, []),
  (130, .iload_n 2, 1, 2, 0, 0, 0, 0, []),
  (131, .invokevirtual 150, 3, 100, 3, 0, 0, 0, []),
  (134, .iinc 2 (1), 3, 2, 0, 0, (1), 0, []),
  (137, .goto (-20), 3, 117, 0, 0, 0, 0, []),
  (140, .iinc 1 (1), 3, 1, 0, 0, (1), 0, []),
  (143, .goto (-39), 3, 104, 0, 0, 0, 0, [])]
set_option maxRecDepth 100000 in
theorem lX1_weighAllPairs_117_ck : lX1_weighAllPairs_117.all (ra_ck mX1_weighAllPairs 1) = true := by decide +kernel
def nX1_weighAllPairs_117 (N : Nat) (c104 : Nat → Int32 → ra_H → Option ra_H) : Nat → Nat → Int32 → Int32 → ra_H → Option ra_H
  | 0, _, _, _, _ => none
  | n + 1, a0, a1, a2, h =>
  (ra_fR h 1 a0 0).bind fun x1 =>
  (ra_fI h 2 x1 14).bind fun x2 =>
  if a2 < x2 then
    (fX1_weighPair N a0 a1 a2 h).bind fun h4 =>
    let y5 := a2 + (1 : Int32)
    nX1_weighAllPairs_117 N c104 n a0 a1 y5 h4
  else
    let y3 := a1 + (1 : Int32)
    c104 a0 y3 h
def kX1_weighAllPairs_117 (N : Nat) (c104 : Nat → Int32 → ra_H → Option ra_H) (cs : Nat → Int32 → Int32 → ra_H → Option ra_H) : Nat → List (Option Value) → List Value → ra_H → Option ra_H := (ra_k1 104 (fun L S h => match L, S with
  | [some (.ref a0), some (.int a1), _, _, _], [] => c104 a0 a1 h
  | _, _ => none) (ra_k1 117 (fun L S h => match L, S with
  | [some (.ref a0), some (.int a1), some (.int a2), _, _], [] => cs a0 a1 a2 h
  | _, _ => none) ra_k0))
theorem kX1_weighAllPairs_117_ok (N : Nat) (c104 : Nat → Int32 → ra_H → Option ra_H) (hc104 : ∀ a0 a1 h r, c104 a0 a1 h = some r → ra_Ru 5 mX1_weighAllPairs 104 [some (.ref a0), some (.int a1), none, none, none] [] h (ra_oV r)) (cs : Nat → Int32 → Int32 → ra_H → Option ra_H) (hcs : ∀ a0 a1 a2 h r, cs a0 a1 a2 h = some r → ra_Ru 5 mX1_weighAllPairs 117 [some (.ref a0), some (.int a1), some (.int a2), none, none] [] h (ra_oV r)) : ra_kok 5 mX1_weighAllPairs ra_oV (kX1_weighAllPairs_117 N c104 cs) := (ra_k1_ok (by
  intro L S h a e
  split at e
  · exact ra_Ru.weak (hc104 _ _ _ _ e) ⟨rfl, ⟨rfl, trivial⟩⟩
  · cases e) (ra_k1_ok (by
  intro L S h a e
  split at e
  · exact ra_Ru.weak (hcs _ _ _ _ _ e) ⟨rfl, ⟨rfl, ⟨rfl, trivial⟩⟩⟩
  · cases e) ra_k0_ok))
set_option maxRecDepth 100000 in
theorem nX1_weighAllPairs_117_ok (N : Nat) (c104 : Nat → Int32 → ra_H → Option ra_H) (hc104 : ∀ a0 a1 h r, c104 a0 a1 h = some r → ra_Ru 5 mX1_weighAllPairs 104 [some (.ref a0), some (.int a1), none, none, none] [] h (ra_oV r)) : ∀ n a0 a1 a2 h r, nX1_weighAllPairs_117 N c104 n a0 a1 a2 h = some r → ra_Ru 5 mX1_weighAllPairs 117 [some (.ref a0), some (.int a1), some (.int a2), none, none] [] h (ra_oV r) := by
  intro n
  induction n with
  | zero => intro a0 a1 a2 h r e; cases e
  | succ n ih =>
    intro a0 a1 a2 h r e
    exact ra_sound (by omega) rfl ra_rV_ok (kX1_weighAllPairs_117_ok N c104 hc104 (nX1_weighAllPairs_117 N c104 n) ih) (fun m av h h1 e => (tVX1_weighAllPairs_ok N) m av h h1 e) (fun m av h x h1 e => (tIX1_weighAllPairs_ok N) m av h (x, h1) e) (fun m av h x h1 e => (ra_c0_ok (ro := ra_oJ)) m av h (x, h1) e) (fun m av h x h1 e => (ra_c0_ok (ro := ra_oR)) m av h (x, h1) e) (fun m av h x h1 e => (ra_c0_ok (ro := ra_oN)) m av h (x, h1) e) (fun m av h x h1 e => (ra_c0_ok (ro := ra_oF)) m av h (x, h1) e) 14 lX1_weighAllPairs_117 _ _ _ _ lX1_weighAllPairs_117_ck (show ra_run ra_rV (kX1_weighAllPairs_117 N c104 (nX1_weighAllPairs_117 N c104 n)) (tVX1_weighAllPairs N) (tIX1_weighAllPairs N) ra_c0 ra_c0 ra_c0 ra_c0 14 lX1_weighAllPairs_117 [some (.ref a0), some (.int a1), some (.int a2), none, none] [] h = some r from e) _ _ rfl
def lX1_weighAllPairs_104 : List ra_I := [(104, .iload_n 1, 1, 1, 0, 0, 0, 0, []),
  (105, .aload_n 0, 1, 0, 0, 0, 0, 0, []),
  (106, .getfield 41, 3, 1, 0, 2, 0, 0, []),
  (109, .getfield 147, 3, 2, 14, 0, 0, 0, []),
  (112, .if_icmp .ge (34), 3, 146, 0, 0, 0, 0, []),
  (115, .iconst (0), 1, 0, 0, 0, (0), 0, []),
  (116, .istore_n 2, 1, 2, 0, 0, 0, 0, []),
  (146, .return_, 1, 0, 0, 0, 0, 0, [])]
set_option maxRecDepth 100000 in
theorem lX1_weighAllPairs_104_ck : lX1_weighAllPairs_104.all (ra_ck mX1_weighAllPairs 1) = true := by decide +kernel
def nX1_weighAllPairs_104 (N : Nat) : Nat → Nat → Int32 → ra_H → Option ra_H
  | 0, _, _, _ => none
  | n + 1, a0, a1, h =>
  (ra_fR h 1 a0 0).bind fun x1 =>
  (ra_fI h 2 x1 14).bind fun x2 =>
  if a1 < x2 then
    nX1_weighAllPairs_117 N (nX1_weighAllPairs_104 N n) N a0 a1 ((0 : Int32)) h
  else
    some h
def kX1_weighAllPairs_104 (N : Nat) (cs : Nat → Int32 → ra_H → Option ra_H) : Nat → List (Option Value) → List Value → ra_H → Option ra_H := (ra_k1 117 (fun L S h => match L, S with
  | [some (.ref a0), some (.int a1), some (.int a2), _, _], [] => nX1_weighAllPairs_117 N cs N a0 a1 a2 h
  | _, _ => none) ra_k0)
theorem kX1_weighAllPairs_104_ok (N : Nat) (cs : Nat → Int32 → ra_H → Option ra_H) (hcs : ∀ a0 a1 h r, cs a0 a1 h = some r → ra_Ru 5 mX1_weighAllPairs 104 [some (.ref a0), some (.int a1), none, none, none] [] h (ra_oV r)) : ra_kok 5 mX1_weighAllPairs ra_oV (kX1_weighAllPairs_104 N cs) := (ra_k1_ok (by
  intro L S h a e
  split at e
  · exact ra_Ru.weak (nX1_weighAllPairs_117_ok N cs hcs N _ _ _ _ _ e) ⟨rfl, ⟨rfl, ⟨rfl, trivial⟩⟩⟩
  · cases e) ra_k0_ok)
set_option maxRecDepth 100000 in
theorem nX1_weighAllPairs_104_ok (N : Nat) : ∀ n a0 a1 h r, nX1_weighAllPairs_104 N n a0 a1 h = some r → ra_Ru 5 mX1_weighAllPairs 104 [some (.ref a0), some (.int a1), none, none, none] [] h (ra_oV r) := by
  intro n
  induction n with
  | zero => intro a0 a1 h r e; cases e
  | succ n ih =>
    intro a0 a1 h r e
    exact ra_sound (by omega) rfl ra_rV_ok (kX1_weighAllPairs_104_ok N (nX1_weighAllPairs_104 N n) ih) (fun m av h h1 e => (tVX1_weighAllPairs_ok N) m av h h1 e) (fun m av h x h1 e => (tIX1_weighAllPairs_ok N) m av h (x, h1) e) (fun m av h x h1 e => (ra_c0_ok (ro := ra_oJ)) m av h (x, h1) e) (fun m av h x h1 e => (ra_c0_ok (ro := ra_oR)) m av h (x, h1) e) (fun m av h x h1 e => (ra_c0_ok (ro := ra_oN)) m av h (x, h1) e) (fun m av h x h1 e => (ra_c0_ok (ro := ra_oF)) m av h (x, h1) e) 9 lX1_weighAllPairs_104 _ _ _ _ lX1_weighAllPairs_104_ck (show ra_run ra_rV (kX1_weighAllPairs_104 N (nX1_weighAllPairs_104 N n)) (tVX1_weighAllPairs N) (tIX1_weighAllPairs N) ra_c0 ra_c0 ra_c0 ra_c0 9 lX1_weighAllPairs_104 [some (.ref a0), some (.int a1), none, none, none] [] h = some r from e) _ _ rfl
def lX1_weighAllPairs_14 : List ra_I := [(14, .iload_n 1, 1, 1, 0, 0, 0, 0, []),
  (15, .aload_n 0, 1, 0, 0, 0, 0, 0, []),
  (16, .getfield 41, 3, 1, 0, 2, 0, 0, []),
  (19, .getfield 147, 3, 2, 14, 0, 0, 0, []),
  (22, .if_icmp .ge (80), 3, 102, 0, 0, 0, 0, []),
  (25, .iconst (0), 1, 0, 0, 0, (0), 0, []),
  (26, .istore_n 2, 1, 2, 0, 0, 0, 0, []),
  (102, .iconst (0), 1, 0, 0, 0, (0), 0, []),
  (103, .istore_n 1, 1, 1, 0, 0, 0, 0, [])]
set_option maxRecDepth 100000 in
theorem lX1_weighAllPairs_14_ck : lX1_weighAllPairs_14.all (ra_ck mX1_weighAllPairs 1) = true := by decide +kernel
def nX1_weighAllPairs_14 (N : Nat) : Nat → Nat → Int32 → ra_H → Option ra_H
  | 0, _, _, _ => none
  | n + 1, a0, a1, h =>
  (ra_fR h 1 a0 0).bind fun x1 =>
  (ra_fI h 2 x1 14).bind fun x2 =>
  if a1 < x2 then
    nX1_weighAllPairs_27 N (nX1_weighAllPairs_14 N n) N a0 a1 ((0 : Int32)) h
  else
    nX1_weighAllPairs_104 N N a0 ((0 : Int32)) h
def kX1_weighAllPairs_14 (N : Nat) (cs : Nat → Int32 → ra_H → Option ra_H) : Nat → List (Option Value) → List Value → ra_H → Option ra_H := (ra_k1 27 (fun L S h => match L, S with
  | [some (.ref a0), some (.int a1), some (.int a2), _, _], [] => nX1_weighAllPairs_27 N cs N a0 a1 a2 h
  | _, _ => none) (ra_k1 104 (fun L S h => match L, S with
  | [some (.ref a0), some (.int a1), _, _, _], [] => nX1_weighAllPairs_104 N N a0 a1 h
  | _, _ => none) ra_k0))
theorem kX1_weighAllPairs_14_ok (N : Nat) (cs : Nat → Int32 → ra_H → Option ra_H) (hcs : ∀ a0 a1 h r, cs a0 a1 h = some r → ra_Ru 5 mX1_weighAllPairs 14 [some (.ref a0), some (.int a1), none, none, none] [] h (ra_oV r)) : ra_kok 5 mX1_weighAllPairs ra_oV (kX1_weighAllPairs_14 N cs) := (ra_k1_ok (by
  intro L S h a e
  split at e
  · exact ra_Ru.weak (nX1_weighAllPairs_27_ok N cs hcs N _ _ _ _ _ e) ⟨rfl, ⟨rfl, ⟨rfl, trivial⟩⟩⟩
  · cases e) (ra_k1_ok (by
  intro L S h a e
  split at e
  · exact ra_Ru.weak (nX1_weighAllPairs_104_ok N N _ _ _ _ e) ⟨rfl, ⟨rfl, trivial⟩⟩
  · cases e) ra_k0_ok))
set_option maxRecDepth 100000 in
theorem nX1_weighAllPairs_14_ok (N : Nat) : ∀ n a0 a1 h r, nX1_weighAllPairs_14 N n a0 a1 h = some r → ra_Ru 5 mX1_weighAllPairs 14 [some (.ref a0), some (.int a1), none, none, none] [] h (ra_oV r) := by
  intro n
  induction n with
  | zero => intro a0 a1 h r e; cases e
  | succ n ih =>
    intro a0 a1 h r e
    exact ra_sound (by omega) rfl ra_rV_ok (kX1_weighAllPairs_14_ok N (nX1_weighAllPairs_14 N n) ih) (fun m av h h1 e => (tVX1_weighAllPairs_ok N) m av h h1 e) (fun m av h x h1 e => (tIX1_weighAllPairs_ok N) m av h (x, h1) e) (fun m av h x h1 e => (ra_c0_ok (ro := ra_oJ)) m av h (x, h1) e) (fun m av h x h1 e => (ra_c0_ok (ro := ra_oR)) m av h (x, h1) e) (fun m av h x h1 e => (ra_c0_ok (ro := ra_oN)) m av h (x, h1) e) (fun m av h x h1 e => (ra_c0_ok (ro := ra_oF)) m av h (x, h1) e) 10 lX1_weighAllPairs_14 _ _ _ _ lX1_weighAllPairs_14_ck (show ra_run ra_rV (kX1_weighAllPairs_14 N (nX1_weighAllPairs_14 N n)) (tVX1_weighAllPairs N) (tIX1_weighAllPairs N) ra_c0 ra_c0 ra_c0 ra_c0 10 lX1_weighAllPairs_14 [some (.ref a0), some (.int a1), none, none, none] [] h = some r from e) _ _ rfl
def lX1_weighAllPairs_0 : List ra_I := [(0, .aload_n 0, 1, 0, 0, 0, 0, 0, []),
  (1, .getfield 28, 3, 1, 7, 2, 0, 0, []),
  (4, .iconst (-1), 1, 0, 0, 0, (-1), 0, []),
  (5, .invokestatic 113, 3, 3, 2, 0, 0, 0, []),
  (8, .aload_n 0, 1, 0, 0, 0, 0, 0, []),
  (9, .invokevirtual 144, 3, 99, 1, 0, 0, 0, []),
  (12, .iconst (0), 1, 0, 0, 0, (0), 0, []),
  (13, .istore_n 1, 1, 1, 0, 0, 0, 0, [])]
set_option maxRecDepth 100000 in
theorem lX1_weighAllPairs_0_ck : lX1_weighAllPairs_0.all (ra_ck mX1_weighAllPairs 1) = true := by decide +kernel
def nX1_weighAllPairs_0 (N : Nat) (a0 : Nat) (h : ra_H) : Option ra_H :=
  (ra_fR h 1 a0 7).bind fun x1 =>
  (fJ7_fill_53178 N x1 ((-1 : Int32)) h).bind fun h2 =>
  (fX1_sortByYears N a0 h2).bind fun h3 =>
  nX1_weighAllPairs_14 N N a0 ((0 : Int32)) h3
def kX1_weighAllPairs_0 (N : Nat) : Nat → List (Option Value) → List Value → ra_H → Option ra_H := (ra_k1 14 (fun L S h => match L, S with
  | [some (.ref a0), some (.int a1), _, _, _], [] => nX1_weighAllPairs_14 N N a0 a1 h
  | _, _ => none) ra_k0)
theorem kX1_weighAllPairs_0_ok (N : Nat) : ra_kok 5 mX1_weighAllPairs ra_oV (kX1_weighAllPairs_0 N) := (ra_k1_ok (by
  intro L S h a e
  split at e
  · exact ra_Ru.weak (nX1_weighAllPairs_14_ok N N _ _ _ _ e) ⟨rfl, ⟨rfl, trivial⟩⟩
  · cases e) ra_k0_ok)
set_option maxRecDepth 100000 in
theorem nX1_weighAllPairs_0_ok (N : Nat) (a0 : Nat) (h : ra_H) (r : ra_H) (e : nX1_weighAllPairs_0 N a0 h = some r) : ra_Ru 5 mX1_weighAllPairs 0 [some (.ref a0), none, none, none, none] [] h (ra_oV r) :=
  ra_sound (by omega) rfl ra_rV_ok (kX1_weighAllPairs_0_ok N) (fun m av h h1 e => (tVX1_weighAllPairs_ok N) m av h h1 e) (fun m av h x h1 e => (tIX1_weighAllPairs_ok N) m av h (x, h1) e) (fun m av h x h1 e => (ra_c0_ok (ro := ra_oJ)) m av h (x, h1) e) (fun m av h x h1 e => (ra_c0_ok (ro := ra_oR)) m av h (x, h1) e) (fun m av h x h1 e => (ra_c0_ok (ro := ra_oN)) m av h (x, h1) e) (fun m av h x h1 e => (ra_c0_ok (ro := ra_oF)) m av h (x, h1) e) 9 lX1_weighAllPairs_0 _ _ _ _ lX1_weighAllPairs_0_ck (show ra_run ra_rV (kX1_weighAllPairs_0 N) (tVX1_weighAllPairs N) (tIX1_weighAllPairs N) ra_c0 ra_c0 ra_c0 ra_c0 9 lX1_weighAllPairs_0 [some (.ref a0), none, none, none, none] [] h = some r from e) _ _ rfl
def fX1_weighAllPairs (N : Nat) (p0 : Nat) (h : ra_H) : Option ra_H := match ra_isOb h p0 1 with
  | true => nX1_weighAllPairs_0 N p0 h
  | false => none
set_option maxRecDepth 100000 in
theorem mtX1_weighAllPairs : ra_MT[98]? = some (mX1_weighAllPairs, 1, 0, (1, 6), (4, 146), (0, 27)) := rfl
theorem fX1_weighAllPairs_co (N : Nat) (p0 : Nat) (h : ra_H) (r : ra_H) (e : fX1_weighAllPairs N p0 h = some r) (D : Nat) (hD : 6 ≤ D) : ra_CO D 98 [.ref p0] h (ra_oV r).1 (ra_oV r).2 := by
  have hw : ra_nw2 [.ref p0] ≤ 5 := Nat.le_of_ble_eq_true rfl
  have hdb : ∀ v ∈ ([.ref p0] : List Value), ∀ x, v ≠ .double x := by
    intro v hv x hx
    simp [hx] at hv
  unfold fX1_weighAllPairs at e
  split at e
  · rename_i ho
    have e1 := e
    exact ⟨5, _, mtX1_weighAllPairs, hD, ra_ev_of (by decide) hdb hw trivial (ra_Ru.weak (nX1_weighAllPairs_0_ok N p0 h _ e1) ⟨rfl, trivial⟩), (fun _ => ⟨_, _, rfl, ra_rcv_of ho (by decide) rfl⟩), (fun h => absurd h (by decide))⟩
  · cases e
/-! RedMarks$Histories.bestOf(I)I -/
def mX1_bestOf : ra_M := (yX1_bestOf, cX1_bestOf, 2, (some .int))
def tVX1_bestOf (N : Nat) : Nat → List Value → ra_H → Option ra_H := (ra_c1 98 (fun av h => match av with
  | [.ref z0] => fX1_weighAllPairs N z0 h
  | _ => none) ra_c0)
theorem tVX1_bestOf_ok (N : Nat) : ra_cok 6 ra_oV (tVX1_bestOf N) := (ra_c1_ok (by
  intro av h a e
  split at e
  · exact fX1_weighAllPairs_co N _ _ _ e 6 (by omega)
  · cases e) ra_c0_ok)
def lX1_bestOf_16 : List ra_I := [(16, .aload_n 0, 1, 0, 0, 0, 0, 0, []),
  (17, .getfield 28, 3, 1, 7, 2, 0, 0, []),
  (20, .iload_n 1, 1, 1, 0, 0, 0, 0, []),
  (21, .iaload, 1, 0, 0, 0, 0, 0, []),
  (22, .ireturn, 1, 0, 0, 0, 0, 0, [])]
set_option maxRecDepth 100000 in
theorem lX1_bestOf_16_ck : lX1_bestOf_16.all (ra_ck mX1_bestOf 1) = true := by decide +kernel
def nX1_bestOf_16 (N : Nat) (a0 : Nat) (a1 : Int32) (h : ra_H) : Option (Int32 × ra_H) :=
  (ra_fR h 1 a0 7).bind fun x1 =>
  (ra_aI h 0 x1 a1).bind fun x2 =>
  some (x2, h)
def kX1_bestOf_16 (N : Nat) : Nat → List (Option Value) → List Value → ra_H → Option (Int32 × ra_H) := ra_k0
theorem kX1_bestOf_16_ok (N : Nat) : ra_kok 6 mX1_bestOf ra_oI (kX1_bestOf_16 N) := ra_k0_ok
set_option maxRecDepth 100000 in
theorem nX1_bestOf_16_ok (N : Nat) (a0 : Nat) (a1 : Int32) (h : ra_H) (r : (Int32 × ra_H)) (e : nX1_bestOf_16 N a0 a1 h = some r) : ra_Ru 6 mX1_bestOf 16 [some (.ref a0), some (.int a1)] [] h (ra_oI r) :=
  ra_sound (by omega) rfl ra_rI_ok (kX1_bestOf_16_ok N) (fun m av h h1 e => (tVX1_bestOf_ok N) m av h h1 e) (fun m av h x h1 e => (ra_c0_ok (ro := ra_oI)) m av h (x, h1) e) (fun m av h x h1 e => (ra_c0_ok (ro := ra_oJ)) m av h (x, h1) e) (fun m av h x h1 e => (ra_c0_ok (ro := ra_oR)) m av h (x, h1) e) (fun m av h x h1 e => (ra_c0_ok (ro := ra_oN)) m av h (x, h1) e) (fun m av h x h1 e => (ra_c0_ok (ro := ra_oF)) m av h (x, h1) e) 6 lX1_bestOf_16 _ _ _ _ lX1_bestOf_16_ck (show ra_run ra_rI (kX1_bestOf_16 N) (tVX1_bestOf N) ra_c0 ra_c0 ra_c0 ra_c0 ra_c0 6 lX1_bestOf_16 [some (.ref a0), some (.int a1)] [] h = some r from e) _ _ rfl
def lX1_bestOf_0 : List ra_I := [(0, .aload_n 0, 1, 0, 0, 0, 0, 0, []),
  (1, .getfield 53, 3, 1, 10, 0, 0, 0, []),
  (4, .ifCond .ne (12), 3, 16, 0, 0, 0, 0, []),
  (7, .aload_n 0, 1, 0, 0, 0, 0, 0, []),
  (8, .invokevirtual 141, 3, 98, 1, 0, 0, 0, []),
  (11, .aload_n 0, 1, 0, 0, 0, 0, 0, []),
  (12, .iconst (1), 1, 0, 0, 0, (1), 0, []),
  (13, .putfield 53, 3, 1, 10, 4, 0, 0, [])]
set_option maxRecDepth 100000 in
theorem lX1_bestOf_0_ck : lX1_bestOf_0.all (ra_ck mX1_bestOf 1) = true := by decide +kernel
def nX1_bestOf_0 (N : Nat) (a0 : Nat) (a1 : Int32) (h : ra_H) : Option (Int32 × ra_H) :=
  (ra_fI h 1 a0 10).bind fun x1 =>
  if x1 = 0 then
    (fX1_weighAllPairs N a0 h).bind fun h2 =>
    if ((1 : Int32)) = 0 ∨ ((1 : Int32)) = 1 then
    (ra_fW h2 1 a0 10 (.int ((1 : Int32)))).bind fun h3 =>
    nX1_bestOf_16 N a0 a1 h3
    else none
  else
    nX1_bestOf_16 N a0 a1 h
def kX1_bestOf_0 (N : Nat) : Nat → List (Option Value) → List Value → ra_H → Option (Int32 × ra_H) := (ra_k1 16 (fun L S h => match L, S with
  | [some (.ref a0), some (.int a1)], [] => nX1_bestOf_16 N a0 a1 h
  | _, _ => none) ra_k0)
theorem kX1_bestOf_0_ok (N : Nat) : ra_kok 6 mX1_bestOf ra_oI (kX1_bestOf_0 N) := (ra_k1_ok (by
  intro L S h a e
  split at e
  · exact ra_Ru.weak (nX1_bestOf_16_ok N _ _ _ _ e) ⟨rfl, ⟨rfl, trivial⟩⟩
  · cases e) ra_k0_ok)
set_option maxRecDepth 100000 in
theorem nX1_bestOf_0_ok (N : Nat) (a0 : Nat) (a1 : Int32) (h : ra_H) (r : (Int32 × ra_H)) (e : nX1_bestOf_0 N a0 a1 h = some r) : ra_Ru 6 mX1_bestOf 0 [some (.ref a0), some (.int a1)] [] h (ra_oI r) :=
  ra_sound (by omega) rfl ra_rI_ok (kX1_bestOf_0_ok N) (fun m av h h1 e => (tVX1_bestOf_ok N) m av h h1 e) (fun m av h x h1 e => (ra_c0_ok (ro := ra_oI)) m av h (x, h1) e) (fun m av h x h1 e => (ra_c0_ok (ro := ra_oJ)) m av h (x, h1) e) (fun m av h x h1 e => (ra_c0_ok (ro := ra_oR)) m av h (x, h1) e) (fun m av h x h1 e => (ra_c0_ok (ro := ra_oN)) m av h (x, h1) e) (fun m av h x h1 e => (ra_c0_ok (ro := ra_oF)) m av h (x, h1) e) 9 lX1_bestOf_0 _ _ _ _ lX1_bestOf_0_ck (show ra_run ra_rI (kX1_bestOf_0 N) (tVX1_bestOf N) ra_c0 ra_c0 ra_c0 ra_c0 ra_c0 9 lX1_bestOf_0 [some (.ref a0), some (.int a1)] [] h = some r from e) _ _ rfl
def fX1_bestOf (N : Nat) (p0 : Nat) (p1 : Int32) (h : ra_H) : Option (Int32 × ra_H) := match ra_isOb h p0 1 with
  | true => nX1_bestOf_0 N p0 p1 h
  | false => none
set_option maxRecDepth 100000 in
theorem mtX1_bestOf : ra_MT[97]? = some (mX1_bestOf, 1, 1, (1, 6), (4, 141), (4, 142)) := rfl
theorem fX1_bestOf_co (N : Nat) (p0 : Nat) (p1 : Int32) (h : ra_H) (r : (Int32 × ra_H)) (e : fX1_bestOf N p0 p1 h = some r) (D : Nat) (hD : 7 ≤ D) : ra_CO D 97 [.ref p0, .int p1] h (ra_oI r).1 (ra_oI r).2 := by
  have hw : ra_nw2 [.ref p0, .int p1] ≤ 2 := Nat.le_of_ble_eq_true rfl
  have hdb : ∀ v ∈ ([.ref p0, .int p1] : List Value), ∀ x, v ≠ .double x := by
    intro v hv x hx
    simp [hx] at hv
  unfold fX1_bestOf at e
  split at e
  · rename_i ho
    have e1 := e
    exact ⟨6, _, mtX1_bestOf, hD, ra_ev_of (by decide) hdb hw trivial (ra_Ru.weak (nX1_bestOf_0_ok N p0 p1 h _ e1) ⟨rfl, ⟨rfl, trivial⟩⟩), (fun _ => ⟨_, _, rfl, ra_rcv_of ho (by decide) rfl⟩), (fun h => absurd h (by decide))⟩
  · cases e
/-! RedMarks$Histories.howAt(II)I -/
def mX1_howAt : ra_M := (yX1_howAt, cX1_howAt, 3, (some .int))
def tIX1_howAt (N : Nat) : Nat → List Value → ra_H → Option (Int32 × ra_H) := (ra_c1 84 (fun av h => match av with
  | [.ref z0, .int z1] => fX2_isMarked N z0 z1 h
  | _ => none) (ra_c1 90 (fun av h => match av with
  | [.ref z0, .int z1, .int z2] => fX2_isRight N z0 z1 z2 h
  | _ => none) ra_c0))
theorem tIX1_howAt_ok (N : Nat) : ra_cok 3 ra_oI (tIX1_howAt N) := (ra_c1_ok (by
  intro av h a e
  split at e
  · exact fX2_isMarked_co N _ _ _ _ e 3 (by omega)
  · cases e) (ra_c1_ok (by
  intro av h a e
  split at e
  · exact fX2_isRight_co N _ _ _ _ _ e 3 (by omega)
  · cases e) ra_c0_ok))
def lX1_howAt_48 : List ra_I := [(48, .ireturn, 1, 0, 0, 0, 0, 0, [])]
set_option maxRecDepth 100000 in
theorem lX1_howAt_48_ck : lX1_howAt_48.all (ra_ck mX1_howAt 1) = true := by decide +kernel
def nX1_howAt_48 (N : Nat) (b0 : Int32) (h : ra_H) : Option (Int32 × ra_H) :=
  some (b0, h)
def kX1_howAt_48 (N : Nat) : Nat → List (Option Value) → List Value → ra_H → Option (Int32 × ra_H) := ra_k0
theorem kX1_howAt_48_ok (N : Nat) : ra_kok 3 mX1_howAt ra_oI (kX1_howAt_48 N) := ra_k0_ok
set_option maxRecDepth 100000 in
theorem nX1_howAt_48_ok (N : Nat) (b0 : Int32) (h : ra_H) (r : (Int32 × ra_H)) (e : nX1_howAt_48 N b0 h = some r) : ra_Ru 3 mX1_howAt 48 [none, none, none] [.int b0] h (ra_oI r) :=
  ra_sound (by omega) rfl ra_rI_ok (kX1_howAt_48_ok N) (fun m av h h1 e => (ra_c0_ok (ro := ra_oV)) m av h h1 e) (fun m av h x h1 e => (tIX1_howAt_ok N) m av h (x, h1) e) (fun m av h x h1 e => (ra_c0_ok (ro := ra_oJ)) m av h (x, h1) e) (fun m av h x h1 e => (ra_c0_ok (ro := ra_oR)) m av h (x, h1) e) (fun m av h x h1 e => (ra_c0_ok (ro := ra_oN)) m av h (x, h1) e) (fun m av h x h1 e => (ra_c0_ok (ro := ra_oF)) m av h (x, h1) e) 2 lX1_howAt_48 _ _ _ _ lX1_howAt_48_ck (show ra_run ra_rI (kX1_howAt_48 N) ra_c0 (tIX1_howAt N) ra_c0 ra_c0 ra_c0 ra_c0 2 lX1_howAt_48 [none, none, none] [.int b0] h = some r from e) _ _ rfl
def lX1_howAt_0 : List ra_I := [(0, .aload_n 0, 1, 0, 0, 0, 0, 0, []),
  (1, .getfield 41, 3, 1, 0, 2, 0, 0, []),
  (4, .iload_n 1, 1, 1, 0, 0, 0, 0, []),
  (5, .invokevirtual 63, 3, 84, 2, 1, 0, 0, []),
  (8, .ifCond .ne (5), 3, 13, 0, 0, 0, 0, []),
  (11, .iconst (0), 1, 0, 0, 0, (0), 0, []),
  (12, .ireturn, 1, 0, 0, 0, 0, 0, []),
  (13, .iload_n 2, 1, 2, 0, 0, 0, 0, []),
  (14, .iconst (-1), 1, 0, 0, 0, (-1), 0, []),
  (15, .if_icmp .ne (5), 3, 20, 0, 0, 0, 0, []),
  (18, .iconst (1), 1, 0, 0, 0, (1), 0, []),
  (19, .ireturn, 1, 0, 0, 0, 0, 0, []),
  (20, .aload_n 0, 1, 0, 0, 0, 0, 0, []),
  (21, .getfield 41, 3, 1, 0, 2, 0, 0, []),
  (24, .iload_n 1, 1, 1, 0, 0, 0, 0, []),
  (25, .iload_n 2, 1, 2, 0, 0, 0, 0, []),
  (26, .invokevirtual 138, 3, 90, 3, 1, 0, 0, []),
  (29, .ifCond .ne (5), 3, 34, 0, 0, 0, 0, []),
  (32, .iconst (2), 1, 0, 0, 0, (2), 0, []),
  (33, .ireturn, 1, 0, 0, 0, 0, 0, []),
  (34, .aload_n 0, 1, 0, 0, 0, 0, 0, []),
  (35, .getfield 22, 3, 1, 5, 2, 0, 0, []),
  (38, .iload_n 2, 1, 2, 0, 0, 0, 0, []),
  (39, .iaload, 1, 0, 0, 0, 0, 0, []),
  (40, .ifCond .le (7), 3, 47, 0, 0, 0, 0, []),
  (43, .iconst (3), 1, 0, 0, 0, (3), 0, []),
  (44, .goto (4), 3, 48, 0, 0, 0, 0, []),
  (47, .iconst (4), 1, 0, 0, 0, (4), 0, [])]
set_option maxRecDepth 100000 in
theorem lX1_howAt_0_ck : lX1_howAt_0.all (ra_ck mX1_howAt 1) = true := by decide +kernel
def nX1_howAt_0 (N : Nat) (a0 : Nat) (a1 : Int32) (a2 : Int32) (h : ra_H) : Option (Int32 × ra_H) :=
  (ra_fR h 1 a0 0).bind fun x1 =>
  (fX2_isMarked N x1 a1 h).bind fun q2 =>
  if q2.1 = 0 then
    some ((0 : Int32), q2.2)
  else
    if a2 = ((-1 : Int32)) then
      some ((1 : Int32), q2.2)
    else
      (ra_fR q2.2 1 a0 0).bind fun x3 =>
      (fX2_isRight N x3 a1 a2 q2.2).bind fun q4 =>
      if q4.1 = 0 then
        some ((2 : Int32), q4.2)
      else
        (ra_fR q4.2 1 a0 5).bind fun x5 =>
        (ra_aI q4.2 0 x5 a2).bind fun x6 =>
        if x6 ≤ 0 then
          nX1_howAt_48 N ((4 : Int32)) q4.2
        else
          nX1_howAt_48 N ((3 : Int32)) q4.2
def kX1_howAt_0 (N : Nat) : Nat → List (Option Value) → List Value → ra_H → Option (Int32 × ra_H) := (ra_k1 48 (fun L S h => match L, S with
  | [_, _, _], [.int b0] => nX1_howAt_48 N b0 h
  | _, _ => none) ra_k0)
theorem kX1_howAt_0_ok (N : Nat) : ra_kok 3 mX1_howAt ra_oI (kX1_howAt_0 N) := (ra_k1_ok (by
  intro L S h a e
  split at e
  · exact ra_Ru.weak (nX1_howAt_48_ok N _ _ _ e) trivial
  · cases e) ra_k0_ok)
set_option maxRecDepth 100000 in
theorem nX1_howAt_0_ok (N : Nat) (a0 : Nat) (a1 : Int32) (a2 : Int32) (h : ra_H) (r : (Int32 × ra_H)) (e : nX1_howAt_0 N a0 a1 a2 h = some r) : ra_Ru 3 mX1_howAt 0 [some (.ref a0), some (.int a1), some (.int a2)] [] h (ra_oI r) :=
  ra_sound (by omega) rfl ra_rI_ok (kX1_howAt_0_ok N) (fun m av h h1 e => (ra_c0_ok (ro := ra_oV)) m av h h1 e) (fun m av h x h1 e => (tIX1_howAt_ok N) m av h (x, h1) e) (fun m av h x h1 e => (ra_c0_ok (ro := ra_oJ)) m av h (x, h1) e) (fun m av h x h1 e => (ra_c0_ok (ro := ra_oR)) m av h (x, h1) e) (fun m av h x h1 e => (ra_c0_ok (ro := ra_oN)) m av h (x, h1) e) (fun m av h x h1 e => (ra_c0_ok (ro := ra_oF)) m av h (x, h1) e) 29 lX1_howAt_0 _ _ _ _ lX1_howAt_0_ck (show ra_run ra_rI (kX1_howAt_0 N) ra_c0 (tIX1_howAt N) ra_c0 ra_c0 ra_c0 ra_c0 29 lX1_howAt_0 [some (.ref a0), some (.int a1), some (.int a2)] [] h = some r from e) _ _ rfl
def fX1_howAt (N : Nat) (p0 : Nat) (p1 : Int32) (p2 : Int32) (h : ra_H) : Option (Int32 × ra_H) := match ra_isOb h p0 1 with
  | true => nX1_howAt_0 N p0 p1 p2 h
  | false => none
set_option maxRecDepth 100000 in
theorem mtX1_howAt : ra_MT[95]? = some (mX1_howAt, 1, 2, (1, 6), (4, 133), (0, 26)) := rfl
theorem fX1_howAt_co (N : Nat) (p0 : Nat) (p1 : Int32) (p2 : Int32) (h : ra_H) (r : (Int32 × ra_H)) (e : fX1_howAt N p0 p1 p2 h = some r) (D : Nat) (hD : 4 ≤ D) : ra_CO D 95 [.ref p0, .int p1, .int p2] h (ra_oI r).1 (ra_oI r).2 := by
  have hw : ra_nw2 [.ref p0, .int p1, .int p2] ≤ 3 := Nat.le_of_ble_eq_true rfl
  have hdb : ∀ v ∈ ([.ref p0, .int p1, .int p2] : List Value), ∀ x, v ≠ .double x := by
    intro v hv x hx
    simp [hx] at hv
  unfold fX1_howAt at e
  split at e
  · rename_i ho
    have e1 := e
    exact ⟨3, _, mtX1_howAt, hD, ra_ev_of (by decide) hdb hw trivial (ra_Ru.weak (nX1_howAt_0_ok N p0 p1 p2 h _ e1) ⟨rfl, ⟨rfl, ⟨rfl, trivial⟩⟩⟩), (fun _ => ⟨_, _, rfl, ra_rcv_of ho (by decide) rfl⟩), (fun h => absurd h (by decide))⟩
  · cases e
/-! RedMarks$Histories.settle(LRedMarks$Standing;III)V -/
def mX1_settle : ra_M := (yX1_settle, cX1_settle, 8, none)
def tVX1_settle (N : Nat) : Nat → List Value → ra_H → Option ra_H := (ra_c1 3 (fun av h => match av with
  | [.ref z0, .int z1] => fJ7_fill_53178 N z0 z1 h
  | _ => none) ra_c0)
theorem tVX1_settle_ok (N : Nat) : ra_cok 5 ra_oV (tVX1_settle N) := (ra_c1_ok (by
  intro av h a e
  split at e
  · exact fJ7_fill_53178_co N _ _ _ _ e 5 (by omega)
  · cases e) ra_c0_ok)
def tIX1_settle (N : Nat) : Nat → List Value → ra_H → Option (Int32 × ra_H) := (ra_c1 27 (fun av h => match av with
  | [.ref z0, .int z1, .int z2] => fX2_factOf N z0 z1 z2 h
  | _ => none) (ra_c1 83 (fun av h => match av with
  | [.ref z0, .int z1, .int z2] => fX1_seatOf N z0 z1 z2 h
  | _ => none) (ra_c1 95 (fun av h => match av with
  | [.ref z0, .int z1, .int z2] => fX1_howAt N z0 z1 z2 h
  | _ => none) ra_c0)))
theorem tIX1_settle_ok (N : Nat) : ra_cok 5 ra_oI (tIX1_settle N) := (ra_c1_ok (by
  intro av h a e
  split at e
  · exact fX2_factOf_co N _ _ _ _ _ e 5 (by omega)
  · cases e) (ra_c1_ok (by
  intro av h a e
  split at e
  · exact fX1_seatOf_co N _ _ _ _ _ e 5 (by omega)
  · cases e) (ra_c1_ok (by
  intro av h a e
  split at e
  · exact fX1_howAt_co N _ _ _ _ _ e 5 (by omega)
  · cases e) ra_c0_ok)))
def lX1_settle_136 : List ra_I := [(136, .iinc 5 (1), 3, 5, 0, 0, (1), 0, []),
  (139, .goto (-123), 3, 16, 0, 0, 0, 0, [])]
set_option maxRecDepth 100000 in
theorem lX1_settle_136_ck : lX1_settle_136.all (ra_ck mX1_settle 1) = true := by decide +kernel
def nX1_settle_136 (N : Nat) (c16 : Nat → Nat → Int32 → Int32 → Int32 → Int32 → ra_H → Option ra_H) (a0 : Nat) (a1 : Nat) (a2 : Int32) (a3 : Int32) (a4 : Int32) (a5 : Int32) (h : ra_H) : Option ra_H :=
  let y1 := a5 + (1 : Int32)
  c16 a0 a1 a2 a3 a4 y1 h
def kX1_settle_136 (N : Nat) (c16 : Nat → Nat → Int32 → Int32 → Int32 → Int32 → ra_H → Option ra_H) : Nat → List (Option Value) → List Value → ra_H → Option ra_H := (ra_k1 16 (fun L S h => match L, S with
  | [some (.ref a0), some (.ref a1), some (.int a2), some (.int a3), some (.int a4), some (.int a5), _, _], [] => c16 a0 a1 a2 a3 a4 a5 h
  | _, _ => none) ra_k0)
theorem kX1_settle_136_ok (N : Nat) (c16 : Nat → Nat → Int32 → Int32 → Int32 → Int32 → ra_H → Option ra_H) (hc16 : ∀ a0 a1 a2 a3 a4 a5 h r, c16 a0 a1 a2 a3 a4 a5 h = some r → ra_Ru 5 mX1_settle 16 [some (.ref a0), some (.ref a1), some (.int a2), some (.int a3), some (.int a4), some (.int a5), none, none] [] h (ra_oV r)) : ra_kok 5 mX1_settle ra_oV (kX1_settle_136 N c16) := (ra_k1_ok (by
  intro L S h a e
  split at e
  · exact ra_Ru.weak (hc16 _ _ _ _ _ _ _ _ e) ⟨rfl, ⟨rfl, ⟨rfl, ⟨rfl, ⟨rfl, ⟨rfl, trivial⟩⟩⟩⟩⟩⟩
  · cases e) ra_k0_ok)
set_option maxRecDepth 100000 in
theorem nX1_settle_136_ok (N : Nat) (c16 : Nat → Nat → Int32 → Int32 → Int32 → Int32 → ra_H → Option ra_H) (hc16 : ∀ a0 a1 a2 a3 a4 a5 h r, c16 a0 a1 a2 a3 a4 a5 h = some r → ra_Ru 5 mX1_settle 16 [some (.ref a0), some (.ref a1), some (.int a2), some (.int a3), some (.int a4), some (.int a5), none, none] [] h (ra_oV r)) (a0 : Nat) (a1 : Nat) (a2 : Int32) (a3 : Int32) (a4 : Int32) (a5 : Int32) (h : ra_H) (r : ra_H) (e : nX1_settle_136 N c16 a0 a1 a2 a3 a4 a5 h = some r) : ra_Ru 5 mX1_settle 136 [some (.ref a0), some (.ref a1), some (.int a2), some (.int a3), some (.int a4), some (.int a5), none, none] [] h (ra_oV r) :=
  ra_sound (by omega) rfl ra_rV_ok (kX1_settle_136_ok N c16 hc16) (fun m av h h1 e => (tVX1_settle_ok N) m av h h1 e) (fun m av h x h1 e => (tIX1_settle_ok N) m av h (x, h1) e) (fun m av h x h1 e => (ra_c0_ok (ro := ra_oJ)) m av h (x, h1) e) (fun m av h x h1 e => (ra_c0_ok (ro := ra_oR)) m av h (x, h1) e) (fun m av h x h1 e => (ra_c0_ok (ro := ra_oN)) m av h (x, h1) e) (fun m av h x h1 e => (ra_c0_ok (ro := ra_oF)) m av h (x, h1) e) 3 lX1_settle_136 _ _ _ _ lX1_settle_136_ck (show ra_run ra_rV (kX1_settle_136 N c16) (tVX1_settle N) (tIX1_settle N) ra_c0 ra_c0 ra_c0 ra_c0 3 lX1_settle_136 [some (.ref a0), some (.ref a1), some (.int a2), some (.int a3), some (.int a4), some (.int a5), none, none] [] h = some r from e) _ _ rfl
def lX1_settle_48 : List ra_I := [(48, .istore 6, 2, 6, 0, 0, 0, 0, []),
  (50, .aload_n 0, 1, 0, 0, 0, 0, 0, []),
  (51, .iload 6, 2, 6, 0, 0, 0, 0, []),
  (53, .iload 5, 2, 5, 0, 0, 0, 0, []),
  (55, .invokevirtual 126, 3, 83, 3, 1, 0, 0, []),
  (58, .istore 7, 2, 7, 0, 0, 0, 0, []),
  (60, .aload_n 1, 1, 1, 0, 0, 0, 0, []),
  (61, .getfield 129, 3, 7, 1, 2, 0, 0, []),
  (64, .iload 5, 2, 5, 0, 0, 0, 0, []),
  (66, .iload 7, 2, 7, 0, 0, 0, 0, []),
  (68, .iastore, 1, 0, 0, 0, 0, 0, []),
  (69, .aload_n 1, 1, 1, 0, 0, 0, 0, []),
  (70, .getfield 132, 3, 7, 0, 2, 0, 0, []),
  (73, .iload 5, 2, 5, 0, 0, 0, 0, []),
  (75, .aload_n 0, 1, 0, 0, 0, 0, 0, []),
  (76, .iload 5, 2, 5, 0, 0, 0, 0, []),
  (78, .iload 7, 2, 7, 0, 0, 0, 0, []),
  (80, .invokevirtual 135, 3, 95, 3, 1, 0, 0, []),
  (83, .iastore, 1, 0, 0, 0, 0, 0, []),
  (84, .aload_n 1, 1, 1, 0, 0, 0, 0, []),
  (85, .getfield 132, 3, 7, 0, 2, 0, 0, []),
  (88, .iload 5, 2, 5, 0, 0, 0, 0, []),
  (90, .iaload, 1, 0, 0, 0, 0, 0, []),
  (91, .iconst (4), 1, 0, 0, 0, (4), 0, []),
  (92, .if_icmp .ne (44), 3, 136, 0, 0, 0, 0, []),
  (95, .aload_n 0, 1, 0, 0, 0, 0, 0, []),
  (96, .getfield 22, 3, 1, 5, 2, 0, 0, []),
  (99, .iload 7, 2, 7, 0, 0, 0, 0, []),
  (101, .iconst (1), 1, 0, 0, 0, (1), 0, []),
  (102, .iastore, 1, 0, 0, 0, 0, 0, []),
  (103, .aload_n 1, 1, 1, 0, 0, 0, 0, []),
  (104, .dup, 1, 0, 0, 0, 0, 0, []),
  (105, .getfield 97, 3, 7, 3, 0, 0, 0, []),
  (108, .iconst (1), 1, 0, 0, 0, (1), 0, []),
  (109, .iadd, 1, 0, 0, 0, 0, 0, []),
  (110, .putfield 97, 3, 7, 3, 0, 0, 0, []),
  (113, .aload_n 1, 1, 1, 0, 0, 0, 0, []),
  (114, .getfield 110, 3, 7, 2, 2, 0, 0, []),
  (117, .iload 7, 2, 7, 0, 0, 0, 0, []),
  (119, .bipush (99), 2, 0, 0, 0, (99), 0, []),
  (121, .idiv, 1, 0, 0, 0, 0, 0, []),
  (122, .dup2, 1, 0, 0, 0, 0, 0, []),
  (123, .iaload, 1, 0, 0, 0, 0, 0, []),
  (124, .aload_n 0, 1, 0, 0, 0, 0, 0, []),
  (125, .getfield 41, 3, 1, 0, 2, 0, 0, []),
  (128, .iload 5, 2, 5, 0, 0, 0, 0, []),
  (130, .iconst (3), 1, 0, 0, 0, (3), 0, []),
  (131, .invokevirtual 122, 3, 27, 3, 1, 0, 0, []),
  (134, .iadd, 1, 0, 0, 0, 0, 0, []),
  (135, .iastore, 1, 0, 0, 0, 0, 0, [])]
set_option maxRecDepth 100000 in
theorem lX1_settle_48_ck : lX1_settle_48.all (ra_ck mX1_settle 1) = true := by decide +kernel
def nX1_settle_48 (N : Nat) (c16 : Nat → Nat → Int32 → Int32 → Int32 → Int32 → ra_H → Option ra_H) (a0 : Nat) (a1 : Nat) (a2 : Int32) (a3 : Int32) (a4 : Int32) (a5 : Int32) (b0 : Int32) (h : ra_H) : Option ra_H :=
  (fX1_seatOf N a0 b0 a5 h).bind fun q1 =>
  (ra_fR q1.2 7 a1 1).bind fun x2 =>
  (ra_aW q1.2 0 x2 a5 q1.1).bind fun h3 =>
  (ra_fR h3 7 a1 0).bind fun x4 =>
  (fX1_howAt N a0 a5 q1.1 h3).bind fun q5 =>
  (ra_aW q5.2 0 x4 a5 q5.1).bind fun h6 =>
  (ra_fR h6 7 a1 0).bind fun x7 =>
  (ra_aI h6 0 x7 a5).bind fun x8 =>
  if x8 = ((4 : Int32)) then
    (ra_fR h6 1 a0 5).bind fun x9 =>
    (ra_aW h6 0 x9 q1.1 ((1 : Int32))).bind fun h10 =>
    (ra_fI h10 7 a1 3).bind fun x11 =>
    (ra_fW h10 7 a1 3 (.int (x11 + ((1 : Int32))))).bind fun h12 =>
    (ra_fR h12 7 a1 2).bind fun x13 =>
    if ((99 : Int32)) = 0 then none else
    (ra_aI h12 0 x13 (q1.1 / ((99 : Int32)))).bind fun x14 =>
    (ra_fR h12 1 a0 0).bind fun x15 =>
    (fX2_factOf N x15 a5 ((3 : Int32)) h12).bind fun q16 =>
    (ra_aW q16.2 0 x13 (q1.1 / ((99 : Int32))) (x14 + q16.1)).bind fun h17 =>
    nX1_settle_136 N c16 a0 a1 a2 a3 a4 a5 h17
  else
    nX1_settle_136 N c16 a0 a1 a2 a3 a4 a5 h6
def kX1_settle_48 (N : Nat) (c16 : Nat → Nat → Int32 → Int32 → Int32 → Int32 → ra_H → Option ra_H) : Nat → List (Option Value) → List Value → ra_H → Option ra_H := (ra_k1 136 (fun L S h => match L, S with
  | [some (.ref a0), some (.ref a1), some (.int a2), some (.int a3), some (.int a4), some (.int a5), _, _], [] => nX1_settle_136 N c16 a0 a1 a2 a3 a4 a5 h
  | _, _ => none) ra_k0)
theorem kX1_settle_48_ok (N : Nat) (c16 : Nat → Nat → Int32 → Int32 → Int32 → Int32 → ra_H → Option ra_H) (hc16 : ∀ a0 a1 a2 a3 a4 a5 h r, c16 a0 a1 a2 a3 a4 a5 h = some r → ra_Ru 5 mX1_settle 16 [some (.ref a0), some (.ref a1), some (.int a2), some (.int a3), some (.int a4), some (.int a5), none, none] [] h (ra_oV r)) : ra_kok 5 mX1_settle ra_oV (kX1_settle_48 N c16) := (ra_k1_ok (by
  intro L S h a e
  split at e
  · exact ra_Ru.weak (nX1_settle_136_ok N c16 hc16 _ _ _ _ _ _ _ _ e) ⟨rfl, ⟨rfl, ⟨rfl, ⟨rfl, ⟨rfl, ⟨rfl, trivial⟩⟩⟩⟩⟩⟩
  · cases e) ra_k0_ok)
set_option maxRecDepth 100000 in
theorem nX1_settle_48_ok (N : Nat) (c16 : Nat → Nat → Int32 → Int32 → Int32 → Int32 → ra_H → Option ra_H) (hc16 : ∀ a0 a1 a2 a3 a4 a5 h r, c16 a0 a1 a2 a3 a4 a5 h = some r → ra_Ru 5 mX1_settle 16 [some (.ref a0), some (.ref a1), some (.int a2), some (.int a3), some (.int a4), some (.int a5), none, none] [] h (ra_oV r)) (a0 : Nat) (a1 : Nat) (a2 : Int32) (a3 : Int32) (a4 : Int32) (a5 : Int32) (b0 : Int32) (h : ra_H) (r : ra_H) (e : nX1_settle_48 N c16 a0 a1 a2 a3 a4 a5 b0 h = some r) : ra_Ru 5 mX1_settle 48 [some (.ref a0), some (.ref a1), some (.int a2), some (.int a3), some (.int a4), some (.int a5), none, none] [.int b0] h (ra_oV r) :=
  ra_sound (by omega) rfl ra_rV_ok (kX1_settle_48_ok N c16 hc16) (fun m av h h1 e => (tVX1_settle_ok N) m av h h1 e) (fun m av h x h1 e => (tIX1_settle_ok N) m av h (x, h1) e) (fun m av h x h1 e => (ra_c0_ok (ro := ra_oJ)) m av h (x, h1) e) (fun m av h x h1 e => (ra_c0_ok (ro := ra_oR)) m av h (x, h1) e) (fun m av h x h1 e => (ra_c0_ok (ro := ra_oN)) m av h (x, h1) e) (fun m av h x h1 e => (ra_c0_ok (ro := ra_oF)) m av h (x, h1) e) 51 lX1_settle_48 _ _ _ _ lX1_settle_48_ck (show ra_run ra_rV (kX1_settle_48 N c16) (tVX1_settle N) (tIX1_settle N) ra_c0 ra_c0 ra_c0 ra_c0 51 lX1_settle_48 [some (.ref a0), some (.ref a1), some (.int a2), some (.int a3), some (.int a4), some (.int a5), none, none] [.int b0] h = some r from e) _ _ rfl
def lX1_settle_181 : List ra_I := [(181, .iinc 5 (1), 3, 5, 0, 0, (1), 0, []),
  (184, .goto (-39), 3, 145, 0, 0, 0, 0, [])]
set_option maxRecDepth 100000 in
theorem lX1_settle_181_ck : lX1_settle_181.all (ra_ck mX1_settle 1) = true := by decide +kernel
def nX1_settle_181 (N : Nat) (c145 : Nat → Nat → Int32 → ra_H → Option ra_H) (a0 : Nat) (a1 : Nat) (a5 : Int32) (h : ra_H) : Option ra_H :=
  let y1 := a5 + (1 : Int32)
  c145 a0 a1 y1 h
def kX1_settle_181 (N : Nat) (c145 : Nat → Nat → Int32 → ra_H → Option ra_H) : Nat → List (Option Value) → List Value → ra_H → Option ra_H := (ra_k1 145 (fun L S h => match L, S with
  | [some (.ref a0), some (.ref a1), _, _, _, some (.int a5), _, _], [] => c145 a0 a1 a5 h
  | _, _ => none) ra_k0)
theorem kX1_settle_181_ok (N : Nat) (c145 : Nat → Nat → Int32 → ra_H → Option ra_H) (hc145 : ∀ a0 a1 a5 h r, c145 a0 a1 a5 h = some r → ra_Ru 5 mX1_settle 145 [some (.ref a0), some (.ref a1), none, none, none, some (.int a5), none, none] [] h (ra_oV r)) : ra_kok 5 mX1_settle ra_oV (kX1_settle_181 N c145) := (ra_k1_ok (by
  intro L S h a e
  split at e
  · exact ra_Ru.weak (hc145 _ _ _ _ _ e) ⟨rfl, ⟨rfl, ⟨rfl, trivial⟩⟩⟩
  · cases e) ra_k0_ok)
set_option maxRecDepth 100000 in
theorem nX1_settle_181_ok (N : Nat) (c145 : Nat → Nat → Int32 → ra_H → Option ra_H) (hc145 : ∀ a0 a1 a5 h r, c145 a0 a1 a5 h = some r → ra_Ru 5 mX1_settle 145 [some (.ref a0), some (.ref a1), none, none, none, some (.int a5), none, none] [] h (ra_oV r)) (a0 : Nat) (a1 : Nat) (a5 : Int32) (h : ra_H) (r : ra_H) (e : nX1_settle_181 N c145 a0 a1 a5 h = some r) : ra_Ru 5 mX1_settle 181 [some (.ref a0), some (.ref a1), none, none, none, some (.int a5), none, none] [] h (ra_oV r) :=
  ra_sound (by omega) rfl ra_rV_ok (kX1_settle_181_ok N c145 hc145) (fun m av h h1 e => (tVX1_settle_ok N) m av h h1 e) (fun m av h x h1 e => (tIX1_settle_ok N) m av h (x, h1) e) (fun m av h x h1 e => (ra_c0_ok (ro := ra_oJ)) m av h (x, h1) e) (fun m av h x h1 e => (ra_c0_ok (ro := ra_oR)) m av h (x, h1) e) (fun m av h x h1 e => (ra_c0_ok (ro := ra_oN)) m av h (x, h1) e) (fun m av h x h1 e => (ra_c0_ok (ro := ra_oF)) m av h (x, h1) e) 3 lX1_settle_181 _ _ _ _ lX1_settle_181_ck (show ra_run ra_rV (kX1_settle_181 N c145) (tVX1_settle N) (tIX1_settle N) ra_c0 ra_c0 ra_c0 ra_c0 3 lX1_settle_181 [some (.ref a0), some (.ref a1), none, none, none, some (.int a5), none, none] [] h = some r from e) _ _ rfl
def lX1_settle_145 : List ra_I := [(145, .iload 5, 2, 5, 0, 0, 0, 0, []),
  (147, .aload_n 0, 1, 0, 0, 0, 0, 0, []),
  (148, .getfield 41, 3, 1, 0, 2, 0, 0, []),
  (151, .getfield 119, 3, 2, 13, 0, 0, 0, []),
  (154, .if_icmp .ge (33), 3, 187, 0, 0, 0, 0, []),
  (157, .aload_n 1, 1, 1, 0, 0, 0, 0, []),
  (158, .getfield 132, 3, 7, 0, 2, 0, 0, []),
  (161, .iload 5, 2, 5, 0, 0, 0, 0, []),
  (163, .iaload, 1, 0, 0, 0, 0, 0, []),
  (164, .iconst (4), 1, 0, 0, 0, (4), 0, []),
  (165, .if_icmp .ne (16), 3, 181, 0, 0, 0, 0, []),
  (168, .aload_n 0, 1, 0, 0, 0, 0, 0, []),
  (169, .getfield 22, 3, 1, 5, 2, 0, 0, []),
  (172, .aload_n 1, 1, 1, 0, 0, 0, 0, []),
  (173, .getfield 129, 3, 7, 1, 2, 0, 0, []),
  (176, .iload 5, 2, 5, 0, 0, 0, 0, []),
  (178, .iaload, 1, 0, 0, 0, 0, 0, []),
  (179, .iconst (0), 1, 0, 0, 0, (0), 0, []),
  (180, .iastore, 1, 0, 0, 0, 0, 0, []),
  (187, .return_, 1, 0, 0, 0, 0, 0, [])]
set_option maxRecDepth 100000 in
theorem lX1_settle_145_ck : lX1_settle_145.all (ra_ck mX1_settle 1) = true := by decide +kernel
def nX1_settle_145 (N : Nat) : Nat → Nat → Nat → Int32 → ra_H → Option ra_H
  | 0, _, _, _, _ => none
  | n + 1, a0, a1, a5, h =>
  (ra_fR h 1 a0 0).bind fun x1 =>
  (ra_fI h 2 x1 13).bind fun x2 =>
  if a5 < x2 then
    (ra_fR h 7 a1 0).bind fun x3 =>
    (ra_aI h 0 x3 a5).bind fun x4 =>
    if x4 = ((4 : Int32)) then
      (ra_fR h 1 a0 5).bind fun x5 =>
      (ra_fR h 7 a1 1).bind fun x6 =>
      (ra_aI h 0 x6 a5).bind fun x7 =>
      (ra_aW h 0 x5 x7 ((0 : Int32))).bind fun h8 =>
      nX1_settle_181 N (nX1_settle_145 N n) a0 a1 a5 h8
    else
      nX1_settle_181 N (nX1_settle_145 N n) a0 a1 a5 h
  else
    some h
def kX1_settle_145 (N : Nat) (cs : Nat → Nat → Int32 → ra_H → Option ra_H) : Nat → List (Option Value) → List Value → ra_H → Option ra_H := (ra_k1 181 (fun L S h => match L, S with
  | [some (.ref a0), some (.ref a1), _, _, _, some (.int a5), _, _], [] => nX1_settle_181 N cs a0 a1 a5 h
  | _, _ => none) ra_k0)
theorem kX1_settle_145_ok (N : Nat) (cs : Nat → Nat → Int32 → ra_H → Option ra_H) (hcs : ∀ a0 a1 a5 h r, cs a0 a1 a5 h = some r → ra_Ru 5 mX1_settle 145 [some (.ref a0), some (.ref a1), none, none, none, some (.int a5), none, none] [] h (ra_oV r)) : ra_kok 5 mX1_settle ra_oV (kX1_settle_145 N cs) := (ra_k1_ok (by
  intro L S h a e
  split at e
  · exact ra_Ru.weak (nX1_settle_181_ok N cs hcs _ _ _ _ _ e) ⟨rfl, ⟨rfl, ⟨rfl, trivial⟩⟩⟩
  · cases e) ra_k0_ok)
set_option maxRecDepth 100000 in
theorem nX1_settle_145_ok (N : Nat) : ∀ n a0 a1 a5 h r, nX1_settle_145 N n a0 a1 a5 h = some r → ra_Ru 5 mX1_settle 145 [some (.ref a0), some (.ref a1), none, none, none, some (.int a5), none, none] [] h (ra_oV r) := by
  intro n
  induction n with
  | zero => intro a0 a1 a5 h r e; cases e
  | succ n ih =>
    intro a0 a1 a5 h r e
    exact ra_sound (by omega) rfl ra_rV_ok (kX1_settle_145_ok N (nX1_settle_145 N n) ih) (fun m av h h1 e => (tVX1_settle_ok N) m av h h1 e) (fun m av h x h1 e => (tIX1_settle_ok N) m av h (x, h1) e) (fun m av h x h1 e => (ra_c0_ok (ro := ra_oJ)) m av h (x, h1) e) (fun m av h x h1 e => (ra_c0_ok (ro := ra_oR)) m av h (x, h1) e) (fun m av h x h1 e => (ra_c0_ok (ro := ra_oN)) m av h (x, h1) e) (fun m av h x h1 e => (ra_c0_ok (ro := ra_oF)) m av h (x, h1) e) 21 lX1_settle_145 _ _ _ _ lX1_settle_145_ck (show ra_run ra_rV (kX1_settle_145 N (nX1_settle_145 N n)) (tVX1_settle N) (tIX1_settle N) ra_c0 ra_c0 ra_c0 ra_c0 21 lX1_settle_145 [some (.ref a0), some (.ref a1), none, none, none, some (.int a5), none, none] [] h = some r from e) _ _ rfl
def lX1_settle_16 : List ra_I := [(16, .iload 5, 2, 5, 0, 0, 0, 0, []),
  (18, .aload_n 0, 1, 0, 0, 0, 0, 0, []),
  (19, .getfield 41, 3, 1, 0, 2, 0, 0, []),
  (22, .getfield 119, 3, 2, 13, 0, 0, 0, []),
  (25, .if_icmp .ge (117), 3, 142, 0, 0, 0, 0, []),
  (28, .aload_n 0, 1, 0, 0, 0, 0, 0, []),
  (29, .getfield 41, 3, 1, 0, 2, 0, 0, []),
  (32, .iload 5, 2, 5, 0, 0, 0, 0, []),
  (34, .iconst (2), 1, 0, 0, 0, (2), 0, []),
  (35, .invokevirtual 122, 3, 27, 3, 1, 0, 0, []),
  (38, .iload 4, 2, 4, 0, 0, 0, 0, []),
  (40, .if_icmp .ge (7), 3, 47, 0, 0, 0, 0, []),
  (43, .iload_n 2, 1, 2, 0, 0, 0, 0, []),
  (44, .goto (4), 3, 48, 0, 0, 0, 0, []),
  (47, .iload_n 3, 1, 3, 0, 0, 0, 0, []),
  (142, .iconst (0), 1, 0, 0, 0, (0), 0, []),
  (143, .istore 5, 2, 5, 0, 0, 0, 0, [])]
set_option maxRecDepth 100000 in
theorem lX1_settle_16_ck : lX1_settle_16.all (ra_ck mX1_settle 1) = true := by decide +kernel
def nX1_settle_16 (N : Nat) : Nat → Nat → Nat → Int32 → Int32 → Int32 → Int32 → ra_H → Option ra_H
  | 0, _, _, _, _, _, _, _ => none
  | n + 1, a0, a1, a2, a3, a4, a5, h =>
  (ra_fR h 1 a0 0).bind fun x1 =>
  (ra_fI h 2 x1 13).bind fun x2 =>
  if a5 < x2 then
    (ra_fR h 1 a0 0).bind fun x3 =>
    (fX2_factOf N x3 a5 ((2 : Int32)) h).bind fun q4 =>
    if q4.1 < a4 then
      nX1_settle_48 N (nX1_settle_16 N n) a0 a1 a2 a3 a4 a5 a2 q4.2
    else
      nX1_settle_48 N (nX1_settle_16 N n) a0 a1 a2 a3 a4 a5 a3 q4.2
  else
    nX1_settle_145 N N a0 a1 ((0 : Int32)) h
def kX1_settle_16 (N : Nat) (cs : Nat → Nat → Int32 → Int32 → Int32 → Int32 → ra_H → Option ra_H) : Nat → List (Option Value) → List Value → ra_H → Option ra_H := (ra_k1 48 (fun L S h => match L, S with
  | [some (.ref a0), some (.ref a1), some (.int a2), some (.int a3), some (.int a4), some (.int a5), _, _], [.int b0] => nX1_settle_48 N cs a0 a1 a2 a3 a4 a5 b0 h
  | _, _ => none) (ra_k1 145 (fun L S h => match L, S with
  | [some (.ref a0), some (.ref a1), _, _, _, some (.int a5), _, _], [] => nX1_settle_145 N N a0 a1 a5 h
  | _, _ => none) ra_k0))
theorem kX1_settle_16_ok (N : Nat) (cs : Nat → Nat → Int32 → Int32 → Int32 → Int32 → ra_H → Option ra_H) (hcs : ∀ a0 a1 a2 a3 a4 a5 h r, cs a0 a1 a2 a3 a4 a5 h = some r → ra_Ru 5 mX1_settle 16 [some (.ref a0), some (.ref a1), some (.int a2), some (.int a3), some (.int a4), some (.int a5), none, none] [] h (ra_oV r)) : ra_kok 5 mX1_settle ra_oV (kX1_settle_16 N cs) := (ra_k1_ok (by
  intro L S h a e
  split at e
  · exact ra_Ru.weak (nX1_settle_48_ok N cs hcs _ _ _ _ _ _ _ _ _ e) ⟨rfl, ⟨rfl, ⟨rfl, ⟨rfl, ⟨rfl, ⟨rfl, trivial⟩⟩⟩⟩⟩⟩
  · cases e) (ra_k1_ok (by
  intro L S h a e
  split at e
  · exact ra_Ru.weak (nX1_settle_145_ok N N _ _ _ _ _ e) ⟨rfl, ⟨rfl, ⟨rfl, trivial⟩⟩⟩
  · cases e) ra_k0_ok))
set_option maxRecDepth 100000 in
theorem nX1_settle_16_ok (N : Nat) : ∀ n a0 a1 a2 a3 a4 a5 h r, nX1_settle_16 N n a0 a1 a2 a3 a4 a5 h = some r → ra_Ru 5 mX1_settle 16 [some (.ref a0), some (.ref a1), some (.int a2), some (.int a3), some (.int a4), some (.int a5), none, none] [] h (ra_oV r) := by
  intro n
  induction n with
  | zero => intro a0 a1 a2 a3 a4 a5 h r e; cases e
  | succ n ih =>
    intro a0 a1 a2 a3 a4 a5 h r e
    exact ra_sound (by omega) rfl ra_rV_ok (kX1_settle_16_ok N (nX1_settle_16 N n) ih) (fun m av h h1 e => (tVX1_settle_ok N) m av h h1 e) (fun m av h x h1 e => (tIX1_settle_ok N) m av h (x, h1) e) (fun m av h x h1 e => (ra_c0_ok (ro := ra_oJ)) m av h (x, h1) e) (fun m av h x h1 e => (ra_c0_ok (ro := ra_oR)) m av h (x, h1) e) (fun m av h x h1 e => (ra_c0_ok (ro := ra_oN)) m av h (x, h1) e) (fun m av h x h1 e => (ra_c0_ok (ro := ra_oF)) m av h (x, h1) e) 18 lX1_settle_16 _ _ _ _ lX1_settle_16_ck (show ra_run ra_rV (kX1_settle_16 N (nX1_settle_16 N n)) (tVX1_settle N) (tIX1_settle N) ra_c0 ra_c0 ra_c0 ra_c0 18 lX1_settle_16 [some (.ref a0), some (.ref a1), some (.int a2), some (.int a3), some (.int a4), some (.int a5), none, none] [] h = some r from e) _ _ rfl
def lX1_settle_0 : List ra_I := [(0, .aload_n 1, 1, 1, 0, 0, 0, 0, []),
  (1, .iconst (0), 1, 0, 0, 0, (0), 0, []),
  (2, .putfield 97, 3, 7, 3, 0, 0, 0, []),
  (5, .aload_n 1, 1, 1, 0, 0, 0, 0, []),
  (6, .getfield 110, 3, 7, 2, 2, 0, 0, []),
  (9, .iconst (0), 1, 0, 0, 0, (0), 0, []),
  (10, .invokestatic 113, 3, 3, 2, 0, 0, 0, []),
  (13, .iconst (0), 1, 0, 0, 0, (0), 0, []),
  (14, .istore 5, 2, 5, 0, 0, 0, 0, [])]
set_option maxRecDepth 100000 in
theorem lX1_settle_0_ck : lX1_settle_0.all (ra_ck mX1_settle 1) = true := by decide +kernel
def nX1_settle_0 (N : Nat) (a0 : Nat) (a1 : Nat) (a2 : Int32) (a3 : Int32) (a4 : Int32) (h : ra_H) : Option ra_H :=
  (ra_fW h 7 a1 3 (.int ((0 : Int32)))).bind fun h1 =>
  (ra_fR h1 7 a1 2).bind fun x2 =>
  (fJ7_fill_53178 N x2 ((0 : Int32)) h1).bind fun h3 =>
  nX1_settle_16 N N a0 a1 a2 a3 a4 ((0 : Int32)) h3
def kX1_settle_0 (N : Nat) : Nat → List (Option Value) → List Value → ra_H → Option ra_H := (ra_k1 16 (fun L S h => match L, S with
  | [some (.ref a0), some (.ref a1), some (.int a2), some (.int a3), some (.int a4), some (.int a5), _, _], [] => nX1_settle_16 N N a0 a1 a2 a3 a4 a5 h
  | _, _ => none) ra_k0)
theorem kX1_settle_0_ok (N : Nat) : ra_kok 5 mX1_settle ra_oV (kX1_settle_0 N) := (ra_k1_ok (by
  intro L S h a e
  split at e
  · exact ra_Ru.weak (nX1_settle_16_ok N N _ _ _ _ _ _ _ _ e) ⟨rfl, ⟨rfl, ⟨rfl, ⟨rfl, ⟨rfl, ⟨rfl, trivial⟩⟩⟩⟩⟩⟩
  · cases e) ra_k0_ok)
set_option maxRecDepth 100000 in
theorem nX1_settle_0_ok (N : Nat) (a0 : Nat) (a1 : Nat) (a2 : Int32) (a3 : Int32) (a4 : Int32) (h : ra_H) (r : ra_H) (e : nX1_settle_0 N a0 a1 a2 a3 a4 h = some r) : ra_Ru 5 mX1_settle 0 [some (.ref a0), some (.ref a1), some (.int a2), some (.int a3), some (.int a4), none, none, none] [] h (ra_oV r) :=
  ra_sound (by omega) rfl ra_rV_ok (kX1_settle_0_ok N) (fun m av h h1 e => (tVX1_settle_ok N) m av h h1 e) (fun m av h x h1 e => (tIX1_settle_ok N) m av h (x, h1) e) (fun m av h x h1 e => (ra_c0_ok (ro := ra_oJ)) m av h (x, h1) e) (fun m av h x h1 e => (ra_c0_ok (ro := ra_oR)) m av h (x, h1) e) (fun m av h x h1 e => (ra_c0_ok (ro := ra_oN)) m av h (x, h1) e) (fun m av h x h1 e => (ra_c0_ok (ro := ra_oF)) m av h (x, h1) e) 10 lX1_settle_0 _ _ _ _ lX1_settle_0_ck (show ra_run ra_rV (kX1_settle_0 N) (tVX1_settle N) (tIX1_settle N) ra_c0 ra_c0 ra_c0 ra_c0 10 lX1_settle_0 [some (.ref a0), some (.ref a1), some (.int a2), some (.int a3), some (.int a4), none, none, none] [] h = some r from e) _ _ rfl
def fX1_settle (N : Nat) (p0 : Nat) (p1 : Nat) (p2 : Int32) (p3 : Int32) (p4 : Int32) (h : ra_H) : Option ra_H := match ra_isOb h p0 1 with
  | true => nX1_settle_0 N p0 p1 p2 p3 p4 h
  | false => none
set_option maxRecDepth 100000 in
theorem mtX1_settle : ra_MT[94]? = some (mX1_settle, 1, 4, (1, 6), (4, 126), (0, 25)) := rfl
theorem fX1_settle_co (N : Nat) (p0 : Nat) (p1 : Nat) (p2 : Int32) (p3 : Int32) (p4 : Int32) (h : ra_H) (r : ra_H) (e : fX1_settle N p0 p1 p2 p3 p4 h = some r) (D : Nat) (hD : 6 ≤ D) : ra_CO D 94 [.ref p0, .ref p1, .int p2, .int p3, .int p4] h (ra_oV r).1 (ra_oV r).2 := by
  have hw : ra_nw2 [.ref p0, .ref p1, .int p2, .int p3, .int p4] ≤ 8 := Nat.le_of_ble_eq_true rfl
  have hdb : ∀ v ∈ ([.ref p0, .ref p1, .int p2, .int p3, .int p4] : List Value), ∀ x, v ≠ .double x := by
    intro v hv x hx
    simp [hx] at hv
  unfold fX1_settle at e
  split at e
  · rename_i ho
    have e1 := e
    exact ⟨5, _, mtX1_settle, hD, ra_ev_of (by decide) hdb hw trivial (ra_Ru.weak (nX1_settle_0_ok N p0 p1 p2 p3 p4 h _ e1) ⟨rfl, ⟨rfl, ⟨rfl, ⟨rfl, ⟨rfl, trivial⟩⟩⟩⟩⟩), (fun _ => ⟨_, _, rfl, ra_rcv_of ho (by decide) rfl⟩), (fun h => absurd h (by decide))⟩
  · cases e
/-! RedMarks$Histories.settleKept()Z -/
def mX1_settleKept : ra_M := (yX1_settleKept, cX1_settleKept, 1, (some .boolean))
def tVX1_settleKept (N : Nat) : Nat → List Value → ra_H → Option ra_H := (ra_c1 94 (fun av h => match av with
  | [.ref z0, .ref z1, .int z2, .int z3, .int z4] => fX1_settle N z0 z1 z2 z3 z4 h
  | _ => none) ra_c0)
theorem tVX1_settleKept_ok (N : Nat) : ra_cok 6 ra_oV (tVX1_settleKept N) := (ra_c1_ok (by
  intro av h a e
  split at e
  · exact fX1_settle_co N _ _ _ _ _ _ _ e 6 (by omega)
  · cases e) ra_c0_ok)
def lX1_settleKept_54 : List ra_I := [(54, .iconst (1), 1, 0, 0, 0, (1), 0, []),
  (55, .ireturn, 1, 0, 0, 0, 0, 0, [])]
set_option maxRecDepth 100000 in
theorem lX1_settleKept_54_ck : lX1_settleKept_54.all (ra_ck mX1_settleKept 1) = true := by decide +kernel
def nX1_settleKept_54 (N : Nat) (h : ra_H) : Option (Int32 × ra_H) :=
  some ((1 : Int32), h)
def kX1_settleKept_54 (N : Nat) : Nat → List (Option Value) → List Value → ra_H → Option (Int32 × ra_H) := ra_k0
theorem kX1_settleKept_54_ok (N : Nat) : ra_kok 6 mX1_settleKept ra_oI (kX1_settleKept_54 N) := ra_k0_ok
set_option maxRecDepth 100000 in
theorem nX1_settleKept_54_ok (N : Nat) (h : ra_H) (r : (Int32 × ra_H)) (e : nX1_settleKept_54 N h = some r) : ra_Ru 6 mX1_settleKept 54 [none] [] h (ra_oI r) :=
  ra_sound (by omega) rfl ra_rI_ok (kX1_settleKept_54_ok N) (fun m av h h1 e => (tVX1_settleKept_ok N) m av h h1 e) (fun m av h x h1 e => (ra_c0_ok (ro := ra_oI)) m av h (x, h1) e) (fun m av h x h1 e => (ra_c0_ok (ro := ra_oJ)) m av h (x, h1) e) (fun m av h x h1 e => (ra_c0_ok (ro := ra_oR)) m av h (x, h1) e) (fun m av h x h1 e => (ra_c0_ok (ro := ra_oN)) m av h (x, h1) e) (fun m av h x h1 e => (ra_c0_ok (ro := ra_oF)) m av h (x, h1) e) 3 lX1_settleKept_54 _ _ _ _ lX1_settleKept_54_ck (show ra_run ra_rI (kX1_settleKept_54 N) (tVX1_settleKept N) ra_c0 ra_c0 ra_c0 ra_c0 ra_c0 3 lX1_settleKept_54 [none] [] h = some r from e) _ _ rfl
def lX1_settleKept_0 : List ra_I := [(0, .aload_n 0, 1, 0, 0, 0, 0, 0, []),
  (1, .getfield 41, 3, 1, 0, 2, 0, 0, []),
  (4, .getfield 101, 3, 2, 17, 0, 0, 0, []),
  (7, .iconst (-1), 1, 0, 0, 0, (-1), 0, []),
  (8, .if_icmp .ne (5), 3, 13, 0, 0, 0, 0, []),
  (11, .iconst (0), 1, 0, 0, 0, (0), 0, []),
  (12, .ireturn, 1, 0, 0, 0, 0, 0, []),
  (13, .aload_n 0, 1, 0, 0, 0, 0, 0, []),
  (14, .getfield 49, 3, 1, 9, 0, 0, 0, []),
  (17, .ifCond .ne (37), 3, 54, 0, 0, 0, 0, []),
  (20, .aload_n 0, 1, 0, 0, 0, 0, 0, []),
  (21, .aload_n 0, 1, 0, 0, 0, 0, 0, []),
  (22, .getfield 38, 3, 1, 11, 2, 0, 0, []),
  (25, .aload_n 0, 1, 0, 0, 0, 0, 0, []),
  (26, .getfield 41, 3, 1, 0, 2, 0, 0, []),
  (29, .getfield 101, 3, 2, 17, 0, 0, 0, []),
  (32, .aload_n 0, 1, 0, 0, 0, 0, 0, []),
  (33, .getfield 41, 3, 1, 0, 2, 0, 0, []),
  (36, .getfield 104, 3, 2, 18, 0, 0, 0, []),
  (39, .aload_n 0, 1, 0, 0, 0, 0, 0, []),
  (40, .getfield 41, 3, 1, 0, 2, 0, 0, []),
  (43, .getfield 107, 3, 2, 19, 0, 0, 0, []),
  (46, .invokevirtual 93, 3, 94, 5, 0, 0, 0, []),
  (49, .aload_n 0, 1, 0, 0, 0, 0, 0, []),
  (50, .iconst (1), 1, 0, 0, 0, (1), 0, []),
  (51, .putfield 49, 3, 1, 9, 4, 0, 0, [])]
set_option maxRecDepth 100000 in
theorem lX1_settleKept_0_ck : lX1_settleKept_0.all (ra_ck mX1_settleKept 1) = true := by decide +kernel
def nX1_settleKept_0 (N : Nat) (a0 : Nat) (h : ra_H) : Option (Int32 × ra_H) :=
  (ra_fR h 1 a0 0).bind fun x1 =>
  (ra_fI h 2 x1 17).bind fun x2 =>
  if x2 = ((-1 : Int32)) then
    some ((0 : Int32), h)
  else
    (ra_fI h 1 a0 9).bind fun x3 =>
    if x3 = 0 then
      (ra_fR h 1 a0 11).bind fun x4 =>
      (ra_fR h 1 a0 0).bind fun x5 =>
      (ra_fI h 2 x5 17).bind fun x6 =>
      (ra_fR h 1 a0 0).bind fun x7 =>
      (ra_fI h 2 x7 18).bind fun x8 =>
      (ra_fR h 1 a0 0).bind fun x9 =>
      (ra_fI h 2 x9 19).bind fun x10 =>
      (fX1_settle N a0 x4 x6 x8 x10 h).bind fun h11 =>
      if ((1 : Int32)) = 0 ∨ ((1 : Int32)) = 1 then
      (ra_fW h11 1 a0 9 (.int ((1 : Int32)))).bind fun h12 =>
      nX1_settleKept_54 N h12
      else none
    else
      nX1_settleKept_54 N h
def kX1_settleKept_0 (N : Nat) : Nat → List (Option Value) → List Value → ra_H → Option (Int32 × ra_H) := (ra_k1 54 (fun L S h => match L, S with
  | [_], [] => nX1_settleKept_54 N h
  | _, _ => none) ra_k0)
theorem kX1_settleKept_0_ok (N : Nat) : ra_kok 6 mX1_settleKept ra_oI (kX1_settleKept_0 N) := (ra_k1_ok (by
  intro L S h a e
  split at e
  · exact ra_Ru.weak (nX1_settleKept_54_ok N _ _ e) trivial
  · cases e) ra_k0_ok)
set_option maxRecDepth 100000 in
theorem nX1_settleKept_0_ok (N : Nat) (a0 : Nat) (h : ra_H) (r : (Int32 × ra_H)) (e : nX1_settleKept_0 N a0 h = some r) : ra_Ru 6 mX1_settleKept 0 [some (.ref a0)] [] h (ra_oI r) :=
  ra_sound (by omega) rfl ra_rI_ok (kX1_settleKept_0_ok N) (fun m av h h1 e => (tVX1_settleKept_ok N) m av h h1 e) (fun m av h x h1 e => (ra_c0_ok (ro := ra_oI)) m av h (x, h1) e) (fun m av h x h1 e => (ra_c0_ok (ro := ra_oJ)) m av h (x, h1) e) (fun m av h x h1 e => (ra_c0_ok (ro := ra_oR)) m av h (x, h1) e) (fun m av h x h1 e => (ra_c0_ok (ro := ra_oN)) m av h (x, h1) e) (fun m av h x h1 e => (ra_c0_ok (ro := ra_oF)) m av h (x, h1) e) 27 lX1_settleKept_0 _ _ _ _ lX1_settleKept_0_ck (show ra_run ra_rI (kX1_settleKept_0 N) (tVX1_settleKept N) ra_c0 ra_c0 ra_c0 ra_c0 ra_c0 27 lX1_settleKept_0 [some (.ref a0)] [] h = some r from e) _ _ rfl
def fX1_settleKept (N : Nat) (p0 : Nat) (h : ra_H) : Option (Int32 × ra_H) := match ra_isOb h p0 1 with
  | true => (nX1_settleKept_0 N p0 h).bind (fun q => ra_rz q.1 q.2)
  | false => none
set_option maxRecDepth 100000 in
theorem mtX1_settleKept : ra_MT[105]? = some (mX1_settleKept, 1, 0, (1, 6), (4, 173), (4, 174)) := rfl
theorem fX1_settleKept_co (N : Nat) (p0 : Nat) (h : ra_H) (r : (Int32 × ra_H)) (e : fX1_settleKept N p0 h = some r) (D : Nat) (hD : 7 ≤ D) : ra_CO D 105 [.ref p0] h (ra_oI r).1 (ra_oI r).2 := by
  have hw : ra_nw2 [.ref p0] ≤ 1 := Nat.le_of_ble_eq_true rfl
  have hdb : ∀ v ∈ ([.ref p0] : List Value), ∀ x, v ≠ .double x := by
    intro v hv x hx
    simp [hx] at hv
  unfold fX1_settleKept at e
  split at e
  · rename_i ho
    obtain ⟨q, e1, e2⟩ := Option.bind_eq_some_iff.mp e
    obtain ⟨rfl, hz⟩ := ra_rz_of e2
    exact ⟨6, _, mtX1_settleKept, hD, ra_ev_of (by decide) hdb hw hz (ra_Ru.weak (nX1_settleKept_0_ok N p0 h _ e1) ⟨rfl, trivial⟩), (fun _ => ⟨_, _, rfl, ra_rcv_of ho (by decide) rfl⟩), (fun h => absurd h (by decide))⟩
  · cases e
/-! RedMarks$Shelves.standsOn(II)Z -/
def mX5_standsOn : ra_M := (yX5_standsOn, cX5_standsOn, 3, (some .boolean))
def lX5_standsOn_34 : List ra_I := [(34, .ireturn, 1, 0, 0, 0, 0, 0, [])]
set_option maxRecDepth 100000 in
theorem lX5_standsOn_34_ck : lX5_standsOn_34.all (ra_ck mX5_standsOn 5) = true := by decide +kernel
def nX5_standsOn_34 (N : Nat) (b0 : Int32) (h : ra_H) : Option (Int32 × ra_H) :=
  some (b0, h)
def kX5_standsOn_34 (N : Nat) : Nat → List (Option Value) → List Value → ra_H → Option (Int32 × ra_H) := ra_k0
theorem kX5_standsOn_34_ok (N : Nat) : ra_kok 1 mX5_standsOn ra_oI (kX5_standsOn_34 N) := ra_k0_ok
set_option maxRecDepth 100000 in
theorem nX5_standsOn_34_ok (N : Nat) (b0 : Int32) (h : ra_H) (r : (Int32 × ra_H)) (e : nX5_standsOn_34 N b0 h = some r) : ra_Ru 1 mX5_standsOn 34 [none, none, none] [.int b0] h (ra_oI r) :=
  ra_sound (by omega) rfl ra_rI_ok (kX5_standsOn_34_ok N) (fun m av h h1 e => (ra_c0_ok (ro := ra_oV)) m av h h1 e) (fun m av h x h1 e => (ra_c0_ok (ro := ra_oI)) m av h (x, h1) e) (fun m av h x h1 e => (ra_c0_ok (ro := ra_oJ)) m av h (x, h1) e) (fun m av h x h1 e => (ra_c0_ok (ro := ra_oR)) m av h (x, h1) e) (fun m av h x h1 e => (ra_c0_ok (ro := ra_oN)) m av h (x, h1) e) (fun m av h x h1 e => (ra_c0_ok (ro := ra_oF)) m av h (x, h1) e) 2 lX5_standsOn_34 _ _ _ _ lX5_standsOn_34_ck (show ra_run ra_rI (kX5_standsOn_34 N) ra_c0 ra_c0 ra_c0 ra_c0 ra_c0 ra_c0 2 lX5_standsOn_34 [none, none, none] [.int b0] h = some r from e) _ _ rfl
def lX5_standsOn_33 : List ra_I := [(33, .iconst (0), 1, 0, 0, 0, (0), 0, [])]
set_option maxRecDepth 100000 in
theorem lX5_standsOn_33_ck : lX5_standsOn_33.all (ra_ck mX5_standsOn 5) = true := by decide +kernel
def nX5_standsOn_33 (N : Nat) (h : ra_H) : Option (Int32 × ra_H) :=
  nX5_standsOn_34 N ((0 : Int32)) h
def kX5_standsOn_33 (N : Nat) : Nat → List (Option Value) → List Value → ra_H → Option (Int32 × ra_H) := (ra_k1 34 (fun L S h => match L, S with
  | [_, _, _], [.int b0] => nX5_standsOn_34 N b0 h
  | _, _ => none) ra_k0)
theorem kX5_standsOn_33_ok (N : Nat) : ra_kok 1 mX5_standsOn ra_oI (kX5_standsOn_33 N) := (ra_k1_ok (by
  intro L S h a e
  split at e
  · exact ra_Ru.weak (nX5_standsOn_34_ok N _ _ _ e) trivial
  · cases e) ra_k0_ok)
set_option maxRecDepth 100000 in
theorem nX5_standsOn_33_ok (N : Nat) (h : ra_H) (r : (Int32 × ra_H)) (e : nX5_standsOn_33 N h = some r) : ra_Ru 1 mX5_standsOn 33 [none, none, none] [] h (ra_oI r) :=
  ra_sound (by omega) rfl ra_rI_ok (kX5_standsOn_33_ok N) (fun m av h h1 e => (ra_c0_ok (ro := ra_oV)) m av h h1 e) (fun m av h x h1 e => (ra_c0_ok (ro := ra_oI)) m av h (x, h1) e) (fun m av h x h1 e => (ra_c0_ok (ro := ra_oJ)) m av h (x, h1) e) (fun m av h x h1 e => (ra_c0_ok (ro := ra_oR)) m av h (x, h1) e) (fun m av h x h1 e => (ra_c0_ok (ro := ra_oN)) m av h (x, h1) e) (fun m av h x h1 e => (ra_c0_ok (ro := ra_oF)) m av h (x, h1) e) 2 lX5_standsOn_33 _ _ _ _ lX5_standsOn_33_ck (show ra_run ra_rI (kX5_standsOn_33 N) ra_c0 ra_c0 ra_c0 ra_c0 ra_c0 ra_c0 2 lX5_standsOn_33 [none, none, none] [] h = some r from e) _ _ rfl
def lX5_standsOn_0 : List ra_I := [(0, .aload_n 0, 1, 0, 0, 0, 0, 0, []),
  (1, .getfield 19, 3, 5, 1, 2, 0, 0, []),
  (4, .getfield 23, 3, 7, 0, 2, 0, 0, []),
  (7, .iload_n 1, 1, 1, 0, 0, 0, 0, []),
  (8, .iaload, 1, 0, 0, 0, 0, 0, []),
  (9, .iconst (4), 1, 0, 0, 0, (4), 0, []),
  (10, .if_icmp .ne (23), 3, 33, 0, 0, 0, 0, []),
  (13, .aload_n 0, 1, 0, 0, 0, 0, 0, []),
  (14, .getfield 19, 3, 5, 1, 2, 0, 0, []),
  (17, .getfield 28, 3, 7, 1, 2, 0, 0, []),
  (20, .iload_n 1, 1, 1, 0, 0, 0, 0, []),
  (21, .iaload, 1, 0, 0, 0, 0, 0, []),
  (22, .bipush (99), 2, 0, 0, 0, (99), 0, []),
  (24, .idiv, 1, 0, 0, 0, 0, 0, []),
  (25, .iload_n 2, 1, 2, 0, 0, 0, 0, []),
  (26, .if_icmp .ne (7), 3, 33, 0, 0, 0, 0, []),
  (29, .iconst (1), 1, 0, 0, 0, (1), 0, []),
  (30, .goto (4), 3, 34, 0, 0, 0, 0, [])]
set_option maxRecDepth 100000 in
theorem lX5_standsOn_0_ck : lX5_standsOn_0.all (ra_ck mX5_standsOn 5) = true := by decide +kernel
def nX5_standsOn_0 (N : Nat) (a0 : Nat) (a1 : Int32) (a2 : Int32) (h : ra_H) : Option (Int32 × ra_H) :=
  (ra_fR h 5 a0 1).bind fun x1 =>
  (ra_fR h 7 x1 0).bind fun x2 =>
  (ra_aI h 0 x2 a1).bind fun x3 =>
  if x3 = ((4 : Int32)) then
    (ra_fR h 5 a0 1).bind fun x4 =>
    (ra_fR h 7 x4 1).bind fun x5 =>
    (ra_aI h 0 x5 a1).bind fun x6 =>
    if ((99 : Int32)) = 0 then none else
    if (x6 / ((99 : Int32))) = a2 then
      nX5_standsOn_34 N ((1 : Int32)) h
    else
      nX5_standsOn_33 N h
  else
    nX5_standsOn_33 N h
def kX5_standsOn_0 (N : Nat) : Nat → List (Option Value) → List Value → ra_H → Option (Int32 × ra_H) := (ra_k1 33 (fun L S h => match L, S with
  | [_, _, _], [] => nX5_standsOn_33 N h
  | _, _ => none) (ra_k1 34 (fun L S h => match L, S with
  | [_, _, _], [.int b0] => nX5_standsOn_34 N b0 h
  | _, _ => none) ra_k0))
theorem kX5_standsOn_0_ok (N : Nat) : ra_kok 1 mX5_standsOn ra_oI (kX5_standsOn_0 N) := (ra_k1_ok (by
  intro L S h a e
  split at e
  · exact ra_Ru.weak (nX5_standsOn_33_ok N _ _ e) trivial
  · cases e) (ra_k1_ok (by
  intro L S h a e
  split at e
  · exact ra_Ru.weak (nX5_standsOn_34_ok N _ _ _ e) trivial
  · cases e) ra_k0_ok))
set_option maxRecDepth 100000 in
theorem nX5_standsOn_0_ok (N : Nat) (a0 : Nat) (a1 : Int32) (a2 : Int32) (h : ra_H) (r : (Int32 × ra_H)) (e : nX5_standsOn_0 N a0 a1 a2 h = some r) : ra_Ru 1 mX5_standsOn 0 [some (.ref a0), some (.int a1), some (.int a2)] [] h (ra_oI r) :=
  ra_sound (by omega) rfl ra_rI_ok (kX5_standsOn_0_ok N) (fun m av h h1 e => (ra_c0_ok (ro := ra_oV)) m av h h1 e) (fun m av h x h1 e => (ra_c0_ok (ro := ra_oI)) m av h (x, h1) e) (fun m av h x h1 e => (ra_c0_ok (ro := ra_oJ)) m av h (x, h1) e) (fun m av h x h1 e => (ra_c0_ok (ro := ra_oR)) m av h (x, h1) e) (fun m av h x h1 e => (ra_c0_ok (ro := ra_oN)) m av h (x, h1) e) (fun m av h x h1 e => (ra_c0_ok (ro := ra_oF)) m av h (x, h1) e) 19 lX5_standsOn_0 _ _ _ _ lX5_standsOn_0_ck (show ra_run ra_rI (kX5_standsOn_0 N) ra_c0 ra_c0 ra_c0 ra_c0 ra_c0 ra_c0 19 lX5_standsOn_0 [some (.ref a0), some (.int a1), some (.int a2)] [] h = some r from e) _ _ rfl
def fX5_standsOn (N : Nat) (p0 : Nat) (p1 : Int32) (p2 : Int32) (h : ra_H) : Option (Int32 × ra_H) := match ra_isOb h p0 5 with
  | true => (nX5_standsOn_0 N p0 p1 p2 h).bind (fun q => ra_rz q.1 q.2)
  | false => none
set_option maxRecDepth 100000 in
theorem mtX5_standsOn : ra_MT[110]? = some (mX5_standsOn, 1, 2, (1, 8), (4, 194), (0, 34)) := rfl
theorem fX5_standsOn_co (N : Nat) (p0 : Nat) (p1 : Int32) (p2 : Int32) (h : ra_H) (r : (Int32 × ra_H)) (e : fX5_standsOn N p0 p1 p2 h = some r) (D : Nat) (hD : 2 ≤ D) : ra_CO D 110 [.ref p0, .int p1, .int p2] h (ra_oI r).1 (ra_oI r).2 := by
  have hw : ra_nw2 [.ref p0, .int p1, .int p2] ≤ 3 := Nat.le_of_ble_eq_true rfl
  have hdb : ∀ v ∈ ([.ref p0, .int p1, .int p2] : List Value), ∀ x, v ≠ .double x := by
    intro v hv x hx
    simp [hx] at hv
  unfold fX5_standsOn at e
  split at e
  · rename_i ho
    obtain ⟨q, e1, e2⟩ := Option.bind_eq_some_iff.mp e
    obtain ⟨rfl, hz⟩ := ra_rz_of e2
    exact ⟨1, _, mtX5_standsOn, hD, ra_ev_of (by decide) hdb hw hz (ra_Ru.weak (nX5_standsOn_0_ok N p0 p1 p2 h _ e1) ⟨rfl, ⟨rfl, ⟨rfl, trivial⟩⟩⟩), (fun _ => ⟨_, _, rfl, ra_rcv_of ho (by decide) rfl⟩), (fun h => absurd h (by decide))⟩
  · cases e
/-! RedMarks$Shelves.lineUp(I)I -/
def mX5_lineUp : ra_M := (yX5_lineUp, cX5_lineUp, 5, (some .int))
def tIX5_lineUp (N : Nat) : Nat → List Value → ra_H → Option (Int32 × ra_H) := (ra_c1 110 (fun av h => match av with
  | [.ref z0, .int z1, .int z2] => fX5_standsOn N z0 z1 z2 h
  | _ => none) ra_c0)
theorem tIX5_lineUp_ok (N : Nat) : ra_cok 2 ra_oI (tIX5_lineUp N) := (ra_c1_ok (by
  intro av h a e
  split at e
  · exact fX5_standsOn_co N _ _ _ _ _ e 2 (by omega)
  · cases e) ra_c0_ok)
def lX5_lineUp_94 : List ra_I := [(94, .iinc 3 (1), 3, 3, 0, 0, (1), 0, []),
  (97, .goto (-93), 3, 4, 0, 0, 0, 0, [])]
set_option maxRecDepth 100000 in
theorem lX5_lineUp_94_ck : lX5_lineUp_94.all (ra_ck mX5_lineUp 5) = true := by decide +kernel
def nX5_lineUp_94 (N : Nat) (c4 : Nat → Int32 → Int32 → Int32 → ra_H → Option (Int32 × ra_H)) (a0 : Nat) (a1 : Int32) (a2 : Int32) (a3 : Int32) (h : ra_H) : Option (Int32 × ra_H) :=
  let y1 := a3 + (1 : Int32)
  c4 a0 a1 a2 y1 h
def kX5_lineUp_94 (N : Nat) (c4 : Nat → Int32 → Int32 → Int32 → ra_H → Option (Int32 × ra_H)) : Nat → List (Option Value) → List Value → ra_H → Option (Int32 × ra_H) := (ra_k1 4 (fun L S h => match L, S with
  | [some (.ref a0), some (.int a1), some (.int a2), some (.int a3), _], [] => c4 a0 a1 a2 a3 h
  | _, _ => none) ra_k0)
theorem kX5_lineUp_94_ok (N : Nat) (c4 : Nat → Int32 → Int32 → Int32 → ra_H → Option (Int32 × ra_H)) (hc4 : ∀ a0 a1 a2 a3 h r, c4 a0 a1 a2 a3 h = some r → ra_Ru 2 mX5_lineUp 4 [some (.ref a0), some (.int a1), some (.int a2), some (.int a3), none] [] h (ra_oI r)) : ra_kok 2 mX5_lineUp ra_oI (kX5_lineUp_94 N c4) := (ra_k1_ok (by
  intro L S h a e
  split at e
  · exact ra_Ru.weak (hc4 _ _ _ _ _ _ e) ⟨rfl, ⟨rfl, ⟨rfl, ⟨rfl, trivial⟩⟩⟩⟩
  · cases e) ra_k0_ok)
set_option maxRecDepth 100000 in
theorem nX5_lineUp_94_ok (N : Nat) (c4 : Nat → Int32 → Int32 → Int32 → ra_H → Option (Int32 × ra_H)) (hc4 : ∀ a0 a1 a2 a3 h r, c4 a0 a1 a2 a3 h = some r → ra_Ru 2 mX5_lineUp 4 [some (.ref a0), some (.int a1), some (.int a2), some (.int a3), none] [] h (ra_oI r)) (a0 : Nat) (a1 : Int32) (a2 : Int32) (a3 : Int32) (h : ra_H) (r : (Int32 × ra_H)) (e : nX5_lineUp_94 N c4 a0 a1 a2 a3 h = some r) : ra_Ru 2 mX5_lineUp 94 [some (.ref a0), some (.int a1), some (.int a2), some (.int a3), none] [] h (ra_oI r) :=
  ra_sound (by omega) rfl ra_rI_ok (kX5_lineUp_94_ok N c4 hc4) (fun m av h h1 e => (ra_c0_ok (ro := ra_oV)) m av h h1 e) (fun m av h x h1 e => (tIX5_lineUp_ok N) m av h (x, h1) e) (fun m av h x h1 e => (ra_c0_ok (ro := ra_oJ)) m av h (x, h1) e) (fun m av h x h1 e => (ra_c0_ok (ro := ra_oR)) m av h (x, h1) e) (fun m av h x h1 e => (ra_c0_ok (ro := ra_oN)) m av h (x, h1) e) (fun m av h x h1 e => (ra_c0_ok (ro := ra_oF)) m av h (x, h1) e) 3 lX5_lineUp_94 _ _ _ _ lX5_lineUp_94_ck (show ra_run ra_rI (kX5_lineUp_94 N c4) ra_c0 (tIX5_lineUp N) ra_c0 ra_c0 ra_c0 ra_c0 3 lX5_lineUp_94 [some (.ref a0), some (.int a1), some (.int a2), some (.int a3), none] [] h = some r from e) _ _ rfl
def lX5_lineUp_83 : List ra_I := [(83, .aload_n 0, 1, 0, 0, 0, 0, 0, []),
  (84, .getfield 9, 3, 5, 2, 2, 0, 0, []),
  (87, .iload 4, 2, 4, 0, 0, 0, 0, []),
  (89, .iload_n 3, 1, 3, 0, 0, 0, 0, []),
  (90, .iastore, 1, 0, 0, 0, 0, 0, []),
  (91, .iinc 2 (1), 3, 2, 0, 0, (1), 0, [])]
set_option maxRecDepth 100000 in
theorem lX5_lineUp_83_ck : lX5_lineUp_83.all (ra_ck mX5_lineUp 5) = true := by decide +kernel
def nX5_lineUp_83 (N : Nat) (c4 : Nat → Int32 → Int32 → Int32 → ra_H → Option (Int32 × ra_H)) (a0 : Nat) (a1 : Int32) (a2 : Int32) (a3 : Int32) (a4 : Int32) (h : ra_H) : Option (Int32 × ra_H) :=
  (ra_fR h 5 a0 2).bind fun x1 =>
  (ra_aW h 0 x1 a4 a3).bind fun h2 =>
  let y3 := a2 + (1 : Int32)
  nX5_lineUp_94 N c4 a0 a1 y3 a3 h2
def kX5_lineUp_83 (N : Nat) (c4 : Nat → Int32 → Int32 → Int32 → ra_H → Option (Int32 × ra_H)) : Nat → List (Option Value) → List Value → ra_H → Option (Int32 × ra_H) := (ra_k1 94 (fun L S h => match L, S with
  | [some (.ref a0), some (.int a1), some (.int a2), some (.int a3), _], [] => nX5_lineUp_94 N c4 a0 a1 a2 a3 h
  | _, _ => none) ra_k0)
theorem kX5_lineUp_83_ok (N : Nat) (c4 : Nat → Int32 → Int32 → Int32 → ra_H → Option (Int32 × ra_H)) (hc4 : ∀ a0 a1 a2 a3 h r, c4 a0 a1 a2 a3 h = some r → ra_Ru 2 mX5_lineUp 4 [some (.ref a0), some (.int a1), some (.int a2), some (.int a3), none] [] h (ra_oI r)) : ra_kok 2 mX5_lineUp ra_oI (kX5_lineUp_83 N c4) := (ra_k1_ok (by
  intro L S h a e
  split at e
  · exact ra_Ru.weak (nX5_lineUp_94_ok N c4 hc4 _ _ _ _ _ _ e) ⟨rfl, ⟨rfl, ⟨rfl, ⟨rfl, trivial⟩⟩⟩⟩
  · cases e) ra_k0_ok)
set_option maxRecDepth 100000 in
theorem nX5_lineUp_83_ok (N : Nat) (c4 : Nat → Int32 → Int32 → Int32 → ra_H → Option (Int32 × ra_H)) (hc4 : ∀ a0 a1 a2 a3 h r, c4 a0 a1 a2 a3 h = some r → ra_Ru 2 mX5_lineUp 4 [some (.ref a0), some (.int a1), some (.int a2), some (.int a3), none] [] h (ra_oI r)) (a0 : Nat) (a1 : Int32) (a2 : Int32) (a3 : Int32) (a4 : Int32) (h : ra_H) (r : (Int32 × ra_H)) (e : nX5_lineUp_83 N c4 a0 a1 a2 a3 a4 h = some r) : ra_Ru 2 mX5_lineUp 83 [some (.ref a0), some (.int a1), some (.int a2), some (.int a3), some (.int a4)] [] h (ra_oI r) :=
  ra_sound (by omega) rfl ra_rI_ok (kX5_lineUp_83_ok N c4 hc4) (fun m av h h1 e => (ra_c0_ok (ro := ra_oV)) m av h h1 e) (fun m av h x h1 e => (tIX5_lineUp_ok N) m av h (x, h1) e) (fun m av h x h1 e => (ra_c0_ok (ro := ra_oJ)) m av h (x, h1) e) (fun m av h x h1 e => (ra_c0_ok (ro := ra_oR)) m av h (x, h1) e) (fun m av h x h1 e => (ra_c0_ok (ro := ra_oN)) m av h (x, h1) e) (fun m av h x h1 e => (ra_c0_ok (ro := ra_oF)) m av h (x, h1) e) 7 lX5_lineUp_83 _ _ _ _ lX5_lineUp_83_ck (show ra_run ra_rI (kX5_lineUp_83 N c4) ra_c0 (tIX5_lineUp N) ra_c0 ra_c0 ra_c0 ra_c0 7 lX5_lineUp_83 [some (.ref a0), some (.int a1), some (.int a2), some (.int a3), some (.int a4)] [] h = some r from e) _ _ rfl
def lX5_lineUp_27 : List ra_I := [(27, .iload 4, 2, 4, 0, 0, 0, 0, []),
  (29, .ifCond .le (54), 3, 83, 0, 0, 0, 0, []),
  (32, .aload_n 0, 1, 0, 0, 0, 0, 0, []),
  (33, .getfield 19, 3, 5, 1, 2, 0, 0, []),
  (36, .getfield 28, 3, 7, 1, 2, 0, 0, []),
  (39, .aload_n 0, 1, 0, 0, 0, 0, 0, []),
  (40, .getfield 9, 3, 5, 2, 2, 0, 0, []),
  (43, .iload 4, 2, 4, 0, 0, 0, 0, []),
  (45, .iconst (1), 1, 0, 0, 0, (1), 0, []),
  (46, .isub, 1, 0, 0, 0, 0, 0, []),
  (47, .iaload, 1, 0, 0, 0, 0, 0, []),
  (48, .iaload, 1, 0, 0, 0, 0, 0, []),
  (49, .aload_n 0, 1, 0, 0, 0, 0, 0, []),
  (50, .getfield 19, 3, 5, 1, 2, 0, 0, []),
  (53, .getfield 28, 3, 7, 1, 2, 0, 0, []),
  (56, .iload_n 3, 1, 3, 0, 0, 0, 0, []),
  (57, .iaload, 1, 0, 0, 0, 0, 0, []),
  (58, .if_icmp .le (25), 3, 83, 0, 0, 0, 0, []),
  (61, .aload_n 0, 1, 0, 0, 0, 0, 0, []),
  (62, .getfield 9, 3, 5, 2, 2, 0, 0, []),
  (65, .iload 4, 2, 4, 0, 0, 0, 0, []),
  (67, .aload_n 0, 1, 0, 0, 0, 0, 0, []),
  (68, .getfield 9, 3, 5, 2, 2, 0, 0, []),
  (71, .iload 4, 2, 4, 0, 0, 0, 0, []),
  (73, .iconst (1), 1, 0, 0, 0, (1), 0, []),
  (74, .isub, 1, 0, 0, 0, 0, 0, []),
  (75, .iaload, 1, 0, 0, 0, 0, 0, []),
  (76, .iastore, 1, 0, 0, 0, 0, 0, []),
  (77, .iinc 4 (-1), 3, 4, 0, 0, (-1), 0, []),
  (80, .goto (-53), 3, 27, 0, 0, 0, 0, [])]
set_option maxRecDepth 100000 in
theorem lX5_lineUp_27_ck : lX5_lineUp_27.all (ra_ck mX5_lineUp 5) = true := by decide +kernel
def nX5_lineUp_27 (N : Nat) (c4 : Nat → Int32 → Int32 → Int32 → ra_H → Option (Int32 × ra_H)) : Nat → Nat → Int32 → Int32 → Int32 → Int32 → ra_H → Option (Int32 × ra_H)
  | 0, _, _, _, _, _, _ => none
  | n + 1, a0, a1, a2, a3, a4, h =>
  if a4 ≤ 0 then
    nX5_lineUp_83 N c4 a0 a1 a2 a3 a4 h
  else
    (ra_fR h 5 a0 1).bind fun x1 =>
    (ra_fR h 7 x1 1).bind fun x2 =>
    (ra_fR h 5 a0 2).bind fun x3 =>
    (ra_aI h 0 x3 (a4 - ((1 : Int32)))).bind fun x4 =>
    (ra_aI h 0 x2 x4).bind fun x5 =>
    (ra_fR h 5 a0 1).bind fun x6 =>
    (ra_fR h 7 x6 1).bind fun x7 =>
    (ra_aI h 0 x7 a3).bind fun x8 =>
    if x5 ≤ x8 then
      nX5_lineUp_83 N c4 a0 a1 a2 a3 a4 h
    else
      (ra_fR h 5 a0 2).bind fun x9 =>
      (ra_fR h 5 a0 2).bind fun x10 =>
      (ra_aI h 0 x10 (a4 - ((1 : Int32)))).bind fun x11 =>
      (ra_aW h 0 x9 a4 x11).bind fun h12 =>
      let y13 := a4 + (-1 : Int32)
      nX5_lineUp_27 N c4 n a0 a1 a2 a3 y13 h12
def kX5_lineUp_27 (N : Nat) (c4 : Nat → Int32 → Int32 → Int32 → ra_H → Option (Int32 × ra_H)) (cs : Nat → Int32 → Int32 → Int32 → Int32 → ra_H → Option (Int32 × ra_H)) : Nat → List (Option Value) → List Value → ra_H → Option (Int32 × ra_H) := (ra_k1 27 (fun L S h => match L, S with
  | [some (.ref a0), some (.int a1), some (.int a2), some (.int a3), some (.int a4)], [] => cs a0 a1 a2 a3 a4 h
  | _, _ => none) (ra_k1 83 (fun L S h => match L, S with
  | [some (.ref a0), some (.int a1), some (.int a2), some (.int a3), some (.int a4)], [] => nX5_lineUp_83 N c4 a0 a1 a2 a3 a4 h
  | _, _ => none) ra_k0))
theorem kX5_lineUp_27_ok (N : Nat) (c4 : Nat → Int32 → Int32 → Int32 → ra_H → Option (Int32 × ra_H)) (hc4 : ∀ a0 a1 a2 a3 h r, c4 a0 a1 a2 a3 h = some r → ra_Ru 2 mX5_lineUp 4 [some (.ref a0), some (.int a1), some (.int a2), some (.int a3), none] [] h (ra_oI r)) (cs : Nat → Int32 → Int32 → Int32 → Int32 → ra_H → Option (Int32 × ra_H)) (hcs : ∀ a0 a1 a2 a3 a4 h r, cs a0 a1 a2 a3 a4 h = some r → ra_Ru 2 mX5_lineUp 27 [some (.ref a0), some (.int a1), some (.int a2), some (.int a3), some (.int a4)] [] h (ra_oI r)) : ra_kok 2 mX5_lineUp ra_oI (kX5_lineUp_27 N c4 cs) := (ra_k1_ok (by
  intro L S h a e
  split at e
  · exact ra_Ru.weak (hcs _ _ _ _ _ _ _ e) ⟨rfl, ⟨rfl, ⟨rfl, ⟨rfl, ⟨rfl, trivial⟩⟩⟩⟩⟩
  · cases e) (ra_k1_ok (by
  intro L S h a e
  split at e
  · exact ra_Ru.weak (nX5_lineUp_83_ok N c4 hc4 _ _ _ _ _ _ _ e) ⟨rfl, ⟨rfl, ⟨rfl, ⟨rfl, ⟨rfl, trivial⟩⟩⟩⟩⟩
  · cases e) ra_k0_ok))
set_option maxRecDepth 100000 in
theorem nX5_lineUp_27_ok (N : Nat) (c4 : Nat → Int32 → Int32 → Int32 → ra_H → Option (Int32 × ra_H)) (hc4 : ∀ a0 a1 a2 a3 h r, c4 a0 a1 a2 a3 h = some r → ra_Ru 2 mX5_lineUp 4 [some (.ref a0), some (.int a1), some (.int a2), some (.int a3), none] [] h (ra_oI r)) : ∀ n a0 a1 a2 a3 a4 h r, nX5_lineUp_27 N c4 n a0 a1 a2 a3 a4 h = some r → ra_Ru 2 mX5_lineUp 27 [some (.ref a0), some (.int a1), some (.int a2), some (.int a3), some (.int a4)] [] h (ra_oI r) := by
  intro n
  induction n with
  | zero => intro a0 a1 a2 a3 a4 h r e; cases e
  | succ n ih =>
    intro a0 a1 a2 a3 a4 h r e
    exact ra_sound (by omega) rfl ra_rI_ok (kX5_lineUp_27_ok N c4 hc4 (nX5_lineUp_27 N c4 n) ih) (fun m av h h1 e => (ra_c0_ok (ro := ra_oV)) m av h h1 e) (fun m av h x h1 e => (tIX5_lineUp_ok N) m av h (x, h1) e) (fun m av h x h1 e => (ra_c0_ok (ro := ra_oJ)) m av h (x, h1) e) (fun m av h x h1 e => (ra_c0_ok (ro := ra_oR)) m av h (x, h1) e) (fun m av h x h1 e => (ra_c0_ok (ro := ra_oN)) m av h (x, h1) e) (fun m av h x h1 e => (ra_c0_ok (ro := ra_oF)) m av h (x, h1) e) 31 lX5_lineUp_27 _ _ _ _ lX5_lineUp_27_ck (show ra_run ra_rI (kX5_lineUp_27 N c4 (nX5_lineUp_27 N c4 n)) ra_c0 (tIX5_lineUp N) ra_c0 ra_c0 ra_c0 ra_c0 31 lX5_lineUp_27 [some (.ref a0), some (.int a1), some (.int a2), some (.int a3), some (.int a4)] [] h = some r from e) _ _ rfl
def lX5_lineUp_4 : List ra_I := [(4, .iload_n 3, 1, 3, 0, 0, 0, 0, []),
  (5, .aload_n 0, 1, 0, 0, 0, 0, 0, []),
  (6, .getfield 15, 3, 5, 0, 2, 0, 0, []),
  (9, .getfield 31, 3, 2, 13, 0, 0, 0, []),
  (12, .if_icmp .ge (88), 3, 100, 0, 0, 0, 0, []),
  (15, .aload_n 0, 1, 0, 0, 0, 0, 0, []),
  (16, .iload_n 3, 1, 3, 0, 0, 0, 0, []),
  (17, .iload_n 1, 1, 1, 0, 0, 0, 0, []),
  (18, .invokevirtual 37, 3, 110, 3, 1, 0, 0, []),
  (21, .ifCond .eq (73), 3, 94, 0, 0, 0, 0, []),
  (24, .iload_n 2, 1, 2, 0, 0, 0, 0, []),
  (25, .istore 4, 2, 4, 0, 0, 0, 0, []),
  (100, .iload_n 2, 1, 2, 0, 0, 0, 0, []),
  (101, .ireturn, 1, 0, 0, 0, 0, 0, [])]
set_option maxRecDepth 100000 in
theorem lX5_lineUp_4_ck : lX5_lineUp_4.all (ra_ck mX5_lineUp 5) = true := by decide +kernel
def nX5_lineUp_4 (N : Nat) : Nat → Nat → Int32 → Int32 → Int32 → ra_H → Option (Int32 × ra_H)
  | 0, _, _, _, _, _ => none
  | n + 1, a0, a1, a2, a3, h =>
  (ra_fR h 5 a0 0).bind fun x1 =>
  (ra_fI h 2 x1 13).bind fun x2 =>
  if a3 < x2 then
    (fX5_standsOn N a0 a3 a1 h).bind fun q3 =>
    if q3.1 = 0 then
      nX5_lineUp_94 N (nX5_lineUp_4 N n) a0 a1 a2 a3 q3.2
    else
      nX5_lineUp_27 N (nX5_lineUp_4 N n) N a0 a1 a2 a3 a2 q3.2
  else
    some (a2, h)
def kX5_lineUp_4 (N : Nat) (cs : Nat → Int32 → Int32 → Int32 → ra_H → Option (Int32 × ra_H)) : Nat → List (Option Value) → List Value → ra_H → Option (Int32 × ra_H) := (ra_k1 27 (fun L S h => match L, S with
  | [some (.ref a0), some (.int a1), some (.int a2), some (.int a3), some (.int a4)], [] => nX5_lineUp_27 N cs N a0 a1 a2 a3 a4 h
  | _, _ => none) (ra_k1 94 (fun L S h => match L, S with
  | [some (.ref a0), some (.int a1), some (.int a2), some (.int a3), _], [] => nX5_lineUp_94 N cs a0 a1 a2 a3 h
  | _, _ => none) ra_k0))
theorem kX5_lineUp_4_ok (N : Nat) (cs : Nat → Int32 → Int32 → Int32 → ra_H → Option (Int32 × ra_H)) (hcs : ∀ a0 a1 a2 a3 h r, cs a0 a1 a2 a3 h = some r → ra_Ru 2 mX5_lineUp 4 [some (.ref a0), some (.int a1), some (.int a2), some (.int a3), none] [] h (ra_oI r)) : ra_kok 2 mX5_lineUp ra_oI (kX5_lineUp_4 N cs) := (ra_k1_ok (by
  intro L S h a e
  split at e
  · exact ra_Ru.weak (nX5_lineUp_27_ok N cs hcs N _ _ _ _ _ _ _ e) ⟨rfl, ⟨rfl, ⟨rfl, ⟨rfl, ⟨rfl, trivial⟩⟩⟩⟩⟩
  · cases e) (ra_k1_ok (by
  intro L S h a e
  split at e
  · exact ra_Ru.weak (nX5_lineUp_94_ok N cs hcs _ _ _ _ _ _ e) ⟨rfl, ⟨rfl, ⟨rfl, ⟨rfl, trivial⟩⟩⟩⟩
  · cases e) ra_k0_ok))
set_option maxRecDepth 100000 in
theorem nX5_lineUp_4_ok (N : Nat) : ∀ n a0 a1 a2 a3 h r, nX5_lineUp_4 N n a0 a1 a2 a3 h = some r → ra_Ru 2 mX5_lineUp 4 [some (.ref a0), some (.int a1), some (.int a2), some (.int a3), none] [] h (ra_oI r) := by
  intro n
  induction n with
  | zero => intro a0 a1 a2 a3 h r e; cases e
  | succ n ih =>
    intro a0 a1 a2 a3 h r e
    exact ra_sound (by omega) rfl ra_rI_ok (kX5_lineUp_4_ok N (nX5_lineUp_4 N n) ih) (fun m av h h1 e => (ra_c0_ok (ro := ra_oV)) m av h h1 e) (fun m av h x h1 e => (tIX5_lineUp_ok N) m av h (x, h1) e) (fun m av h x h1 e => (ra_c0_ok (ro := ra_oJ)) m av h (x, h1) e) (fun m av h x h1 e => (ra_c0_ok (ro := ra_oR)) m av h (x, h1) e) (fun m av h x h1 e => (ra_c0_ok (ro := ra_oN)) m av h (x, h1) e) (fun m av h x h1 e => (ra_c0_ok (ro := ra_oF)) m av h (x, h1) e) 15 lX5_lineUp_4 _ _ _ _ lX5_lineUp_4_ck (show ra_run ra_rI (kX5_lineUp_4 N (nX5_lineUp_4 N n)) ra_c0 (tIX5_lineUp N) ra_c0 ra_c0 ra_c0 ra_c0 15 lX5_lineUp_4 [some (.ref a0), some (.int a1), some (.int a2), some (.int a3), none] [] h = some r from e) _ _ rfl
def lX5_lineUp_0 : List ra_I := [(0, .iconst (0), 1, 0, 0, 0, (0), 0, []),
  (1, .istore_n 2, 1, 2, 0, 0, 0, 0, []),
  (2, .iconst (0), 1, 0, 0, 0, (0), 0, []),
  (3, .istore_n 3, 1, 3, 0, 0, 0, 0, [])]
set_option maxRecDepth 100000 in
theorem lX5_lineUp_0_ck : lX5_lineUp_0.all (ra_ck mX5_lineUp 5) = true := by decide +kernel
def nX5_lineUp_0 (N : Nat) (a0 : Nat) (a1 : Int32) (h : ra_H) : Option (Int32 × ra_H) :=
  nX5_lineUp_4 N N a0 a1 ((0 : Int32)) ((0 : Int32)) h
def kX5_lineUp_0 (N : Nat) : Nat → List (Option Value) → List Value → ra_H → Option (Int32 × ra_H) := (ra_k1 4 (fun L S h => match L, S with
  | [some (.ref a0), some (.int a1), some (.int a2), some (.int a3), _], [] => nX5_lineUp_4 N N a0 a1 a2 a3 h
  | _, _ => none) ra_k0)
theorem kX5_lineUp_0_ok (N : Nat) : ra_kok 2 mX5_lineUp ra_oI (kX5_lineUp_0 N) := (ra_k1_ok (by
  intro L S h a e
  split at e
  · exact ra_Ru.weak (nX5_lineUp_4_ok N N _ _ _ _ _ _ e) ⟨rfl, ⟨rfl, ⟨rfl, ⟨rfl, trivial⟩⟩⟩⟩
  · cases e) ra_k0_ok)
set_option maxRecDepth 100000 in
theorem nX5_lineUp_0_ok (N : Nat) (a0 : Nat) (a1 : Int32) (h : ra_H) (r : (Int32 × ra_H)) (e : nX5_lineUp_0 N a0 a1 h = some r) : ra_Ru 2 mX5_lineUp 0 [some (.ref a0), some (.int a1), none, none, none] [] h (ra_oI r) :=
  ra_sound (by omega) rfl ra_rI_ok (kX5_lineUp_0_ok N) (fun m av h h1 e => (ra_c0_ok (ro := ra_oV)) m av h h1 e) (fun m av h x h1 e => (tIX5_lineUp_ok N) m av h (x, h1) e) (fun m av h x h1 e => (ra_c0_ok (ro := ra_oJ)) m av h (x, h1) e) (fun m av h x h1 e => (ra_c0_ok (ro := ra_oR)) m av h (x, h1) e) (fun m av h x h1 e => (ra_c0_ok (ro := ra_oN)) m av h (x, h1) e) (fun m av h x h1 e => (ra_c0_ok (ro := ra_oF)) m av h (x, h1) e) 5 lX5_lineUp_0 _ _ _ _ lX5_lineUp_0_ck (show ra_run ra_rI (kX5_lineUp_0 N) ra_c0 (tIX5_lineUp N) ra_c0 ra_c0 ra_c0 ra_c0 5 lX5_lineUp_0 [some (.ref a0), some (.int a1), none, none, none] [] h = some r from e) _ _ rfl
def fX5_lineUp (N : Nat) (p0 : Nat) (p1 : Int32) (h : ra_H) : Option (Int32 × ra_H) := match ra_isOb h p0 5 with
  | true => nX5_lineUp_0 N p0 p1 h
  | false => none
set_option maxRecDepth 100000 in
theorem mtX5_lineUp : ra_MT[109]? = some (mX5_lineUp, 1, 1, (1, 8), (4, 190), (0, 33)) := rfl
theorem fX5_lineUp_co (N : Nat) (p0 : Nat) (p1 : Int32) (h : ra_H) (r : (Int32 × ra_H)) (e : fX5_lineUp N p0 p1 h = some r) (D : Nat) (hD : 3 ≤ D) : ra_CO D 109 [.ref p0, .int p1] h (ra_oI r).1 (ra_oI r).2 := by
  have hw : ra_nw2 [.ref p0, .int p1] ≤ 5 := Nat.le_of_ble_eq_true rfl
  have hdb : ∀ v ∈ ([.ref p0, .int p1] : List Value), ∀ x, v ≠ .double x := by
    intro v hv x hx
    simp [hx] at hv
  unfold fX5_lineUp at e
  split at e
  · rename_i ho
    have e1 := e
    exact ⟨2, _, mtX5_lineUp, hD, ra_ev_of (by decide) hdb hw trivial (ra_Ru.weak (nX5_lineUp_0_ok N p0 p1 h _ e1) ⟨rfl, ⟨rfl, trivial⟩⟩), (fun _ => ⟨_, _, rfl, ra_rcv_of ho (by decide) rfl⟩), (fun h => absurd h (by decide))⟩
  · cases e
/-! RedMarks$Shelves.closeOn(I)I -/
def mX5_closeOn : ra_M := (yX5_closeOn, cX5_closeOn, 5, (some .int))
def tIX5_closeOn (N : Nat) : Nat → List Value → ra_H → Option (Int32 × ra_H) := (ra_c1 109 (fun av h => match av with
  | [.ref z0, .int z1] => fX5_lineUp N z0 z1 h
  | _ => none) (ra_c1 163 (fun av h => match av with
  | [.ref z0, .int z1, .int z2] => fX2_dampApart N z0 z1 z2 h
  | _ => none) ra_c0))
theorem tIX5_closeOn_ok (N : Nat) : ra_cok 3 ra_oI (tIX5_closeOn N) := (ra_c1_ok (by
  intro av h a e
  split at e
  · exact fX5_lineUp_co N _ _ _ _ e 3 (by omega)
  · cases e) (ra_c1_ok (by
  intro av h a e
  split at e
  · exact fX2_dampApart_co N _ _ _ _ _ e 3 (by omega)
  · cases e) ra_c0_ok))
def lX5_closeOn_47 : List ra_I := [(47, .iinc 4 (1), 3, 4, 0, 0, (1), 0, []),
  (50, .goto (-39), 3, 11, 0, 0, 0, 0, [])]
set_option maxRecDepth 100000 in
theorem lX5_closeOn_47_ck : lX5_closeOn_47.all (ra_ck mX5_closeOn 5) = true := by decide +kernel
def nX5_closeOn_47 (N : Nat) (c11 : Nat → Int32 → Int32 → Int32 → ra_H → Option (Int32 × ra_H)) (a0 : Nat) (a2 : Int32) (a3 : Int32) (a4 : Int32) (h : ra_H) : Option (Int32 × ra_H) :=
  let y1 := a4 + (1 : Int32)
  c11 a0 a2 a3 y1 h
def kX5_closeOn_47 (N : Nat) (c11 : Nat → Int32 → Int32 → Int32 → ra_H → Option (Int32 × ra_H)) : Nat → List (Option Value) → List Value → ra_H → Option (Int32 × ra_H) := (ra_k1 11 (fun L S h => match L, S with
  | [some (.ref a0), _, some (.int a2), some (.int a3), some (.int a4)], [] => c11 a0 a2 a3 a4 h
  | _, _ => none) ra_k0)
theorem kX5_closeOn_47_ok (N : Nat) (c11 : Nat → Int32 → Int32 → Int32 → ra_H → Option (Int32 × ra_H)) (hc11 : ∀ a0 a2 a3 a4 h r, c11 a0 a2 a3 a4 h = some r → ra_Ru 3 mX5_closeOn 11 [some (.ref a0), none, some (.int a2), some (.int a3), some (.int a4)] [] h (ra_oI r)) : ra_kok 3 mX5_closeOn ra_oI (kX5_closeOn_47 N c11) := (ra_k1_ok (by
  intro L S h a e
  split at e
  · exact ra_Ru.weak (hc11 _ _ _ _ _ _ e) ⟨rfl, ⟨rfl, ⟨rfl, ⟨rfl, trivial⟩⟩⟩⟩
  · cases e) ra_k0_ok)
set_option maxRecDepth 100000 in
theorem nX5_closeOn_47_ok (N : Nat) (c11 : Nat → Int32 → Int32 → Int32 → ra_H → Option (Int32 × ra_H)) (hc11 : ∀ a0 a2 a3 a4 h r, c11 a0 a2 a3 a4 h = some r → ra_Ru 3 mX5_closeOn 11 [some (.ref a0), none, some (.int a2), some (.int a3), some (.int a4)] [] h (ra_oI r)) (a0 : Nat) (a2 : Int32) (a3 : Int32) (a4 : Int32) (h : ra_H) (r : (Int32 × ra_H)) (e : nX5_closeOn_47 N c11 a0 a2 a3 a4 h = some r) : ra_Ru 3 mX5_closeOn 47 [some (.ref a0), none, some (.int a2), some (.int a3), some (.int a4)] [] h (ra_oI r) :=
  ra_sound (by omega) rfl ra_rI_ok (kX5_closeOn_47_ok N c11 hc11) (fun m av h h1 e => (ra_c0_ok (ro := ra_oV)) m av h h1 e) (fun m av h x h1 e => (tIX5_closeOn_ok N) m av h (x, h1) e) (fun m av h x h1 e => (ra_c0_ok (ro := ra_oJ)) m av h (x, h1) e) (fun m av h x h1 e => (ra_c0_ok (ro := ra_oR)) m av h (x, h1) e) (fun m av h x h1 e => (ra_c0_ok (ro := ra_oN)) m av h (x, h1) e) (fun m av h x h1 e => (ra_c0_ok (ro := ra_oF)) m av h (x, h1) e) 3 lX5_closeOn_47 _ _ _ _ lX5_closeOn_47_ck (show ra_run ra_rI (kX5_closeOn_47 N c11) ra_c0 (tIX5_closeOn N) ra_c0 ra_c0 ra_c0 ra_c0 3 lX5_closeOn_47 [some (.ref a0), none, some (.int a2), some (.int a3), some (.int a4)] [] h = some r from e) _ _ rfl
def lX5_closeOn_11 : List ra_I := [(11, .iload 4, 2, 4, 0, 0, 0, 0, []),
  (13, .iload_n 2, 1, 2, 0, 0, 0, 0, []),
  (14, .if_icmp .ge (39), 3, 53, 0, 0, 0, 0, []),
  (17, .aload_n 0, 1, 0, 0, 0, 0, 0, []),
  (18, .getfield 15, 3, 5, 0, 2, 0, 0, []),
  (21, .aload_n 0, 1, 0, 0, 0, 0, 0, []),
  (22, .getfield 9, 3, 5, 2, 2, 0, 0, []),
  (25, .iload 4, 2, 4, 0, 0, 0, 0, []),
  (27, .iconst (1), 1, 0, 0, 0, (1), 0, []),
  (28, .isub, 1, 0, 0, 0, 0, 0, []),
  (29, .iaload, 1, 0, 0, 0, 0, 0, []),
  (30, .aload_n 0, 1, 0, 0, 0, 0, 0, []),
  (31, .getfield 9, 3, 5, 2, 2, 0, 0, []),
  (34, .iload 4, 2, 4, 0, 0, 0, 0, []),
  (36, .iaload, 1, 0, 0, 0, 0, 0, []),
  (37, .invokevirtual 54, 3, 163, 3, 1, 0, 0, []),
  (40, .iconst (1), 1, 0, 0, 0, (1), 0, []),
  (41, .if_icmp .gt (6), 3, 47, 0, 0, 0, 0, []),
  (44, .iinc 3 (1), 3, 3, 0, 0, (1), 0, []),
  (53, .iload_n 3, 1, 3, 0, 0, 0, 0, []),
  (54, .ireturn, 1, 0, 0, 0, 0, 0, [])]
set_option maxRecDepth 100000 in
theorem lX5_closeOn_11_ck : lX5_closeOn_11.all (ra_ck mX5_closeOn 5) = true := by decide +kernel
def nX5_closeOn_11 (N : Nat) : Nat → Nat → Int32 → Int32 → Int32 → ra_H → Option (Int32 × ra_H)
  | 0, _, _, _, _, _ => none
  | n + 1, a0, a2, a3, a4, h =>
  if a4 < a2 then
    (ra_fR h 5 a0 0).bind fun x1 =>
    (ra_fR h 5 a0 2).bind fun x2 =>
    (ra_aI h 0 x2 (a4 - ((1 : Int32)))).bind fun x3 =>
    (ra_fR h 5 a0 2).bind fun x4 =>
    (ra_aI h 0 x4 a4).bind fun x5 =>
    (fX2_dampApart N x1 x3 x5 h).bind fun q6 =>
    if q6.1 ≤ ((1 : Int32)) then
      let y7 := a3 + (1 : Int32)
      nX5_closeOn_47 N (nX5_closeOn_11 N n) a0 a2 y7 a4 q6.2
    else
      nX5_closeOn_47 N (nX5_closeOn_11 N n) a0 a2 a3 a4 q6.2
  else
    some (a3, h)
def kX5_closeOn_11 (N : Nat) (cs : Nat → Int32 → Int32 → Int32 → ra_H → Option (Int32 × ra_H)) : Nat → List (Option Value) → List Value → ra_H → Option (Int32 × ra_H) := (ra_k1 47 (fun L S h => match L, S with
  | [some (.ref a0), _, some (.int a2), some (.int a3), some (.int a4)], [] => nX5_closeOn_47 N cs a0 a2 a3 a4 h
  | _, _ => none) ra_k0)
theorem kX5_closeOn_11_ok (N : Nat) (cs : Nat → Int32 → Int32 → Int32 → ra_H → Option (Int32 × ra_H)) (hcs : ∀ a0 a2 a3 a4 h r, cs a0 a2 a3 a4 h = some r → ra_Ru 3 mX5_closeOn 11 [some (.ref a0), none, some (.int a2), some (.int a3), some (.int a4)] [] h (ra_oI r)) : ra_kok 3 mX5_closeOn ra_oI (kX5_closeOn_11 N cs) := (ra_k1_ok (by
  intro L S h a e
  split at e
  · exact ra_Ru.weak (nX5_closeOn_47_ok N cs hcs _ _ _ _ _ _ e) ⟨rfl, ⟨rfl, ⟨rfl, ⟨rfl, trivial⟩⟩⟩⟩
  · cases e) ra_k0_ok)
set_option maxRecDepth 100000 in
theorem nX5_closeOn_11_ok (N : Nat) : ∀ n a0 a2 a3 a4 h r, nX5_closeOn_11 N n a0 a2 a3 a4 h = some r → ra_Ru 3 mX5_closeOn 11 [some (.ref a0), none, some (.int a2), some (.int a3), some (.int a4)] [] h (ra_oI r) := by
  intro n
  induction n with
  | zero => intro a0 a2 a3 a4 h r e; cases e
  | succ n ih =>
    intro a0 a2 a3 a4 h r e
    exact ra_sound (by omega) rfl ra_rI_ok (kX5_closeOn_11_ok N (nX5_closeOn_11 N n) ih) (fun m av h h1 e => (ra_c0_ok (ro := ra_oV)) m av h h1 e) (fun m av h x h1 e => (tIX5_closeOn_ok N) m av h (x, h1) e) (fun m av h x h1 e => (ra_c0_ok (ro := ra_oJ)) m av h (x, h1) e) (fun m av h x h1 e => (ra_c0_ok (ro := ra_oR)) m av h (x, h1) e) (fun m av h x h1 e => (ra_c0_ok (ro := ra_oN)) m av h (x, h1) e) (fun m av h x h1 e => (ra_c0_ok (ro := ra_oF)) m av h (x, h1) e) 22 lX5_closeOn_11 _ _ _ _ lX5_closeOn_11_ck (show ra_run ra_rI (kX5_closeOn_11 N (nX5_closeOn_11 N n)) ra_c0 (tIX5_closeOn N) ra_c0 ra_c0 ra_c0 ra_c0 22 lX5_closeOn_11 [some (.ref a0), none, some (.int a2), some (.int a3), some (.int a4)] [] h = some r from e) _ _ rfl
def lX5_closeOn_0 : List ra_I := [(0, .aload_n 0, 1, 0, 0, 0, 0, 0, []),
  (1, .iload_n 1, 1, 1, 0, 0, 0, 0, []),
  (2, .invokevirtual 41, 3, 109, 2, 1, 0, 0, []),
  (5, .istore_n 2, 1, 2, 0, 0, 0, 0, []),
  (6, .iconst (0), 1, 0, 0, 0, (0), 0, []),
  (7, .istore_n 3, 1, 3, 0, 0, 0, 0, []),
  (8, .iconst (1), 1, 0, 0, 0, (1), 0, []),
  (9, .istore 4, 2, 4, 0, 0, 0, 0, [])]
set_option maxRecDepth 100000 in
theorem lX5_closeOn_0_ck : lX5_closeOn_0.all (ra_ck mX5_closeOn 5) = true := by decide +kernel
def nX5_closeOn_0 (N : Nat) (a0 : Nat) (a1 : Int32) (h : ra_H) : Option (Int32 × ra_H) :=
  (fX5_lineUp N a0 a1 h).bind fun q1 =>
  nX5_closeOn_11 N N a0 q1.1 ((0 : Int32)) ((1 : Int32)) q1.2
def kX5_closeOn_0 (N : Nat) : Nat → List (Option Value) → List Value → ra_H → Option (Int32 × ra_H) := (ra_k1 11 (fun L S h => match L, S with
  | [some (.ref a0), _, some (.int a2), some (.int a3), some (.int a4)], [] => nX5_closeOn_11 N N a0 a2 a3 a4 h
  | _, _ => none) ra_k0)
theorem kX5_closeOn_0_ok (N : Nat) : ra_kok 3 mX5_closeOn ra_oI (kX5_closeOn_0 N) := (ra_k1_ok (by
  intro L S h a e
  split at e
  · exact ra_Ru.weak (nX5_closeOn_11_ok N N _ _ _ _ _ _ e) ⟨rfl, ⟨rfl, ⟨rfl, ⟨rfl, trivial⟩⟩⟩⟩
  · cases e) ra_k0_ok)
set_option maxRecDepth 100000 in
theorem nX5_closeOn_0_ok (N : Nat) (a0 : Nat) (a1 : Int32) (h : ra_H) (r : (Int32 × ra_H)) (e : nX5_closeOn_0 N a0 a1 h = some r) : ra_Ru 3 mX5_closeOn 0 [some (.ref a0), some (.int a1), none, none, none] [] h (ra_oI r) :=
  ra_sound (by omega) rfl ra_rI_ok (kX5_closeOn_0_ok N) (fun m av h h1 e => (ra_c0_ok (ro := ra_oV)) m av h h1 e) (fun m av h x h1 e => (tIX5_closeOn_ok N) m av h (x, h1) e) (fun m av h x h1 e => (ra_c0_ok (ro := ra_oJ)) m av h (x, h1) e) (fun m av h x h1 e => (ra_c0_ok (ro := ra_oR)) m av h (x, h1) e) (fun m av h x h1 e => (ra_c0_ok (ro := ra_oN)) m av h (x, h1) e) (fun m av h x h1 e => (ra_c0_ok (ro := ra_oF)) m av h (x, h1) e) 9 lX5_closeOn_0 _ _ _ _ lX5_closeOn_0_ck (show ra_run ra_rI (kX5_closeOn_0 N) ra_c0 (tIX5_closeOn N) ra_c0 ra_c0 ra_c0 ra_c0 9 lX5_closeOn_0 [some (.ref a0), some (.int a1), none, none, none] [] h = some r from e) _ _ rfl
def fX5_closeOn (N : Nat) (p0 : Nat) (p1 : Int32) (h : ra_H) : Option (Int32 × ra_H) := match ra_isOb h p0 5 with
  | true => nX5_closeOn_0 N p0 p1 h
  | false => none
set_option maxRecDepth 100000 in
theorem mtX5_closeOn : ra_MT[165]? = some (mX5_closeOn, 1, 1, (1, 8), (5, 187), (5, 188)) := rfl
theorem fX5_closeOn_co (N : Nat) (p0 : Nat) (p1 : Int32) (h : ra_H) (r : (Int32 × ra_H)) (e : fX5_closeOn N p0 p1 h = some r) (D : Nat) (hD : 4 ≤ D) : ra_CO D 165 [.ref p0, .int p1] h (ra_oI r).1 (ra_oI r).2 := by
  have hw : ra_nw2 [.ref p0, .int p1] ≤ 5 := Nat.le_of_ble_eq_true rfl
  have hdb : ∀ v ∈ ([.ref p0, .int p1] : List Value), ∀ x, v ≠ .double x := by
    intro v hv x hx
    simp [hx] at hv
  unfold fX5_closeOn at e
  split at e
  · rename_i ho
    have e1 := e
    exact ⟨3, _, mtX5_closeOn, hD, ra_ev_of (by decide) hdb hw trivial (ra_Ru.weak (nX5_closeOn_0_ok N p0 p1 h _ e1) ⟨rfl, ⟨rfl, trivial⟩⟩), (fun _ => ⟨_, _, rfl, ra_rcv_of ho (by decide) rfl⟩), (fun h => absurd h (by decide))⟩
  · cases e
/-! RedMarks$Shelves.freeOf(I)I -/
def mX5_freeOf : ra_M := (yX5_freeOf, cX5_freeOf, 2, (some .int))
def lX5_freeOf_0 : List ra_I := [(0, .aload_n 0, 1, 0, 0, 0, 0, 0, []),
  (1, .getfield 15, 3, 5, 0, 2, 0, 0, []),
  (4, .getfield 45, 3, 2, 2, 2, 0, 0, []),
  (7, .iload_n 1, 1, 1, 0, 0, 0, 0, []),
  (8, .iaload, 1, 0, 0, 0, 0, 0, []),
  (9, .aload_n 0, 1, 0, 0, 0, 0, 0, []),
  (10, .getfield 19, 3, 5, 1, 2, 0, 0, []),
  (13, .getfield 48, 3, 7, 2, 2, 0, 0, []),
  (16, .iload_n 1, 1, 1, 0, 0, 0, 0, []),
  (17, .iaload, 1, 0, 0, 0, 0, 0, []),
  (18, .isub, 1, 0, 0, 0, 0, 0, []),
  (19, .ireturn, 1, 0, 0, 0, 0, 0, [])]
set_option maxRecDepth 100000 in
theorem lX5_freeOf_0_ck : lX5_freeOf_0.all (ra_ck mX5_freeOf 5) = true := by decide +kernel
def nX5_freeOf_0 (N : Nat) (a0 : Nat) (a1 : Int32) (h : ra_H) : Option (Int32 × ra_H) :=
  (ra_fR h 5 a0 0).bind fun x1 =>
  (ra_fR h 2 x1 2).bind fun x2 =>
  (ra_aI h 0 x2 a1).bind fun x3 =>
  (ra_fR h 5 a0 1).bind fun x4 =>
  (ra_fR h 7 x4 2).bind fun x5 =>
  (ra_aI h 0 x5 a1).bind fun x6 =>
  some (x3 - x6, h)
def kX5_freeOf_0 (N : Nat) : Nat → List (Option Value) → List Value → ra_H → Option (Int32 × ra_H) := ra_k0
theorem kX5_freeOf_0_ok (N : Nat) : ra_kok 1 mX5_freeOf ra_oI (kX5_freeOf_0 N) := ra_k0_ok
set_option maxRecDepth 100000 in
theorem nX5_freeOf_0_ok (N : Nat) (a0 : Nat) (a1 : Int32) (h : ra_H) (r : (Int32 × ra_H)) (e : nX5_freeOf_0 N a0 a1 h = some r) : ra_Ru 1 mX5_freeOf 0 [some (.ref a0), some (.int a1)] [] h (ra_oI r) :=
  ra_sound (by omega) rfl ra_rI_ok (kX5_freeOf_0_ok N) (fun m av h h1 e => (ra_c0_ok (ro := ra_oV)) m av h h1 e) (fun m av h x h1 e => (ra_c0_ok (ro := ra_oI)) m av h (x, h1) e) (fun m av h x h1 e => (ra_c0_ok (ro := ra_oJ)) m av h (x, h1) e) (fun m av h x h1 e => (ra_c0_ok (ro := ra_oR)) m av h (x, h1) e) (fun m av h x h1 e => (ra_c0_ok (ro := ra_oN)) m av h (x, h1) e) (fun m av h x h1 e => (ra_c0_ok (ro := ra_oF)) m av h (x, h1) e) 13 lX5_freeOf_0 _ _ _ _ lX5_freeOf_0_ck (show ra_run ra_rI (kX5_freeOf_0 N) ra_c0 ra_c0 ra_c0 ra_c0 ra_c0 ra_c0 13 lX5_freeOf_0 [some (.ref a0), some (.int a1)] [] h = some r from e) _ _ rfl
def fX5_freeOf (N : Nat) (p0 : Nat) (p1 : Int32) (h : ra_H) : Option (Int32 × ra_H) := match ra_isOb h p0 5 with
  | true => nX5_freeOf_0 N p0 p1 h
  | false => none
set_option maxRecDepth 100000 in
theorem mtX5_freeOf : ra_MT[112]? = some (mX5_freeOf, 1, 1, (1, 8), (4, 201), (4, 202)) := rfl
theorem fX5_freeOf_co (N : Nat) (p0 : Nat) (p1 : Int32) (h : ra_H) (r : (Int32 × ra_H)) (e : fX5_freeOf N p0 p1 h = some r) (D : Nat) (hD : 2 ≤ D) : ra_CO D 112 [.ref p0, .int p1] h (ra_oI r).1 (ra_oI r).2 := by
  have hw : ra_nw2 [.ref p0, .int p1] ≤ 2 := Nat.le_of_ble_eq_true rfl
  have hdb : ∀ v ∈ ([.ref p0, .int p1] : List Value), ∀ x, v ≠ .double x := by
    intro v hv x hx
    simp [hx] at hv
  unfold fX5_freeOf at e
  split at e
  · rename_i ho
    have e1 := e
    exact ⟨1, _, mtX5_freeOf, hD, ra_ev_of (by decide) hdb hw trivial (ra_Ru.weak (nX5_freeOf_0_ok N p0 p1 h _ e1) ⟨rfl, ⟨rfl, trivial⟩⟩), (fun _ => ⟨_, _, rfl, ra_rcv_of ho (by decide) rfl⟩), (fun h => absurd h (by decide))⟩
  · cases e
/-! RedMarks$Shelves.placeOf(I)I -/
def mX5_placeOf : ra_M := (yX5_placeOf, cX5_placeOf, 2, (some .int))
def lX5_placeOf_0 : List ra_I := [(0, .aload_n 0, 1, 0, 0, 0, 0, 0, []),
  (1, .getfield 19, 3, 5, 1, 2, 0, 0, []),
  (4, .getfield 28, 3, 7, 1, 2, 0, 0, []),
  (7, .aload_n 0, 1, 0, 0, 0, 0, 0, []),
  (8, .getfield 9, 3, 5, 2, 2, 0, 0, []),
  (11, .iload_n 1, 1, 1, 0, 0, 0, 0, []),
  (12, .iaload, 1, 0, 0, 0, 0, 0, []),
  (13, .iaload, 1, 0, 0, 0, 0, 0, []),
  (14, .bipush (99), 2, 0, 0, 0, (99), 0, []),
  (16, .irem, 1, 0, 0, 0, 0, 0, []),
  (17, .iconst (1), 1, 0, 0, 0, (1), 0, []),
  (18, .iadd, 1, 0, 0, 0, 0, 0, []),
  (19, .ireturn, 1, 0, 0, 0, 0, 0, [])]
set_option maxRecDepth 100000 in
theorem lX5_placeOf_0_ck : lX5_placeOf_0.all (ra_ck mX5_placeOf 5) = true := by decide +kernel
def nX5_placeOf_0 (N : Nat) (a0 : Nat) (a1 : Int32) (h : ra_H) : Option (Int32 × ra_H) :=
  (ra_fR h 5 a0 1).bind fun x1 =>
  (ra_fR h 7 x1 1).bind fun x2 =>
  (ra_fR h 5 a0 2).bind fun x3 =>
  (ra_aI h 0 x3 a1).bind fun x4 =>
  (ra_aI h 0 x2 x4).bind fun x5 =>
  if ((99 : Int32)) = 0 then none else
  some ((x5 - x5 / ((99 : Int32)) * ((99 : Int32))) + ((1 : Int32)), h)
def kX5_placeOf_0 (N : Nat) : Nat → List (Option Value) → List Value → ra_H → Option (Int32 × ra_H) := ra_k0
theorem kX5_placeOf_0_ok (N : Nat) : ra_kok 1 mX5_placeOf ra_oI (kX5_placeOf_0 N) := ra_k0_ok
set_option maxRecDepth 100000 in
theorem nX5_placeOf_0_ok (N : Nat) (a0 : Nat) (a1 : Int32) (h : ra_H) (r : (Int32 × ra_H)) (e : nX5_placeOf_0 N a0 a1 h = some r) : ra_Ru 1 mX5_placeOf 0 [some (.ref a0), some (.int a1)] [] h (ra_oI r) :=
  ra_sound (by omega) rfl ra_rI_ok (kX5_placeOf_0_ok N) (fun m av h h1 e => (ra_c0_ok (ro := ra_oV)) m av h h1 e) (fun m av h x h1 e => (ra_c0_ok (ro := ra_oI)) m av h (x, h1) e) (fun m av h x h1 e => (ra_c0_ok (ro := ra_oJ)) m av h (x, h1) e) (fun m av h x h1 e => (ra_c0_ok (ro := ra_oR)) m av h (x, h1) e) (fun m av h x h1 e => (ra_c0_ok (ro := ra_oN)) m av h (x, h1) e) (fun m av h x h1 e => (ra_c0_ok (ro := ra_oF)) m av h (x, h1) e) 14 lX5_placeOf_0 _ _ _ _ lX5_placeOf_0_ck (show ra_run ra_rI (kX5_placeOf_0 N) ra_c0 ra_c0 ra_c0 ra_c0 ra_c0 ra_c0 14 lX5_placeOf_0 [some (.ref a0), some (.int a1)] [] h = some r from e) _ _ rfl
def fX5_placeOf (N : Nat) (p0 : Nat) (p1 : Int32) (h : ra_H) : Option (Int32 × ra_H) := match ra_isOb h p0 5 with
  | true => nX5_placeOf_0 N p0 p1 h
  | false => none
set_option maxRecDepth 100000 in
theorem mtX5_placeOf : ra_MT[115]? = some (mX5_placeOf, 1, 1, (1, 8), (4, 214), (0, 35)) := rfl
theorem fX5_placeOf_co (N : Nat) (p0 : Nat) (p1 : Int32) (h : ra_H) (r : (Int32 × ra_H)) (e : fX5_placeOf N p0 p1 h = some r) (D : Nat) (hD : 2 ≤ D) : ra_CO D 115 [.ref p0, .int p1] h (ra_oI r).1 (ra_oI r).2 := by
  have hw : ra_nw2 [.ref p0, .int p1] ≤ 2 := Nat.le_of_ble_eq_true rfl
  have hdb : ∀ v ∈ ([.ref p0, .int p1] : List Value), ∀ x, v ≠ .double x := by
    intro v hv x hx
    simp [hx] at hv
  unfold fX5_placeOf at e
  split at e
  · rename_i ho
    have e1 := e
    exact ⟨1, _, mtX5_placeOf, hD, ra_ev_of (by decide) hdb hw trivial (ra_Ru.weak (nX5_placeOf_0_ok N p0 p1 h _ e1) ⟨rfl, ⟨rfl, trivial⟩⟩), (fun _ => ⟨_, _, rfl, ra_rcv_of ho (by decide) rfl⟩), (fun h => absurd h (by decide))⟩
  · cases e
/-! RedMarks$Shelves.gapOf(III)I -/
def mX5_gapOf : ra_M := (yX5_gapOf, cX5_gapOf, 9, (some .int))
def tIX5_gapOf (N : Nat) : Nat → List Value → ra_H → Option (Int32 × ra_H) := (ra_c1 109 (fun av h => match av with
  | [.ref z0, .int z1] => fX5_lineUp N z0 z1 h
  | _ => none) (ra_c1 115 (fun av h => match av with
  | [.ref z0, .int z1] => fX5_placeOf N z0 z1 h
  | _ => none) ra_c0))
theorem tIX5_gapOf_ok (N : Nat) : ra_cok 3 ra_oI (tIX5_gapOf N) := (ra_c1_ok (by
  intro av h a e
  split at e
  · exact fX5_lineUp_co N _ _ _ _ e 3 (by omega)
  · cases e) (ra_c1_ok (by
  intro av h a e
  split at e
  · exact fX5_placeOf_co N _ _ _ _ e 3 (by omega)
  · cases e) ra_c0_ok))
def lX5_gapOf_58 : List ra_I := [(58, .ireturn, 1, 0, 0, 0, 0, 0, [])]
set_option maxRecDepth 100000 in
theorem lX5_gapOf_58_ck : lX5_gapOf_58.all (ra_ck mX5_gapOf 5) = true := by decide +kernel
def nX5_gapOf_58 (N : Nat) (b0 : Int32) (h : ra_H) : Option (Int32 × ra_H) :=
  some (b0, h)
def kX5_gapOf_58 (N : Nat) : Nat → List (Option Value) → List Value → ra_H → Option (Int32 × ra_H) := ra_k0
theorem kX5_gapOf_58_ok (N : Nat) : ra_kok 3 mX5_gapOf ra_oI (kX5_gapOf_58 N) := ra_k0_ok
set_option maxRecDepth 100000 in
theorem nX5_gapOf_58_ok (N : Nat) (b0 : Int32) (h : ra_H) (r : (Int32 × ra_H)) (e : nX5_gapOf_58 N b0 h = some r) : ra_Ru 3 mX5_gapOf 58 [none, none, none, none, none, none, none, none, none] [.int b0] h (ra_oI r) :=
  ra_sound (by omega) rfl ra_rI_ok (kX5_gapOf_58_ok N) (fun m av h h1 e => (ra_c0_ok (ro := ra_oV)) m av h h1 e) (fun m av h x h1 e => (tIX5_gapOf_ok N) m av h (x, h1) e) (fun m av h x h1 e => (ra_c0_ok (ro := ra_oJ)) m av h (x, h1) e) (fun m av h x h1 e => (ra_c0_ok (ro := ra_oR)) m av h (x, h1) e) (fun m av h x h1 e => (ra_c0_ok (ro := ra_oN)) m av h (x, h1) e) (fun m av h x h1 e => (ra_c0_ok (ro := ra_oF)) m av h (x, h1) e) 2 lX5_gapOf_58 _ _ _ _ lX5_gapOf_58_ck (show ra_run ra_rI (kX5_gapOf_58 N) ra_c0 (tIX5_gapOf N) ra_c0 ra_c0 ra_c0 ra_c0 2 lX5_gapOf_58 [none, none, none, none, none, none, none, none, none] [.int b0] h = some r from e) _ _ rfl
def lX5_gapOf_62 : List ra_I := [(62, .iload 8, 2, 8, 0, 0, 0, 0, []),
  (64, .iconst (1), 1, 0, 0, 0, (1), 0, []),
  (65, .iadd, 1, 0, 0, 0, 0, 0, []),
  (66, .istore 6, 2, 6, 0, 0, 0, 0, []),
  (68, .iinc 7 (1), 3, 7, 0, 0, (1), 0, []),
  (71, .goto (-55), 3, 16, 0, 0, 0, 0, [])]
set_option maxRecDepth 100000 in
theorem lX5_gapOf_62_ck : lX5_gapOf_62.all (ra_ck mX5_gapOf 5) = true := by decide +kernel
def nX5_gapOf_62 (N : Nat) (c16 : Nat → Int32 → Int32 → Int32 → Int32 → Int32 → Int32 → ra_H → Option (Int32 × ra_H)) (a0 : Nat) (a2 : Int32) (a3 : Int32) (a4 : Int32) (a5 : Int32) (a7 : Int32) (a8 : Int32) (h : ra_H) : Option (Int32 × ra_H) :=
  let y1 := a8 + ((1 : Int32))
  let y2 := a7 + (1 : Int32)
  c16 a0 a2 a3 a4 a5 y1 y2 h
def kX5_gapOf_62 (N : Nat) (c16 : Nat → Int32 → Int32 → Int32 → Int32 → Int32 → Int32 → ra_H → Option (Int32 × ra_H)) : Nat → List (Option Value) → List Value → ra_H → Option (Int32 × ra_H) := (ra_k1 16 (fun L S h => match L, S with
  | [some (.ref a0), _, some (.int a2), some (.int a3), some (.int a4), some (.int a5), some (.int a6), some (.int a7), _], [] => c16 a0 a2 a3 a4 a5 a6 a7 h
  | _, _ => none) ra_k0)
theorem kX5_gapOf_62_ok (N : Nat) (c16 : Nat → Int32 → Int32 → Int32 → Int32 → Int32 → Int32 → ra_H → Option (Int32 × ra_H)) (hc16 : ∀ a0 a2 a3 a4 a5 a6 a7 h r, c16 a0 a2 a3 a4 a5 a6 a7 h = some r → ra_Ru 3 mX5_gapOf 16 [some (.ref a0), none, some (.int a2), some (.int a3), some (.int a4), some (.int a5), some (.int a6), some (.int a7), none] [] h (ra_oI r)) : ra_kok 3 mX5_gapOf ra_oI (kX5_gapOf_62 N c16) := (ra_k1_ok (by
  intro L S h a e
  split at e
  · exact ra_Ru.weak (hc16 _ _ _ _ _ _ _ _ _ e) ⟨rfl, ⟨rfl, ⟨rfl, ⟨rfl, ⟨rfl, ⟨rfl, ⟨rfl, trivial⟩⟩⟩⟩⟩⟩⟩
  · cases e) ra_k0_ok)
set_option maxRecDepth 100000 in
theorem nX5_gapOf_62_ok (N : Nat) (c16 : Nat → Int32 → Int32 → Int32 → Int32 → Int32 → Int32 → ra_H → Option (Int32 × ra_H)) (hc16 : ∀ a0 a2 a3 a4 a5 a6 a7 h r, c16 a0 a2 a3 a4 a5 a6 a7 h = some r → ra_Ru 3 mX5_gapOf 16 [some (.ref a0), none, some (.int a2), some (.int a3), some (.int a4), some (.int a5), some (.int a6), some (.int a7), none] [] h (ra_oI r)) (a0 : Nat) (a2 : Int32) (a3 : Int32) (a4 : Int32) (a5 : Int32) (a7 : Int32) (a8 : Int32) (h : ra_H) (r : (Int32 × ra_H)) (e : nX5_gapOf_62 N c16 a0 a2 a3 a4 a5 a7 a8 h = some r) : ra_Ru 3 mX5_gapOf 62 [some (.ref a0), none, some (.int a2), some (.int a3), some (.int a4), some (.int a5), none, some (.int a7), some (.int a8)] [] h (ra_oI r) :=
  ra_sound (by omega) rfl ra_rI_ok (kX5_gapOf_62_ok N c16 hc16) (fun m av h h1 e => (ra_c0_ok (ro := ra_oV)) m av h h1 e) (fun m av h x h1 e => (tIX5_gapOf_ok N) m av h (x, h1) e) (fun m av h x h1 e => (ra_c0_ok (ro := ra_oJ)) m av h (x, h1) e) (fun m av h x h1 e => (ra_c0_ok (ro := ra_oR)) m av h (x, h1) e) (fun m av h x h1 e => (ra_c0_ok (ro := ra_oN)) m av h (x, h1) e) (fun m av h x h1 e => (ra_c0_ok (ro := ra_oF)) m av h (x, h1) e) 7 lX5_gapOf_62 _ _ _ _ lX5_gapOf_62_ck (show ra_run ra_rI (kX5_gapOf_62 N c16) ra_c0 (tIX5_gapOf N) ra_c0 ra_c0 ra_c0 ra_c0 7 lX5_gapOf_62 [some (.ref a0), none, some (.int a2), some (.int a3), some (.int a4), some (.int a5), none, some (.int a7), some (.int a8)] [] h = some r from e) _ _ rfl
def lX5_gapOf_16 : List ra_I := [(16, .iload 7, 2, 7, 0, 0, 0, 0, []),
  (18, .iload 4, 2, 4, 0, 0, 0, 0, []),
  (20, .if_icmp .ge (54), 3, 74, 0, 0, 0, 0, []),
  (23, .aload_n 0, 1, 0, 0, 0, 0, 0, []),
  (24, .iload 7, 2, 7, 0, 0, 0, 0, []),
  (26, .invokevirtual 51, 3, 115, 2, 1, 0, 0, []),
  (29, .istore 8, 2, 8, 0, 0, 0, 0, []),
  (31, .iload 8, 2, 8, 0, 0, 0, 0, []),
  (33, .iload 6, 2, 6, 0, 0, 0, 0, []),
  (35, .if_icmp .le (27), 3, 62, 0, 0, 0, 0, []),
  (38, .iload 5, 2, 5, 0, 0, 0, 0, []),
  (40, .iload_n 2, 1, 2, 0, 0, 0, 0, []),
  (41, .if_icmp .ne (18), 3, 59, 0, 0, 0, 0, []),
  (44, .iload_n 3, 1, 3, 0, 0, 0, 0, []),
  (45, .ifCond .ne (8), 3, 53, 0, 0, 0, 0, []),
  (48, .iload 6, 2, 6, 0, 0, 0, 0, []),
  (50, .goto (8), 3, 58, 0, 0, 0, 0, []),
  (53, .iload 8, 2, 8, 0, 0, 0, 0, []),
  (55, .iload 6, 2, 6, 0, 0, 0, 0, []),
  (57, .isub, 1, 0, 0, 0, 0, 0, []),
  (59, .iinc 5 (1), 3, 5, 0, 0, (1), 0, []),
  (74, .iconst (-1), 1, 0, 0, 0, (-1), 0, []),
  (75, .ireturn, 1, 0, 0, 0, 0, 0, [])]
set_option maxRecDepth 100000 in
theorem lX5_gapOf_16_ck : lX5_gapOf_16.all (ra_ck mX5_gapOf 5) = true := by decide +kernel
def nX5_gapOf_16 (N : Nat) : Nat → Nat → Int32 → Int32 → Int32 → Int32 → Int32 → Int32 → ra_H → Option (Int32 × ra_H)
  | 0, _, _, _, _, _, _, _, _ => none
  | n + 1, a0, a2, a3, a4, a5, a6, a7, h =>
  if a7 < a4 then
    (fX5_placeOf N a0 a7 h).bind fun q1 =>
    if q1.1 ≤ a6 then
      nX5_gapOf_62 N (nX5_gapOf_16 N n) a0 a2 a3 a4 a5 a7 q1.1 q1.2
    else
      if a5 = a2 then
        if a3 = 0 then
          nX5_gapOf_58 N a6 q1.2
        else
          nX5_gapOf_58 N (q1.1 - a6) q1.2
      else
        let y2 := a5 + (1 : Int32)
        nX5_gapOf_62 N (nX5_gapOf_16 N n) a0 a2 a3 a4 y2 a7 q1.1 q1.2
  else
    some ((-1 : Int32), h)
def kX5_gapOf_16 (N : Nat) (cs : Nat → Int32 → Int32 → Int32 → Int32 → Int32 → Int32 → ra_H → Option (Int32 × ra_H)) : Nat → List (Option Value) → List Value → ra_H → Option (Int32 × ra_H) := (ra_k1 58 (fun L S h => match L, S with
  | [_, _, _, _, _, _, _, _, _], [.int b0] => nX5_gapOf_58 N b0 h
  | _, _ => none) (ra_k1 62 (fun L S h => match L, S with
  | [some (.ref a0), _, some (.int a2), some (.int a3), some (.int a4), some (.int a5), _, some (.int a7), some (.int a8)], [] => nX5_gapOf_62 N cs a0 a2 a3 a4 a5 a7 a8 h
  | _, _ => none) ra_k0))
theorem kX5_gapOf_16_ok (N : Nat) (cs : Nat → Int32 → Int32 → Int32 → Int32 → Int32 → Int32 → ra_H → Option (Int32 × ra_H)) (hcs : ∀ a0 a2 a3 a4 a5 a6 a7 h r, cs a0 a2 a3 a4 a5 a6 a7 h = some r → ra_Ru 3 mX5_gapOf 16 [some (.ref a0), none, some (.int a2), some (.int a3), some (.int a4), some (.int a5), some (.int a6), some (.int a7), none] [] h (ra_oI r)) : ra_kok 3 mX5_gapOf ra_oI (kX5_gapOf_16 N cs) := (ra_k1_ok (by
  intro L S h a e
  split at e
  · exact ra_Ru.weak (nX5_gapOf_58_ok N _ _ _ e) trivial
  · cases e) (ra_k1_ok (by
  intro L S h a e
  split at e
  · exact ra_Ru.weak (nX5_gapOf_62_ok N cs hcs _ _ _ _ _ _ _ _ _ e) ⟨rfl, ⟨rfl, ⟨rfl, ⟨rfl, ⟨rfl, ⟨rfl, ⟨rfl, trivial⟩⟩⟩⟩⟩⟩⟩
  · cases e) ra_k0_ok))
set_option maxRecDepth 100000 in
theorem nX5_gapOf_16_ok (N : Nat) : ∀ n a0 a2 a3 a4 a5 a6 a7 h r, nX5_gapOf_16 N n a0 a2 a3 a4 a5 a6 a7 h = some r → ra_Ru 3 mX5_gapOf 16 [some (.ref a0), none, some (.int a2), some (.int a3), some (.int a4), some (.int a5), some (.int a6), some (.int a7), none] [] h (ra_oI r) := by
  intro n
  induction n with
  | zero => intro a0 a2 a3 a4 a5 a6 a7 h r e; cases e
  | succ n ih =>
    intro a0 a2 a3 a4 a5 a6 a7 h r e
    exact ra_sound (by omega) rfl ra_rI_ok (kX5_gapOf_16_ok N (nX5_gapOf_16 N n) ih) (fun m av h h1 e => (ra_c0_ok (ro := ra_oV)) m av h h1 e) (fun m av h x h1 e => (tIX5_gapOf_ok N) m av h (x, h1) e) (fun m av h x h1 e => (ra_c0_ok (ro := ra_oJ)) m av h (x, h1) e) (fun m av h x h1 e => (ra_c0_ok (ro := ra_oR)) m av h (x, h1) e) (fun m av h x h1 e => (ra_c0_ok (ro := ra_oN)) m av h (x, h1) e) (fun m av h x h1 e => (ra_c0_ok (ro := ra_oF)) m av h (x, h1) e) 24 lX5_gapOf_16 _ _ _ _ lX5_gapOf_16_ck (show ra_run ra_rI (kX5_gapOf_16 N (nX5_gapOf_16 N n)) ra_c0 (tIX5_gapOf N) ra_c0 ra_c0 ra_c0 ra_c0 24 lX5_gapOf_16 [some (.ref a0), none, some (.int a2), some (.int a3), some (.int a4), some (.int a5), some (.int a6), some (.int a7), none] [] h = some r from e) _ _ rfl
def lX5_gapOf_0 : List ra_I := [(0, .aload_n 0, 1, 0, 0, 0, 0, 0, []),
  (1, .iload_n 1, 1, 1, 0, 0, 0, 0, []),
  (2, .invokevirtual 41, 3, 109, 2, 1, 0, 0, []),
  (5, .istore 4, 2, 4, 0, 0, 0, 0, []),
  (7, .iconst (0), 1, 0, 0, 0, (0), 0, []),
  (8, .istore 5, 2, 5, 0, 0, 0, 0, []),
  (10, .iconst (1), 1, 0, 0, 0, (1), 0, []),
  (11, .istore 6, 2, 6, 0, 0, 0, 0, []),
  (13, .iconst (0), 1, 0, 0, 0, (0), 0, []),
  (14, .istore 7, 2, 7, 0, 0, 0, 0, [])]
set_option maxRecDepth 100000 in
theorem lX5_gapOf_0_ck : lX5_gapOf_0.all (ra_ck mX5_gapOf 5) = true := by decide +kernel
def nX5_gapOf_0 (N : Nat) (a0 : Nat) (a1 : Int32) (a2 : Int32) (a3 : Int32) (h : ra_H) : Option (Int32 × ra_H) :=
  (fX5_lineUp N a0 a1 h).bind fun q1 =>
  nX5_gapOf_16 N N a0 a2 a3 q1.1 ((0 : Int32)) ((1 : Int32)) ((0 : Int32)) q1.2
def kX5_gapOf_0 (N : Nat) : Nat → List (Option Value) → List Value → ra_H → Option (Int32 × ra_H) := (ra_k1 16 (fun L S h => match L, S with
  | [some (.ref a0), _, some (.int a2), some (.int a3), some (.int a4), some (.int a5), some (.int a6), some (.int a7), _], [] => nX5_gapOf_16 N N a0 a2 a3 a4 a5 a6 a7 h
  | _, _ => none) ra_k0)
theorem kX5_gapOf_0_ok (N : Nat) : ra_kok 3 mX5_gapOf ra_oI (kX5_gapOf_0 N) := (ra_k1_ok (by
  intro L S h a e
  split at e
  · exact ra_Ru.weak (nX5_gapOf_16_ok N N _ _ _ _ _ _ _ _ _ e) ⟨rfl, ⟨rfl, ⟨rfl, ⟨rfl, ⟨rfl, ⟨rfl, ⟨rfl, trivial⟩⟩⟩⟩⟩⟩⟩
  · cases e) ra_k0_ok)
set_option maxRecDepth 100000 in
theorem nX5_gapOf_0_ok (N : Nat) (a0 : Nat) (a1 : Int32) (a2 : Int32) (a3 : Int32) (h : ra_H) (r : (Int32 × ra_H)) (e : nX5_gapOf_0 N a0 a1 a2 a3 h = some r) : ra_Ru 3 mX5_gapOf 0 [some (.ref a0), some (.int a1), some (.int a2), some (.int a3), none, none, none, none, none] [] h (ra_oI r) :=
  ra_sound (by omega) rfl ra_rI_ok (kX5_gapOf_0_ok N) (fun m av h h1 e => (ra_c0_ok (ro := ra_oV)) m av h h1 e) (fun m av h x h1 e => (tIX5_gapOf_ok N) m av h (x, h1) e) (fun m av h x h1 e => (ra_c0_ok (ro := ra_oJ)) m av h (x, h1) e) (fun m av h x h1 e => (ra_c0_ok (ro := ra_oR)) m av h (x, h1) e) (fun m av h x h1 e => (ra_c0_ok (ro := ra_oN)) m av h (x, h1) e) (fun m av h x h1 e => (ra_c0_ok (ro := ra_oF)) m av h (x, h1) e) 11 lX5_gapOf_0 _ _ _ _ lX5_gapOf_0_ck (show ra_run ra_rI (kX5_gapOf_0 N) ra_c0 (tIX5_gapOf N) ra_c0 ra_c0 ra_c0 ra_c0 11 lX5_gapOf_0 [some (.ref a0), some (.int a1), some (.int a2), some (.int a3), none, none, none, none, none] [] h = some r from e) _ _ rfl
def fX5_gapOf (N : Nat) (p0 : Nat) (p1 : Int32) (p2 : Int32) (p3 : Int32) (h : ra_H) : Option (Int32 × ra_H) := match ra_isOb h p0 5 with
  | true => nX5_gapOf_0 N p0 p1 p2 p3 h
  | false => none
set_option maxRecDepth 100000 in
theorem mtX5_gapOf : ra_MT[116]? = some (mX5_gapOf, 1, 3, (1, 8), (4, 217), (4, 218)) := rfl
theorem fX5_gapOf_co (N : Nat) (p0 : Nat) (p1 : Int32) (p2 : Int32) (p3 : Int32) (h : ra_H) (r : (Int32 × ra_H)) (e : fX5_gapOf N p0 p1 p2 p3 h = some r) (D : Nat) (hD : 4 ≤ D) : ra_CO D 116 [.ref p0, .int p1, .int p2, .int p3] h (ra_oI r).1 (ra_oI r).2 := by
  have hw : ra_nw2 [.ref p0, .int p1, .int p2, .int p3] ≤ 9 := Nat.le_of_ble_eq_true rfl
  have hdb : ∀ v ∈ ([.ref p0, .int p1, .int p2, .int p3] : List Value), ∀ x, v ≠ .double x := by
    intro v hv x hx
    simp [hx] at hv
  unfold fX5_gapOf at e
  split at e
  · rename_i ho
    have e1 := e
    exact ⟨3, _, mtX5_gapOf, hD, ra_ev_of (by decide) hdb hw trivial (ra_Ru.weak (nX5_gapOf_0_ok N p0 p1 p2 p3 h _ e1) ⟨rfl, ⟨rfl, ⟨rfl, ⟨rfl, trivial⟩⟩⟩⟩), (fun _ => ⟨_, _, rfl, ra_rcv_of ho (by decide) rfl⟩), (fun h => absurd h (by decide))⟩
  · cases e
/-! RedMarks$Shelves.gapsTogether(II)I -/
def mX5_gapsTogether : ra_M := (yX5_gapsTogether, cX5_gapsTogether, 9, (some .int))
def tIX5_gapsTogether (N : Nat) : Nat → List Value → ra_H → Option (Int32 × ra_H) := (ra_c1 109 (fun av h => match av with
  | [.ref z0, .int z1] => fX5_lineUp N z0 z1 h
  | _ => none) (ra_c1 115 (fun av h => match av with
  | [.ref z0, .int z1] => fX5_placeOf N z0 z1 h
  | _ => none) ra_c0))
theorem tIX5_gapsTogether_ok (N : Nat) : ra_cok 3 ra_oI (tIX5_gapsTogether N) := (ra_c1_ok (by
  intro av h a e
  split at e
  · exact fX5_lineUp_co N _ _ _ _ e 3 (by omega)
  · cases e) (ra_c1_ok (by
  intro av h a e
  split at e
  · exact fX5_placeOf_co N _ _ _ _ e 3 (by omega)
  · cases e) ra_c0_ok))
def lX5_gapsTogether_52 : List ra_I := [(52, .iload 8, 2, 8, 0, 0, 0, 0, []),
  (54, .iconst (1), 1, 0, 0, 0, (1), 0, []),
  (55, .iadd, 1, 0, 0, 0, 0, 0, []),
  (56, .istore 6, 2, 6, 0, 0, 0, 0, []),
  (58, .iinc 7 (1), 3, 7, 0, 0, (1), 0, []),
  (61, .goto (-43), 3, 18, 0, 0, 0, 0, [])]
set_option maxRecDepth 100000 in
theorem lX5_gapsTogether_52_ck : lX5_gapsTogether_52.all (ra_ck mX5_gapsTogether 5) = true := by decide +kernel
def nX5_gapsTogether_52 (N : Nat) (c18 : Nat → Int32 → Int32 → Int32 → Int32 → Int32 → Int32 → ra_H → Option (Int32 × ra_H)) (a0 : Nat) (a2 : Int32) (a3 : Int32) (a4 : Int32) (a5 : Int32) (a7 : Int32) (a8 : Int32) (h : ra_H) : Option (Int32 × ra_H) :=
  let y1 := a8 + ((1 : Int32))
  let y2 := a7 + (1 : Int32)
  c18 a0 a2 a3 a4 a5 y1 y2 h
def kX5_gapsTogether_52 (N : Nat) (c18 : Nat → Int32 → Int32 → Int32 → Int32 → Int32 → Int32 → ra_H → Option (Int32 × ra_H)) : Nat → List (Option Value) → List Value → ra_H → Option (Int32 × ra_H) := (ra_k1 18 (fun L S h => match L, S with
  | [some (.ref a0), _, some (.int a2), some (.int a3), some (.int a4), some (.int a5), some (.int a6), some (.int a7), _], [] => c18 a0 a2 a3 a4 a5 a6 a7 h
  | _, _ => none) ra_k0)
theorem kX5_gapsTogether_52_ok (N : Nat) (c18 : Nat → Int32 → Int32 → Int32 → Int32 → Int32 → Int32 → ra_H → Option (Int32 × ra_H)) (hc18 : ∀ a0 a2 a3 a4 a5 a6 a7 h r, c18 a0 a2 a3 a4 a5 a6 a7 h = some r → ra_Ru 3 mX5_gapsTogether 18 [some (.ref a0), none, some (.int a2), some (.int a3), some (.int a4), some (.int a5), some (.int a6), some (.int a7), none] [] h (ra_oI r)) : ra_kok 3 mX5_gapsTogether ra_oI (kX5_gapsTogether_52 N c18) := (ra_k1_ok (by
  intro L S h a e
  split at e
  · exact ra_Ru.weak (hc18 _ _ _ _ _ _ _ _ _ e) ⟨rfl, ⟨rfl, ⟨rfl, ⟨rfl, ⟨rfl, ⟨rfl, ⟨rfl, trivial⟩⟩⟩⟩⟩⟩⟩
  · cases e) ra_k0_ok)
set_option maxRecDepth 100000 in
theorem nX5_gapsTogether_52_ok (N : Nat) (c18 : Nat → Int32 → Int32 → Int32 → Int32 → Int32 → Int32 → ra_H → Option (Int32 × ra_H)) (hc18 : ∀ a0 a2 a3 a4 a5 a6 a7 h r, c18 a0 a2 a3 a4 a5 a6 a7 h = some r → ra_Ru 3 mX5_gapsTogether 18 [some (.ref a0), none, some (.int a2), some (.int a3), some (.int a4), some (.int a5), some (.int a6), some (.int a7), none] [] h (ra_oI r)) (a0 : Nat) (a2 : Int32) (a3 : Int32) (a4 : Int32) (a5 : Int32) (a7 : Int32) (a8 : Int32) (h : ra_H) (r : (Int32 × ra_H)) (e : nX5_gapsTogether_52 N c18 a0 a2 a3 a4 a5 a7 a8 h = some r) : ra_Ru 3 mX5_gapsTogether 52 [some (.ref a0), none, some (.int a2), some (.int a3), some (.int a4), some (.int a5), none, some (.int a7), some (.int a8)] [] h (ra_oI r) :=
  ra_sound (by omega) rfl ra_rI_ok (kX5_gapsTogether_52_ok N c18 hc18) (fun m av h h1 e => (ra_c0_ok (ro := ra_oV)) m av h h1 e) (fun m av h x h1 e => (tIX5_gapsTogether_ok N) m av h (x, h1) e) (fun m av h x h1 e => (ra_c0_ok (ro := ra_oJ)) m av h (x, h1) e) (fun m av h x h1 e => (ra_c0_ok (ro := ra_oR)) m av h (x, h1) e) (fun m av h x h1 e => (ra_c0_ok (ro := ra_oN)) m av h (x, h1) e) (fun m av h x h1 e => (ra_c0_ok (ro := ra_oF)) m av h (x, h1) e) 7 lX5_gapsTogether_52 _ _ _ _ lX5_gapsTogether_52_ck (show ra_run ra_rI (kX5_gapsTogether_52 N c18) ra_c0 (tIX5_gapsTogether N) ra_c0 ra_c0 ra_c0 ra_c0 7 lX5_gapsTogether_52 [some (.ref a0), none, some (.int a2), some (.int a3), some (.int a4), some (.int a5), none, some (.int a7), some (.int a8)] [] h = some r from e) _ _ rfl
def lX5_gapsTogether_75 : List ra_I := [(75, .ireturn, 1, 0, 0, 0, 0, 0, [])]
set_option maxRecDepth 100000 in
theorem lX5_gapsTogether_75_ck : lX5_gapsTogether_75.all (ra_ck mX5_gapsTogether 5) = true := by decide +kernel
def nX5_gapsTogether_75 (N : Nat) (b0 : Int32) (h : ra_H) : Option (Int32 × ra_H) :=
  some (b0, h)
def kX5_gapsTogether_75 (N : Nat) : Nat → List (Option Value) → List Value → ra_H → Option (Int32 × ra_H) := ra_k0
theorem kX5_gapsTogether_75_ok (N : Nat) : ra_kok 3 mX5_gapsTogether ra_oI (kX5_gapsTogether_75 N) := ra_k0_ok
set_option maxRecDepth 100000 in
theorem nX5_gapsTogether_75_ok (N : Nat) (b0 : Int32) (h : ra_H) (r : (Int32 × ra_H)) (e : nX5_gapsTogether_75 N b0 h = some r) : ra_Ru 3 mX5_gapsTogether 75 [none, none, none, none, none, none, none, none, none] [.int b0] h (ra_oI r) :=
  ra_sound (by omega) rfl ra_rI_ok (kX5_gapsTogether_75_ok N) (fun m av h h1 e => (ra_c0_ok (ro := ra_oV)) m av h h1 e) (fun m av h x h1 e => (tIX5_gapsTogether_ok N) m av h (x, h1) e) (fun m av h x h1 e => (ra_c0_ok (ro := ra_oJ)) m av h (x, h1) e) (fun m av h x h1 e => (ra_c0_ok (ro := ra_oR)) m av h (x, h1) e) (fun m av h x h1 e => (ra_c0_ok (ro := ra_oN)) m av h (x, h1) e) (fun m av h x h1 e => (ra_c0_ok (ro := ra_oF)) m av h (x, h1) e) 2 lX5_gapsTogether_75 _ _ _ _ lX5_gapsTogether_75_ck (show ra_run ra_rI (kX5_gapsTogether_75 N) ra_c0 (tIX5_gapsTogether N) ra_c0 ra_c0 ra_c0 ra_c0 2 lX5_gapsTogether_75 [none, none, none, none, none, none, none, none, none] [.int b0] h = some r from e) _ _ rfl
def lX5_gapsTogether_18 : List ra_I := [(18, .iload 7, 2, 7, 0, 0, 0, 0, []),
  (20, .iload_n 3, 1, 3, 0, 0, 0, 0, []),
  (21, .if_icmp .ge (43), 3, 64, 0, 0, 0, 0, []),
  (24, .aload_n 0, 1, 0, 0, 0, 0, 0, []),
  (25, .iload 7, 2, 7, 0, 0, 0, 0, []),
  (27, .invokevirtual 51, 3, 115, 2, 1, 0, 0, []),
  (30, .istore 8, 2, 8, 0, 0, 0, 0, []),
  (32, .iload 8, 2, 8, 0, 0, 0, 0, []),
  (34, .iload 6, 2, 6, 0, 0, 0, 0, []),
  (36, .if_icmp .le (16), 3, 52, 0, 0, 0, 0, []),
  (39, .iinc 4 (1), 3, 4, 0, 0, (1), 0, []),
  (42, .iload 5, 2, 5, 0, 0, 0, 0, []),
  (44, .iload 8, 2, 8, 0, 0, 0, 0, []),
  (46, .iload 6, 2, 6, 0, 0, 0, 0, []),
  (48, .isub, 1, 0, 0, 0, 0, 0, []),
  (49, .iadd, 1, 0, 0, 0, 0, 0, []),
  (50, .istore 5, 2, 5, 0, 0, 0, 0, []),
  (64, .iload_n 2, 1, 2, 0, 0, 0, 0, []),
  (65, .ifCond .ne (8), 3, 73, 0, 0, 0, 0, []),
  (68, .iload 4, 2, 4, 0, 0, 0, 0, []),
  (70, .goto (5), 3, 75, 0, 0, 0, 0, []),
  (73, .iload 5, 2, 5, 0, 0, 0, 0, [])]
set_option maxRecDepth 100000 in
theorem lX5_gapsTogether_18_ck : lX5_gapsTogether_18.all (ra_ck mX5_gapsTogether 5) = true := by decide +kernel
def nX5_gapsTogether_18 (N : Nat) : Nat → Nat → Int32 → Int32 → Int32 → Int32 → Int32 → Int32 → ra_H → Option (Int32 × ra_H)
  | 0, _, _, _, _, _, _, _, _ => none
  | n + 1, a0, a2, a3, a4, a5, a6, a7, h =>
  if a7 < a3 then
    (fX5_placeOf N a0 a7 h).bind fun q1 =>
    if q1.1 ≤ a6 then
      nX5_gapsTogether_52 N (nX5_gapsTogether_18 N n) a0 a2 a3 a4 a5 a7 q1.1 q1.2
    else
      let y2 := a4 + (1 : Int32)
      let y3 := a5 + (q1.1 - a6)
      nX5_gapsTogether_52 N (nX5_gapsTogether_18 N n) a0 a2 a3 y2 y3 a7 q1.1 q1.2
  else
    if a2 = 0 then
      nX5_gapsTogether_75 N a4 h
    else
      nX5_gapsTogether_75 N a5 h
def kX5_gapsTogether_18 (N : Nat) (cs : Nat → Int32 → Int32 → Int32 → Int32 → Int32 → Int32 → ra_H → Option (Int32 × ra_H)) : Nat → List (Option Value) → List Value → ra_H → Option (Int32 × ra_H) := (ra_k1 52 (fun L S h => match L, S with
  | [some (.ref a0), _, some (.int a2), some (.int a3), some (.int a4), some (.int a5), _, some (.int a7), some (.int a8)], [] => nX5_gapsTogether_52 N cs a0 a2 a3 a4 a5 a7 a8 h
  | _, _ => none) (ra_k1 75 (fun L S h => match L, S with
  | [_, _, _, _, _, _, _, _, _], [.int b0] => nX5_gapsTogether_75 N b0 h
  | _, _ => none) ra_k0))
theorem kX5_gapsTogether_18_ok (N : Nat) (cs : Nat → Int32 → Int32 → Int32 → Int32 → Int32 → Int32 → ra_H → Option (Int32 × ra_H)) (hcs : ∀ a0 a2 a3 a4 a5 a6 a7 h r, cs a0 a2 a3 a4 a5 a6 a7 h = some r → ra_Ru 3 mX5_gapsTogether 18 [some (.ref a0), none, some (.int a2), some (.int a3), some (.int a4), some (.int a5), some (.int a6), some (.int a7), none] [] h (ra_oI r)) : ra_kok 3 mX5_gapsTogether ra_oI (kX5_gapsTogether_18 N cs) := (ra_k1_ok (by
  intro L S h a e
  split at e
  · exact ra_Ru.weak (nX5_gapsTogether_52_ok N cs hcs _ _ _ _ _ _ _ _ _ e) ⟨rfl, ⟨rfl, ⟨rfl, ⟨rfl, ⟨rfl, ⟨rfl, ⟨rfl, trivial⟩⟩⟩⟩⟩⟩⟩
  · cases e) (ra_k1_ok (by
  intro L S h a e
  split at e
  · exact ra_Ru.weak (nX5_gapsTogether_75_ok N _ _ _ e) trivial
  · cases e) ra_k0_ok))
set_option maxRecDepth 100000 in
theorem nX5_gapsTogether_18_ok (N : Nat) : ∀ n a0 a2 a3 a4 a5 a6 a7 h r, nX5_gapsTogether_18 N n a0 a2 a3 a4 a5 a6 a7 h = some r → ra_Ru 3 mX5_gapsTogether 18 [some (.ref a0), none, some (.int a2), some (.int a3), some (.int a4), some (.int a5), some (.int a6), some (.int a7), none] [] h (ra_oI r) := by
  intro n
  induction n with
  | zero => intro a0 a2 a3 a4 a5 a6 a7 h r e; cases e
  | succ n ih =>
    intro a0 a2 a3 a4 a5 a6 a7 h r e
    exact ra_sound (by omega) rfl ra_rI_ok (kX5_gapsTogether_18_ok N (nX5_gapsTogether_18 N n) ih) (fun m av h h1 e => (ra_c0_ok (ro := ra_oV)) m av h h1 e) (fun m av h x h1 e => (tIX5_gapsTogether_ok N) m av h (x, h1) e) (fun m av h x h1 e => (ra_c0_ok (ro := ra_oJ)) m av h (x, h1) e) (fun m av h x h1 e => (ra_c0_ok (ro := ra_oR)) m av h (x, h1) e) (fun m av h x h1 e => (ra_c0_ok (ro := ra_oN)) m av h (x, h1) e) (fun m av h x h1 e => (ra_c0_ok (ro := ra_oF)) m av h (x, h1) e) 23 lX5_gapsTogether_18 _ _ _ _ lX5_gapsTogether_18_ck (show ra_run ra_rI (kX5_gapsTogether_18 N (nX5_gapsTogether_18 N n)) ra_c0 (tIX5_gapsTogether N) ra_c0 ra_c0 ra_c0 ra_c0 23 lX5_gapsTogether_18 [some (.ref a0), none, some (.int a2), some (.int a3), some (.int a4), some (.int a5), some (.int a6), some (.int a7), none] [] h = some r from e) _ _ rfl
def lX5_gapsTogether_0 : List ra_I := [(0, .aload_n 0, 1, 0, 0, 0, 0, 0, []),
  (1, .iload_n 1, 1, 1, 0, 0, 0, 0, []),
  (2, .invokevirtual 41, 3, 109, 2, 1, 0, 0, []),
  (5, .istore_n 3, 1, 3, 0, 0, 0, 0, []),
  (6, .iconst (0), 1, 0, 0, 0, (0), 0, []),
  (7, .istore 4, 2, 4, 0, 0, 0, 0, []),
  (9, .iconst (0), 1, 0, 0, 0, (0), 0, []),
  (10, .istore 5, 2, 5, 0, 0, 0, 0, []),
  (12, .iconst (1), 1, 0, 0, 0, (1), 0, []),
  (13, .istore 6, 2, 6, 0, 0, 0, 0, []),
  (15, .iconst (0), 1, 0, 0, 0, (0), 0, []),
  (16, .istore 7, 2, 7, 0, 0, 0, 0, [])]
set_option maxRecDepth 100000 in
theorem lX5_gapsTogether_0_ck : lX5_gapsTogether_0.all (ra_ck mX5_gapsTogether 5) = true := by decide +kernel
def nX5_gapsTogether_0 (N : Nat) (a0 : Nat) (a1 : Int32) (a2 : Int32) (h : ra_H) : Option (Int32 × ra_H) :=
  (fX5_lineUp N a0 a1 h).bind fun q1 =>
  nX5_gapsTogether_18 N N a0 a2 q1.1 ((0 : Int32)) ((0 : Int32)) ((1 : Int32)) ((0 : Int32)) q1.2
def kX5_gapsTogether_0 (N : Nat) : Nat → List (Option Value) → List Value → ra_H → Option (Int32 × ra_H) := (ra_k1 18 (fun L S h => match L, S with
  | [some (.ref a0), _, some (.int a2), some (.int a3), some (.int a4), some (.int a5), some (.int a6), some (.int a7), _], [] => nX5_gapsTogether_18 N N a0 a2 a3 a4 a5 a6 a7 h
  | _, _ => none) ra_k0)
theorem kX5_gapsTogether_0_ok (N : Nat) : ra_kok 3 mX5_gapsTogether ra_oI (kX5_gapsTogether_0 N) := (ra_k1_ok (by
  intro L S h a e
  split at e
  · exact ra_Ru.weak (nX5_gapsTogether_18_ok N N _ _ _ _ _ _ _ _ _ e) ⟨rfl, ⟨rfl, ⟨rfl, ⟨rfl, ⟨rfl, ⟨rfl, ⟨rfl, trivial⟩⟩⟩⟩⟩⟩⟩
  · cases e) ra_k0_ok)
set_option maxRecDepth 100000 in
theorem nX5_gapsTogether_0_ok (N : Nat) (a0 : Nat) (a1 : Int32) (a2 : Int32) (h : ra_H) (r : (Int32 × ra_H)) (e : nX5_gapsTogether_0 N a0 a1 a2 h = some r) : ra_Ru 3 mX5_gapsTogether 0 [some (.ref a0), some (.int a1), some (.int a2), none, none, none, none, none, none] [] h (ra_oI r) :=
  ra_sound (by omega) rfl ra_rI_ok (kX5_gapsTogether_0_ok N) (fun m av h h1 e => (ra_c0_ok (ro := ra_oV)) m av h h1 e) (fun m av h x h1 e => (tIX5_gapsTogether_ok N) m av h (x, h1) e) (fun m av h x h1 e => (ra_c0_ok (ro := ra_oJ)) m av h (x, h1) e) (fun m av h x h1 e => (ra_c0_ok (ro := ra_oR)) m av h (x, h1) e) (fun m av h x h1 e => (ra_c0_ok (ro := ra_oN)) m av h (x, h1) e) (fun m av h x h1 e => (ra_c0_ok (ro := ra_oF)) m av h (x, h1) e) 13 lX5_gapsTogether_0 _ _ _ _ lX5_gapsTogether_0_ck (show ra_run ra_rI (kX5_gapsTogether_0 N) ra_c0 (tIX5_gapsTogether N) ra_c0 ra_c0 ra_c0 ra_c0 13 lX5_gapsTogether_0 [some (.ref a0), some (.int a1), some (.int a2), none, none, none, none, none, none] [] h = some r from e) _ _ rfl
def fX5_gapsTogether (N : Nat) (p0 : Nat) (p1 : Int32) (p2 : Int32) (h : ra_H) : Option (Int32 × ra_H) := match ra_isOb h p0 5 with
  | true => nX5_gapsTogether_0 N p0 p1 p2 h
  | false => none
set_option maxRecDepth 100000 in
theorem mtX5_gapsTogether : ra_MT[114]? = some (mX5_gapsTogether, 1, 2, (1, 8), (4, 209), (4, 210)) := rfl
theorem fX5_gapsTogether_co (N : Nat) (p0 : Nat) (p1 : Int32) (p2 : Int32) (h : ra_H) (r : (Int32 × ra_H)) (e : fX5_gapsTogether N p0 p1 p2 h = some r) (D : Nat) (hD : 4 ≤ D) : ra_CO D 114 [.ref p0, .int p1, .int p2] h (ra_oI r).1 (ra_oI r).2 := by
  have hw : ra_nw2 [.ref p0, .int p1, .int p2] ≤ 9 := Nat.le_of_ble_eq_true rfl
  have hdb : ∀ v ∈ ([.ref p0, .int p1, .int p2] : List Value), ∀ x, v ≠ .double x := by
    intro v hv x hx
    simp [hx] at hv
  unfold fX5_gapsTogether at e
  split at e
  · rename_i ho
    have e1 := e
    exact ⟨3, _, mtX5_gapsTogether, hD, ra_ev_of (by decide) hdb hw trivial (ra_Ru.weak (nX5_gapsTogether_0_ok N p0 p1 p2 h _ e1) ⟨rfl, ⟨rfl, ⟨rfl, trivial⟩⟩⟩), (fun _ => ⟨_, _, rfl, ra_rcv_of ho (by decide) rfl⟩), (fun h => absurd h (by decide))⟩
  · cases e
/-! RedMarks$Shelves.hasRoomBeside(II)Z -/
def mX5_hasRoomBeside : ra_M := (yX5_hasRoomBeside, cX5_hasRoomBeside, 3, (some .boolean))
def tIX5_hasRoomBeside (N : Nat) : Nat → List Value → ra_H → Option (Int32 × ra_H) := (ra_c1 27 (fun av h => match av with
  | [.ref z0, .int z1, .int z2] => fX2_factOf N z0 z1 z2 h
  | _ => none) (ra_c1 112 (fun av h => match av with
  | [.ref z0, .int z1] => fX5_freeOf N z0 z1 h
  | _ => none) ra_c0))
theorem tIX5_hasRoomBeside_ok (N : Nat) : ra_cok 2 ra_oI (tIX5_hasRoomBeside N) := (ra_c1_ok (by
  intro av h a e
  split at e
  · exact fX2_factOf_co N _ _ _ _ _ e 2 (by omega)
  · cases e) (ra_c1_ok (by
  intro av h a e
  split at e
  · exact fX5_freeOf_co N _ _ _ _ e 2 (by omega)
  · cases e) ra_c0_ok))
def lX5_hasRoomBeside_33 : List ra_I := [(33, .ireturn, 1, 0, 0, 0, 0, 0, [])]
set_option maxRecDepth 100000 in
theorem lX5_hasRoomBeside_33_ck : lX5_hasRoomBeside_33.all (ra_ck mX5_hasRoomBeside 5) = true := by decide +kernel
def nX5_hasRoomBeside_33 (N : Nat) (b0 : Int32) (h : ra_H) : Option (Int32 × ra_H) :=
  some (b0, h)
def kX5_hasRoomBeside_33 (N : Nat) : Nat → List (Option Value) → List Value → ra_H → Option (Int32 × ra_H) := ra_k0
theorem kX5_hasRoomBeside_33_ok (N : Nat) : ra_kok 2 mX5_hasRoomBeside ra_oI (kX5_hasRoomBeside_33 N) := ra_k0_ok
set_option maxRecDepth 100000 in
theorem nX5_hasRoomBeside_33_ok (N : Nat) (b0 : Int32) (h : ra_H) (r : (Int32 × ra_H)) (e : nX5_hasRoomBeside_33 N b0 h = some r) : ra_Ru 2 mX5_hasRoomBeside 33 [none, none, none] [.int b0] h (ra_oI r) :=
  ra_sound (by omega) rfl ra_rI_ok (kX5_hasRoomBeside_33_ok N) (fun m av h h1 e => (ra_c0_ok (ro := ra_oV)) m av h h1 e) (fun m av h x h1 e => (tIX5_hasRoomBeside_ok N) m av h (x, h1) e) (fun m av h x h1 e => (ra_c0_ok (ro := ra_oJ)) m av h (x, h1) e) (fun m av h x h1 e => (ra_c0_ok (ro := ra_oR)) m av h (x, h1) e) (fun m av h x h1 e => (ra_c0_ok (ro := ra_oN)) m av h (x, h1) e) (fun m av h x h1 e => (ra_c0_ok (ro := ra_oF)) m av h (x, h1) e) 2 lX5_hasRoomBeside_33 _ _ _ _ lX5_hasRoomBeside_33_ck (show ra_run ra_rI (kX5_hasRoomBeside_33 N) ra_c0 (tIX5_hasRoomBeside N) ra_c0 ra_c0 ra_c0 ra_c0 2 lX5_hasRoomBeside_33 [none, none, none] [.int b0] h = some r from e) _ _ rfl
def lX5_hasRoomBeside_0 : List ra_I := [(0, .aload_n 0, 1, 0, 0, 0, 0, 0, []),
  (1, .aload_n 0, 1, 0, 0, 0, 0, 0, []),
  (2, .getfield 19, 3, 5, 1, 2, 0, 0, []),
  (5, .getfield 28, 3, 7, 1, 2, 0, 0, []),
  (8, .iload_n 1, 1, 1, 0, 0, 0, 0, []),
  (9, .iaload, 1, 0, 0, 0, 0, 0, []),
  (10, .bipush (99), 2, 0, 0, 0, (99), 0, []),
  (12, .idiv, 1, 0, 0, 0, 0, 0, []),
  (13, .invokevirtual 64, 3, 112, 2, 1, 0, 0, []),
  (16, .aload_n 0, 1, 0, 0, 0, 0, 0, []),
  (17, .getfield 15, 3, 5, 0, 2, 0, 0, []),
  (20, .iload_n 2, 1, 2, 0, 0, 0, 0, []),
  (21, .iconst (3), 1, 0, 0, 0, (3), 0, []),
  (22, .invokevirtual 61, 3, 27, 3, 1, 0, 0, []),
  (25, .if_icmp .lt (7), 3, 32, 0, 0, 0, 0, []),
  (28, .iconst (1), 1, 0, 0, 0, (1), 0, []),
  (29, .goto (4), 3, 33, 0, 0, 0, 0, []),
  (32, .iconst (0), 1, 0, 0, 0, (0), 0, [])]
set_option maxRecDepth 100000 in
theorem lX5_hasRoomBeside_0_ck : lX5_hasRoomBeside_0.all (ra_ck mX5_hasRoomBeside 5) = true := by decide +kernel
def nX5_hasRoomBeside_0 (N : Nat) (a0 : Nat) (a1 : Int32) (a2 : Int32) (h : ra_H) : Option (Int32 × ra_H) :=
  (ra_fR h 5 a0 1).bind fun x1 =>
  (ra_fR h 7 x1 1).bind fun x2 =>
  (ra_aI h 0 x2 a1).bind fun x3 =>
  if ((99 : Int32)) = 0 then none else
  (fX5_freeOf N a0 (x3 / ((99 : Int32))) h).bind fun q4 =>
  (ra_fR q4.2 5 a0 0).bind fun x5 =>
  (fX2_factOf N x5 a2 ((3 : Int32)) q4.2).bind fun q6 =>
  if q4.1 < q6.1 then
    nX5_hasRoomBeside_33 N ((0 : Int32)) q6.2
  else
    nX5_hasRoomBeside_33 N ((1 : Int32)) q6.2
def kX5_hasRoomBeside_0 (N : Nat) : Nat → List (Option Value) → List Value → ra_H → Option (Int32 × ra_H) := (ra_k1 33 (fun L S h => match L, S with
  | [_, _, _], [.int b0] => nX5_hasRoomBeside_33 N b0 h
  | _, _ => none) ra_k0)
theorem kX5_hasRoomBeside_0_ok (N : Nat) : ra_kok 2 mX5_hasRoomBeside ra_oI (kX5_hasRoomBeside_0 N) := (ra_k1_ok (by
  intro L S h a e
  split at e
  · exact ra_Ru.weak (nX5_hasRoomBeside_33_ok N _ _ _ e) trivial
  · cases e) ra_k0_ok)
set_option maxRecDepth 100000 in
theorem nX5_hasRoomBeside_0_ok (N : Nat) (a0 : Nat) (a1 : Int32) (a2 : Int32) (h : ra_H) (r : (Int32 × ra_H)) (e : nX5_hasRoomBeside_0 N a0 a1 a2 h = some r) : ra_Ru 2 mX5_hasRoomBeside 0 [some (.ref a0), some (.int a1), some (.int a2)] [] h (ra_oI r) :=
  ra_sound (by omega) rfl ra_rI_ok (kX5_hasRoomBeside_0_ok N) (fun m av h h1 e => (ra_c0_ok (ro := ra_oV)) m av h h1 e) (fun m av h x h1 e => (tIX5_hasRoomBeside_ok N) m av h (x, h1) e) (fun m av h x h1 e => (ra_c0_ok (ro := ra_oJ)) m av h (x, h1) e) (fun m av h x h1 e => (ra_c0_ok (ro := ra_oR)) m av h (x, h1) e) (fun m av h x h1 e => (ra_c0_ok (ro := ra_oN)) m av h (x, h1) e) (fun m av h x h1 e => (ra_c0_ok (ro := ra_oF)) m av h (x, h1) e) 19 lX5_hasRoomBeside_0 _ _ _ _ lX5_hasRoomBeside_0_ck (show ra_run ra_rI (kX5_hasRoomBeside_0 N) ra_c0 (tIX5_hasRoomBeside N) ra_c0 ra_c0 ra_c0 ra_c0 19 lX5_hasRoomBeside_0 [some (.ref a0), some (.int a1), some (.int a2)] [] h = some r from e) _ _ rfl
def fX5_hasRoomBeside (N : Nat) (p0 : Nat) (p1 : Int32) (p2 : Int32) (h : ra_H) : Option (Int32 × ra_H) := match ra_isOb h p0 5 with
  | true => (nX5_hasRoomBeside_0 N p0 p1 p2 h).bind (fun q => ra_rz q.1 q.2)
  | false => none
set_option maxRecDepth 100000 in
theorem mtX5_hasRoomBeside : ra_MT[162]? = some (mX5_hasRoomBeside, 1, 2, (1, 8), (5, 173), (0, 52)) := rfl
theorem fX5_hasRoomBeside_co (N : Nat) (p0 : Nat) (p1 : Int32) (p2 : Int32) (h : ra_H) (r : (Int32 × ra_H)) (e : fX5_hasRoomBeside N p0 p1 p2 h = some r) (D : Nat) (hD : 3 ≤ D) : ra_CO D 162 [.ref p0, .int p1, .int p2] h (ra_oI r).1 (ra_oI r).2 := by
  have hw : ra_nw2 [.ref p0, .int p1, .int p2] ≤ 3 := Nat.le_of_ble_eq_true rfl
  have hdb : ∀ v ∈ ([.ref p0, .int p1, .int p2] : List Value), ∀ x, v ≠ .double x := by
    intro v hv x hx
    simp [hx] at hv
  unfold fX5_hasRoomBeside at e
  split at e
  · rename_i ho
    obtain ⟨q, e1, e2⟩ := Option.bind_eq_some_iff.mp e
    obtain ⟨rfl, hz⟩ := ra_rz_of e2
    exact ⟨2, _, mtX5_hasRoomBeside, hD, ra_ev_of (by decide) hdb hw hz (ra_Ru.weak (nX5_hasRoomBeside_0_ok N p0 p1 p2 h _ e1) ⟨rfl, ⟨rfl, ⟨rfl, trivial⟩⟩⟩), (fun _ => ⟨_, _, rfl, ra_rcv_of ho (by decide) rfl⟩), (fun h => absurd h (by decide))⟩
  · cases e
/-! RedMarks$Shelves.nearestTo(I)I -/
def mX5_nearestTo : ra_M := (yX5_nearestTo, cX5_nearestTo, 6, (some .int))
def tIX5_nearestTo (N : Nat) : Nat → List Value → ra_H → Option (Int32 × ra_H) := (ra_c1 27 (fun av h => match av with
  | [.ref z0, .int z1, .int z2] => fX2_factOf N z0 z1 z2 h
  | _ => none) (ra_c1 162 (fun av h => match av with
  | [.ref z0, .int z1, .int z2] => fX5_hasRoomBeside N z0 z1 z2 h
  | _ => none) (ra_c1 163 (fun av h => match av with
  | [.ref z0, .int z1, .int z2] => fX2_dampApart N z0 z1 z2 h
  | _ => none) ra_c0)))
theorem tIX5_nearestTo_ok (N : Nat) : ra_cok 3 ra_oI (tIX5_nearestTo N) := (ra_c1_ok (by
  intro av h a e
  split at e
  · exact fX2_factOf_co N _ _ _ _ _ e 3 (by omega)
  · cases e) (ra_c1_ok (by
  intro av h a e
  split at e
  · exact fX5_hasRoomBeside_co N _ _ _ _ _ e 3 (by omega)
  · cases e) (ra_c1_ok (by
  intro av h a e
  split at e
  · exact fX2_dampApart_co N _ _ _ _ _ e 3 (by omega)
  · cases e) ra_c0_ok)))
def lX5_nearestTo_116 : List ra_I := [(116, .iinc 4 (1), 3, 4, 0, 0, (1), 0, []),
  (119, .goto (-97), 3, 22, 0, 0, 0, 0, [])]
set_option maxRecDepth 100000 in
theorem lX5_nearestTo_116_ck : lX5_nearestTo_116.all (ra_ck mX5_nearestTo 5) = true := by decide +kernel
def nX5_nearestTo_116 (N : Nat) (c22 : Nat → Int32 → Int32 → Int32 → Int32 → ra_H → Option (Int32 × ra_H)) (a0 : Nat) (a1 : Int32) (a2 : Int32) (a3 : Int32) (a4 : Int32) (h : ra_H) : Option (Int32 × ra_H) :=
  let y1 := a4 + (1 : Int32)
  c22 a0 a1 a2 a3 y1 h
def kX5_nearestTo_116 (N : Nat) (c22 : Nat → Int32 → Int32 → Int32 → Int32 → ra_H → Option (Int32 × ra_H)) : Nat → List (Option Value) → List Value → ra_H → Option (Int32 × ra_H) := (ra_k1 22 (fun L S h => match L, S with
  | [some (.ref a0), some (.int a1), some (.int a2), some (.int a3), some (.int a4), _], [] => c22 a0 a1 a2 a3 a4 h
  | _, _ => none) ra_k0)
theorem kX5_nearestTo_116_ok (N : Nat) (c22 : Nat → Int32 → Int32 → Int32 → Int32 → ra_H → Option (Int32 × ra_H)) (hc22 : ∀ a0 a1 a2 a3 a4 h r, c22 a0 a1 a2 a3 a4 h = some r → ra_Ru 3 mX5_nearestTo 22 [some (.ref a0), some (.int a1), some (.int a2), some (.int a3), some (.int a4), none] [] h (ra_oI r)) : ra_kok 3 mX5_nearestTo ra_oI (kX5_nearestTo_116 N c22) := (ra_k1_ok (by
  intro L S h a e
  split at e
  · exact ra_Ru.weak (hc22 _ _ _ _ _ _ _ e) ⟨rfl, ⟨rfl, ⟨rfl, ⟨rfl, ⟨rfl, trivial⟩⟩⟩⟩⟩
  · cases e) ra_k0_ok)
set_option maxRecDepth 100000 in
theorem nX5_nearestTo_116_ok (N : Nat) (c22 : Nat → Int32 → Int32 → Int32 → Int32 → ra_H → Option (Int32 × ra_H)) (hc22 : ∀ a0 a1 a2 a3 a4 h r, c22 a0 a1 a2 a3 a4 h = some r → ra_Ru 3 mX5_nearestTo 22 [some (.ref a0), some (.int a1), some (.int a2), some (.int a3), some (.int a4), none] [] h (ra_oI r)) (a0 : Nat) (a1 : Int32) (a2 : Int32) (a3 : Int32) (a4 : Int32) (h : ra_H) (r : (Int32 × ra_H)) (e : nX5_nearestTo_116 N c22 a0 a1 a2 a3 a4 h = some r) : ra_Ru 3 mX5_nearestTo 116 [some (.ref a0), some (.int a1), some (.int a2), some (.int a3), some (.int a4), none] [] h (ra_oI r) :=
  ra_sound (by omega) rfl ra_rI_ok (kX5_nearestTo_116_ok N c22 hc22) (fun m av h h1 e => (ra_c0_ok (ro := ra_oV)) m av h h1 e) (fun m av h x h1 e => (tIX5_nearestTo_ok N) m av h (x, h1) e) (fun m av h x h1 e => (ra_c0_ok (ro := ra_oJ)) m av h (x, h1) e) (fun m av h x h1 e => (ra_c0_ok (ro := ra_oR)) m av h (x, h1) e) (fun m av h x h1 e => (ra_c0_ok (ro := ra_oN)) m av h (x, h1) e) (fun m av h x h1 e => (ra_c0_ok (ro := ra_oF)) m av h (x, h1) e) 3 lX5_nearestTo_116 _ _ _ _ lX5_nearestTo_116_ck (show ra_run ra_rI (kX5_nearestTo_116 N c22) ra_c0 (tIX5_nearestTo N) ra_c0 ra_c0 ra_c0 ra_c0 3 lX5_nearestTo_116 [some (.ref a0), some (.int a1), some (.int a2), some (.int a3), some (.int a4), none] [] h = some r from e) _ _ rfl
def lX5_nearestTo_110 : List ra_I := [(110, .iload 4, 2, 4, 0, 0, 0, 0, []),
  (112, .istore_n 2, 1, 2, 0, 0, 0, 0, []),
  (113, .iload 5, 2, 5, 0, 0, 0, 0, []),
  (115, .istore_n 3, 1, 3, 0, 0, 0, 0, [])]
set_option maxRecDepth 100000 in
theorem lX5_nearestTo_110_ck : lX5_nearestTo_110.all (ra_ck mX5_nearestTo 5) = true := by decide +kernel
def nX5_nearestTo_110 (N : Nat) (c22 : Nat → Int32 → Int32 → Int32 → Int32 → ra_H → Option (Int32 × ra_H)) (a0 : Nat) (a1 : Int32) (a4 : Int32) (a5 : Int32) (h : ra_H) : Option (Int32 × ra_H) :=
  nX5_nearestTo_116 N c22 a0 a1 a4 a5 a4 h
def kX5_nearestTo_110 (N : Nat) (c22 : Nat → Int32 → Int32 → Int32 → Int32 → ra_H → Option (Int32 × ra_H)) : Nat → List (Option Value) → List Value → ra_H → Option (Int32 × ra_H) := (ra_k1 116 (fun L S h => match L, S with
  | [some (.ref a0), some (.int a1), some (.int a2), some (.int a3), some (.int a4), _], [] => nX5_nearestTo_116 N c22 a0 a1 a2 a3 a4 h
  | _, _ => none) ra_k0)
theorem kX5_nearestTo_110_ok (N : Nat) (c22 : Nat → Int32 → Int32 → Int32 → Int32 → ra_H → Option (Int32 × ra_H)) (hc22 : ∀ a0 a1 a2 a3 a4 h r, c22 a0 a1 a2 a3 a4 h = some r → ra_Ru 3 mX5_nearestTo 22 [some (.ref a0), some (.int a1), some (.int a2), some (.int a3), some (.int a4), none] [] h (ra_oI r)) : ra_kok 3 mX5_nearestTo ra_oI (kX5_nearestTo_110 N c22) := (ra_k1_ok (by
  intro L S h a e
  split at e
  · exact ra_Ru.weak (nX5_nearestTo_116_ok N c22 hc22 _ _ _ _ _ _ _ e) ⟨rfl, ⟨rfl, ⟨rfl, ⟨rfl, ⟨rfl, trivial⟩⟩⟩⟩⟩
  · cases e) ra_k0_ok)
set_option maxRecDepth 100000 in
theorem nX5_nearestTo_110_ok (N : Nat) (c22 : Nat → Int32 → Int32 → Int32 → Int32 → ra_H → Option (Int32 × ra_H)) (hc22 : ∀ a0 a1 a2 a3 a4 h r, c22 a0 a1 a2 a3 a4 h = some r → ra_Ru 3 mX5_nearestTo 22 [some (.ref a0), some (.int a1), some (.int a2), some (.int a3), some (.int a4), none] [] h (ra_oI r)) (a0 : Nat) (a1 : Int32) (a4 : Int32) (a5 : Int32) (h : ra_H) (r : (Int32 × ra_H)) (e : nX5_nearestTo_110 N c22 a0 a1 a4 a5 h = some r) : ra_Ru 3 mX5_nearestTo 110 [some (.ref a0), some (.int a1), none, none, some (.int a4), some (.int a5)] [] h (ra_oI r) :=
  ra_sound (by omega) rfl ra_rI_ok (kX5_nearestTo_110_ok N c22 hc22) (fun m av h h1 e => (ra_c0_ok (ro := ra_oV)) m av h h1 e) (fun m av h x h1 e => (tIX5_nearestTo_ok N) m av h (x, h1) e) (fun m av h x h1 e => (ra_c0_ok (ro := ra_oJ)) m av h (x, h1) e) (fun m av h x h1 e => (ra_c0_ok (ro := ra_oR)) m av h (x, h1) e) (fun m av h x h1 e => (ra_c0_ok (ro := ra_oN)) m av h (x, h1) e) (fun m av h x h1 e => (ra_c0_ok (ro := ra_oF)) m av h (x, h1) e) 5 lX5_nearestTo_110 _ _ _ _ lX5_nearestTo_110_ck (show ra_run ra_rI (kX5_nearestTo_110 N c22) ra_c0 (tIX5_nearestTo N) ra_c0 ra_c0 ra_c0 ra_c0 5 lX5_nearestTo_110 [some (.ref a0), some (.int a1), none, none, some (.int a4), some (.int a5)] [] h = some r from e) _ _ rfl
def lX5_nearestTo_99 : List ra_I := [(99, .iload_n 2, 1, 2, 0, 0, 0, 0, []),
  (100, .iconst (-1), 1, 0, 0, 0, (-1), 0, []),
  (101, .if_icmp .eq (9), 3, 110, 0, 0, 0, 0, []),
  (104, .iload 5, 2, 5, 0, 0, 0, 0, []),
  (106, .iload_n 3, 1, 3, 0, 0, 0, 0, []),
  (107, .if_icmp .ge (9), 3, 116, 0, 0, 0, 0, [])]
set_option maxRecDepth 100000 in
theorem lX5_nearestTo_99_ck : lX5_nearestTo_99.all (ra_ck mX5_nearestTo 5) = true := by decide +kernel
def nX5_nearestTo_99 (N : Nat) (c22 : Nat → Int32 → Int32 → Int32 → Int32 → ra_H → Option (Int32 × ra_H)) (a0 : Nat) (a1 : Int32) (a2 : Int32) (a3 : Int32) (a4 : Int32) (a5 : Int32) (h : ra_H) : Option (Int32 × ra_H) :=
  if a2 = ((-1 : Int32)) then
    nX5_nearestTo_110 N c22 a0 a1 a4 a5 h
  else
    if a5 < a3 then
      nX5_nearestTo_110 N c22 a0 a1 a4 a5 h
    else
      nX5_nearestTo_116 N c22 a0 a1 a2 a3 a4 h
def kX5_nearestTo_99 (N : Nat) (c22 : Nat → Int32 → Int32 → Int32 → Int32 → ra_H → Option (Int32 × ra_H)) : Nat → List (Option Value) → List Value → ra_H → Option (Int32 × ra_H) := (ra_k1 110 (fun L S h => match L, S with
  | [some (.ref a0), some (.int a1), _, _, some (.int a4), some (.int a5)], [] => nX5_nearestTo_110 N c22 a0 a1 a4 a5 h
  | _, _ => none) (ra_k1 116 (fun L S h => match L, S with
  | [some (.ref a0), some (.int a1), some (.int a2), some (.int a3), some (.int a4), _], [] => nX5_nearestTo_116 N c22 a0 a1 a2 a3 a4 h
  | _, _ => none) ra_k0))
theorem kX5_nearestTo_99_ok (N : Nat) (c22 : Nat → Int32 → Int32 → Int32 → Int32 → ra_H → Option (Int32 × ra_H)) (hc22 : ∀ a0 a1 a2 a3 a4 h r, c22 a0 a1 a2 a3 a4 h = some r → ra_Ru 3 mX5_nearestTo 22 [some (.ref a0), some (.int a1), some (.int a2), some (.int a3), some (.int a4), none] [] h (ra_oI r)) : ra_kok 3 mX5_nearestTo ra_oI (kX5_nearestTo_99 N c22) := (ra_k1_ok (by
  intro L S h a e
  split at e
  · exact ra_Ru.weak (nX5_nearestTo_110_ok N c22 hc22 _ _ _ _ _ _ e) ⟨rfl, ⟨rfl, ⟨rfl, ⟨rfl, trivial⟩⟩⟩⟩
  · cases e) (ra_k1_ok (by
  intro L S h a e
  split at e
  · exact ra_Ru.weak (nX5_nearestTo_116_ok N c22 hc22 _ _ _ _ _ _ _ e) ⟨rfl, ⟨rfl, ⟨rfl, ⟨rfl, ⟨rfl, trivial⟩⟩⟩⟩⟩
  · cases e) ra_k0_ok))
set_option maxRecDepth 100000 in
theorem nX5_nearestTo_99_ok (N : Nat) (c22 : Nat → Int32 → Int32 → Int32 → Int32 → ra_H → Option (Int32 × ra_H)) (hc22 : ∀ a0 a1 a2 a3 a4 h r, c22 a0 a1 a2 a3 a4 h = some r → ra_Ru 3 mX5_nearestTo 22 [some (.ref a0), some (.int a1), some (.int a2), some (.int a3), some (.int a4), none] [] h (ra_oI r)) (a0 : Nat) (a1 : Int32) (a2 : Int32) (a3 : Int32) (a4 : Int32) (a5 : Int32) (h : ra_H) (r : (Int32 × ra_H)) (e : nX5_nearestTo_99 N c22 a0 a1 a2 a3 a4 a5 h = some r) : ra_Ru 3 mX5_nearestTo 99 [some (.ref a0), some (.int a1), some (.int a2), some (.int a3), some (.int a4), some (.int a5)] [] h (ra_oI r) :=
  ra_sound (by omega) rfl ra_rI_ok (kX5_nearestTo_99_ok N c22 hc22) (fun m av h h1 e => (ra_c0_ok (ro := ra_oV)) m av h h1 e) (fun m av h x h1 e => (tIX5_nearestTo_ok N) m av h (x, h1) e) (fun m av h x h1 e => (ra_c0_ok (ro := ra_oJ)) m av h (x, h1) e) (fun m av h x h1 e => (ra_c0_ok (ro := ra_oR)) m av h (x, h1) e) (fun m av h x h1 e => (ra_c0_ok (ro := ra_oN)) m av h (x, h1) e) (fun m av h x h1 e => (ra_c0_ok (ro := ra_oF)) m av h (x, h1) e) 7 lX5_nearestTo_99 _ _ _ _ lX5_nearestTo_99_ck (show ra_run ra_rI (kX5_nearestTo_99 N c22) ra_c0 (tIX5_nearestTo N) ra_c0 ra_c0 ra_c0 ra_c0 7 lX5_nearestTo_99 [some (.ref a0), some (.int a1), some (.int a2), some (.int a3), some (.int a4), some (.int a5)] [] h = some r from e) _ _ rfl
def lX5_nearestTo_22 : List ra_I := [(22, .iload 4, 2, 4, 0, 0, 0, 0, []),
  (24, .aload_n 0, 1, 0, 0, 0, 0, 0, []),
  (25, .getfield 15, 3, 5, 0, 2, 0, 0, []),
  (28, .getfield 31, 3, 2, 13, 0, 0, 0, []),
  (31, .if_icmp .ge (91), 3, 122, 0, 0, 0, 0, []),
  (34, .aload_n 0, 1, 0, 0, 0, 0, 0, []),
  (35, .getfield 19, 3, 5, 1, 2, 0, 0, []),
  (38, .getfield 23, 3, 7, 0, 2, 0, 0, []),
  (41, .iload 4, 2, 4, 0, 0, 0, 0, []),
  (43, .iaload, 1, 0, 0, 0, 0, 0, []),
  (44, .iconst (4), 1, 0, 0, 0, (4), 0, []),
  (45, .if_icmp .ne (71), 3, 116, 0, 0, 0, 0, []),
  (48, .aload_n 0, 1, 0, 0, 0, 0, 0, []),
  (49, .iload 4, 2, 4, 0, 0, 0, 0, []),
  (51, .iload_n 1, 1, 1, 0, 0, 0, 0, []),
  (52, .invokevirtual 58, 3, 162, 3, 1, 0, 0, []),
  (55, .ifCond .eq (61), 3, 116, 0, 0, 0, 0, []),
  (58, .iconst (2), 1, 0, 0, 0, (2), 0, []),
  (59, .aload_n 0, 1, 0, 0, 0, 0, 0, []),
  (60, .getfield 15, 3, 5, 0, 2, 0, 0, []),
  (63, .iload_n 1, 1, 1, 0, 0, 0, 0, []),
  (64, .iload 4, 2, 4, 0, 0, 0, 0, []),
  (66, .invokevirtual 54, 3, 163, 3, 1, 0, 0, []),
  (69, .imul, 1, 0, 0, 0, 0, 0, []),
  (70, .istore 5, 2, 5, 0, 0, 0, 0, []),
  (72, .aload_n 0, 1, 0, 0, 0, 0, 0, []),
  (73, .getfield 15, 3, 5, 0, 2, 0, 0, []),
  (76, .iload_n 1, 1, 1, 0, 0, 0, 0, []),
  (77, .bipush (7), 2, 0, 0, 0, (7), 0, []),
  (79, .invokevirtual 61, 3, 27, 3, 1, 0, 0, []),
  (82, .aload_n 0, 1, 0, 0, 0, 0, 0, []),
  (83, .getfield 15, 3, 5, 0, 2, 0, 0, []),
  (86, .iload 4, 2, 4, 0, 0, 0, 0, []),
  (88, .bipush (7), 2, 0, 0, 0, (7), 0, []),
  (90, .invokevirtual 61, 3, 27, 3, 1, 0, 0, []),
  (93, .if_icmp .eq (6), 3, 99, 0, 0, 0, 0, []),
  (96, .iinc 5 (1), 3, 5, 0, 0, (1), 0, []),
  (122, .iload_n 2, 1, 2, 0, 0, 0, 0, []),
  (123, .ireturn, 1, 0, 0, 0, 0, 0, [])]
set_option maxRecDepth 100000 in
theorem lX5_nearestTo_22_ck : lX5_nearestTo_22.all (ra_ck mX5_nearestTo 5) = true := by decide +kernel
def nX5_nearestTo_22 (N : Nat) : Nat → Nat → Int32 → Int32 → Int32 → Int32 → ra_H → Option (Int32 × ra_H)
  | 0, _, _, _, _, _, _ => none
  | n + 1, a0, a1, a2, a3, a4, h =>
  (ra_fR h 5 a0 0).bind fun x1 =>
  (ra_fI h 2 x1 13).bind fun x2 =>
  if a4 < x2 then
    (ra_fR h 5 a0 1).bind fun x3 =>
    (ra_fR h 7 x3 0).bind fun x4 =>
    (ra_aI h 0 x4 a4).bind fun x5 =>
    if x5 = ((4 : Int32)) then
      (fX5_hasRoomBeside N a0 a4 a1 h).bind fun q6 =>
      if q6.1 = 0 then
        nX5_nearestTo_116 N (nX5_nearestTo_22 N n) a0 a1 a2 a3 a4 q6.2
      else
        (ra_fR q6.2 5 a0 0).bind fun x7 =>
        (fX2_dampApart N x7 a1 a4 q6.2).bind fun q8 =>
        let y9 := ((2 : Int32)) * q8.1
        (ra_fR q8.2 5 a0 0).bind fun x10 =>
        (fX2_factOf N x10 a1 ((7 : Int32)) q8.2).bind fun q11 =>
        (ra_fR q11.2 5 a0 0).bind fun x12 =>
        (fX2_factOf N x12 a4 ((7 : Int32)) q11.2).bind fun q13 =>
        if q11.1 = q13.1 then
          nX5_nearestTo_99 N (nX5_nearestTo_22 N n) a0 a1 a2 a3 a4 y9 q13.2
        else
          let y14 := y9 + (1 : Int32)
          nX5_nearestTo_99 N (nX5_nearestTo_22 N n) a0 a1 a2 a3 a4 y14 q13.2
    else
      nX5_nearestTo_116 N (nX5_nearestTo_22 N n) a0 a1 a2 a3 a4 h
  else
    some (a2, h)
def kX5_nearestTo_22 (N : Nat) (cs : Nat → Int32 → Int32 → Int32 → Int32 → ra_H → Option (Int32 × ra_H)) : Nat → List (Option Value) → List Value → ra_H → Option (Int32 × ra_H) := (ra_k1 99 (fun L S h => match L, S with
  | [some (.ref a0), some (.int a1), some (.int a2), some (.int a3), some (.int a4), some (.int a5)], [] => nX5_nearestTo_99 N cs a0 a1 a2 a3 a4 a5 h
  | _, _ => none) (ra_k1 116 (fun L S h => match L, S with
  | [some (.ref a0), some (.int a1), some (.int a2), some (.int a3), some (.int a4), _], [] => nX5_nearestTo_116 N cs a0 a1 a2 a3 a4 h
  | _, _ => none) ra_k0))
theorem kX5_nearestTo_22_ok (N : Nat) (cs : Nat → Int32 → Int32 → Int32 → Int32 → ra_H → Option (Int32 × ra_H)) (hcs : ∀ a0 a1 a2 a3 a4 h r, cs a0 a1 a2 a3 a4 h = some r → ra_Ru 3 mX5_nearestTo 22 [some (.ref a0), some (.int a1), some (.int a2), some (.int a3), some (.int a4), none] [] h (ra_oI r)) : ra_kok 3 mX5_nearestTo ra_oI (kX5_nearestTo_22 N cs) := (ra_k1_ok (by
  intro L S h a e
  split at e
  · exact ra_Ru.weak (nX5_nearestTo_99_ok N cs hcs _ _ _ _ _ _ _ _ e) ⟨rfl, ⟨rfl, ⟨rfl, ⟨rfl, ⟨rfl, ⟨rfl, trivial⟩⟩⟩⟩⟩⟩
  · cases e) (ra_k1_ok (by
  intro L S h a e
  split at e
  · exact ra_Ru.weak (nX5_nearestTo_116_ok N cs hcs _ _ _ _ _ _ _ e) ⟨rfl, ⟨rfl, ⟨rfl, ⟨rfl, ⟨rfl, trivial⟩⟩⟩⟩⟩
  · cases e) ra_k0_ok))
set_option maxRecDepth 100000 in
theorem nX5_nearestTo_22_ok (N : Nat) : ∀ n a0 a1 a2 a3 a4 h r, nX5_nearestTo_22 N n a0 a1 a2 a3 a4 h = some r → ra_Ru 3 mX5_nearestTo 22 [some (.ref a0), some (.int a1), some (.int a2), some (.int a3), some (.int a4), none] [] h (ra_oI r) := by
  intro n
  induction n with
  | zero => intro a0 a1 a2 a3 a4 h r e; cases e
  | succ n ih =>
    intro a0 a1 a2 a3 a4 h r e
    exact ra_sound (by omega) rfl ra_rI_ok (kX5_nearestTo_22_ok N (nX5_nearestTo_22 N n) ih) (fun m av h h1 e => (ra_c0_ok (ro := ra_oV)) m av h h1 e) (fun m av h x h1 e => (tIX5_nearestTo_ok N) m av h (x, h1) e) (fun m av h x h1 e => (ra_c0_ok (ro := ra_oJ)) m av h (x, h1) e) (fun m av h x h1 e => (ra_c0_ok (ro := ra_oR)) m av h (x, h1) e) (fun m av h x h1 e => (ra_c0_ok (ro := ra_oN)) m av h (x, h1) e) (fun m av h x h1 e => (ra_c0_ok (ro := ra_oF)) m av h (x, h1) e) 40 lX5_nearestTo_22 _ _ _ _ lX5_nearestTo_22_ck (show ra_run ra_rI (kX5_nearestTo_22 N (nX5_nearestTo_22 N n)) ra_c0 (tIX5_nearestTo N) ra_c0 ra_c0 ra_c0 ra_c0 40 lX5_nearestTo_22 [some (.ref a0), some (.int a1), some (.int a2), some (.int a3), some (.int a4), none] [] h = some r from e) _ _ rfl
def lX5_nearestTo_0 : List ra_I := [(0, .aload_n 0, 1, 0, 0, 0, 0, 0, []),
  (1, .getfield 19, 3, 5, 1, 2, 0, 0, []),
  (4, .getfield 23, 3, 7, 0, 2, 0, 0, []),
  (7, .iload_n 1, 1, 1, 0, 0, 0, 0, []),
  (8, .iaload, 1, 0, 0, 0, 0, 0, []),
  (9, .iconst (4), 1, 0, 0, 0, (4), 0, []),
  (10, .if_icmp .ne (5), 3, 15, 0, 0, 0, 0, []),
  (13, .iconst (-1), 1, 0, 0, 0, (-1), 0, []),
  (14, .ireturn, 1, 0, 0, 0, 0, 0, []),
  (15, .iconst (-1), 1, 0, 0, 0, (-1), 0, []),
  (16, .istore_n 2, 1, 2, 0, 0, 0, 0, []),
  (17, .iconst (0), 1, 0, 0, 0, (0), 0, []),
  (18, .istore_n 3, 1, 3, 0, 0, 0, 0, []),
  (19, .iconst (0), 1, 0, 0, 0, (0), 0, []),
  (20, .istore 4, 2, 4, 0, 0, 0, 0, [])]
set_option maxRecDepth 100000 in
theorem lX5_nearestTo_0_ck : lX5_nearestTo_0.all (ra_ck mX5_nearestTo 5) = true := by decide +kernel
def nX5_nearestTo_0 (N : Nat) (a0 : Nat) (a1 : Int32) (h : ra_H) : Option (Int32 × ra_H) :=
  (ra_fR h 5 a0 1).bind fun x1 =>
  (ra_fR h 7 x1 0).bind fun x2 =>
  (ra_aI h 0 x2 a1).bind fun x3 =>
  if x3 = ((4 : Int32)) then
    some ((-1 : Int32), h)
  else
    nX5_nearestTo_22 N N a0 a1 ((-1 : Int32)) ((0 : Int32)) ((0 : Int32)) h
def kX5_nearestTo_0 (N : Nat) : Nat → List (Option Value) → List Value → ra_H → Option (Int32 × ra_H) := (ra_k1 22 (fun L S h => match L, S with
  | [some (.ref a0), some (.int a1), some (.int a2), some (.int a3), some (.int a4), _], [] => nX5_nearestTo_22 N N a0 a1 a2 a3 a4 h
  | _, _ => none) ra_k0)
theorem kX5_nearestTo_0_ok (N : Nat) : ra_kok 3 mX5_nearestTo ra_oI (kX5_nearestTo_0 N) := (ra_k1_ok (by
  intro L S h a e
  split at e
  · exact ra_Ru.weak (nX5_nearestTo_22_ok N N _ _ _ _ _ _ _ e) ⟨rfl, ⟨rfl, ⟨rfl, ⟨rfl, ⟨rfl, trivial⟩⟩⟩⟩⟩
  · cases e) ra_k0_ok)
set_option maxRecDepth 100000 in
theorem nX5_nearestTo_0_ok (N : Nat) (a0 : Nat) (a1 : Int32) (h : ra_H) (r : (Int32 × ra_H)) (e : nX5_nearestTo_0 N a0 a1 h = some r) : ra_Ru 3 mX5_nearestTo 0 [some (.ref a0), some (.int a1), none, none, none, none] [] h (ra_oI r) :=
  ra_sound (by omega) rfl ra_rI_ok (kX5_nearestTo_0_ok N) (fun m av h h1 e => (ra_c0_ok (ro := ra_oV)) m av h h1 e) (fun m av h x h1 e => (tIX5_nearestTo_ok N) m av h (x, h1) e) (fun m av h x h1 e => (ra_c0_ok (ro := ra_oJ)) m av h (x, h1) e) (fun m av h x h1 e => (ra_c0_ok (ro := ra_oR)) m av h (x, h1) e) (fun m av h x h1 e => (ra_c0_ok (ro := ra_oN)) m av h (x, h1) e) (fun m av h x h1 e => (ra_c0_ok (ro := ra_oF)) m av h (x, h1) e) 16 lX5_nearestTo_0 _ _ _ _ lX5_nearestTo_0_ck (show ra_run ra_rI (kX5_nearestTo_0 N) ra_c0 (tIX5_nearestTo N) ra_c0 ra_c0 ra_c0 ra_c0 16 lX5_nearestTo_0 [some (.ref a0), some (.int a1), none, none, none, none] [] h = some r from e) _ _ rfl
def fX5_nearestTo (N : Nat) (p0 : Nat) (p1 : Int32) (h : ra_H) : Option (Int32 × ra_H) := match ra_isOb h p0 5 with
  | true => nX5_nearestTo_0 N p0 p1 h
  | false => none
set_option maxRecDepth 100000 in
theorem mtX5_nearestTo : ra_MT[161]? = some (mX5_nearestTo, 1, 1, (1, 8), (5, 168), (5, 169)) := rfl
theorem fX5_nearestTo_co (N : Nat) (p0 : Nat) (p1 : Int32) (h : ra_H) (r : (Int32 × ra_H)) (e : fX5_nearestTo N p0 p1 h = some r) (D : Nat) (hD : 4 ≤ D) : ra_CO D 161 [.ref p0, .int p1] h (ra_oI r).1 (ra_oI r).2 := by
  have hw : ra_nw2 [.ref p0, .int p1] ≤ 6 := Nat.le_of_ble_eq_true rfl
  have hdb : ∀ v ∈ ([.ref p0, .int p1] : List Value), ∀ x, v ≠ .double x := by
    intro v hv x hx
    simp [hx] at hv
  unfold fX5_nearestTo at e
  split at e
  · rename_i ho
    have e1 := e
    exact ⟨3, _, mtX5_nearestTo, hD, ra_ev_of (by decide) hdb hw trivial (ra_Ru.weak (nX5_nearestTo_0_ok N p0 p1 h _ e1) ⟨rfl, ⟨rfl, trivial⟩⟩), (fun _ => ⟨_, _, rfl, ra_rcv_of ho (by decide) rfl⟩), (fun h => absurd h (by decide))⟩
  · cases e
/-! RedMarks$Shelves.bookAt(II)I -/
def mX5_bookAt : ra_M := (yX5_bookAt, cX5_bookAt, 4, (some .int))
def tIX5_bookAt (N : Nat) : Nat → List Value → ra_H → Option (Int32 × ra_H) := (ra_c1 109 (fun av h => match av with
  | [.ref z0, .int z1] => fX5_lineUp N z0 z1 h
  | _ => none) ra_c0)
theorem tIX5_bookAt_ok (N : Nat) : ra_cok 3 ra_oI (tIX5_bookAt N) := (ra_c1_ok (by
  intro av h a e
  split at e
  · exact fX5_lineUp_co N _ _ _ _ e 3 (by omega)
  · cases e) ra_c0_ok)
def lX5_bookAt_25 : List ra_I := [(25, .ireturn, 1, 0, 0, 0, 0, 0, [])]
set_option maxRecDepth 100000 in
theorem lX5_bookAt_25_ck : lX5_bookAt_25.all (ra_ck mX5_bookAt 5) = true := by decide +kernel
def nX5_bookAt_25 (N : Nat) (b0 : Int32) (h : ra_H) : Option (Int32 × ra_H) :=
  some (b0, h)
def kX5_bookAt_25 (N : Nat) : Nat → List (Option Value) → List Value → ra_H → Option (Int32 × ra_H) := ra_k0
theorem kX5_bookAt_25_ok (N : Nat) : ra_kok 3 mX5_bookAt ra_oI (kX5_bookAt_25 N) := ra_k0_ok
set_option maxRecDepth 100000 in
theorem nX5_bookAt_25_ok (N : Nat) (b0 : Int32) (h : ra_H) (r : (Int32 × ra_H)) (e : nX5_bookAt_25 N b0 h = some r) : ra_Ru 3 mX5_bookAt 25 [none, none, none, none] [.int b0] h (ra_oI r) :=
  ra_sound (by omega) rfl ra_rI_ok (kX5_bookAt_25_ok N) (fun m av h h1 e => (ra_c0_ok (ro := ra_oV)) m av h h1 e) (fun m av h x h1 e => (tIX5_bookAt_ok N) m av h (x, h1) e) (fun m av h x h1 e => (ra_c0_ok (ro := ra_oJ)) m av h (x, h1) e) (fun m av h x h1 e => (ra_c0_ok (ro := ra_oR)) m av h (x, h1) e) (fun m av h x h1 e => (ra_c0_ok (ro := ra_oN)) m av h (x, h1) e) (fun m av h x h1 e => (ra_c0_ok (ro := ra_oF)) m av h (x, h1) e) 2 lX5_bookAt_25 _ _ _ _ lX5_bookAt_25_ck (show ra_run ra_rI (kX5_bookAt_25 N) ra_c0 (tIX5_bookAt N) ra_c0 ra_c0 ra_c0 ra_c0 2 lX5_bookAt_25 [none, none, none, none] [.int b0] h = some r from e) _ _ rfl
def lX5_bookAt_24 : List ra_I := [(24, .iconst (-1), 1, 0, 0, 0, (-1), 0, [])]
set_option maxRecDepth 100000 in
theorem lX5_bookAt_24_ck : lX5_bookAt_24.all (ra_ck mX5_bookAt 5) = true := by decide +kernel
def nX5_bookAt_24 (N : Nat) (h : ra_H) : Option (Int32 × ra_H) :=
  nX5_bookAt_25 N ((-1 : Int32)) h
def kX5_bookAt_24 (N : Nat) : Nat → List (Option Value) → List Value → ra_H → Option (Int32 × ra_H) := (ra_k1 25 (fun L S h => match L, S with
  | [_, _, _, _], [.int b0] => nX5_bookAt_25 N b0 h
  | _, _ => none) ra_k0)
theorem kX5_bookAt_24_ok (N : Nat) : ra_kok 3 mX5_bookAt ra_oI (kX5_bookAt_24 N) := (ra_k1_ok (by
  intro L S h a e
  split at e
  · exact ra_Ru.weak (nX5_bookAt_25_ok N _ _ _ e) trivial
  · cases e) ra_k0_ok)
set_option maxRecDepth 100000 in
theorem nX5_bookAt_24_ok (N : Nat) (h : ra_H) (r : (Int32 × ra_H)) (e : nX5_bookAt_24 N h = some r) : ra_Ru 3 mX5_bookAt 24 [none, none, none, none] [] h (ra_oI r) :=
  ra_sound (by omega) rfl ra_rI_ok (kX5_bookAt_24_ok N) (fun m av h h1 e => (ra_c0_ok (ro := ra_oV)) m av h h1 e) (fun m av h x h1 e => (tIX5_bookAt_ok N) m av h (x, h1) e) (fun m av h x h1 e => (ra_c0_ok (ro := ra_oJ)) m av h (x, h1) e) (fun m av h x h1 e => (ra_c0_ok (ro := ra_oR)) m av h (x, h1) e) (fun m av h x h1 e => (ra_c0_ok (ro := ra_oN)) m av h (x, h1) e) (fun m av h x h1 e => (ra_c0_ok (ro := ra_oF)) m av h (x, h1) e) 2 lX5_bookAt_24 _ _ _ _ lX5_bookAt_24_ck (show ra_run ra_rI (kX5_bookAt_24 N) ra_c0 (tIX5_bookAt N) ra_c0 ra_c0 ra_c0 ra_c0 2 lX5_bookAt_24 [none, none, none, none] [] h = some r from e) _ _ rfl
def lX5_bookAt_0 : List ra_I := [(0, .aload_n 0, 1, 0, 0, 0, 0, 0, []),
  (1, .iload_n 1, 1, 1, 0, 0, 0, 0, []),
  (2, .invokevirtual 41, 3, 109, 2, 1, 0, 0, []),
  (5, .istore_n 3, 1, 3, 0, 0, 0, 0, []),
  (6, .iload_n 2, 1, 2, 0, 0, 0, 0, []),
  (7, .ifCond .lt (17), 3, 24, 0, 0, 0, 0, []),
  (10, .iload_n 2, 1, 2, 0, 0, 0, 0, []),
  (11, .iload_n 3, 1, 3, 0, 0, 0, 0, []),
  (12, .if_icmp .ge (12), 3, 24, 0, 0, 0, 0, []),
  (15, .aload_n 0, 1, 0, 0, 0, 0, 0, []),
  (16, .getfield 9, 3, 5, 2, 2, 0, 0, []),
  (19, .iload_n 2, 1, 2, 0, 0, 0, 0, []),
  (20, .iaload, 1, 0, 0, 0, 0, 0, []),
  (21, .goto (4), 3, 25, 0, 0, 0, 0, [])]
set_option maxRecDepth 100000 in
theorem lX5_bookAt_0_ck : lX5_bookAt_0.all (ra_ck mX5_bookAt 5) = true := by decide +kernel
def nX5_bookAt_0 (N : Nat) (a0 : Nat) (a1 : Int32) (a2 : Int32) (h : ra_H) : Option (Int32 × ra_H) :=
  (fX5_lineUp N a0 a1 h).bind fun q1 =>
  if a2 < 0 then
    nX5_bookAt_24 N q1.2
  else
    if a2 < q1.1 then
      (ra_fR q1.2 5 a0 2).bind fun x2 =>
      (ra_aI q1.2 0 x2 a2).bind fun x3 =>
      nX5_bookAt_25 N x3 q1.2
    else
      nX5_bookAt_24 N q1.2
def kX5_bookAt_0 (N : Nat) : Nat → List (Option Value) → List Value → ra_H → Option (Int32 × ra_H) := (ra_k1 24 (fun L S h => match L, S with
  | [_, _, _, _], [] => nX5_bookAt_24 N h
  | _, _ => none) (ra_k1 25 (fun L S h => match L, S with
  | [_, _, _, _], [.int b0] => nX5_bookAt_25 N b0 h
  | _, _ => none) ra_k0))
theorem kX5_bookAt_0_ok (N : Nat) : ra_kok 3 mX5_bookAt ra_oI (kX5_bookAt_0 N) := (ra_k1_ok (by
  intro L S h a e
  split at e
  · exact ra_Ru.weak (nX5_bookAt_24_ok N _ _ e) trivial
  · cases e) (ra_k1_ok (by
  intro L S h a e
  split at e
  · exact ra_Ru.weak (nX5_bookAt_25_ok N _ _ _ e) trivial
  · cases e) ra_k0_ok))
set_option maxRecDepth 100000 in
theorem nX5_bookAt_0_ok (N : Nat) (a0 : Nat) (a1 : Int32) (a2 : Int32) (h : ra_H) (r : (Int32 × ra_H)) (e : nX5_bookAt_0 N a0 a1 a2 h = some r) : ra_Ru 3 mX5_bookAt 0 [some (.ref a0), some (.int a1), some (.int a2), none] [] h (ra_oI r) :=
  ra_sound (by omega) rfl ra_rI_ok (kX5_bookAt_0_ok N) (fun m av h h1 e => (ra_c0_ok (ro := ra_oV)) m av h h1 e) (fun m av h x h1 e => (tIX5_bookAt_ok N) m av h (x, h1) e) (fun m av h x h1 e => (ra_c0_ok (ro := ra_oJ)) m av h (x, h1) e) (fun m av h x h1 e => (ra_c0_ok (ro := ra_oR)) m av h (x, h1) e) (fun m av h x h1 e => (ra_c0_ok (ro := ra_oN)) m av h (x, h1) e) (fun m av h x h1 e => (ra_c0_ok (ro := ra_oF)) m av h (x, h1) e) 15 lX5_bookAt_0 _ _ _ _ lX5_bookAt_0_ck (show ra_run ra_rI (kX5_bookAt_0 N) ra_c0 (tIX5_bookAt N) ra_c0 ra_c0 ra_c0 ra_c0 15 lX5_bookAt_0 [some (.ref a0), some (.int a1), some (.int a2), none] [] h = some r from e) _ _ rfl
def fX5_bookAt (N : Nat) (p0 : Nat) (p1 : Int32) (p2 : Int32) (h : ra_H) : Option (Int32 × ra_H) := match ra_isOb h p0 5 with
  | true => nX5_bookAt_0 N p0 p1 p2 h
  | false => none
set_option maxRecDepth 100000 in
theorem mtX5_bookAt : ra_MT[108]? = some (mX5_bookAt, 1, 2, (1, 8), (4, 185), (4, 186)) := rfl
theorem fX5_bookAt_co (N : Nat) (p0 : Nat) (p1 : Int32) (p2 : Int32) (h : ra_H) (r : (Int32 × ra_H)) (e : fX5_bookAt N p0 p1 p2 h = some r) (D : Nat) (hD : 4 ≤ D) : ra_CO D 108 [.ref p0, .int p1, .int p2] h (ra_oI r).1 (ra_oI r).2 := by
  have hw : ra_nw2 [.ref p0, .int p1, .int p2] ≤ 4 := Nat.le_of_ble_eq_true rfl
  have hdb : ∀ v ∈ ([.ref p0, .int p1, .int p2] : List Value), ∀ x, v ≠ .double x := by
    intro v hv x hx
    simp [hx] at hv
  unfold fX5_bookAt at e
  split at e
  · rename_i ho
    have e1 := e
    exact ⟨3, _, mtX5_bookAt, hD, ra_ev_of (by decide) hdb hw trivial (ra_Ru.weak (nX5_bookAt_0_ok N p0 p1 p2 h _ e1) ⟨rfl, ⟨rfl, ⟨rfl, trivial⟩⟩⟩), (fun _ => ⟨_, _, rfl, ra_rcv_of ho (by decide) rfl⟩), (fun h => absurd h (by decide))⟩
  · cases e
/-! RedMarks$Histories.standingIn(III)I -/
def mX1_standingIn : ra_M := (yX1_standingIn, cX1_standingIn, 4, (some .int))
def tVX1_standingIn (N : Nat) : Nat → List Value → ra_H → Option ra_H := (ra_c1 94 (fun av h => match av with
  | [.ref z0, .ref z1, .int z2, .int z3, .int z4] => fX1_settle N z0 z1 z2 z3 z4 h
  | _ => none) ra_c0)
theorem tVX1_standingIn_ok (N : Nat) : ra_cok 6 ra_oV (tVX1_standingIn N) := (ra_c1_ok (by
  intro av h a e
  split at e
  · exact fX1_settle_co N _ _ _ _ _ _ _ e 6 (by omega)
  · cases e) ra_c0_ok)
def lX1_standingIn_0 : List ra_I := [(0, .aload_n 0, 1, 0, 0, 0, 0, 0, []),
  (1, .aload_n 0, 1, 0, 0, 0, 0, 0, []),
  (2, .getfield 34, 3, 1, 8, 2, 0, 0, []),
  (5, .iload_n 1, 1, 1, 0, 0, 0, 0, []),
  (6, .iload_n 2, 1, 2, 0, 0, 0, 0, []),
  (7, .iload_n 3, 1, 3, 0, 0, 0, 0, []),
  (8, .invokevirtual 93, 3, 94, 5, 0, 0, 0, []),
  (11, .aload_n 0, 1, 0, 0, 0, 0, 0, []),
  (12, .getfield 34, 3, 1, 8, 2, 0, 0, []),
  (15, .getfield 97, 3, 7, 3, 0, 0, 0, []),
  (18, .ireturn, 1, 0, 0, 0, 0, 0, [])]
set_option maxRecDepth 100000 in
theorem lX1_standingIn_0_ck : lX1_standingIn_0.all (ra_ck mX1_standingIn 1) = true := by decide +kernel
def nX1_standingIn_0 (N : Nat) (a0 : Nat) (a1 : Int32) (a2 : Int32) (a3 : Int32) (h : ra_H) : Option (Int32 × ra_H) :=
  (ra_fR h 1 a0 8).bind fun x1 =>
  (fX1_settle N a0 x1 a1 a2 a3 h).bind fun h2 =>
  (ra_fR h2 1 a0 8).bind fun x3 =>
  (ra_fI h2 7 x3 3).bind fun x4 =>
  some (x4, h2)
def kX1_standingIn_0 (N : Nat) : Nat → List (Option Value) → List Value → ra_H → Option (Int32 × ra_H) := ra_k0
theorem kX1_standingIn_0_ok (N : Nat) : ra_kok 6 mX1_standingIn ra_oI (kX1_standingIn_0 N) := ra_k0_ok
set_option maxRecDepth 100000 in
theorem nX1_standingIn_0_ok (N : Nat) (a0 : Nat) (a1 : Int32) (a2 : Int32) (a3 : Int32) (h : ra_H) (r : (Int32 × ra_H)) (e : nX1_standingIn_0 N a0 a1 a2 a3 h = some r) : ra_Ru 6 mX1_standingIn 0 [some (.ref a0), some (.int a1), some (.int a2), some (.int a3)] [] h (ra_oI r) :=
  ra_sound (by omega) rfl ra_rI_ok (kX1_standingIn_0_ok N) (fun m av h h1 e => (tVX1_standingIn_ok N) m av h h1 e) (fun m av h x h1 e => (ra_c0_ok (ro := ra_oI)) m av h (x, h1) e) (fun m av h x h1 e => (ra_c0_ok (ro := ra_oJ)) m av h (x, h1) e) (fun m av h x h1 e => (ra_c0_ok (ro := ra_oR)) m av h (x, h1) e) (fun m av h x h1 e => (ra_c0_ok (ro := ra_oN)) m av h (x, h1) e) (fun m av h x h1 e => (ra_c0_ok (ro := ra_oF)) m av h (x, h1) e) 12 lX1_standingIn_0 _ _ _ _ lX1_standingIn_0_ck (show ra_run ra_rI (kX1_standingIn_0 N) (tVX1_standingIn N) ra_c0 ra_c0 ra_c0 ra_c0 ra_c0 12 lX1_standingIn_0 [some (.ref a0), some (.int a1), some (.int a2), some (.int a3)] [] h = some r from e) _ _ rfl
def fX1_standingIn (N : Nat) (p0 : Nat) (p1 : Int32) (p2 : Int32) (p3 : Int32) (h : ra_H) : Option (Int32 × ra_H) := match ra_isOb h p0 1 with
  | true => nX1_standingIn_0 N p0 p1 p2 p3 h
  | false => none
set_option maxRecDepth 100000 in
theorem mtX1_standingIn : ra_MT[93]? = some (mX1_standingIn, 1, 3, (1, 6), (4, 121), (4, 122)) := rfl
theorem fX1_standingIn_co (N : Nat) (p0 : Nat) (p1 : Int32) (p2 : Int32) (p3 : Int32) (h : ra_H) (r : (Int32 × ra_H)) (e : fX1_standingIn N p0 p1 p2 p3 h = some r) (D : Nat) (hD : 7 ≤ D) : ra_CO D 93 [.ref p0, .int p1, .int p2, .int p3] h (ra_oI r).1 (ra_oI r).2 := by
  have hw : ra_nw2 [.ref p0, .int p1, .int p2, .int p3] ≤ 4 := Nat.le_of_ble_eq_true rfl
  have hdb : ∀ v ∈ ([.ref p0, .int p1, .int p2, .int p3] : List Value), ∀ x, v ≠ .double x := by
    intro v hv x hx
    simp [hx] at hv
  unfold fX1_standingIn at e
  split at e
  · rename_i ho
    have e1 := e
    exact ⟨6, _, mtX1_standingIn, hD, ra_ev_of (by decide) hdb hw trivial (ra_Ru.weak (nX1_standingIn_0_ok N p0 p1 p2 p3 h _ e1) ⟨rfl, ⟨rfl, ⟨rfl, ⟨rfl, trivial⟩⟩⟩⟩), (fun _ => ⟨_, _, rfl, ra_rcv_of ho (by decide) rfl⟩), (fun h => absurd h (by decide))⟩
  · cases e
/-! RedMarks$Shelves.sharesHouse(II[I)Z -/
def mX5_sharesHouse : ra_M := (yX5_sharesHouse, cX5_sharesHouse, 6, (some .boolean))
def lX5_sharesHouse_47 : List ra_I := [(47, .iinc 5 (1), 3, 5, 0, 0, (1), 0, []),
  (50, .goto (-37), 3, 13, 0, 0, 0, 0, [])]
set_option maxRecDepth 100000 in
theorem lX5_sharesHouse_47_ck : lX5_sharesHouse_47.all (ra_ck mX5_sharesHouse 5) = true := by decide +kernel
def nX5_sharesHouse_47 (N : Nat) (c13 : Nat → Int32 → Int32 → Nat → Int32 → Int32 → ra_H → Option (Int32 × ra_H)) (a0 : Nat) (a1 : Int32) (a2 : Int32) (a3 : Nat) (a4 : Int32) (a5 : Int32) (h : ra_H) : Option (Int32 × ra_H) :=
  let y1 := a5 + (1 : Int32)
  c13 a0 a1 a2 a3 a4 y1 h
def kX5_sharesHouse_47 (N : Nat) (c13 : Nat → Int32 → Int32 → Nat → Int32 → Int32 → ra_H → Option (Int32 × ra_H)) : Nat → List (Option Value) → List Value → ra_H → Option (Int32 × ra_H) := (ra_k1 13 (fun L S h => match L, S with
  | [some (.ref a0), some (.int a1), some (.int a2), some (.ref a3), some (.int a4), some (.int a5)], [] => c13 a0 a1 a2 a3 a4 a5 h
  | _, _ => none) ra_k0)
theorem kX5_sharesHouse_47_ok (N : Nat) (c13 : Nat → Int32 → Int32 → Nat → Int32 → Int32 → ra_H → Option (Int32 × ra_H)) (hc13 : ∀ a0 a1 a2 a3 a4 a5 h r, c13 a0 a1 a2 a3 a4 a5 h = some r → ra_Ru 1 mX5_sharesHouse 13 [some (.ref a0), some (.int a1), some (.int a2), some (.ref a3), some (.int a4), some (.int a5)] [] h (ra_oI r)) : ra_kok 1 mX5_sharesHouse ra_oI (kX5_sharesHouse_47 N c13) := (ra_k1_ok (by
  intro L S h a e
  split at e
  · exact ra_Ru.weak (hc13 _ _ _ _ _ _ _ _ e) ⟨rfl, ⟨rfl, ⟨rfl, ⟨rfl, ⟨rfl, ⟨rfl, trivial⟩⟩⟩⟩⟩⟩
  · cases e) ra_k0_ok)
set_option maxRecDepth 100000 in
theorem nX5_sharesHouse_47_ok (N : Nat) (c13 : Nat → Int32 → Int32 → Nat → Int32 → Int32 → ra_H → Option (Int32 × ra_H)) (hc13 : ∀ a0 a1 a2 a3 a4 a5 h r, c13 a0 a1 a2 a3 a4 a5 h = some r → ra_Ru 1 mX5_sharesHouse 13 [some (.ref a0), some (.int a1), some (.int a2), some (.ref a3), some (.int a4), some (.int a5)] [] h (ra_oI r)) (a0 : Nat) (a1 : Int32) (a2 : Int32) (a3 : Nat) (a4 : Int32) (a5 : Int32) (h : ra_H) (r : (Int32 × ra_H)) (e : nX5_sharesHouse_47 N c13 a0 a1 a2 a3 a4 a5 h = some r) : ra_Ru 1 mX5_sharesHouse 47 [some (.ref a0), some (.int a1), some (.int a2), some (.ref a3), some (.int a4), some (.int a5)] [] h (ra_oI r) :=
  ra_sound (by omega) rfl ra_rI_ok (kX5_sharesHouse_47_ok N c13 hc13) (fun m av h h1 e => (ra_c0_ok (ro := ra_oV)) m av h h1 e) (fun m av h x h1 e => (ra_c0_ok (ro := ra_oI)) m av h (x, h1) e) (fun m av h x h1 e => (ra_c0_ok (ro := ra_oJ)) m av h (x, h1) e) (fun m av h x h1 e => (ra_c0_ok (ro := ra_oR)) m av h (x, h1) e) (fun m av h x h1 e => (ra_c0_ok (ro := ra_oN)) m av h (x, h1) e) (fun m av h x h1 e => (ra_c0_ok (ro := ra_oF)) m av h (x, h1) e) 3 lX5_sharesHouse_47 _ _ _ _ lX5_sharesHouse_47_ck (show ra_run ra_rI (kX5_sharesHouse_47 N c13) ra_c0 ra_c0 ra_c0 ra_c0 ra_c0 ra_c0 3 lX5_sharesHouse_47 [some (.ref a0), some (.int a1), some (.int a2), some (.ref a3), some (.int a4), some (.int a5)] [] h = some r from e) _ _ rfl
def lX5_sharesHouse_13 : List ra_I := [(13, .iload 5, 2, 5, 0, 0, 0, 0, []),
  (15, .iload_n 2, 1, 2, 0, 0, 0, 0, []),
  (16, .if_icmp .ge (37), 3, 53, 0, 0, 0, 0, []),
  (19, .iload 5, 2, 5, 0, 0, 0, 0, []),
  (21, .iload_n 1, 1, 1, 0, 0, 0, 0, []),
  (22, .if_icmp .eq (25), 3, 47, 0, 0, 0, 0, []),
  (25, .iload 4, 2, 4, 0, 0, 0, 0, []),
  (27, .iconst (-1), 1, 0, 0, 0, (-1), 0, []),
  (28, .if_icmp .eq (19), 3, 47, 0, 0, 0, 0, []),
  (31, .aload_n 3, 1, 3, 0, 0, 0, 0, []),
  (32, .aload_n 0, 1, 0, 0, 0, 0, 0, []),
  (33, .getfield 9, 3, 5, 2, 2, 0, 0, []),
  (36, .iload 5, 2, 5, 0, 0, 0, 0, []),
  (38, .iaload, 1, 0, 0, 0, 0, 0, []),
  (39, .iaload, 1, 0, 0, 0, 0, 0, []),
  (40, .iload 4, 2, 4, 0, 0, 0, 0, []),
  (42, .if_icmp .ne (5), 3, 47, 0, 0, 0, 0, []),
  (45, .iconst (1), 1, 0, 0, 0, (1), 0, []),
  (46, .ireturn, 1, 0, 0, 0, 0, 0, []),
  (53, .iconst (0), 1, 0, 0, 0, (0), 0, []),
  (54, .ireturn, 1, 0, 0, 0, 0, 0, [])]
set_option maxRecDepth 100000 in
theorem lX5_sharesHouse_13_ck : lX5_sharesHouse_13.all (ra_ck mX5_sharesHouse 5) = true := by decide +kernel
def nX5_sharesHouse_13 (N : Nat) : Nat → Nat → Int32 → Int32 → Nat → Int32 → Int32 → ra_H → Option (Int32 × ra_H)
  | 0, _, _, _, _, _, _, _ => none
  | n + 1, a0, a1, a2, a3, a4, a5, h =>
  if a5 < a2 then
    if a5 = a1 then
      nX5_sharesHouse_47 N (nX5_sharesHouse_13 N n) a0 a1 a2 a3 a4 a5 h
    else
      if a4 = ((-1 : Int32)) then
        nX5_sharesHouse_47 N (nX5_sharesHouse_13 N n) a0 a1 a2 a3 a4 a5 h
      else
        (ra_fR h 5 a0 2).bind fun x1 =>
        (ra_aI h 0 x1 a5).bind fun x2 =>
        (ra_aI h 0 a3 x2).bind fun x3 =>
        if x3 = a4 then
          some ((1 : Int32), h)
        else
          nX5_sharesHouse_47 N (nX5_sharesHouse_13 N n) a0 a1 a2 a3 a4 a5 h
  else
    some ((0 : Int32), h)
def kX5_sharesHouse_13 (N : Nat) (cs : Nat → Int32 → Int32 → Nat → Int32 → Int32 → ra_H → Option (Int32 × ra_H)) : Nat → List (Option Value) → List Value → ra_H → Option (Int32 × ra_H) := (ra_k1 47 (fun L S h => match L, S with
  | [some (.ref a0), some (.int a1), some (.int a2), some (.ref a3), some (.int a4), some (.int a5)], [] => nX5_sharesHouse_47 N cs a0 a1 a2 a3 a4 a5 h
  | _, _ => none) ra_k0)
theorem kX5_sharesHouse_13_ok (N : Nat) (cs : Nat → Int32 → Int32 → Nat → Int32 → Int32 → ra_H → Option (Int32 × ra_H)) (hcs : ∀ a0 a1 a2 a3 a4 a5 h r, cs a0 a1 a2 a3 a4 a5 h = some r → ra_Ru 1 mX5_sharesHouse 13 [some (.ref a0), some (.int a1), some (.int a2), some (.ref a3), some (.int a4), some (.int a5)] [] h (ra_oI r)) : ra_kok 1 mX5_sharesHouse ra_oI (kX5_sharesHouse_13 N cs) := (ra_k1_ok (by
  intro L S h a e
  split at e
  · exact ra_Ru.weak (nX5_sharesHouse_47_ok N cs hcs _ _ _ _ _ _ _ _ e) ⟨rfl, ⟨rfl, ⟨rfl, ⟨rfl, ⟨rfl, ⟨rfl, trivial⟩⟩⟩⟩⟩⟩
  · cases e) ra_k0_ok)
set_option maxRecDepth 100000 in
theorem nX5_sharesHouse_13_ok (N : Nat) : ∀ n a0 a1 a2 a3 a4 a5 h r, nX5_sharesHouse_13 N n a0 a1 a2 a3 a4 a5 h = some r → ra_Ru 1 mX5_sharesHouse 13 [some (.ref a0), some (.int a1), some (.int a2), some (.ref a3), some (.int a4), some (.int a5)] [] h (ra_oI r) := by
  intro n
  induction n with
  | zero => intro a0 a1 a2 a3 a4 a5 h r e; cases e
  | succ n ih =>
    intro a0 a1 a2 a3 a4 a5 h r e
    exact ra_sound (by omega) rfl ra_rI_ok (kX5_sharesHouse_13_ok N (nX5_sharesHouse_13 N n) ih) (fun m av h h1 e => (ra_c0_ok (ro := ra_oV)) m av h h1 e) (fun m av h x h1 e => (ra_c0_ok (ro := ra_oI)) m av h (x, h1) e) (fun m av h x h1 e => (ra_c0_ok (ro := ra_oJ)) m av h (x, h1) e) (fun m av h x h1 e => (ra_c0_ok (ro := ra_oR)) m av h (x, h1) e) (fun m av h x h1 e => (ra_c0_ok (ro := ra_oN)) m av h (x, h1) e) (fun m av h x h1 e => (ra_c0_ok (ro := ra_oF)) m av h (x, h1) e) 22 lX5_sharesHouse_13 _ _ _ _ lX5_sharesHouse_13_ck (show ra_run ra_rI (kX5_sharesHouse_13 N (nX5_sharesHouse_13 N n)) ra_c0 ra_c0 ra_c0 ra_c0 ra_c0 ra_c0 22 lX5_sharesHouse_13 [some (.ref a0), some (.int a1), some (.int a2), some (.ref a3), some (.int a4), some (.int a5)] [] h = some r from e) _ _ rfl
def lX5_sharesHouse_0 : List ra_I := [(0, .aload_n 3, 1, 3, 0, 0, 0, 0, []),
  (1, .aload_n 0, 1, 0, 0, 0, 0, 0, []),
  (2, .getfield 9, 3, 5, 2, 2, 0, 0, []),
  (5, .iload_n 1, 1, 1, 0, 0, 0, 0, []),
  (6, .iaload, 1, 0, 0, 0, 0, 0, []),
  (7, .iaload, 1, 0, 0, 0, 0, 0, []),
  (8, .istore 4, 2, 4, 0, 0, 0, 0, []),
  (10, .iconst (0), 1, 0, 0, 0, (0), 0, []),
  (11, .istore 5, 2, 5, 0, 0, 0, 0, [])]
set_option maxRecDepth 100000 in
theorem lX5_sharesHouse_0_ck : lX5_sharesHouse_0.all (ra_ck mX5_sharesHouse 5) = true := by decide +kernel
def nX5_sharesHouse_0 (N : Nat) (a0 : Nat) (a1 : Int32) (a2 : Int32) (a3 : Nat) (h : ra_H) : Option (Int32 × ra_H) :=
  (ra_fR h 5 a0 2).bind fun x1 =>
  (ra_aI h 0 x1 a1).bind fun x2 =>
  (ra_aI h 0 a3 x2).bind fun x3 =>
  nX5_sharesHouse_13 N N a0 a1 a2 a3 x3 ((0 : Int32)) h
def kX5_sharesHouse_0 (N : Nat) : Nat → List (Option Value) → List Value → ra_H → Option (Int32 × ra_H) := (ra_k1 13 (fun L S h => match L, S with
  | [some (.ref a0), some (.int a1), some (.int a2), some (.ref a3), some (.int a4), some (.int a5)], [] => nX5_sharesHouse_13 N N a0 a1 a2 a3 a4 a5 h
  | _, _ => none) ra_k0)
theorem kX5_sharesHouse_0_ok (N : Nat) : ra_kok 1 mX5_sharesHouse ra_oI (kX5_sharesHouse_0 N) := (ra_k1_ok (by
  intro L S h a e
  split at e
  · exact ra_Ru.weak (nX5_sharesHouse_13_ok N N _ _ _ _ _ _ _ _ e) ⟨rfl, ⟨rfl, ⟨rfl, ⟨rfl, ⟨rfl, ⟨rfl, trivial⟩⟩⟩⟩⟩⟩
  · cases e) ra_k0_ok)
set_option maxRecDepth 100000 in
theorem nX5_sharesHouse_0_ok (N : Nat) (a0 : Nat) (a1 : Int32) (a2 : Int32) (a3 : Nat) (h : ra_H) (r : (Int32 × ra_H)) (e : nX5_sharesHouse_0 N a0 a1 a2 a3 h = some r) : ra_Ru 1 mX5_sharesHouse 0 [some (.ref a0), some (.int a1), some (.int a2), some (.ref a3), none, none] [] h (ra_oI r) :=
  ra_sound (by omega) rfl ra_rI_ok (kX5_sharesHouse_0_ok N) (fun m av h h1 e => (ra_c0_ok (ro := ra_oV)) m av h h1 e) (fun m av h x h1 e => (ra_c0_ok (ro := ra_oI)) m av h (x, h1) e) (fun m av h x h1 e => (ra_c0_ok (ro := ra_oJ)) m av h (x, h1) e) (fun m av h x h1 e => (ra_c0_ok (ro := ra_oR)) m av h (x, h1) e) (fun m av h x h1 e => (ra_c0_ok (ro := ra_oN)) m av h (x, h1) e) (fun m av h x h1 e => (ra_c0_ok (ro := ra_oF)) m av h (x, h1) e) 10 lX5_sharesHouse_0 _ _ _ _ lX5_sharesHouse_0_ck (show ra_run ra_rI (kX5_sharesHouse_0 N) ra_c0 ra_c0 ra_c0 ra_c0 ra_c0 ra_c0 10 lX5_sharesHouse_0 [some (.ref a0), some (.int a1), some (.int a2), some (.ref a3), none, none] [] h = some r from e) _ _ rfl
def fX5_sharesHouse (N : Nat) (p0 : Nat) (p1 : Int32) (p2 : Int32) (p3 : Nat) (h : ra_H) : Option (Int32 × ra_H) := match ra_isOb h p0 5 with
  | true => (nX5_sharesHouse_0 N p0 p1 p2 p3 h).bind (fun q => ra_rz q.1 q.2)
  | false => none
set_option maxRecDepth 100000 in
theorem mtX5_sharesHouse : ra_MT[198]? = some (mX5_sharesHouse, 1, 3, (1, 8), (6, 88), (0, 60)) := rfl
theorem fX5_sharesHouse_co (N : Nat) (p0 : Nat) (p1 : Int32) (p2 : Int32) (p3 : Nat) (h : ra_H) (r : (Int32 × ra_H)) (e : fX5_sharesHouse N p0 p1 p2 p3 h = some r) (D : Nat) (hD : 2 ≤ D) : ra_CO D 198 [.ref p0, .int p1, .int p2, .ref p3] h (ra_oI r).1 (ra_oI r).2 := by
  have hw : ra_nw2 [.ref p0, .int p1, .int p2, .ref p3] ≤ 6 := Nat.le_of_ble_eq_true rfl
  have hdb : ∀ v ∈ ([.ref p0, .int p1, .int p2, .ref p3] : List Value), ∀ x, v ≠ .double x := by
    intro v hv x hx
    simp [hx] at hv
  unfold fX5_sharesHouse at e
  split at e
  · rename_i ho
    obtain ⟨q, e1, e2⟩ := Option.bind_eq_some_iff.mp e
    obtain ⟨rfl, hz⟩ := ra_rz_of e2
    exact ⟨1, _, mtX5_sharesHouse, hD, ra_ev_of (by decide) hdb hw hz (ra_Ru.weak (nX5_sharesHouse_0_ok N p0 p1 p2 p3 h _ e1) ⟨rfl, ⟨rfl, ⟨rfl, ⟨rfl, trivial⟩⟩⟩⟩), (fun _ => ⟨_, _, rfl, ra_rcv_of ho (by decide) rfl⟩), (fun h => absurd h (by decide))⟩
  · cases e
/-! RedMarks$Shelves.sharingHouses(I[I)I -/
def mX5_sharingHouses : ra_M := (yX5_sharingHouses, cX5_sharingHouses, 6, (some .int))
def tIX5_sharingHouses (N : Nat) : Nat → List Value → ra_H → Option (Int32 × ra_H) := (ra_c1 109 (fun av h => match av with
  | [.ref z0, .int z1] => fX5_lineUp N z0 z1 h
  | _ => none) (ra_c1 198 (fun av h => match av with
  | [.ref z0, .int z1, .int z2, .ref z3] => fX5_sharesHouse N z0 z1 z2 z3 h
  | _ => none) ra_c0))
theorem tIX5_sharingHouses_ok (N : Nat) : ra_cok 3 ra_oI (tIX5_sharingHouses N) := (ra_c1_ok (by
  intro av h a e
  split at e
  · exact fX5_lineUp_co N _ _ _ _ e 3 (by omega)
  · cases e) (ra_c1_ok (by
  intro av h a e
  split at e
  · exact fX5_sharesHouse_co N _ _ _ _ _ _ e 3 (by omega)
  · cases e) ra_c0_ok))
def lX5_sharingHouses_32 : List ra_I := [(32, .iinc 5 (1), 3, 5, 0, 0, (1), 0, []),
  (35, .goto (-23), 3, 12, 0, 0, 0, 0, [])]
set_option maxRecDepth 100000 in
theorem lX5_sharingHouses_32_ck : lX5_sharingHouses_32.all (ra_ck mX5_sharingHouses 5) = true := by decide +kernel
def nX5_sharingHouses_32 (N : Nat) (c12 : Nat → Nat → Int32 → Int32 → Int32 → ra_H → Option (Int32 × ra_H)) (a0 : Nat) (a2 : Nat) (a3 : Int32) (a4 : Int32) (a5 : Int32) (h : ra_H) : Option (Int32 × ra_H) :=
  let y1 := a5 + (1 : Int32)
  c12 a0 a2 a3 a4 y1 h
def kX5_sharingHouses_32 (N : Nat) (c12 : Nat → Nat → Int32 → Int32 → Int32 → ra_H → Option (Int32 × ra_H)) : Nat → List (Option Value) → List Value → ra_H → Option (Int32 × ra_H) := (ra_k1 12 (fun L S h => match L, S with
  | [some (.ref a0), _, some (.ref a2), some (.int a3), some (.int a4), some (.int a5)], [] => c12 a0 a2 a3 a4 a5 h
  | _, _ => none) ra_k0)
theorem kX5_sharingHouses_32_ok (N : Nat) (c12 : Nat → Nat → Int32 → Int32 → Int32 → ra_H → Option (Int32 × ra_H)) (hc12 : ∀ a0 a2 a3 a4 a5 h r, c12 a0 a2 a3 a4 a5 h = some r → ra_Ru 3 mX5_sharingHouses 12 [some (.ref a0), none, some (.ref a2), some (.int a3), some (.int a4), some (.int a5)] [] h (ra_oI r)) : ra_kok 3 mX5_sharingHouses ra_oI (kX5_sharingHouses_32 N c12) := (ra_k1_ok (by
  intro L S h a e
  split at e
  · exact ra_Ru.weak (hc12 _ _ _ _ _ _ _ e) ⟨rfl, ⟨rfl, ⟨rfl, ⟨rfl, ⟨rfl, trivial⟩⟩⟩⟩⟩
  · cases e) ra_k0_ok)
set_option maxRecDepth 100000 in
theorem nX5_sharingHouses_32_ok (N : Nat) (c12 : Nat → Nat → Int32 → Int32 → Int32 → ra_H → Option (Int32 × ra_H)) (hc12 : ∀ a0 a2 a3 a4 a5 h r, c12 a0 a2 a3 a4 a5 h = some r → ra_Ru 3 mX5_sharingHouses 12 [some (.ref a0), none, some (.ref a2), some (.int a3), some (.int a4), some (.int a5)] [] h (ra_oI r)) (a0 : Nat) (a2 : Nat) (a3 : Int32) (a4 : Int32) (a5 : Int32) (h : ra_H) (r : (Int32 × ra_H)) (e : nX5_sharingHouses_32 N c12 a0 a2 a3 a4 a5 h = some r) : ra_Ru 3 mX5_sharingHouses 32 [some (.ref a0), none, some (.ref a2), some (.int a3), some (.int a4), some (.int a5)] [] h (ra_oI r) :=
  ra_sound (by omega) rfl ra_rI_ok (kX5_sharingHouses_32_ok N c12 hc12) (fun m av h h1 e => (ra_c0_ok (ro := ra_oV)) m av h h1 e) (fun m av h x h1 e => (tIX5_sharingHouses_ok N) m av h (x, h1) e) (fun m av h x h1 e => (ra_c0_ok (ro := ra_oJ)) m av h (x, h1) e) (fun m av h x h1 e => (ra_c0_ok (ro := ra_oR)) m av h (x, h1) e) (fun m av h x h1 e => (ra_c0_ok (ro := ra_oN)) m av h (x, h1) e) (fun m av h x h1 e => (ra_c0_ok (ro := ra_oF)) m av h (x, h1) e) 3 lX5_sharingHouses_32 _ _ _ _ lX5_sharingHouses_32_ck (show ra_run ra_rI (kX5_sharingHouses_32 N c12) ra_c0 (tIX5_sharingHouses N) ra_c0 ra_c0 ra_c0 ra_c0 3 lX5_sharingHouses_32 [some (.ref a0), none, some (.ref a2), some (.int a3), some (.int a4), some (.int a5)] [] h = some r from e) _ _ rfl
def lX5_sharingHouses_12 : List ra_I := [(12, .iload 5, 2, 5, 0, 0, 0, 0, []),
  (14, .iload_n 3, 1, 3, 0, 0, 0, 0, []),
  (15, .if_icmp .ge (23), 3, 38, 0, 0, 0, 0, []),
  (18, .aload_n 0, 1, 0, 0, 0, 0, 0, []),
  (19, .iload 5, 2, 5, 0, 0, 0, 0, []),
  (21, .iload_n 3, 1, 3, 0, 0, 0, 0, []),
  (22, .aload_n 2, 1, 2, 0, 0, 0, 0, []),
  (23, .invokevirtual 67, 3, 198, 4, 1, 0, 0, []),
  (26, .ifCond .eq (6), 3, 32, 0, 0, 0, 0, []),
  (29, .iinc 4 (1), 3, 4, 0, 0, (1), 0, []),
  (38, .iload 4, 2, 4, 0, 0, 0, 0, []),
  (40, .ireturn, 1, 0, 0, 0, 0, 0, [])]
set_option maxRecDepth 100000 in
theorem lX5_sharingHouses_12_ck : lX5_sharingHouses_12.all (ra_ck mX5_sharingHouses 5) = true := by decide +kernel
def nX5_sharingHouses_12 (N : Nat) : Nat → Nat → Nat → Int32 → Int32 → Int32 → ra_H → Option (Int32 × ra_H)
  | 0, _, _, _, _, _, _ => none
  | n + 1, a0, a2, a3, a4, a5, h =>
  if a5 < a3 then
    (fX5_sharesHouse N a0 a5 a3 a2 h).bind fun q1 =>
    if q1.1 = 0 then
      nX5_sharingHouses_32 N (nX5_sharingHouses_12 N n) a0 a2 a3 a4 a5 q1.2
    else
      let y2 := a4 + (1 : Int32)
      nX5_sharingHouses_32 N (nX5_sharingHouses_12 N n) a0 a2 a3 y2 a5 q1.2
  else
    some (a4, h)
def kX5_sharingHouses_12 (N : Nat) (cs : Nat → Nat → Int32 → Int32 → Int32 → ra_H → Option (Int32 × ra_H)) : Nat → List (Option Value) → List Value → ra_H → Option (Int32 × ra_H) := (ra_k1 32 (fun L S h => match L, S with
  | [some (.ref a0), _, some (.ref a2), some (.int a3), some (.int a4), some (.int a5)], [] => nX5_sharingHouses_32 N cs a0 a2 a3 a4 a5 h
  | _, _ => none) ra_k0)
theorem kX5_sharingHouses_12_ok (N : Nat) (cs : Nat → Nat → Int32 → Int32 → Int32 → ra_H → Option (Int32 × ra_H)) (hcs : ∀ a0 a2 a3 a4 a5 h r, cs a0 a2 a3 a4 a5 h = some r → ra_Ru 3 mX5_sharingHouses 12 [some (.ref a0), none, some (.ref a2), some (.int a3), some (.int a4), some (.int a5)] [] h (ra_oI r)) : ra_kok 3 mX5_sharingHouses ra_oI (kX5_sharingHouses_12 N cs) := (ra_k1_ok (by
  intro L S h a e
  split at e
  · exact ra_Ru.weak (nX5_sharingHouses_32_ok N cs hcs _ _ _ _ _ _ _ e) ⟨rfl, ⟨rfl, ⟨rfl, ⟨rfl, ⟨rfl, trivial⟩⟩⟩⟩⟩
  · cases e) ra_k0_ok)
set_option maxRecDepth 100000 in
theorem nX5_sharingHouses_12_ok (N : Nat) : ∀ n a0 a2 a3 a4 a5 h r, nX5_sharingHouses_12 N n a0 a2 a3 a4 a5 h = some r → ra_Ru 3 mX5_sharingHouses 12 [some (.ref a0), none, some (.ref a2), some (.int a3), some (.int a4), some (.int a5)] [] h (ra_oI r) := by
  intro n
  induction n with
  | zero => intro a0 a2 a3 a4 a5 h r e; cases e
  | succ n ih =>
    intro a0 a2 a3 a4 a5 h r e
    exact ra_sound (by omega) rfl ra_rI_ok (kX5_sharingHouses_12_ok N (nX5_sharingHouses_12 N n) ih) (fun m av h h1 e => (ra_c0_ok (ro := ra_oV)) m av h h1 e) (fun m av h x h1 e => (tIX5_sharingHouses_ok N) m av h (x, h1) e) (fun m av h x h1 e => (ra_c0_ok (ro := ra_oJ)) m av h (x, h1) e) (fun m av h x h1 e => (ra_c0_ok (ro := ra_oR)) m av h (x, h1) e) (fun m av h x h1 e => (ra_c0_ok (ro := ra_oN)) m av h (x, h1) e) (fun m av h x h1 e => (ra_c0_ok (ro := ra_oF)) m av h (x, h1) e) 13 lX5_sharingHouses_12 _ _ _ _ lX5_sharingHouses_12_ck (show ra_run ra_rI (kX5_sharingHouses_12 N (nX5_sharingHouses_12 N n)) ra_c0 (tIX5_sharingHouses N) ra_c0 ra_c0 ra_c0 ra_c0 13 lX5_sharingHouses_12 [some (.ref a0), none, some (.ref a2), some (.int a3), some (.int a4), some (.int a5)] [] h = some r from e) _ _ rfl
def lX5_sharingHouses_0 : List ra_I := [(0, .aload_n 0, 1, 0, 0, 0, 0, 0, []),
  (1, .iload_n 1, 1, 1, 0, 0, 0, 0, []),
  (2, .invokevirtual 41, 3, 109, 2, 1, 0, 0, []),
  (5, .istore_n 3, 1, 3, 0, 0, 0, 0, []),
  (6, .iconst (0), 1, 0, 0, 0, (0), 0, []),
  (7, .istore 4, 2, 4, 0, 0, 0, 0, []),
  (9, .iconst (0), 1, 0, 0, 0, (0), 0, []),
  (10, .istore 5, 2, 5, 0, 0, 0, 0, [])]
set_option maxRecDepth 100000 in
theorem lX5_sharingHouses_0_ck : lX5_sharingHouses_0.all (ra_ck mX5_sharingHouses 5) = true := by decide +kernel
def nX5_sharingHouses_0 (N : Nat) (a0 : Nat) (a1 : Int32) (a2 : Nat) (h : ra_H) : Option (Int32 × ra_H) :=
  (fX5_lineUp N a0 a1 h).bind fun q1 =>
  nX5_sharingHouses_12 N N a0 a2 q1.1 ((0 : Int32)) ((0 : Int32)) q1.2
def kX5_sharingHouses_0 (N : Nat) : Nat → List (Option Value) → List Value → ra_H → Option (Int32 × ra_H) := (ra_k1 12 (fun L S h => match L, S with
  | [some (.ref a0), _, some (.ref a2), some (.int a3), some (.int a4), some (.int a5)], [] => nX5_sharingHouses_12 N N a0 a2 a3 a4 a5 h
  | _, _ => none) ra_k0)
theorem kX5_sharingHouses_0_ok (N : Nat) : ra_kok 3 mX5_sharingHouses ra_oI (kX5_sharingHouses_0 N) := (ra_k1_ok (by
  intro L S h a e
  split at e
  · exact ra_Ru.weak (nX5_sharingHouses_12_ok N N _ _ _ _ _ _ _ e) ⟨rfl, ⟨rfl, ⟨rfl, ⟨rfl, ⟨rfl, trivial⟩⟩⟩⟩⟩
  · cases e) ra_k0_ok)
set_option maxRecDepth 100000 in
theorem nX5_sharingHouses_0_ok (N : Nat) (a0 : Nat) (a1 : Int32) (a2 : Nat) (h : ra_H) (r : (Int32 × ra_H)) (e : nX5_sharingHouses_0 N a0 a1 a2 h = some r) : ra_Ru 3 mX5_sharingHouses 0 [some (.ref a0), some (.int a1), some (.ref a2), none, none, none] [] h (ra_oI r) :=
  ra_sound (by omega) rfl ra_rI_ok (kX5_sharingHouses_0_ok N) (fun m av h h1 e => (ra_c0_ok (ro := ra_oV)) m av h h1 e) (fun m av h x h1 e => (tIX5_sharingHouses_ok N) m av h (x, h1) e) (fun m av h x h1 e => (ra_c0_ok (ro := ra_oJ)) m av h (x, h1) e) (fun m av h x h1 e => (ra_c0_ok (ro := ra_oR)) m av h (x, h1) e) (fun m av h x h1 e => (ra_c0_ok (ro := ra_oN)) m av h (x, h1) e) (fun m av h x h1 e => (ra_c0_ok (ro := ra_oF)) m av h (x, h1) e) 9 lX5_sharingHouses_0 _ _ _ _ lX5_sharingHouses_0_ck (show ra_run ra_rI (kX5_sharingHouses_0 N) ra_c0 (tIX5_sharingHouses N) ra_c0 ra_c0 ra_c0 ra_c0 9 lX5_sharingHouses_0 [some (.ref a0), some (.int a1), some (.ref a2), none, none, none] [] h = some r from e) _ _ rfl
def fX5_sharingHouses (N : Nat) (p0 : Nat) (p1 : Int32) (p2 : Nat) (h : ra_H) : Option (Int32 × ra_H) := match ra_isOb h p0 5 with
  | true => nX5_sharingHouses_0 N p0 p1 p2 h
  | false => none
set_option maxRecDepth 100000 in
theorem mtX5_sharingHouses : ra_MT[197]? = some (mX5_sharingHouses, 1, 2, (1, 8), (6, 83), (6, 84)) := rfl
theorem fX5_sharingHouses_co (N : Nat) (p0 : Nat) (p1 : Int32) (p2 : Nat) (h : ra_H) (r : (Int32 × ra_H)) (e : fX5_sharingHouses N p0 p1 p2 h = some r) (D : Nat) (hD : 4 ≤ D) : ra_CO D 197 [.ref p0, .int p1, .ref p2] h (ra_oI r).1 (ra_oI r).2 := by
  have hw : ra_nw2 [.ref p0, .int p1, .ref p2] ≤ 6 := Nat.le_of_ble_eq_true rfl
  have hdb : ∀ v ∈ ([.ref p0, .int p1, .ref p2] : List Value), ∀ x, v ≠ .double x := by
    intro v hv x hx
    simp [hx] at hv
  unfold fX5_sharingHouses at e
  split at e
  · rename_i ho
    have e1 := e
    exact ⟨3, _, mtX5_sharingHouses, hD, ra_ev_of (by decide) hdb hw trivial (ra_Ru.weak (nX5_sharingHouses_0_ok N p0 p1 p2 h _ e1) ⟨rfl, ⟨rfl, ⟨rfl, trivial⟩⟩⟩), (fun _ => ⟨_, _, rfl, ra_rcv_of ho (by decide) rfl⟩), (fun h => absurd h (by decide))⟩
  · cases e
