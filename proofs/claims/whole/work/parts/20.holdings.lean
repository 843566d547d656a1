/-! java/util/Arrays.fill([II)V -/
def mJ7_fill_53178 : ra_M := (yJ7_fill_53178, cJ7_fill_53178, 4, none)
def lJ7_fill_53178_5 : List ra_I := [(5, .iload_n 2, 1, 2, 0, 0, 0, 0, []),
  (6, .iload_n 3, 1, 3, 0, 0, 0, 0, []),
  (7, .if_icmp .ge (13), 3, 20, 0, 0, 0, 0, []),
  (10, .aload_n 0, 1, 0, 0, 0, 0, 0, []),
  (11, .iload_n 2, 1, 2, 0, 0, 0, 0, []),
  (12, .iload_n 1, 1, 1, 0, 0, 0, 0, []),
  (13, .iastore, 1, 0, 0, 0, 0, 0, []),
  (14, .iinc 2 (1), 3, 2, 0, 0, (1), 0, []),
  (17, .goto (-12), 3, 5, 0, 0, 0, 0, []),
  (20, .return_, 1, 0, 0, 0, 0, 0, [])]
set_option maxRecDepth 100000 in
theorem lJ7_fill_53178_5_ck : lJ7_fill_53178_5.all (ra_ck mJ7_fill_53178 21) = true := by decide +kernel
def nJ7_fill_53178_5 (N : Nat) : Nat → Nat → Int32 → Int32 → Int32 → ra_H → Option ra_H
  | 0, _, _, _, _, _ => none
  | n + 1, a0, a1, a2, a3, h =>
  if a2 < a3 then
    (ra_aW h 0 a0 a2 a1).bind fun h1 =>
    let y2 := a2 + (1 : Int32)
    nJ7_fill_53178_5 N n a0 a1 y2 a3 h1
  else
    some h
def kJ7_fill_53178_5 (N : Nat) (cs : Nat → Int32 → Int32 → Int32 → ra_H → Option ra_H) : Nat → List (Option Value) → List Value → ra_H → Option ra_H := (ra_k1 5 (fun L S h => match L, S with
  | [some (.ref a0), some (.int a1), some (.int a2), some (.int a3)], [] => cs a0 a1 a2 a3 h
  | _, _ => none) ra_k0)
theorem kJ7_fill_53178_5_ok (N : Nat) (cs : Nat → Int32 → Int32 → Int32 → ra_H → Option ra_H) (hcs : ∀ a0 a1 a2 a3 h r, cs a0 a1 a2 a3 h = some r → ra_Ru 1 mJ7_fill_53178 5 [some (.ref a0), some (.int a1), some (.int a2), some (.int a3)] [] h (ra_oV r)) : ra_kok 1 mJ7_fill_53178 ra_oV (kJ7_fill_53178_5 N cs) := (ra_k1_ok (by
  intro L S h a e
  split at e
  · exact ra_Ru.weak (hcs _ _ _ _ _ _ e) ⟨rfl, ⟨rfl, ⟨rfl, ⟨rfl, trivial⟩⟩⟩⟩
  · cases e) ra_k0_ok)
set_option maxRecDepth 100000 in
theorem nJ7_fill_53178_5_ok (N : Nat) : ∀ n a0 a1 a2 a3 h r, nJ7_fill_53178_5 N n a0 a1 a2 a3 h = some r → ra_Ru 1 mJ7_fill_53178 5 [some (.ref a0), some (.int a1), some (.int a2), some (.int a3)] [] h (ra_oV r) := by
  intro n
  induction n with
  | zero => intro a0 a1 a2 a3 h r e; cases e
  | succ n ih =>
    intro a0 a1 a2 a3 h r e
    exact ra_sound (by omega) rfl ra_rV_ok (kJ7_fill_53178_5_ok N (nJ7_fill_53178_5 N n) ih) (fun m av h h1 e => (ra_c0_ok (ro := ra_oV)) m av h h1 e) (fun m av h x h1 e => (ra_c0_ok (ro := ra_oI)) m av h (x, h1) e) (fun m av h x h1 e => (ra_c0_ok (ro := ra_oJ)) m av h (x, h1) e) (fun m av h x h1 e => (ra_c0_ok (ro := ra_oR)) m av h (x, h1) e) (fun m av h x h1 e => (ra_c0_ok (ro := ra_oN)) m av h (x, h1) e) (fun m av h x h1 e => (ra_c0_ok (ro := ra_oF)) m av h (x, h1) e) 11 lJ7_fill_53178_5 _ _ _ _ lJ7_fill_53178_5_ck (show ra_run ra_rV (kJ7_fill_53178_5 N (nJ7_fill_53178_5 N n)) ra_c0 ra_c0 ra_c0 ra_c0 ra_c0 ra_c0 11 lJ7_fill_53178_5 [some (.ref a0), some (.int a1), some (.int a2), some (.int a3)] [] h = some r from e) _ _ rfl
def lJ7_fill_53178_0 : List ra_I := [(0, .iconst (0), 1, 0, 0, 0, (0), 0, []),
  (1, .istore_n 2, 1, 2, 0, 0, 0, 0, []),
  (2, .aload_n 0, 1, 0, 0, 0, 0, 0, []),
  (3, .arraylength, 1, 0, 0, 0, 0, 0, []),
  (4, .istore_n 3, 1, 3, 0, 0, 0, 0, [])]
set_option maxRecDepth 100000 in
theorem lJ7_fill_53178_0_ck : lJ7_fill_53178_0.all (ra_ck mJ7_fill_53178 21) = true := by decide +kernel
def nJ7_fill_53178_0 (N : Nat) (a0 : Nat) (a1 : Int32) (h : ra_H) : Option ra_H :=
  (ra_aL h a0).bind fun x1 =>
  nJ7_fill_53178_5 N N a0 a1 ((0 : Int32)) x1 h
def kJ7_fill_53178_0 (N : Nat) : Nat → List (Option Value) → List Value → ra_H → Option ra_H := (ra_k1 5 (fun L S h => match L, S with
  | [some (.ref a0), some (.int a1), some (.int a2), some (.int a3)], [] => nJ7_fill_53178_5 N N a0 a1 a2 a3 h
  | _, _ => none) ra_k0)
theorem kJ7_fill_53178_0_ok (N : Nat) : ra_kok 1 mJ7_fill_53178 ra_oV (kJ7_fill_53178_0 N) := (ra_k1_ok (by
  intro L S h a e
  split at e
  · exact ra_Ru.weak (nJ7_fill_53178_5_ok N N _ _ _ _ _ _ e) ⟨rfl, ⟨rfl, ⟨rfl, ⟨rfl, trivial⟩⟩⟩⟩
  · cases e) ra_k0_ok)
set_option maxRecDepth 100000 in
theorem nJ7_fill_53178_0_ok (N : Nat) (a0 : Nat) (a1 : Int32) (h : ra_H) (r : ra_H) (e : nJ7_fill_53178_0 N a0 a1 h = some r) : ra_Ru 1 mJ7_fill_53178 0 [some (.ref a0), some (.int a1), none, none] [] h (ra_oV r) :=
  ra_sound (by omega) rfl ra_rV_ok (kJ7_fill_53178_0_ok N) (fun m av h h1 e => (ra_c0_ok (ro := ra_oV)) m av h h1 e) (fun m av h x h1 e => (ra_c0_ok (ro := ra_oI)) m av h (x, h1) e) (fun m av h x h1 e => (ra_c0_ok (ro := ra_oJ)) m av h (x, h1) e) (fun m av h x h1 e => (ra_c0_ok (ro := ra_oR)) m av h (x, h1) e) (fun m av h x h1 e => (ra_c0_ok (ro := ra_oN)) m av h (x, h1) e) (fun m av h x h1 e => (ra_c0_ok (ro := ra_oF)) m av h (x, h1) e) 6 lJ7_fill_53178_0 _ _ _ _ lJ7_fill_53178_0_ck (show ra_run ra_rV (kJ7_fill_53178_0 N) ra_c0 ra_c0 ra_c0 ra_c0 ra_c0 ra_c0 6 lJ7_fill_53178_0 [some (.ref a0), some (.int a1), none, none] [] h = some r from e) _ _ rfl
def fJ7_fill_53178 (N : Nat) (p0 : Nat) (p1 : Int32) (h : ra_H) : Option ra_H := nJ7_fill_53178_0 N p0 p1 h
set_option maxRecDepth 100000 in
theorem mtJ7_fill_53178 : ra_MT[3]? = some (mJ7_fill_53178, 0, 2, (1, 3), (1, 39), (0, 0)) := rfl
theorem fJ7_fill_53178_co (N : Nat) (p0 : Nat) (p1 : Int32) (h : ra_H) (r : ra_H) (e : fJ7_fill_53178 N p0 p1 h = some r) (D : Nat) (hD : 2 ≤ D) : ra_CO D 3 [.ref p0, .int p1] h (ra_oV r).1 (ra_oV r).2 := by
  have hw : ra_nw2 [.ref p0, .int p1] ≤ 4 := Nat.le_of_ble_eq_true rfl
  have hdb : ∀ v ∈ ([.ref p0, .int p1] : List Value), ∀ x, v ≠ .double x := by
    intro v hv x hx
    simp [hx] at hv
  unfold fJ7_fill_53178 at e
  have e1 := e
  exact ⟨1, _, mtJ7_fill_53178, hD, ra_ev_of (by decide) hdb hw trivial (ra_Ru.weak (nJ7_fill_53178_0_ok N p0 p1 h _ e1) ⟨rfl, ⟨rfl, trivial⟩⟩), (fun h => absurd h (by decide)), (fun h => absurd h (by decide))⟩
/-! RedMarks$Holdings.<init>()V -/
def mX2_init : ra_M := (yX2_init, cX2_init, 1, none)
def tVX2_init (N : Nat) : Nat → List Value → ra_H → Option ra_H := (ra_c1 3 (fun av h => match av with
  | [.ref z0, .int z1] => fJ7_fill_53178 N z0 z1 h
  | _ => none) ra_c0)
theorem tVX2_init_ok (N : Nat) : ra_cok 2 ra_oV (tVX2_init N) := (ra_c1_ok (by
  intro av h a e
  split at e
  · exact fJ7_fill_53178_co N _ _ _ _ e 2 (by omega)
  · cases e) ra_c0_ok)
def lX2_init_0 : List ra_I := [(0, .aload_n 0, 1, 0, 0, 0, 0, 0, []),
  (1, .invokespecial 3, 3, 0, 0, 23, 0, 0, []),
  (4, .aload_n 0, 1, 0, 0, 0, 0, 0, []),
  (5, .sipush (480), 3, 0, 0, 0, (480), 0, []),
  (8, .newarray .int, 2, 0, 0, 0, 0, 0, []),
  (10, .putfield 9, 3, 2, 0, 2, 0, 0, []),
  (13, .aload_n 0, 1, 0, 0, 0, 0, 0, []),
  (14, .bipush (9), 2, 0, 0, 0, (9), 0, []),
  (16, .newarray .int, 2, 0, 0, 0, 0, 0, []),
  (18, .putfield 15, 3, 2, 1, 2, 0, 0, []),
  (21, .aload_n 0, 1, 0, 0, 0, 0, 0, []),
  (22, .bipush (54), 2, 0, 0, 0, (54), 0, []),
  (24, .newarray .int, 2, 0, 0, 0, 0, 0, []),
  (26, .putfield 18, 3, 2, 2, 2, 0, 0, []),
  (29, .aload_n 0, 1, 0, 0, 0, 0, 0, []),
  (30, .bipush (54), 2, 0, 0, 0, (54), 0, []),
  (32, .newarray .int, 2, 0, 0, 0, 0, 0, []),
  (34, .putfield 21, 3, 2, 3, 2, 0, 0, []),
  (37, .aload_n 0, 1, 0, 0, 0, 0, 0, []),
  (38, .bipush (8), 2, 0, 0, 0, (8), 0, []),
  (40, .anewarray 24, 3, 4, 0, 0, 0, 0, []),
  (43, .putfield 26, 3, 2, 4, 2, 0, 0, []),
  (46, .aload_n 0, 1, 0, 0, 0, 0, 0, []),
  (47, .sipush (144), 3, 0, 0, 0, (144), 0, []),
  (50, .newarray .int, 2, 0, 0, 0, 0, 0, []),
  (52, .putfield 30, 3, 2, 5, 2, 0, 0, []),
  (55, .aload_n 0, 1, 0, 0, 0, 0, 0, []),
  (56, .bipush (12), 2, 0, 0, 0, (12), 0, []),
  (58, .newarray .int, 2, 0, 0, 0, 0, 0, []),
  (60, .putfield 33, 3, 2, 6, 2, 0, 0, []),
  (63, .aload_n 0, 1, 0, 0, 0, 0, 0, []),
  (64, .bipush (10), 2, 0, 0, 0, (10), 0, []),
  (66, .newarray .int, 2, 0, 0, 0, 0, 0, []),
  (68, .putfield 36, 3, 2, 7, 2, 0, 0, []),
  (71, .aload_n 0, 1, 0, 0, 0, 0, 0, []),
  (72, .bipush (10), 2, 0, 0, 0, (10), 0, []),
  (74, .newarray .int, 2, 0, 0, 0, 0, 0, []),
  (76, .putfield 39, 3, 2, 8, 2, 0, 0, []),
  (79, .aload_n 0, 1, 0, 0, 0, 0, 0, []),
  (80, .bipush (9), 2, 0, 0, 0, (9), 0, []),
  (82, .newarray .int, 2, 0, 0, 0, 0, 0, []),
  (84, .putfield 42, 3, 2, 9, 2, 0, 0, []),
  (87, .aload_n 0, 1, 0, 0, 0, 0, 0, []),
  (88, .bipush (12), 2, 0, 0, 0, (12), 0, []),
  (90, .newarray .int, 2, 0, 0, 0, 0, 0, []),
  (92, .putfield 45, 3, 2, 10, 2, 0, 0, []),
  (95, .aload_n 0, 1, 0, 0, 0, 0, 0, []),
  (96, .bipush (12), 2, 0, 0, 0, (12), 0, []),
  (98, .newarray .int, 2, 0, 0, 0, 0, 0, []),
  (100, .putfield 48, 3, 2, 11, 2, 0, 0, []),
  (103, .aload_n 0, 1, 0, 0, 0, 0, 0, []),
  (104, .bipush (12), 2, 0, 0, 0, (12), 0, []),
  (106, .newarray .int, 2, 0, 0, 0, 0, 0, []),
  (108, .putfield 51, 3, 2, 12, 2, 0, 0, []),
  (111, .aload_n 0, 1, 0, 0, 0, 0, 0, []),
  (112, .iconst (-1), 1, 0, 0, 0, (-1), 0, []),
  (113, .putfield 54, 3, 2, 17, 0, 0, 0, []),
  (116, .aload_n 0, 1, 0, 0, 0, 0, 0, []),
  (117, .iconst (-1), 1, 0, 0, 0, (-1), 0, []),
  (118, .putfield 58, 3, 2, 18, 0, 0, 0, []),
  (121, .aload_n 0, 1, 0, 0, 0, 0, 0, []),
  (122, .getfield 18, 3, 2, 2, 2, 0, 0, []),
  (125, .bipush (100), 2, 0, 0, 0, (100), 0, []),
  (127, .invokestatic 61, 3, 3, 2, 0, 0, 0, []),
  (130, .aload_n 0, 1, 0, 0, 0, 0, 0, []),
  (131, .getfield 21, 3, 2, 3, 2, 0, 0, []),
  (134, .bipush (40), 2, 0, 0, 0, (40), 0, []),
  (136, .invokestatic 61, 3, 3, 2, 0, 0, 0, []),
  (139, .aload_n 0, 1, 0, 0, 0, 0, 0, []),
  (140, .getfield 39, 3, 2, 8, 2, 0, 0, []),
  (143, .sipush (199), 3, 0, 0, 0, (199), 0, []),
  (146, .invokestatic 61, 3, 3, 2, 0, 0, 0, []),
  (149, .aload_n 0, 1, 0, 0, 0, 0, 0, []),
  (150, .getfield 51, 3, 2, 12, 2, 0, 0, []),
  (153, .iconst (1), 1, 0, 0, 0, (1), 0, []),
  (154, .invokestatic 61, 3, 3, 2, 0, 0, 0, []),
  (157, .return_, 1, 0, 0, 0, 0, 0, [])]
set_option maxRecDepth 100000 in
theorem lX2_init_0_ck : lX2_init_0.all (ra_ck mX2_init 2) = true := by decide +kernel
def nX2_init_0 (N : Nat) (a0 : Nat) (h : ra_H) : Option ra_H :=
  if ((480 : Int32)) < 0 ∨ 50000000 < (Int32.toNatClampNeg ((480 : Int32))) then none else
  let h1 := ra_mk h (ra_na 0 (Int32.toNatClampNeg ((480 : Int32)))) (Int32.toNatClampNeg ((480 : Int32)))
  (ra_fW h1 2 a0 0 (.ref h.2.1)).bind fun h2 =>
  if ((9 : Int32)) < 0 ∨ 50000000 < (Int32.toNatClampNeg ((9 : Int32))) then none else
  let h3 := ra_mk h2 (ra_na 0 (Int32.toNatClampNeg ((9 : Int32)))) (Int32.toNatClampNeg ((9 : Int32)))
  (ra_fW h3 2 a0 1 (.ref h2.2.1)).bind fun h4 =>
  if ((54 : Int32)) < 0 ∨ 50000000 < (Int32.toNatClampNeg ((54 : Int32))) then none else
  let h5 := ra_mk h4 (ra_na 0 (Int32.toNatClampNeg ((54 : Int32)))) (Int32.toNatClampNeg ((54 : Int32)))
  (ra_fW h5 2 a0 2 (.ref h4.2.1)).bind fun h6 =>
  if ((54 : Int32)) < 0 ∨ 50000000 < (Int32.toNatClampNeg ((54 : Int32))) then none else
  let h7 := ra_mk h6 (ra_na 0 (Int32.toNatClampNeg ((54 : Int32)))) (Int32.toNatClampNeg ((54 : Int32)))
  (ra_fW h7 2 a0 3 (.ref h6.2.1)).bind fun h8 =>
  if ((8 : Int32)) < 0 ∨ 50000000 < (Int32.toNatClampNeg ((8 : Int32))) then none else
  let h9 := ra_mk h8 (ra_nr 4 (Int32.toNatClampNeg ((8 : Int32)))) (Int32.toNatClampNeg ((8 : Int32)))
  (ra_fW h9 2 a0 4 (.ref h8.2.1)).bind fun h10 =>
  if ((144 : Int32)) < 0 ∨ 50000000 < (Int32.toNatClampNeg ((144 : Int32))) then none else
  let h11 := ra_mk h10 (ra_na 0 (Int32.toNatClampNeg ((144 : Int32)))) (Int32.toNatClampNeg ((144 : Int32)))
  (ra_fW h11 2 a0 5 (.ref h10.2.1)).bind fun h12 =>
  if ((12 : Int32)) < 0 ∨ 50000000 < (Int32.toNatClampNeg ((12 : Int32))) then none else
  let h13 := ra_mk h12 (ra_na 0 (Int32.toNatClampNeg ((12 : Int32)))) (Int32.toNatClampNeg ((12 : Int32)))
  (ra_fW h13 2 a0 6 (.ref h12.2.1)).bind fun h14 =>
  if ((10 : Int32)) < 0 ∨ 50000000 < (Int32.toNatClampNeg ((10 : Int32))) then none else
  let h15 := ra_mk h14 (ra_na 0 (Int32.toNatClampNeg ((10 : Int32)))) (Int32.toNatClampNeg ((10 : Int32)))
  (ra_fW h15 2 a0 7 (.ref h14.2.1)).bind fun h16 =>
  if ((10 : Int32)) < 0 ∨ 50000000 < (Int32.toNatClampNeg ((10 : Int32))) then none else
  let h17 := ra_mk h16 (ra_na 0 (Int32.toNatClampNeg ((10 : Int32)))) (Int32.toNatClampNeg ((10 : Int32)))
  (ra_fW h17 2 a0 8 (.ref h16.2.1)).bind fun h18 =>
  if ((9 : Int32)) < 0 ∨ 50000000 < (Int32.toNatClampNeg ((9 : Int32))) then none else
  let h19 := ra_mk h18 (ra_na 0 (Int32.toNatClampNeg ((9 : Int32)))) (Int32.toNatClampNeg ((9 : Int32)))
  (ra_fW h19 2 a0 9 (.ref h18.2.1)).bind fun h20 =>
  if ((12 : Int32)) < 0 ∨ 50000000 < (Int32.toNatClampNeg ((12 : Int32))) then none else
  let h21 := ra_mk h20 (ra_na 0 (Int32.toNatClampNeg ((12 : Int32)))) (Int32.toNatClampNeg ((12 : Int32)))
  (ra_fW h21 2 a0 10 (.ref h20.2.1)).bind fun h22 =>
  if ((12 : Int32)) < 0 ∨ 50000000 < (Int32.toNatClampNeg ((12 : Int32))) then none else
  let h23 := ra_mk h22 (ra_na 0 (Int32.toNatClampNeg ((12 : Int32)))) (Int32.toNatClampNeg ((12 : Int32)))
  (ra_fW h23 2 a0 11 (.ref h22.2.1)).bind fun h24 =>
  if ((12 : Int32)) < 0 ∨ 50000000 < (Int32.toNatClampNeg ((12 : Int32))) then none else
  let h25 := ra_mk h24 (ra_na 0 (Int32.toNatClampNeg ((12 : Int32)))) (Int32.toNatClampNeg ((12 : Int32)))
  (ra_fW h25 2 a0 12 (.ref h24.2.1)).bind fun h26 =>
  (ra_fW h26 2 a0 17 (.int ((-1 : Int32)))).bind fun h27 =>
  (ra_fW h27 2 a0 18 (.int ((-1 : Int32)))).bind fun h28 =>
  (ra_fR h28 2 a0 2).bind fun x29 =>
  (fJ7_fill_53178 N x29 ((100 : Int32)) h28).bind fun h30 =>
  (ra_fR h30 2 a0 3).bind fun x31 =>
  (fJ7_fill_53178 N x31 ((40 : Int32)) h30).bind fun h32 =>
  (ra_fR h32 2 a0 8).bind fun x33 =>
  (fJ7_fill_53178 N x33 ((199 : Int32)) h32).bind fun h34 =>
  (ra_fR h34 2 a0 12).bind fun x35 =>
  (fJ7_fill_53178 N x35 ((1 : Int32)) h34).bind fun h36 =>
  some h36
def kX2_init_0 (N : Nat) : Nat → List (Option Value) → List Value → ra_H → Option ra_H := ra_k0
theorem kX2_init_0_ok (N : Nat) : ra_kok 2 mX2_init ra_oV (kX2_init_0 N) := ra_k0_ok
set_option maxRecDepth 100000 in
theorem nX2_init_0_ok (N : Nat) (a0 : Nat) (h : ra_H) (r : ra_H) (e : nX2_init_0 N a0 h = some r) : ra_Ru 2 mX2_init 0 [some (.ref a0)] [] h (ra_oV r) :=
  ra_sound (by omega) rfl ra_rV_ok (kX2_init_0_ok N) (fun m av h h1 e => (tVX2_init_ok N) m av h h1 e) (fun m av h x h1 e => (ra_c0_ok (ro := ra_oI)) m av h (x, h1) e) (fun m av h x h1 e => (ra_c0_ok (ro := ra_oJ)) m av h (x, h1) e) (fun m av h x h1 e => (ra_c0_ok (ro := ra_oR)) m av h (x, h1) e) (fun m av h x h1 e => (ra_c0_ok (ro := ra_oN)) m av h (x, h1) e) (fun m av h x h1 e => (ra_c0_ok (ro := ra_oF)) m av h (x, h1) e) 78 lX2_init_0 _ _ _ _ lX2_init_0_ck (show ra_run ra_rV (kX2_init_0 N) (tVX2_init N) ra_c0 ra_c0 ra_c0 ra_c0 ra_c0 78 lX2_init_0 [some (.ref a0)] [] h = some r from e) _ _ rfl
def fX2_init (N : Nat) (p0 : Nat) (h : ra_H) : Option ra_H := nX2_init_0 N p0 h
set_option maxRecDepth 100000 in
theorem mtX2_init : ra_MT[2]? = some (mX2_init, 2, 0, (1, 2), (1, 33), (0, 0)) := rfl
theorem fX2_init_co (N : Nat) (p0 : Nat) (h : ra_H) (r : ra_H) (e : fX2_init N p0 h = some r) (D : Nat) (hD : 3 ≤ D) : ra_CO D 2 [.ref p0] h (ra_oV r).1 (ra_oV r).2 := by
  have hw : ra_nw2 [.ref p0] ≤ 1 := Nat.le_of_ble_eq_true rfl
  have hdb : ∀ v ∈ ([.ref p0] : List Value), ∀ x, v ≠ .double x := by
    intro v hv x hx
    simp [hx] at hv
  unfold fX2_init at e
  have e1 := e
  exact ⟨2, _, mtX2_init, hD, ra_ev_of (by decide) hdb hw trivial (ra_Ru.weak (nX2_init_0_ok N p0 h _ e1) ⟨rfl, trivial⟩), (fun h => absurd h (by decide)), (fun _ => ⟨_, _, rfl⟩)⟩
/-! RedMarks$Holdings.setFact(III)V -/
def mX2_setFact : ra_M := (yX2_setFact, cX2_setFact, 4, none)
def lX2_setFact_0 : List ra_I := [(0, .aload_n 0, 1, 0, 0, 0, 0, 0, []),
  (1, .getfield 9, 3, 2, 0, 2, 0, 0, []),
  (4, .iload_n 1, 1, 1, 0, 0, 0, 0, []),
  (5, .bipush (12), 2, 0, 0, 0, (12), 0, []),
  (7, .imul, 1, 0, 0, 0, 0, 0, []),
  (8, .iload_n 2, 1, 2, 0, 0, 0, 0, []),
  (9, .iadd, 1, 0, 0, 0, 0, 0, []),
  (10, .iload_n 3, 1, 3, 0, 0, 0, 0, []),
  (11, .iastore, 1, 0, 0, 0, 0, 0, []),
  (12, .return_, 1, 0, 0, 0, 0, 0, [])]
set_option maxRecDepth 100000 in
theorem lX2_setFact_0_ck : lX2_setFact_0.all (ra_ck mX2_setFact 2) = true := by decide +kernel
def nX2_setFact_0 (N : Nat) (a0 : Nat) (a1 : Int32) (a2 : Int32) (a3 : Int32) (h : ra_H) : Option ra_H :=
  (ra_fR h 2 a0 0).bind fun x1 =>
  (ra_aW h 0 x1 ((a1 * ((12 : Int32))) + a2) a3).bind fun h2 =>
  some h2
def kX2_setFact_0 (N : Nat) : Nat → List (Option Value) → List Value → ra_H → Option ra_H := ra_k0
theorem kX2_setFact_0_ok (N : Nat) : ra_kok 1 mX2_setFact ra_oV (kX2_setFact_0 N) := ra_k0_ok
set_option maxRecDepth 100000 in
theorem nX2_setFact_0_ok (N : Nat) (a0 : Nat) (a1 : Int32) (a2 : Int32) (a3 : Int32) (h : ra_H) (r : ra_H) (e : nX2_setFact_0 N a0 a1 a2 a3 h = some r) : ra_Ru 1 mX2_setFact 0 [some (.ref a0), some (.int a1), some (.int a2), some (.int a3)] [] h (ra_oV r) :=
  ra_sound (by omega) rfl ra_rV_ok (kX2_setFact_0_ok N) (fun m av h h1 e => (ra_c0_ok (ro := ra_oV)) m av h h1 e) (fun m av h x h1 e => (ra_c0_ok (ro := ra_oI)) m av h (x, h1) e) (fun m av h x h1 e => (ra_c0_ok (ro := ra_oJ)) m av h (x, h1) e) (fun m av h x h1 e => (ra_c0_ok (ro := ra_oR)) m av h (x, h1) e) (fun m av h x h1 e => (ra_c0_ok (ro := ra_oN)) m av h (x, h1) e) (fun m av h x h1 e => (ra_c0_ok (ro := ra_oF)) m av h (x, h1) e) 11 lX2_setFact_0 _ _ _ _ lX2_setFact_0_ck (show ra_run ra_rV (kX2_setFact_0 N) ra_c0 ra_c0 ra_c0 ra_c0 ra_c0 ra_c0 11 lX2_setFact_0 [some (.ref a0), some (.int a1), some (.int a2), some (.int a3)] [] h = some r from e) _ _ rfl
def fX2_setFact (N : Nat) (p0 : Nat) (p1 : Int32) (p2 : Int32) (p3 : Int32) (h : ra_H) : Option ra_H := match ra_isOb h p0 2 with
  | true => nX2_setFact_0 N p0 p1 p2 p3 h
  | false => none
set_option maxRecDepth 100000 in
theorem mtX2_setFact : ra_MT[19]? = some (mX2_setFact, 1, 3, (1, 2), (3, 17), (3, 18)) := rfl
theorem fX2_setFact_co (N : Nat) (p0 : Nat) (p1 : Int32) (p2 : Int32) (p3 : Int32) (h : ra_H) (r : ra_H) (e : fX2_setFact N p0 p1 p2 p3 h = some r) (D : Nat) (hD : 2 ≤ D) : ra_CO D 19 [.ref p0, .int p1, .int p2, .int p3] h (ra_oV r).1 (ra_oV r).2 := by
  have hw : ra_nw2 [.ref p0, .int p1, .int p2, .int p3] ≤ 4 := Nat.le_of_ble_eq_true rfl
  have hdb : ∀ v ∈ ([.ref p0, .int p1, .int p2, .int p3] : List Value), ∀ x, v ≠ .double x := by
    intro v hv x hx
    simp [hx] at hv
  unfold fX2_setFact at e
  split at e
  · rename_i ho
    have e1 := e
    exact ⟨1, _, mtX2_setFact, hD, ra_ev_of (by decide) hdb hw trivial (ra_Ru.weak (nX2_setFact_0_ok N p0 p1 p2 p3 h _ e1) ⟨rfl, ⟨rfl, ⟨rfl, ⟨rfl, trivial⟩⟩⟩⟩), (fun _ => ⟨_, _, rfl, ra_rcv_of ho (by decide) rfl⟩), (fun h => absurd h (by decide))⟩
  · cases e
/-! RedMarks.apart(II)I -/
def mX11_apart : ra_M := (yX11_apart, cX11_apart, 2, (some .int))
def lX11_apart_14 : List ra_I := [(14, .ireturn, 1, 0, 0, 0, 0, 0, [])]
set_option maxRecDepth 100000 in
theorem lX11_apart_14_ck : lX11_apart_14.all (ra_ck mX11_apart 11) = true := by decide +kernel
def nX11_apart_14 (N : Nat) (b0 : Int32) (h : ra_H) : Option (Int32 × ra_H) :=
  some (b0, h)
def kX11_apart_14 (N : Nat) : Nat → List (Option Value) → List Value → ra_H → Option (Int32 × ra_H) := ra_k0
theorem kX11_apart_14_ok (N : Nat) : ra_kok 1 mX11_apart ra_oI (kX11_apart_14 N) := ra_k0_ok
set_option maxRecDepth 100000 in
theorem nX11_apart_14_ok (N : Nat) (b0 : Int32) (h : ra_H) (r : (Int32 × ra_H)) (e : nX11_apart_14 N b0 h = some r) : ra_Ru 1 mX11_apart 14 [none, none] [.int b0] h (ra_oI r) :=
  ra_sound (by omega) rfl ra_rI_ok (kX11_apart_14_ok N) (fun m av h h1 e => (ra_c0_ok (ro := ra_oV)) m av h h1 e) (fun m av h x h1 e => (ra_c0_ok (ro := ra_oI)) m av h (x, h1) e) (fun m av h x h1 e => (ra_c0_ok (ro := ra_oJ)) m av h (x, h1) e) (fun m av h x h1 e => (ra_c0_ok (ro := ra_oR)) m av h (x, h1) e) (fun m av h x h1 e => (ra_c0_ok (ro := ra_oN)) m av h (x, h1) e) (fun m av h x h1 e => (ra_c0_ok (ro := ra_oF)) m av h (x, h1) e) 2 lX11_apart_14 _ _ _ _ lX11_apart_14_ck (show ra_run ra_rI (kX11_apart_14 N) ra_c0 ra_c0 ra_c0 ra_c0 ra_c0 ra_c0 2 lX11_apart_14 [none, none] [.int b0] h = some r from e) _ _ rfl
def lX11_apart_0 : List ra_I := [(0, .iload_n 0, 1, 0, 0, 0, 0, 0, []),
  (1, .iload_n 1, 1, 1, 0, 0, 0, 0, []),
  (2, .if_icmp .ge (9), 3, 11, 0, 0, 0, 0, []),
  (5, .iload_n 1, 1, 1, 0, 0, 0, 0, []),
  (6, .iload_n 0, 1, 0, 0, 0, 0, 0, []),
  (7, .isub, 1, 0, 0, 0, 0, 0, []),
  (8, .goto (6), 3, 14, 0, 0, 0, 0, []),
  (11, .iload_n 0, 1, 0, 0, 0, 0, 0, []),
  (12, .iload_n 1, 1, 1, 0, 0, 0, 0, []),
  (13, .isub, 1, 0, 0, 0, 0, 0, [])]
set_option maxRecDepth 100000 in
theorem lX11_apart_0_ck : lX11_apart_0.all (ra_ck mX11_apart 11) = true := by decide +kernel
def nX11_apart_0 (N : Nat) (a0 : Int32) (a1 : Int32) (h : ra_H) : Option (Int32 × ra_H) :=
  if a0 < a1 then
    nX11_apart_14 N (a1 - a0) h
  else
    nX11_apart_14 N (a0 - a1) h
def kX11_apart_0 (N : Nat) : Nat → List (Option Value) → List Value → ra_H → Option (Int32 × ra_H) := (ra_k1 14 (fun L S h => match L, S with
  | [_, _], [.int b0] => nX11_apart_14 N b0 h
  | _, _ => none) ra_k0)
theorem kX11_apart_0_ok (N : Nat) : ra_kok 1 mX11_apart ra_oI (kX11_apart_0 N) := (ra_k1_ok (by
  intro L S h a e
  split at e
  · exact ra_Ru.weak (nX11_apart_14_ok N _ _ _ e) trivial
  · cases e) ra_k0_ok)
set_option maxRecDepth 100000 in
theorem nX11_apart_0_ok (N : Nat) (a0 : Int32) (a1 : Int32) (h : ra_H) (r : (Int32 × ra_H)) (e : nX11_apart_0 N a0 a1 h = some r) : ra_Ru 1 mX11_apart 0 [some (.int a0), some (.int a1)] [] h (ra_oI r) :=
  ra_sound (by omega) rfl ra_rI_ok (kX11_apart_0_ok N) (fun m av h h1 e => (ra_c0_ok (ro := ra_oV)) m av h h1 e) (fun m av h x h1 e => (ra_c0_ok (ro := ra_oI)) m av h (x, h1) e) (fun m av h x h1 e => (ra_c0_ok (ro := ra_oJ)) m av h (x, h1) e) (fun m av h x h1 e => (ra_c0_ok (ro := ra_oR)) m av h (x, h1) e) (fun m av h x h1 e => (ra_c0_ok (ro := ra_oN)) m av h (x, h1) e) (fun m av h x h1 e => (ra_c0_ok (ro := ra_oF)) m av h (x, h1) e) 11 lX11_apart_0 _ _ _ _ lX11_apart_0_ck (show ra_run ra_rI (kX11_apart_0 N) ra_c0 ra_c0 ra_c0 ra_c0 ra_c0 ra_c0 11 lX11_apart_0 [some (.int a0), some (.int a1)] [] h = some r from e) _ _ rfl
def fX11_apart (N : Nat) (p0 : Int32) (p1 : Int32) (h : ra_H) : Option (Int32 × ra_H) := nX11_apart_0 N p0 p1 h
set_option maxRecDepth 100000 in
theorem mtX11_apart : ra_MT[124]? = some (mX11_apart, 0, 2, (1, 1), (5, 10), (0, 0)) := rfl
theorem fX11_apart_co (N : Nat) (p0 : Int32) (p1 : Int32) (h : ra_H) (r : (Int32 × ra_H)) (e : fX11_apart N p0 p1 h = some r) (D : Nat) (hD : 2 ≤ D) : ra_CO D 124 [.int p0, .int p1] h (ra_oI r).1 (ra_oI r).2 := by
  have hw : ra_nw2 [.int p0, .int p1] ≤ 2 := Nat.le_of_ble_eq_true rfl
  have hdb : ∀ v ∈ ([.int p0, .int p1] : List Value), ∀ x, v ≠ .double x := by
    intro v hv x hx
    simp [hx] at hv
  unfold fX11_apart at e
  have e1 := e
  exact ⟨1, _, mtX11_apart, hD, ra_ev_of (by decide) hdb hw trivial (ra_Ru.weak (nX11_apart_0_ok N p0 p1 h _ e1) ⟨rfl, ⟨rfl, trivial⟩⟩), (fun h => absurd h (by decide)), (fun h => absurd h (by decide))⟩
/-! RedMarks$Holdings.factOf(II)I -/
def mX2_factOf : ra_M := (yX2_factOf, cX2_factOf, 3, (some .int))
def lX2_factOf_0 : List ra_I := [(0, .aload_n 0, 1, 0, 0, 0, 0, 0, []),
  (1, .getfield 9, 3, 2, 0, 2, 0, 0, []),
  (4, .iload_n 1, 1, 1, 0, 0, 0, 0, []),
  (5, .bipush (12), 2, 0, 0, 0, (12), 0, []),
  (7, .imul, 1, 0, 0, 0, 0, 0, []),
  (8, .iload_n 2, 1, 2, 0, 0, 0, 0, []),
  (9, .iadd, 1, 0, 0, 0, 0, 0, []),
  (10, .iaload, 1, 0, 0, 0, 0, 0, []),
  (11, .ireturn, 1, 0, 0, 0, 0, 0, [])]
set_option maxRecDepth 100000 in
theorem lX2_factOf_0_ck : lX2_factOf_0.all (ra_ck mX2_factOf 2) = true := by decide +kernel
def nX2_factOf_0 (N : Nat) (a0 : Nat) (a1 : Int32) (a2 : Int32) (h : ra_H) : Option (Int32 × ra_H) :=
  (ra_fR h 2 a0 0).bind fun x1 =>
  (ra_aI h 0 x1 ((a1 * ((12 : Int32))) + a2)).bind fun x2 =>
  some (x2, h)
def kX2_factOf_0 (N : Nat) : Nat → List (Option Value) → List Value → ra_H → Option (Int32 × ra_H) := ra_k0
theorem kX2_factOf_0_ok (N : Nat) : ra_kok 1 mX2_factOf ra_oI (kX2_factOf_0 N) := ra_k0_ok
set_option maxRecDepth 100000 in
theorem nX2_factOf_0_ok (N : Nat) (a0 : Nat) (a1 : Int32) (a2 : Int32) (h : ra_H) (r : (Int32 × ra_H)) (e : nX2_factOf_0 N a0 a1 a2 h = some r) : ra_Ru 1 mX2_factOf 0 [some (.ref a0), some (.int a1), some (.int a2)] [] h (ra_oI r) :=
  ra_sound (by omega) rfl ra_rI_ok (kX2_factOf_0_ok N) (fun m av h h1 e => (ra_c0_ok (ro := ra_oV)) m av h h1 e) (fun m av h x h1 e => (ra_c0_ok (ro := ra_oI)) m av h (x, h1) e) (fun m av h x h1 e => (ra_c0_ok (ro := ra_oJ)) m av h (x, h1) e) (fun m av h x h1 e => (ra_c0_ok (ro := ra_oR)) m av h (x, h1) e) (fun m av h x h1 e => (ra_c0_ok (ro := ra_oN)) m av h (x, h1) e) (fun m av h x h1 e => (ra_c0_ok (ro := ra_oF)) m av h (x, h1) e) 10 lX2_factOf_0 _ _ _ _ lX2_factOf_0_ck (show ra_run ra_rI (kX2_factOf_0 N) ra_c0 ra_c0 ra_c0 ra_c0 ra_c0 ra_c0 10 lX2_factOf_0 [some (.ref a0), some (.int a1), some (.int a2)] [] h = some r from e) _ _ rfl
def fX2_factOf (N : Nat) (p0 : Nat) (p1 : Int32) (p2 : Int32) (h : ra_H) : Option (Int32 × ra_H) := match ra_isOb h p0 2 with
  | true => nX2_factOf_0 N p0 p1 p2 h
  | false => none
set_option maxRecDepth 100000 in
theorem mtX2_factOf : ra_MT[27]? = some (mX2_factOf, 1, 2, (1, 2), (3, 49), (3, 50)) := rfl
theorem fX2_factOf_co (N : Nat) (p0 : Nat) (p1 : Int32) (p2 : Int32) (h : ra_H) (r : (Int32 × ra_H)) (e : fX2_factOf N p0 p1 p2 h = some r) (D : Nat) (hD : 2 ≤ D) : ra_CO D 27 [.ref p0, .int p1, .int p2] h (ra_oI r).1 (ra_oI r).2 := by
  have hw : ra_nw2 [.ref p0, .int p1, .int p2] ≤ 3 := Nat.le_of_ble_eq_true rfl
  have hdb : ∀ v ∈ ([.ref p0, .int p1, .int p2] : List Value), ∀ x, v ≠ .double x := by
    intro v hv x hx
    simp [hx] at hv
  unfold fX2_factOf at e
  split at e
  · rename_i ho
    have e1 := e
    exact ⟨1, _, mtX2_factOf, hD, ra_ev_of (by decide) hdb hw trivial (ra_Ru.weak (nX2_factOf_0_ok N p0 p1 p2 h _ e1) ⟨rfl, ⟨rfl, ⟨rfl, trivial⟩⟩⟩), (fun _ => ⟨_, _, rfl, ra_rcv_of ho (by decide) rfl⟩), (fun h => absurd h (by decide))⟩
  · cases e
/-! RedMarks$Holdings.isMarked(I)Z -/
def mX2_isMarked : ra_M := (yX2_isMarked, cX2_isMarked, 2, (some .boolean))
def tIX2_isMarked (N : Nat) : Nat → List Value → ra_H → Option (Int32 × ra_H) := (ra_c1 27 (fun av h => match av with
  | [.ref z0, .int z1, .int z2] => fX2_factOf N z0 z1 z2 h
  | _ => none) ra_c0)
theorem tIX2_isMarked_ok (N : Nat) : ra_cok 2 ra_oI (tIX2_isMarked N) := (ra_c1_ok (by
  intro av h a e
  split at e
  · exact fX2_factOf_co N _ _ _ _ _ e 2 (by omega)
  · cases e) ra_c0_ok)
def lX2_isMarked_15 : List ra_I := [(15, .ireturn, 1, 0, 0, 0, 0, 0, [])]
set_option maxRecDepth 100000 in
theorem lX2_isMarked_15_ck : lX2_isMarked_15.all (ra_ck mX2_isMarked 2) = true := by decide +kernel
def nX2_isMarked_15 (N : Nat) (b0 : Int32) (h : ra_H) : Option (Int32 × ra_H) :=
  some (b0, h)
def kX2_isMarked_15 (N : Nat) : Nat → List (Option Value) → List Value → ra_H → Option (Int32 × ra_H) := ra_k0
theorem kX2_isMarked_15_ok (N : Nat) : ra_kok 2 mX2_isMarked ra_oI (kX2_isMarked_15 N) := ra_k0_ok
set_option maxRecDepth 100000 in
theorem nX2_isMarked_15_ok (N : Nat) (b0 : Int32) (h : ra_H) (r : (Int32 × ra_H)) (e : nX2_isMarked_15 N b0 h = some r) : ra_Ru 2 mX2_isMarked 15 [none, none] [.int b0] h (ra_oI r) :=
  ra_sound (by omega) rfl ra_rI_ok (kX2_isMarked_15_ok N) (fun m av h h1 e => (ra_c0_ok (ro := ra_oV)) m av h h1 e) (fun m av h x h1 e => (tIX2_isMarked_ok N) m av h (x, h1) e) (fun m av h x h1 e => (ra_c0_ok (ro := ra_oJ)) m av h (x, h1) e) (fun m av h x h1 e => (ra_c0_ok (ro := ra_oR)) m av h (x, h1) e) (fun m av h x h1 e => (ra_c0_ok (ro := ra_oN)) m av h (x, h1) e) (fun m av h x h1 e => (ra_c0_ok (ro := ra_oF)) m av h (x, h1) e) 2 lX2_isMarked_15 _ _ _ _ lX2_isMarked_15_ck (show ra_run ra_rI (kX2_isMarked_15 N) ra_c0 (tIX2_isMarked N) ra_c0 ra_c0 ra_c0 ra_c0 2 lX2_isMarked_15 [none, none] [.int b0] h = some r from e) _ _ rfl
def lX2_isMarked_0 : List ra_I := [(0, .aload_n 0, 1, 0, 0, 0, 0, 0, []),
  (1, .iload_n 1, 1, 1, 0, 0, 0, 0, []),
  (2, .iconst (0), 1, 0, 0, 0, (0), 0, []),
  (3, .invokevirtual 98, 3, 27, 3, 1, 0, 0, []),
  (6, .iconst (-1), 1, 0, 0, 0, (-1), 0, []),
  (7, .if_icmp .eq (7), 3, 14, 0, 0, 0, 0, []),
  (10, .iconst (1), 1, 0, 0, 0, (1), 0, []),
  (11, .goto (4), 3, 15, 0, 0, 0, 0, []),
  (14, .iconst (0), 1, 0, 0, 0, (0), 0, [])]
set_option maxRecDepth 100000 in
theorem lX2_isMarked_0_ck : lX2_isMarked_0.all (ra_ck mX2_isMarked 2) = true := by decide +kernel
def nX2_isMarked_0 (N : Nat) (a0 : Nat) (a1 : Int32) (h : ra_H) : Option (Int32 × ra_H) :=
  (fX2_factOf N a0 a1 ((0 : Int32)) h).bind fun q1 =>
  if q1.1 = ((-1 : Int32)) then
    nX2_isMarked_15 N ((0 : Int32)) q1.2
  else
    nX2_isMarked_15 N ((1 : Int32)) q1.2
def kX2_isMarked_0 (N : Nat) : Nat → List (Option Value) → List Value → ra_H → Option (Int32 × ra_H) := (ra_k1 15 (fun L S h => match L, S with
  | [_, _], [.int b0] => nX2_isMarked_15 N b0 h
  | _, _ => none) ra_k0)
theorem kX2_isMarked_0_ok (N : Nat) : ra_kok 2 mX2_isMarked ra_oI (kX2_isMarked_0 N) := (ra_k1_ok (by
  intro L S h a e
  split at e
  · exact ra_Ru.weak (nX2_isMarked_15_ok N _ _ _ e) trivial
  · cases e) ra_k0_ok)
set_option maxRecDepth 100000 in
theorem nX2_isMarked_0_ok (N : Nat) (a0 : Nat) (a1 : Int32) (h : ra_H) (r : (Int32 × ra_H)) (e : nX2_isMarked_0 N a0 a1 h = some r) : ra_Ru 2 mX2_isMarked 0 [some (.ref a0), some (.int a1)] [] h (ra_oI r) :=
  ra_sound (by omega) rfl ra_rI_ok (kX2_isMarked_0_ok N) (fun m av h h1 e => (ra_c0_ok (ro := ra_oV)) m av h h1 e) (fun m av h x h1 e => (tIX2_isMarked_ok N) m av h (x, h1) e) (fun m av h x h1 e => (ra_c0_ok (ro := ra_oJ)) m av h (x, h1) e) (fun m av h x h1 e => (ra_c0_ok (ro := ra_oR)) m av h (x, h1) e) (fun m av h x h1 e => (ra_c0_ok (ro := ra_oN)) m av h (x, h1) e) (fun m av h x h1 e => (ra_c0_ok (ro := ra_oF)) m av h (x, h1) e) 10 lX2_isMarked_0 _ _ _ _ lX2_isMarked_0_ck (show ra_run ra_rI (kX2_isMarked_0 N) ra_c0 (tIX2_isMarked N) ra_c0 ra_c0 ra_c0 ra_c0 10 lX2_isMarked_0 [some (.ref a0), some (.int a1)] [] h = some r from e) _ _ rfl
def fX2_isMarked (N : Nat) (p0 : Nat) (p1 : Int32) (h : ra_H) : Option (Int32 × ra_H) := match ra_isOb h p0 2 with
  | true => (nX2_isMarked_0 N p0 p1 h).bind (fun q => ra_rz q.1 q.2)
  | false => none
set_option maxRecDepth 100000 in
theorem mtX2_isMarked : ra_MT[84]? = some (mX2_isMarked, 1, 1, (1, 2), (4, 83), (4, 84)) := rfl
theorem fX2_isMarked_co (N : Nat) (p0 : Nat) (p1 : Int32) (h : ra_H) (r : (Int32 × ra_H)) (e : fX2_isMarked N p0 p1 h = some r) (D : Nat) (hD : 3 ≤ D) : ra_CO D 84 [.ref p0, .int p1] h (ra_oI r).1 (ra_oI r).2 := by
  have hw : ra_nw2 [.ref p0, .int p1] ≤ 2 := Nat.le_of_ble_eq_true rfl
  have hdb : ∀ v ∈ ([.ref p0, .int p1] : List Value), ∀ x, v ≠ .double x := by
    intro v hv x hx
    simp [hx] at hv
  unfold fX2_isMarked at e
  split at e
  · rename_i ho
    obtain ⟨q, e1, e2⟩ := Option.bind_eq_some_iff.mp e
    obtain ⟨rfl, hz⟩ := ra_rz_of e2
    exact ⟨2, _, mtX2_isMarked, hD, ra_ev_of (by decide) hdb hw hz (ra_Ru.weak (nX2_isMarked_0_ok N p0 p1 h _ e1) ⟨rfl, ⟨rfl, trivial⟩⟩), (fun _ => ⟨_, _, rfl, ra_rcv_of ho (by decide) rfl⟩), (fun h => absurd h (by decide))⟩
  · cases e
/-! RedMarks$Holdings.lineFact(II)I -/
def mX2_lineFact : ra_M := (yX2_lineFact, cX2_lineFact, 3, (some .int))
def lX2_lineFact_0 : List ra_I := [(0, .aload_n 0, 1, 0, 0, 0, 0, 0, []),
  (1, .getfield 30, 3, 2, 5, 2, 0, 0, []),
  (4, .iload_n 1, 1, 1, 0, 0, 0, 0, []),
  (5, .bipush (12), 2, 0, 0, 0, (12), 0, []),
  (7, .imul, 1, 0, 0, 0, 0, 0, []),
  (8, .iload_n 2, 1, 2, 0, 0, 0, 0, []),
  (9, .iadd, 1, 0, 0, 0, 0, 0, []),
  (10, .iaload, 1, 0, 0, 0, 0, 0, []),
  (11, .ireturn, 1, 0, 0, 0, 0, 0, [])]
set_option maxRecDepth 100000 in
theorem lX2_lineFact_0_ck : lX2_lineFact_0.all (ra_ck mX2_lineFact 2) = true := by decide +kernel
def nX2_lineFact_0 (N : Nat) (a0 : Nat) (a1 : Int32) (a2 : Int32) (h : ra_H) : Option (Int32 × ra_H) :=
  (ra_fR h 2 a0 5).bind fun x1 =>
  (ra_aI h 0 x1 ((a1 * ((12 : Int32))) + a2)).bind fun x2 =>
  some (x2, h)
def kX2_lineFact_0 (N : Nat) : Nat → List (Option Value) → List Value → ra_H → Option (Int32 × ra_H) := ra_k0
theorem kX2_lineFact_0_ok (N : Nat) : ra_kok 1 mX2_lineFact ra_oI (kX2_lineFact_0 N) := ra_k0_ok
set_option maxRecDepth 100000 in
theorem nX2_lineFact_0_ok (N : Nat) (a0 : Nat) (a1 : Int32) (a2 : Int32) (h : ra_H) (r : (Int32 × ra_H)) (e : nX2_lineFact_0 N a0 a1 a2 h = some r) : ra_Ru 1 mX2_lineFact 0 [some (.ref a0), some (.int a1), some (.int a2)] [] h (ra_oI r) :=
  ra_sound (by omega) rfl ra_rI_ok (kX2_lineFact_0_ok N) (fun m av h h1 e => (ra_c0_ok (ro := ra_oV)) m av h h1 e) (fun m av h x h1 e => (ra_c0_ok (ro := ra_oI)) m av h (x, h1) e) (fun m av h x h1 e => (ra_c0_ok (ro := ra_oJ)) m av h (x, h1) e) (fun m av h x h1 e => (ra_c0_ok (ro := ra_oR)) m av h (x, h1) e) (fun m av h x h1 e => (ra_c0_ok (ro := ra_oN)) m av h (x, h1) e) (fun m av h x h1 e => (ra_c0_ok (ro := ra_oF)) m av h (x, h1) e) 10 lX2_lineFact_0 _ _ _ _ lX2_lineFact_0_ck (show ra_run ra_rI (kX2_lineFact_0 N) ra_c0 ra_c0 ra_c0 ra_c0 ra_c0 ra_c0 10 lX2_lineFact_0 [some (.ref a0), some (.int a1), some (.int a2)] [] h = some r from e) _ _ rfl
def fX2_lineFact (N : Nat) (p0 : Nat) (p1 : Int32) (p2 : Int32) (h : ra_H) : Option (Int32 × ra_H) := match ra_isOb h p0 2 with
  | true => nX2_lineFact_0 N p0 p1 p2 h
  | false => none
set_option maxRecDepth 100000 in
theorem mtX2_lineFact : ra_MT[123]? = some (mX2_lineFact, 1, 2, (1, 2), (5, 6), (5, 7)) := rfl
theorem fX2_lineFact_co (N : Nat) (p0 : Nat) (p1 : Int32) (p2 : Int32) (h : ra_H) (r : (Int32 × ra_H)) (e : fX2_lineFact N p0 p1 p2 h = some r) (D : Nat) (hD : 2 ≤ D) : ra_CO D 123 [.ref p0, .int p1, .int p2] h (ra_oI r).1 (ra_oI r).2 := by
  have hw : ra_nw2 [.ref p0, .int p1, .int p2] ≤ 3 := Nat.le_of_ble_eq_true rfl
  have hdb : ∀ v ∈ ([.ref p0, .int p1, .int p2] : List Value), ∀ x, v ≠ .double x := by
    intro v hv x hx
    simp [hx] at hv
  unfold fX2_lineFact at e
  split at e
  · rename_i ho
    have e1 := e
    exact ⟨1, _, mtX2_lineFact, hD, ra_ev_of (by decide) hdb hw trivial (ra_Ru.weak (nX2_lineFact_0_ok N p0 p1 p2 h _ e1) ⟨rfl, ⟨rfl, ⟨rfl, trivial⟩⟩⟩), (fun _ => ⟨_, _, rfl, ra_rcv_of ho (by decide) rfl⟩), (fun h => absurd h (by decide))⟩
  · cases e
/-! RedMarks$Holdings.agreement(II)I -/
def mX2_agreement : ra_M := (yX2_agreement, cX2_agreement, 5, (some .int))
def tIX2_agreement (N : Nat) : Nat → List Value → ra_H → Option (Int32 × ra_H) := (ra_c1 27 (fun av h => match av with
  | [.ref z0, .int z1, .int z2] => fX2_factOf N z0 z1 z2 h
  | _ => none) (ra_c1 84 (fun av h => match av with
  | [.ref z0, .int z1] => fX2_isMarked N z0 z1 h
  | _ => none) (ra_c1 123 (fun av h => match av with
  | [.ref z0, .int z1, .int z2] => fX2_lineFact N z0 z1 z2 h
  | _ => none) (ra_c1 124 (fun av h => match av with
  | [.int z0, .int z1] => fX11_apart N z0 z1 h
  | _ => none) ra_c0))))
theorem tIX2_agreement_ok (N : Nat) : ra_cok 3 ra_oI (tIX2_agreement N) := (ra_c1_ok (by
  intro av h a e
  split at e
  · exact fX2_factOf_co N _ _ _ _ _ e 3 (by omega)
  · cases e) (ra_c1_ok (by
  intro av h a e
  split at e
  · exact fX2_isMarked_co N _ _ _ _ e 3 (by omega)
  · cases e) (ra_c1_ok (by
  intro av h a e
  split at e
  · exact fX2_lineFact_co N _ _ _ _ _ e 3 (by omega)
  · cases e) (ra_c1_ok (by
  intro av h a e
  split at e
  · exact fX11_apart_co N _ _ _ _ e 3 (by omega)
  · cases e) ra_c0_ok))))
def lX2_agreement_82 : List ra_I := [(82, .iload_n 3, 1, 3, 0, 0, 0, 0, []),
  (83, .ireturn, 1, 0, 0, 0, 0, 0, [])]
set_option maxRecDepth 100000 in
theorem lX2_agreement_82_ck : lX2_agreement_82.all (ra_ck mX2_agreement 2) = true := by decide +kernel
def nX2_agreement_82 (N : Nat) (a3 : Int32) (h : ra_H) : Option (Int32 × ra_H) :=
  some (a3, h)
def kX2_agreement_82 (N : Nat) : Nat → List (Option Value) → List Value → ra_H → Option (Int32 × ra_H) := ra_k0
theorem kX2_agreement_82_ok (N : Nat) : ra_kok 3 mX2_agreement ra_oI (kX2_agreement_82 N) := ra_k0_ok
set_option maxRecDepth 100000 in
theorem nX2_agreement_82_ok (N : Nat) (a3 : Int32) (h : ra_H) (r : (Int32 × ra_H)) (e : nX2_agreement_82 N a3 h = some r) : ra_Ru 3 mX2_agreement 82 [none, none, none, some (.int a3), none] [] h (ra_oI r) :=
  ra_sound (by omega) rfl ra_rI_ok (kX2_agreement_82_ok N) (fun m av h h1 e => (ra_c0_ok (ro := ra_oV)) m av h h1 e) (fun m av h x h1 e => (tIX2_agreement_ok N) m av h (x, h1) e) (fun m av h x h1 e => (ra_c0_ok (ro := ra_oJ)) m av h (x, h1) e) (fun m av h x h1 e => (ra_c0_ok (ro := ra_oR)) m av h (x, h1) e) (fun m av h x h1 e => (ra_c0_ok (ro := ra_oN)) m av h (x, h1) e) (fun m av h x h1 e => (ra_c0_ok (ro := ra_oF)) m av h (x, h1) e) 3 lX2_agreement_82 _ _ _ _ lX2_agreement_82_ck (show ra_run ra_rI (kX2_agreement_82 N) ra_c0 (tIX2_agreement N) ra_c0 ra_c0 ra_c0 ra_c0 3 lX2_agreement_82 [none, none, none, some (.int a3), none] [] h = some r from e) _ _ rfl
def lX2_agreement_136 : List ra_I := [(136, .ireturn, 1, 0, 0, 0, 0, 0, [])]
set_option maxRecDepth 100000 in
theorem lX2_agreement_136_ck : lX2_agreement_136.all (ra_ck mX2_agreement 2) = true := by decide +kernel
def nX2_agreement_136 (N : Nat) (b0 : Int32) (h : ra_H) : Option (Int32 × ra_H) :=
  some (b0, h)
def kX2_agreement_136 (N : Nat) : Nat → List (Option Value) → List Value → ra_H → Option (Int32 × ra_H) := ra_k0
theorem kX2_agreement_136_ok (N : Nat) : ra_kok 3 mX2_agreement ra_oI (kX2_agreement_136 N) := ra_k0_ok
set_option maxRecDepth 100000 in
theorem nX2_agreement_136_ok (N : Nat) (b0 : Int32) (h : ra_H) (r : (Int32 × ra_H)) (e : nX2_agreement_136 N b0 h = some r) : ra_Ru 3 mX2_agreement 136 [none, none, none, none, none] [.int b0] h (ra_oI r) :=
  ra_sound (by omega) rfl ra_rI_ok (kX2_agreement_136_ok N) (fun m av h h1 e => (ra_c0_ok (ro := ra_oV)) m av h h1 e) (fun m av h x h1 e => (tIX2_agreement_ok N) m av h (x, h1) e) (fun m av h x h1 e => (ra_c0_ok (ro := ra_oJ)) m av h (x, h1) e) (fun m av h x h1 e => (ra_c0_ok (ro := ra_oR)) m av h (x, h1) e) (fun m av h x h1 e => (ra_c0_ok (ro := ra_oN)) m av h (x, h1) e) (fun m av h x h1 e => (ra_c0_ok (ro := ra_oF)) m av h (x, h1) e) 2 lX2_agreement_136 _ _ _ _ lX2_agreement_136_ck (show ra_run ra_rI (kX2_agreement_136 N) ra_c0 (tIX2_agreement N) ra_c0 ra_c0 ra_c0 ra_c0 2 lX2_agreement_136 [none, none, none, none, none] [.int b0] h = some r from e) _ _ rfl
def lX2_agreement_119 : List ra_I := [(119, .istore 4, 2, 4, 0, 0, 0, 0, []),
  (121, .iload 4, 2, 4, 0, 0, 0, 0, []),
  (123, .ifCond .eq (9), 3, 132, 0, 0, 0, 0, []),
  (126, .iload_n 3, 1, 3, 0, 0, 0, 0, []),
  (127, .iconst (4), 1, 0, 0, 0, (4), 0, []),
  (128, .iadd, 1, 0, 0, 0, 0, 0, []),
  (129, .goto (7), 3, 136, 0, 0, 0, 0, []),
  (132, .iload_n 3, 1, 3, 0, 0, 0, 0, []),
  (133, .bipush (6), 2, 0, 0, 0, (6), 0, []),
  (135, .isub, 1, 0, 0, 0, 0, 0, [])]
set_option maxRecDepth 100000 in
theorem lX2_agreement_119_ck : lX2_agreement_119.all (ra_ck mX2_agreement 2) = true := by decide +kernel
def nX2_agreement_119 (N : Nat) (a3 : Int32) (b0 : Int32) (h : ra_H) : Option (Int32 × ra_H) :=
  if b0 = 0 then
    nX2_agreement_136 N (a3 - ((6 : Int32))) h
  else
    nX2_agreement_136 N (a3 + ((4 : Int32))) h
def kX2_agreement_119 (N : Nat) : Nat → List (Option Value) → List Value → ra_H → Option (Int32 × ra_H) := (ra_k1 136 (fun L S h => match L, S with
  | [_, _, _, _, _], [.int b0] => nX2_agreement_136 N b0 h
  | _, _ => none) ra_k0)
theorem kX2_agreement_119_ok (N : Nat) : ra_kok 3 mX2_agreement ra_oI (kX2_agreement_119 N) := (ra_k1_ok (by
  intro L S h a e
  split at e
  · exact ra_Ru.weak (nX2_agreement_136_ok N _ _ _ e) trivial
  · cases e) ra_k0_ok)
set_option maxRecDepth 100000 in
theorem nX2_agreement_119_ok (N : Nat) (a3 : Int32) (b0 : Int32) (h : ra_H) (r : (Int32 × ra_H)) (e : nX2_agreement_119 N a3 b0 h = some r) : ra_Ru 3 mX2_agreement 119 [none, none, none, some (.int a3), none] [.int b0] h (ra_oI r) :=
  ra_sound (by omega) rfl ra_rI_ok (kX2_agreement_119_ok N) (fun m av h h1 e => (ra_c0_ok (ro := ra_oV)) m av h h1 e) (fun m av h x h1 e => (tIX2_agreement_ok N) m av h (x, h1) e) (fun m av h x h1 e => (ra_c0_ok (ro := ra_oJ)) m av h (x, h1) e) (fun m av h x h1 e => (ra_c0_ok (ro := ra_oR)) m av h (x, h1) e) (fun m av h x h1 e => (ra_c0_ok (ro := ra_oN)) m av h (x, h1) e) (fun m av h x h1 e => (ra_c0_ok (ro := ra_oF)) m av h (x, h1) e) 11 lX2_agreement_119 _ _ _ _ lX2_agreement_119_ck (show ra_run ra_rI (kX2_agreement_119 N) ra_c0 (tIX2_agreement N) ra_c0 ra_c0 ra_c0 ra_c0 11 lX2_agreement_119 [none, none, none, some (.int a3), none] [.int b0] h = some r from e) _ _ rfl
def lX2_agreement_118 : List ra_I := [(118, .iconst (0), 1, 0, 0, 0, (0), 0, [])]
set_option maxRecDepth 100000 in
theorem lX2_agreement_118_ck : lX2_agreement_118.all (ra_ck mX2_agreement 2) = true := by decide +kernel
def nX2_agreement_118 (N : Nat) (a3 : Int32) (h : ra_H) : Option (Int32 × ra_H) :=
  nX2_agreement_119 N a3 ((0 : Int32)) h
def kX2_agreement_118 (N : Nat) : Nat → List (Option Value) → List Value → ra_H → Option (Int32 × ra_H) := (ra_k1 119 (fun L S h => match L, S with
  | [_, _, _, some (.int a3), _], [.int b0] => nX2_agreement_119 N a3 b0 h
  | _, _ => none) ra_k0)
theorem kX2_agreement_118_ok (N : Nat) : ra_kok 3 mX2_agreement ra_oI (kX2_agreement_118 N) := (ra_k1_ok (by
  intro L S h a e
  split at e
  · exact ra_Ru.weak (nX2_agreement_119_ok N _ _ _ _ e) ⟨rfl, trivial⟩
  · cases e) ra_k0_ok)
set_option maxRecDepth 100000 in
theorem nX2_agreement_118_ok (N : Nat) (a3 : Int32) (h : ra_H) (r : (Int32 × ra_H)) (e : nX2_agreement_118 N a3 h = some r) : ra_Ru 3 mX2_agreement 118 [none, none, none, some (.int a3), none] [] h (ra_oI r) :=
  ra_sound (by omega) rfl ra_rI_ok (kX2_agreement_118_ok N) (fun m av h h1 e => (ra_c0_ok (ro := ra_oV)) m av h h1 e) (fun m av h x h1 e => (tIX2_agreement_ok N) m av h (x, h1) e) (fun m av h x h1 e => (ra_c0_ok (ro := ra_oJ)) m av h (x, h1) e) (fun m av h x h1 e => (ra_c0_ok (ro := ra_oR)) m av h (x, h1) e) (fun m av h x h1 e => (ra_c0_ok (ro := ra_oN)) m av h (x, h1) e) (fun m av h x h1 e => (ra_c0_ok (ro := ra_oF)) m av h (x, h1) e) 2 lX2_agreement_118 _ _ _ _ lX2_agreement_118_ck (show ra_run ra_rI (kX2_agreement_118 N) ra_c0 (tIX2_agreement N) ra_c0 ra_c0 ra_c0 ra_c0 2 lX2_agreement_118 [none, none, none, some (.int a3), none] [] h = some r from e) _ _ rfl
def lX2_agreement_64 : List ra_I := [(64, .aload_n 0, 1, 0, 0, 0, 0, 0, []),
  (65, .iload_n 1, 1, 1, 0, 0, 0, 0, []),
  (66, .iconst (0), 1, 0, 0, 0, (0), 0, []),
  (67, .invokevirtual 116, 3, 123, 3, 1, 0, 0, []),
  (70, .iconst (-1), 1, 0, 0, 0, (-1), 0, []),
  (71, .if_icmp .eq (11), 3, 82, 0, 0, 0, 0, []),
  (74, .aload_n 0, 1, 0, 0, 0, 0, 0, []),
  (75, .iload_n 2, 1, 2, 0, 0, 0, 0, []),
  (76, .invokevirtual 101, 3, 84, 2, 1, 0, 0, []),
  (79, .ifCond .ne (5), 3, 84, 0, 0, 0, 0, []),
  (84, .aload_n 0, 1, 0, 0, 0, 0, 0, []),
  (85, .iload_n 1, 1, 1, 0, 0, 0, 0, []),
  (86, .iconst (0), 1, 0, 0, 0, (0), 0, []),
  (87, .invokevirtual 116, 3, 123, 3, 1, 0, 0, []),
  (90, .aload_n 0, 1, 0, 0, 0, 0, 0, []),
  (91, .iload_n 2, 1, 2, 0, 0, 0, 0, []),
  (92, .iconst (0), 1, 0, 0, 0, (0), 0, []),
  (93, .invokevirtual 98, 3, 27, 3, 1, 0, 0, []),
  (96, .if_icmp .ne (22), 3, 118, 0, 0, 0, 0, []),
  (99, .aload_n 0, 1, 0, 0, 0, 0, 0, []),
  (100, .iload_n 1, 1, 1, 0, 0, 0, 0, []),
  (101, .iconst (1), 1, 0, 0, 0, (1), 0, []),
  (102, .invokevirtual 116, 3, 123, 3, 1, 0, 0, []),
  (105, .aload_n 0, 1, 0, 0, 0, 0, 0, []),
  (106, .iload_n 2, 1, 2, 0, 0, 0, 0, []),
  (107, .iconst (1), 1, 0, 0, 0, (1), 0, []),
  (108, .invokevirtual 98, 3, 27, 3, 1, 0, 0, []),
  (111, .if_icmp .ne (7), 3, 118, 0, 0, 0, 0, []),
  (114, .iconst (1), 1, 0, 0, 0, (1), 0, []),
  (115, .goto (4), 3, 119, 0, 0, 0, 0, [])]
set_option maxRecDepth 100000 in
theorem lX2_agreement_64_ck : lX2_agreement_64.all (ra_ck mX2_agreement 2) = true := by decide +kernel
def nX2_agreement_64 (N : Nat) (a0 : Nat) (a1 : Int32) (a2 : Int32) (a3 : Int32) (h : ra_H) : Option (Int32 × ra_H) :=
  (fX2_lineFact N a0 a1 ((0 : Int32)) h).bind fun q1 =>
  if q1.1 = ((-1 : Int32)) then
    nX2_agreement_82 N a3 q1.2
  else
    (fX2_isMarked N a0 a2 q1.2).bind fun q2 =>
    if q2.1 = 0 then
      nX2_agreement_82 N a3 q2.2
    else
      (fX2_lineFact N a0 a1 ((0 : Int32)) q2.2).bind fun q3 =>
      (fX2_factOf N a0 a2 ((0 : Int32)) q3.2).bind fun q4 =>
      if q3.1 = q4.1 then
        (fX2_lineFact N a0 a1 ((1 : Int32)) q4.2).bind fun q5 =>
        (fX2_factOf N a0 a2 ((1 : Int32)) q5.2).bind fun q6 =>
        if q5.1 = q6.1 then
          nX2_agreement_119 N a3 ((1 : Int32)) q6.2
        else
          nX2_agreement_118 N a3 q6.2
      else
        nX2_agreement_118 N a3 q4.2
def kX2_agreement_64 (N : Nat) : Nat → List (Option Value) → List Value → ra_H → Option (Int32 × ra_H) := (ra_k1 82 (fun L S h => match L, S with
  | [_, _, _, some (.int a3), _], [] => nX2_agreement_82 N a3 h
  | _, _ => none) (ra_k1 118 (fun L S h => match L, S with
  | [_, _, _, some (.int a3), _], [] => nX2_agreement_118 N a3 h
  | _, _ => none) (ra_k1 119 (fun L S h => match L, S with
  | [_, _, _, some (.int a3), _], [.int b0] => nX2_agreement_119 N a3 b0 h
  | _, _ => none) ra_k0)))
theorem kX2_agreement_64_ok (N : Nat) : ra_kok 3 mX2_agreement ra_oI (kX2_agreement_64 N) := (ra_k1_ok (by
  intro L S h a e
  split at e
  · exact ra_Ru.weak (nX2_agreement_82_ok N _ _ _ e) ⟨rfl, trivial⟩
  · cases e) (ra_k1_ok (by
  intro L S h a e
  split at e
  · exact ra_Ru.weak (nX2_agreement_118_ok N _ _ _ e) ⟨rfl, trivial⟩
  · cases e) (ra_k1_ok (by
  intro L S h a e
  split at e
  · exact ra_Ru.weak (nX2_agreement_119_ok N _ _ _ _ e) ⟨rfl, trivial⟩
  · cases e) ra_k0_ok)))
set_option maxRecDepth 100000 in
theorem nX2_agreement_64_ok (N : Nat) (a0 : Nat) (a1 : Int32) (a2 : Int32) (a3 : Int32) (h : ra_H) (r : (Int32 × ra_H)) (e : nX2_agreement_64 N a0 a1 a2 a3 h = some r) : ra_Ru 3 mX2_agreement 64 [some (.ref a0), some (.int a1), some (.int a2), some (.int a3), none] [] h (ra_oI r) :=
  ra_sound (by omega) rfl ra_rI_ok (kX2_agreement_64_ok N) (fun m av h h1 e => (ra_c0_ok (ro := ra_oV)) m av h h1 e) (fun m av h x h1 e => (tIX2_agreement_ok N) m av h (x, h1) e) (fun m av h x h1 e => (ra_c0_ok (ro := ra_oJ)) m av h (x, h1) e) (fun m av h x h1 e => (ra_c0_ok (ro := ra_oR)) m av h (x, h1) e) (fun m av h x h1 e => (ra_c0_ok (ro := ra_oN)) m av h (x, h1) e) (fun m av h x h1 e => (ra_c0_ok (ro := ra_oF)) m av h (x, h1) e) 31 lX2_agreement_64 _ _ _ _ lX2_agreement_64_ck (show ra_run ra_rI (kX2_agreement_64 N) ra_c0 (tIX2_agreement N) ra_c0 ra_c0 ra_c0 ra_c0 31 lX2_agreement_64 [some (.ref a0), some (.int a1), some (.int a2), some (.int a3), none] [] h = some r from e) _ _ rfl
def lX2_agreement_42 : List ra_I := [(42, .aload_n 0, 1, 0, 0, 0, 0, 0, []),
  (43, .iload_n 1, 1, 1, 0, 0, 0, 0, []),
  (44, .iconst (3), 1, 0, 0, 0, (3), 0, []),
  (45, .invokevirtual 116, 3, 123, 3, 1, 0, 0, []),
  (48, .aload_n 0, 1, 0, 0, 0, 0, 0, []),
  (49, .iload_n 2, 1, 2, 0, 0, 0, 0, []),
  (50, .iconst (3), 1, 0, 0, 0, (3), 0, []),
  (51, .invokevirtual 98, 3, 27, 3, 1, 0, 0, []),
  (54, .invokestatic 113, 3, 124, 2, 11, 0, 0, []),
  (57, .iconst (2), 1, 0, 0, 0, (2), 0, []),
  (58, .if_icmp .gt (6), 3, 64, 0, 0, 0, 0, []),
  (61, .iinc 3 (2), 3, 3, 0, 0, (2), 0, [])]
set_option maxRecDepth 100000 in
theorem lX2_agreement_42_ck : lX2_agreement_42.all (ra_ck mX2_agreement 2) = true := by decide +kernel
def nX2_agreement_42 (N : Nat) (a0 : Nat) (a1 : Int32) (a2 : Int32) (a3 : Int32) (h : ra_H) : Option (Int32 × ra_H) :=
  (fX2_lineFact N a0 a1 ((3 : Int32)) h).bind fun q1 =>
  (fX2_factOf N a0 a2 ((3 : Int32)) q1.2).bind fun q2 =>
  (fX11_apart N q1.1 q2.1 q2.2).bind fun q3 =>
  if q3.1 ≤ ((2 : Int32)) then
    let y4 := a3 + (2 : Int32)
    nX2_agreement_64 N a0 a1 a2 y4 q3.2
  else
    nX2_agreement_64 N a0 a1 a2 a3 q3.2
def kX2_agreement_42 (N : Nat) : Nat → List (Option Value) → List Value → ra_H → Option (Int32 × ra_H) := (ra_k1 64 (fun L S h => match L, S with
  | [some (.ref a0), some (.int a1), some (.int a2), some (.int a3), _], [] => nX2_agreement_64 N a0 a1 a2 a3 h
  | _, _ => none) ra_k0)
theorem kX2_agreement_42_ok (N : Nat) : ra_kok 3 mX2_agreement ra_oI (kX2_agreement_42 N) := (ra_k1_ok (by
  intro L S h a e
  split at e
  · exact ra_Ru.weak (nX2_agreement_64_ok N _ _ _ _ _ _ e) ⟨rfl, ⟨rfl, ⟨rfl, ⟨rfl, trivial⟩⟩⟩⟩
  · cases e) ra_k0_ok)
set_option maxRecDepth 100000 in
theorem nX2_agreement_42_ok (N : Nat) (a0 : Nat) (a1 : Int32) (a2 : Int32) (a3 : Int32) (h : ra_H) (r : (Int32 × ra_H)) (e : nX2_agreement_42 N a0 a1 a2 a3 h = some r) : ra_Ru 3 mX2_agreement 42 [some (.ref a0), some (.int a1), some (.int a2), some (.int a3), none] [] h (ra_oI r) :=
  ra_sound (by omega) rfl ra_rI_ok (kX2_agreement_42_ok N) (fun m av h h1 e => (ra_c0_ok (ro := ra_oV)) m av h h1 e) (fun m av h x h1 e => (tIX2_agreement_ok N) m av h (x, h1) e) (fun m av h x h1 e => (ra_c0_ok (ro := ra_oJ)) m av h (x, h1) e) (fun m av h x h1 e => (ra_c0_ok (ro := ra_oR)) m av h (x, h1) e) (fun m av h x h1 e => (ra_c0_ok (ro := ra_oN)) m av h (x, h1) e) (fun m av h x h1 e => (ra_c0_ok (ro := ra_oF)) m av h (x, h1) e) 13 lX2_agreement_42 _ _ _ _ lX2_agreement_42_ck (show ra_run ra_rI (kX2_agreement_42 N) ra_c0 (tIX2_agreement N) ra_c0 ra_c0 ra_c0 ra_c0 13 lX2_agreement_42 [some (.ref a0), some (.int a1), some (.int a2), some (.int a3), none] [] h = some r from e) _ _ rfl
def lX2_agreement_22 : List ra_I := [(22, .aload_n 0, 1, 0, 0, 0, 0, 0, []),
  (23, .iload_n 1, 1, 1, 0, 0, 0, 0, []),
  (24, .bipush (10), 2, 0, 0, 0, (10), 0, []),
  (26, .invokevirtual 116, 3, 123, 3, 1, 0, 0, []),
  (29, .aload_n 0, 1, 0, 0, 0, 0, 0, []),
  (30, .iload_n 2, 1, 2, 0, 0, 0, 0, []),
  (31, .bipush (10), 2, 0, 0, 0, (10), 0, []),
  (33, .invokevirtual 98, 3, 27, 3, 1, 0, 0, []),
  (36, .if_icmp .ne (6), 3, 42, 0, 0, 0, 0, []),
  (39, .iinc 3 (3), 3, 3, 0, 0, (3), 0, [])]
set_option maxRecDepth 100000 in
theorem lX2_agreement_22_ck : lX2_agreement_22.all (ra_ck mX2_agreement 2) = true := by decide +kernel
def nX2_agreement_22 (N : Nat) (a0 : Nat) (a1 : Int32) (a2 : Int32) (a3 : Int32) (h : ra_H) : Option (Int32 × ra_H) :=
  (fX2_lineFact N a0 a1 ((10 : Int32)) h).bind fun q1 =>
  (fX2_factOf N a0 a2 ((10 : Int32)) q1.2).bind fun q2 =>
  if q1.1 = q2.1 then
    let y3 := a3 + (3 : Int32)
    nX2_agreement_42 N a0 a1 a2 y3 q2.2
  else
    nX2_agreement_42 N a0 a1 a2 a3 q2.2
def kX2_agreement_22 (N : Nat) : Nat → List (Option Value) → List Value → ra_H → Option (Int32 × ra_H) := (ra_k1 42 (fun L S h => match L, S with
  | [some (.ref a0), some (.int a1), some (.int a2), some (.int a3), _], [] => nX2_agreement_42 N a0 a1 a2 a3 h
  | _, _ => none) ra_k0)
theorem kX2_agreement_22_ok (N : Nat) : ra_kok 3 mX2_agreement ra_oI (kX2_agreement_22 N) := (ra_k1_ok (by
  intro L S h a e
  split at e
  · exact ra_Ru.weak (nX2_agreement_42_ok N _ _ _ _ _ _ e) ⟨rfl, ⟨rfl, ⟨rfl, ⟨rfl, trivial⟩⟩⟩⟩
  · cases e) ra_k0_ok)
set_option maxRecDepth 100000 in
theorem nX2_agreement_22_ok (N : Nat) (a0 : Nat) (a1 : Int32) (a2 : Int32) (a3 : Int32) (h : ra_H) (r : (Int32 × ra_H)) (e : nX2_agreement_22 N a0 a1 a2 a3 h = some r) : ra_Ru 3 mX2_agreement 22 [some (.ref a0), some (.int a1), some (.int a2), some (.int a3), none] [] h (ra_oI r) :=
  ra_sound (by omega) rfl ra_rI_ok (kX2_agreement_22_ok N) (fun m av h h1 e => (ra_c0_ok (ro := ra_oV)) m av h h1 e) (fun m av h x h1 e => (tIX2_agreement_ok N) m av h (x, h1) e) (fun m av h x h1 e => (ra_c0_ok (ro := ra_oJ)) m av h (x, h1) e) (fun m av h x h1 e => (ra_c0_ok (ro := ra_oR)) m av h (x, h1) e) (fun m av h x h1 e => (ra_c0_ok (ro := ra_oN)) m av h (x, h1) e) (fun m av h x h1 e => (ra_c0_ok (ro := ra_oF)) m av h (x, h1) e) 11 lX2_agreement_22 _ _ _ _ lX2_agreement_22_ck (show ra_run ra_rI (kX2_agreement_22 N) ra_c0 (tIX2_agreement N) ra_c0 ra_c0 ra_c0 ra_c0 11 lX2_agreement_22 [some (.ref a0), some (.int a1), some (.int a2), some (.int a3), none] [] h = some r from e) _ _ rfl
def lX2_agreement_0 : List ra_I := [(0, .iconst (0), 1, 0, 0, 0, (0), 0, []),
  (1, .istore_n 3, 1, 3, 0, 0, 0, 0, []),
  (2, .aload_n 0, 1, 0, 0, 0, 0, 0, []),
  (3, .iload_n 1, 1, 1, 0, 0, 0, 0, []),
  (4, .bipush (9), 2, 0, 0, 0, (9), 0, []),
  (6, .invokevirtual 116, 3, 123, 3, 1, 0, 0, []),
  (9, .aload_n 0, 1, 0, 0, 0, 0, 0, []),
  (10, .iload_n 2, 1, 2, 0, 0, 0, 0, []),
  (11, .bipush (9), 2, 0, 0, 0, (9), 0, []),
  (13, .invokevirtual 98, 3, 27, 3, 1, 0, 0, []),
  (16, .if_icmp .ne (6), 3, 22, 0, 0, 0, 0, []),
  (19, .iinc 3 (8), 3, 3, 0, 0, (8), 0, [])]
set_option maxRecDepth 100000 in
theorem lX2_agreement_0_ck : lX2_agreement_0.all (ra_ck mX2_agreement 2) = true := by decide +kernel
def nX2_agreement_0 (N : Nat) (a0 : Nat) (a1 : Int32) (a2 : Int32) (h : ra_H) : Option (Int32 × ra_H) :=
  (fX2_lineFact N a0 a1 ((9 : Int32)) h).bind fun q1 =>
  (fX2_factOf N a0 a2 ((9 : Int32)) q1.2).bind fun q2 =>
  if q1.1 = q2.1 then
    let y3 := ((0 : Int32)) + (8 : Int32)
    nX2_agreement_22 N a0 a1 a2 y3 q2.2
  else
    nX2_agreement_22 N a0 a1 a2 ((0 : Int32)) q2.2
def kX2_agreement_0 (N : Nat) : Nat → List (Option Value) → List Value → ra_H → Option (Int32 × ra_H) := (ra_k1 22 (fun L S h => match L, S with
  | [some (.ref a0), some (.int a1), some (.int a2), some (.int a3), _], [] => nX2_agreement_22 N a0 a1 a2 a3 h
  | _, _ => none) ra_k0)
theorem kX2_agreement_0_ok (N : Nat) : ra_kok 3 mX2_agreement ra_oI (kX2_agreement_0 N) := (ra_k1_ok (by
  intro L S h a e
  split at e
  · exact ra_Ru.weak (nX2_agreement_22_ok N _ _ _ _ _ _ e) ⟨rfl, ⟨rfl, ⟨rfl, ⟨rfl, trivial⟩⟩⟩⟩
  · cases e) ra_k0_ok)
set_option maxRecDepth 100000 in
theorem nX2_agreement_0_ok (N : Nat) (a0 : Nat) (a1 : Int32) (a2 : Int32) (h : ra_H) (r : (Int32 × ra_H)) (e : nX2_agreement_0 N a0 a1 a2 h = some r) : ra_Ru 3 mX2_agreement 0 [some (.ref a0), some (.int a1), some (.int a2), none, none] [] h (ra_oI r) :=
  ra_sound (by omega) rfl ra_rI_ok (kX2_agreement_0_ok N) (fun m av h h1 e => (ra_c0_ok (ro := ra_oV)) m av h h1 e) (fun m av h x h1 e => (tIX2_agreement_ok N) m av h (x, h1) e) (fun m av h x h1 e => (ra_c0_ok (ro := ra_oJ)) m av h (x, h1) e) (fun m av h x h1 e => (ra_c0_ok (ro := ra_oR)) m av h (x, h1) e) (fun m av h x h1 e => (ra_c0_ok (ro := ra_oN)) m av h (x, h1) e) (fun m av h x h1 e => (ra_c0_ok (ro := ra_oF)) m av h (x, h1) e) 13 lX2_agreement_0 _ _ _ _ lX2_agreement_0_ck (show ra_run ra_rI (kX2_agreement_0 N) ra_c0 (tIX2_agreement N) ra_c0 ra_c0 ra_c0 ra_c0 13 lX2_agreement_0 [some (.ref a0), some (.int a1), some (.int a2), none, none] [] h = some r from e) _ _ rfl
def fX2_agreement (N : Nat) (p0 : Nat) (p1 : Int32) (p2 : Int32) (h : ra_H) : Option (Int32 × ra_H) := match ra_isOb h p0 2 with
  | true => nX2_agreement_0 N p0 p1 p2 h
  | false => none
set_option maxRecDepth 100000 in
theorem mtX2_agreement : ra_MT[122]? = some (mX2_agreement, 1, 2, (1, 2), (5, 2), (5, 3)) := rfl
theorem fX2_agreement_co (N : Nat) (p0 : Nat) (p1 : Int32) (p2 : Int32) (h : ra_H) (r : (Int32 × ra_H)) (e : fX2_agreement N p0 p1 p2 h = some r) (D : Nat) (hD : 4 ≤ D) : ra_CO D 122 [.ref p0, .int p1, .int p2] h (ra_oI r).1 (ra_oI r).2 := by
  have hw : ra_nw2 [.ref p0, .int p1, .int p2] ≤ 5 := Nat.le_of_ble_eq_true rfl
  have hdb : ∀ v ∈ ([.ref p0, .int p1, .int p2] : List Value), ∀ x, v ≠ .double x := by
    intro v hv x hx
    simp [hx] at hv
  unfold fX2_agreement at e
  split at e
  · rename_i ho
    have e1 := e
    exact ⟨3, _, mtX2_agreement, hD, ra_ev_of (by decide) hdb hw trivial (ra_Ru.weak (nX2_agreement_0_ok N p0 p1 p2 h _ e1) ⟨rfl, ⟨rfl, ⟨rfl, trivial⟩⟩⟩), (fun _ => ⟨_, _, rfl, ra_rcv_of ho (by decide) rfl⟩), (fun h => absurd h (by decide))⟩
  · cases e
/-! RedMarks$Holdings.hasBook(I)Z -/
def mX2_hasBook : ra_M := (yX2_hasBook, cX2_hasBook, 2, (some .boolean))
def lX2_hasBook_17 : List ra_I := [(17, .ireturn, 1, 0, 0, 0, 0, 0, [])]
set_option maxRecDepth 100000 in
theorem lX2_hasBook_17_ck : lX2_hasBook_17.all (ra_ck mX2_hasBook 2) = true := by decide +kernel
def nX2_hasBook_17 (N : Nat) (b0 : Int32) (h : ra_H) : Option (Int32 × ra_H) :=
  some (b0, h)
def kX2_hasBook_17 (N : Nat) : Nat → List (Option Value) → List Value → ra_H → Option (Int32 × ra_H) := ra_k0
theorem kX2_hasBook_17_ok (N : Nat) : ra_kok 1 mX2_hasBook ra_oI (kX2_hasBook_17 N) := ra_k0_ok
set_option maxRecDepth 100000 in
theorem nX2_hasBook_17_ok (N : Nat) (b0 : Int32) (h : ra_H) (r : (Int32 × ra_H)) (e : nX2_hasBook_17 N b0 h = some r) : ra_Ru 1 mX2_hasBook 17 [none, none] [.int b0] h (ra_oI r) :=
  ra_sound (by omega) rfl ra_rI_ok (kX2_hasBook_17_ok N) (fun m av h h1 e => (ra_c0_ok (ro := ra_oV)) m av h h1 e) (fun m av h x h1 e => (ra_c0_ok (ro := ra_oI)) m av h (x, h1) e) (fun m av h x h1 e => (ra_c0_ok (ro := ra_oJ)) m av h (x, h1) e) (fun m av h x h1 e => (ra_c0_ok (ro := ra_oR)) m av h (x, h1) e) (fun m av h x h1 e => (ra_c0_ok (ro := ra_oN)) m av h (x, h1) e) (fun m av h x h1 e => (ra_c0_ok (ro := ra_oF)) m av h (x, h1) e) 2 lX2_hasBook_17 _ _ _ _ lX2_hasBook_17_ck (show ra_run ra_rI (kX2_hasBook_17 N) ra_c0 ra_c0 ra_c0 ra_c0 ra_c0 ra_c0 2 lX2_hasBook_17 [none, none] [.int b0] h = some r from e) _ _ rfl
def lX2_hasBook_16 : List ra_I := [(16, .iconst (0), 1, 0, 0, 0, (0), 0, [])]
set_option maxRecDepth 100000 in
theorem lX2_hasBook_16_ck : lX2_hasBook_16.all (ra_ck mX2_hasBook 2) = true := by decide +kernel
def nX2_hasBook_16 (N : Nat) (h : ra_H) : Option (Int32 × ra_H) :=
  nX2_hasBook_17 N ((0 : Int32)) h
def kX2_hasBook_16 (N : Nat) : Nat → List (Option Value) → List Value → ra_H → Option (Int32 × ra_H) := (ra_k1 17 (fun L S h => match L, S with
  | [_, _], [.int b0] => nX2_hasBook_17 N b0 h
  | _, _ => none) ra_k0)
theorem kX2_hasBook_16_ok (N : Nat) : ra_kok 1 mX2_hasBook ra_oI (kX2_hasBook_16 N) := (ra_k1_ok (by
  intro L S h a e
  split at e
  · exact ra_Ru.weak (nX2_hasBook_17_ok N _ _ _ e) trivial
  · cases e) ra_k0_ok)
set_option maxRecDepth 100000 in
theorem nX2_hasBook_16_ok (N : Nat) (h : ra_H) (r : (Int32 × ra_H)) (e : nX2_hasBook_16 N h = some r) : ra_Ru 1 mX2_hasBook 16 [none, none] [] h (ra_oI r) :=
  ra_sound (by omega) rfl ra_rI_ok (kX2_hasBook_16_ok N) (fun m av h h1 e => (ra_c0_ok (ro := ra_oV)) m av h h1 e) (fun m av h x h1 e => (ra_c0_ok (ro := ra_oI)) m av h (x, h1) e) (fun m av h x h1 e => (ra_c0_ok (ro := ra_oJ)) m av h (x, h1) e) (fun m av h x h1 e => (ra_c0_ok (ro := ra_oR)) m av h (x, h1) e) (fun m av h x h1 e => (ra_c0_ok (ro := ra_oN)) m av h (x, h1) e) (fun m av h x h1 e => (ra_c0_ok (ro := ra_oF)) m av h (x, h1) e) 2 lX2_hasBook_16 _ _ _ _ lX2_hasBook_16_ck (show ra_run ra_rI (kX2_hasBook_16 N) ra_c0 ra_c0 ra_c0 ra_c0 ra_c0 ra_c0 2 lX2_hasBook_16 [none, none] [] h = some r from e) _ _ rfl
def lX2_hasBook_0 : List ra_I := [(0, .iload_n 1, 1, 1, 0, 0, 0, 0, []),
  (1, .ifCond .lt (15), 3, 16, 0, 0, 0, 0, []),
  (4, .iload_n 1, 1, 1, 0, 0, 0, 0, []),
  (5, .aload_n 0, 1, 0, 0, 0, 0, 0, []),
  (6, .getfield 71, 3, 2, 13, 0, 0, 0, []),
  (9, .if_icmp .ge (7), 3, 16, 0, 0, 0, 0, []),
  (12, .iconst (1), 1, 0, 0, 0, (1), 0, []),
  (13, .goto (4), 3, 17, 0, 0, 0, 0, [])]
set_option maxRecDepth 100000 in
theorem lX2_hasBook_0_ck : lX2_hasBook_0.all (ra_ck mX2_hasBook 2) = true := by decide +kernel
def nX2_hasBook_0 (N : Nat) (a0 : Nat) (a1 : Int32) (h : ra_H) : Option (Int32 × ra_H) :=
  if a1 < 0 then
    nX2_hasBook_16 N h
  else
    (ra_fI h 2 a0 13).bind fun x1 =>
    if a1 < x1 then
      nX2_hasBook_17 N ((1 : Int32)) h
    else
      nX2_hasBook_16 N h
def kX2_hasBook_0 (N : Nat) : Nat → List (Option Value) → List Value → ra_H → Option (Int32 × ra_H) := (ra_k1 16 (fun L S h => match L, S with
  | [_, _], [] => nX2_hasBook_16 N h
  | _, _ => none) (ra_k1 17 (fun L S h => match L, S with
  | [_, _], [.int b0] => nX2_hasBook_17 N b0 h
  | _, _ => none) ra_k0))
theorem kX2_hasBook_0_ok (N : Nat) : ra_kok 1 mX2_hasBook ra_oI (kX2_hasBook_0 N) := (ra_k1_ok (by
  intro L S h a e
  split at e
  · exact ra_Ru.weak (nX2_hasBook_16_ok N _ _ e) trivial
  · cases e) (ra_k1_ok (by
  intro L S h a e
  split at e
  · exact ra_Ru.weak (nX2_hasBook_17_ok N _ _ _ e) trivial
  · cases e) ra_k0_ok))
set_option maxRecDepth 100000 in
theorem nX2_hasBook_0_ok (N : Nat) (a0 : Nat) (a1 : Int32) (h : ra_H) (r : (Int32 × ra_H)) (e : nX2_hasBook_0 N a0 a1 h = some r) : ra_Ru 1 mX2_hasBook 0 [some (.ref a0), some (.int a1)] [] h (ra_oI r) :=
  ra_sound (by omega) rfl ra_rI_ok (kX2_hasBook_0_ok N) (fun m av h h1 e => (ra_c0_ok (ro := ra_oV)) m av h h1 e) (fun m av h x h1 e => (ra_c0_ok (ro := ra_oI)) m av h (x, h1) e) (fun m av h x h1 e => (ra_c0_ok (ro := ra_oJ)) m av h (x, h1) e) (fun m av h x h1 e => (ra_c0_ok (ro := ra_oR)) m av h (x, h1) e) (fun m av h x h1 e => (ra_c0_ok (ro := ra_oN)) m av h (x, h1) e) (fun m av h x h1 e => (ra_c0_ok (ro := ra_oF)) m av h (x, h1) e) 9 lX2_hasBook_0 _ _ _ _ lX2_hasBook_0_ck (show ra_run ra_rI (kX2_hasBook_0 N) ra_c0 ra_c0 ra_c0 ra_c0 ra_c0 ra_c0 9 lX2_hasBook_0 [some (.ref a0), some (.int a1)] [] h = some r from e) _ _ rfl
def fX2_hasBook (N : Nat) (p0 : Nat) (p1 : Int32) (h : ra_H) : Option (Int32 × ra_H) := match ra_isOb h p0 2 with
  | true => (nX2_hasBook_0 N p0 p1 h).bind (fun q => ra_rz q.1 q.2)
  | false => none
set_option maxRecDepth 100000 in
theorem mtX2_hasBook : ra_MT[26]? = some (mX2_hasBook, 1, 1, (1, 2), (3, 45), (3, 46)) := rfl
theorem fX2_hasBook_co (N : Nat) (p0 : Nat) (p1 : Int32) (h : ra_H) (r : (Int32 × ra_H)) (e : fX2_hasBook N p0 p1 h = some r) (D : Nat) (hD : 2 ≤ D) : ra_CO D 26 [.ref p0, .int p1] h (ra_oI r).1 (ra_oI r).2 := by
  have hw : ra_nw2 [.ref p0, .int p1] ≤ 2 := Nat.le_of_ble_eq_true rfl
  have hdb : ∀ v ∈ ([.ref p0, .int p1] : List Value), ∀ x, v ≠ .double x := by
    intro v hv x hx
    simp [hx] at hv
  unfold fX2_hasBook at e
  split at e
  · rename_i ho
    obtain ⟨q, e1, e2⟩ := Option.bind_eq_some_iff.mp e
    obtain ⟨rfl, hz⟩ := ra_rz_of e2
    exact ⟨1, _, mtX2_hasBook, hD, ra_ev_of (by decide) hdb hw hz (ra_Ru.weak (nX2_hasBook_0_ok N p0 p1 h _ e1) ⟨rfl, ⟨rfl, trivial⟩⟩), (fun _ => ⟨_, _, rfl, ra_rcv_of ho (by decide) rfl⟩), (fun h => absurd h (by decide))⟩
  · cases e
/-! RedMarks$Holdings.hasLine(I)Z -/
def mX2_hasLine : ra_M := (yX2_hasLine, cX2_hasLine, 2, (some .boolean))
def lX2_hasLine_17 : List ra_I := [(17, .ireturn, 1, 0, 0, 0, 0, 0, [])]
set_option maxRecDepth 100000 in
theorem lX2_hasLine_17_ck : lX2_hasLine_17.all (ra_ck mX2_hasLine 2) = true := by decide +kernel
def nX2_hasLine_17 (N : Nat) (b0 : Int32) (h : ra_H) : Option (Int32 × ra_H) :=
  some (b0, h)
def kX2_hasLine_17 (N : Nat) : Nat → List (Option Value) → List Value → ra_H → Option (Int32 × ra_H) := ra_k0
theorem kX2_hasLine_17_ok (N : Nat) : ra_kok 1 mX2_hasLine ra_oI (kX2_hasLine_17 N) := ra_k0_ok
set_option maxRecDepth 100000 in
theorem nX2_hasLine_17_ok (N : Nat) (b0 : Int32) (h : ra_H) (r : (Int32 × ra_H)) (e : nX2_hasLine_17 N b0 h = some r) : ra_Ru 1 mX2_hasLine 17 [none, none] [.int b0] h (ra_oI r) :=
  ra_sound (by omega) rfl ra_rI_ok (kX2_hasLine_17_ok N) (fun m av h h1 e => (ra_c0_ok (ro := ra_oV)) m av h h1 e) (fun m av h x h1 e => (ra_c0_ok (ro := ra_oI)) m av h (x, h1) e) (fun m av h x h1 e => (ra_c0_ok (ro := ra_oJ)) m av h (x, h1) e) (fun m av h x h1 e => (ra_c0_ok (ro := ra_oR)) m av h (x, h1) e) (fun m av h x h1 e => (ra_c0_ok (ro := ra_oN)) m av h (x, h1) e) (fun m av h x h1 e => (ra_c0_ok (ro := ra_oF)) m av h (x, h1) e) 2 lX2_hasLine_17 _ _ _ _ lX2_hasLine_17_ck (show ra_run ra_rI (kX2_hasLine_17 N) ra_c0 ra_c0 ra_c0 ra_c0 ra_c0 ra_c0 2 lX2_hasLine_17 [none, none] [.int b0] h = some r from e) _ _ rfl
def lX2_hasLine_16 : List ra_I := [(16, .iconst (0), 1, 0, 0, 0, (0), 0, [])]
set_option maxRecDepth 100000 in
theorem lX2_hasLine_16_ck : lX2_hasLine_16.all (ra_ck mX2_hasLine 2) = true := by decide +kernel
def nX2_hasLine_16 (N : Nat) (h : ra_H) : Option (Int32 × ra_H) :=
  nX2_hasLine_17 N ((0 : Int32)) h
def kX2_hasLine_16 (N : Nat) : Nat → List (Option Value) → List Value → ra_H → Option (Int32 × ra_H) := (ra_k1 17 (fun L S h => match L, S with
  | [_, _], [.int b0] => nX2_hasLine_17 N b0 h
  | _, _ => none) ra_k0)
theorem kX2_hasLine_16_ok (N : Nat) : ra_kok 1 mX2_hasLine ra_oI (kX2_hasLine_16 N) := (ra_k1_ok (by
  intro L S h a e
  split at e
  · exact ra_Ru.weak (nX2_hasLine_17_ok N _ _ _ e) trivial
  · cases e) ra_k0_ok)
set_option maxRecDepth 100000 in
theorem nX2_hasLine_16_ok (N : Nat) (h : ra_H) (r : (Int32 × ra_H)) (e : nX2_hasLine_16 N h = some r) : ra_Ru 1 mX2_hasLine 16 [none, none] [] h (ra_oI r) :=
  ra_sound (by omega) rfl ra_rI_ok (kX2_hasLine_16_ok N) (fun m av h h1 e => (ra_c0_ok (ro := ra_oV)) m av h h1 e) (fun m av h x h1 e => (ra_c0_ok (ro := ra_oI)) m av h (x, h1) e) (fun m av h x h1 e => (ra_c0_ok (ro := ra_oJ)) m av h (x, h1) e) (fun m av h x h1 e => (ra_c0_ok (ro := ra_oR)) m av h (x, h1) e) (fun m av h x h1 e => (ra_c0_ok (ro := ra_oN)) m av h (x, h1) e) (fun m av h x h1 e => (ra_c0_ok (ro := ra_oF)) m av h (x, h1) e) 2 lX2_hasLine_16 _ _ _ _ lX2_hasLine_16_ck (show ra_run ra_rI (kX2_hasLine_16 N) ra_c0 ra_c0 ra_c0 ra_c0 ra_c0 ra_c0 2 lX2_hasLine_16 [none, none] [] h = some r from e) _ _ rfl
def lX2_hasLine_0 : List ra_I := [(0, .iload_n 1, 1, 1, 0, 0, 0, 0, []),
  (1, .ifCond .lt (15), 3, 16, 0, 0, 0, 0, []),
  (4, .iload_n 1, 1, 1, 0, 0, 0, 0, []),
  (5, .aload_n 0, 1, 0, 0, 0, 0, 0, []),
  (6, .getfield 77, 3, 2, 15, 0, 0, 0, []),
  (9, .if_icmp .ge (7), 3, 16, 0, 0, 0, 0, []),
  (12, .iconst (1), 1, 0, 0, 0, (1), 0, []),
  (13, .goto (4), 3, 17, 0, 0, 0, 0, [])]
set_option maxRecDepth 100000 in
theorem lX2_hasLine_0_ck : lX2_hasLine_0.all (ra_ck mX2_hasLine 2) = true := by decide +kernel
def nX2_hasLine_0 (N : Nat) (a0 : Nat) (a1 : Int32) (h : ra_H) : Option (Int32 × ra_H) :=
  if a1 < 0 then
    nX2_hasLine_16 N h
  else
    (ra_fI h 2 a0 15).bind fun x1 =>
    if a1 < x1 then
      nX2_hasLine_17 N ((1 : Int32)) h
    else
      nX2_hasLine_16 N h
def kX2_hasLine_0 (N : Nat) : Nat → List (Option Value) → List Value → ra_H → Option (Int32 × ra_H) := (ra_k1 16 (fun L S h => match L, S with
  | [_, _], [] => nX2_hasLine_16 N h
  | _, _ => none) (ra_k1 17 (fun L S h => match L, S with
  | [_, _], [.int b0] => nX2_hasLine_17 N b0 h
  | _, _ => none) ra_k0))
theorem kX2_hasLine_0_ok (N : Nat) : ra_kok 1 mX2_hasLine ra_oI (kX2_hasLine_0 N) := (ra_k1_ok (by
  intro L S h a e
  split at e
  · exact ra_Ru.weak (nX2_hasLine_16_ok N _ _ e) trivial
  · cases e) (ra_k1_ok (by
  intro L S h a e
  split at e
  · exact ra_Ru.weak (nX2_hasLine_17_ok N _ _ _ e) trivial
  · cases e) ra_k0_ok))
set_option maxRecDepth 100000 in
theorem nX2_hasLine_0_ok (N : Nat) (a0 : Nat) (a1 : Int32) (h : ra_H) (r : (Int32 × ra_H)) (e : nX2_hasLine_0 N a0 a1 h = some r) : ra_Ru 1 mX2_hasLine 0 [some (.ref a0), some (.int a1)] [] h (ra_oI r) :=
  ra_sound (by omega) rfl ra_rI_ok (kX2_hasLine_0_ok N) (fun m av h h1 e => (ra_c0_ok (ro := ra_oV)) m av h h1 e) (fun m av h x h1 e => (ra_c0_ok (ro := ra_oI)) m av h (x, h1) e) (fun m av h x h1 e => (ra_c0_ok (ro := ra_oJ)) m av h (x, h1) e) (fun m av h x h1 e => (ra_c0_ok (ro := ra_oR)) m av h (x, h1) e) (fun m av h x h1 e => (ra_c0_ok (ro := ra_oN)) m av h (x, h1) e) (fun m av h x h1 e => (ra_c0_ok (ro := ra_oF)) m av h (x, h1) e) 9 lX2_hasLine_0 _ _ _ _ lX2_hasLine_0_ck (show ra_run ra_rI (kX2_hasLine_0 N) ra_c0 ra_c0 ra_c0 ra_c0 ra_c0 ra_c0 9 lX2_hasLine_0 [some (.ref a0), some (.int a1)] [] h = some r from e) _ _ rfl
def fX2_hasLine (N : Nat) (p0 : Nat) (p1 : Int32) (h : ra_H) : Option (Int32 × ra_H) := match ra_isOb h p0 2 with
  | true => (nX2_hasLine_0 N p0 p1 h).bind (fun q => ra_rz q.1 q.2)
  | false => none
set_option maxRecDepth 100000 in
theorem mtX2_hasLine : ra_MT[118]? = some (mX2_hasLine, 1, 1, (1, 2), (4, 225), (4, 226)) := rfl
theorem fX2_hasLine_co (N : Nat) (p0 : Nat) (p1 : Int32) (h : ra_H) (r : (Int32 × ra_H)) (e : fX2_hasLine N p0 p1 h = some r) (D : Nat) (hD : 2 ≤ D) : ra_CO D 118 [.ref p0, .int p1] h (ra_oI r).1 (ra_oI r).2 := by
  have hw : ra_nw2 [.ref p0, .int p1] ≤ 2 := Nat.le_of_ble_eq_true rfl
  have hdb : ∀ v ∈ ([.ref p0, .int p1] : List Value), ∀ x, v ≠ .double x := by
    intro v hv x hx
    simp [hx] at hv
  unfold fX2_hasLine at e
  split at e
  · rename_i ho
    obtain ⟨q, e1, e2⟩ := Option.bind_eq_some_iff.mp e
    obtain ⟨rfl, hz⟩ := ra_rz_of e2
    exact ⟨1, _, mtX2_hasLine, hD, ra_ev_of (by decide) hdb hw hz (ra_Ru.weak (nX2_hasLine_0_ok N p0 p1 h _ e1) ⟨rfl, ⟨rfl, trivial⟩⟩), (fun _ => ⟨_, _, rfl, ra_rcv_of ho (by decide) rfl⟩), (fun h => absurd h (by decide))⟩
  · cases e
/-! RedMarks$Holdings.copyRow([I[I)V -/
def mX2_copyRow : ra_M := (yX2_copyRow, cX2_copyRow, 2, none)
def lX2_copyRow_0 : List ra_I := [(0, .aload_n 0, 1, 0, 0, 0, 0, 0, []),
  (1, .iconst (0), 1, 0, 0, 0, (0), 0, []),
  (2, .aload_n 1, 1, 1, 0, 0, 0, 0, []),
  (3, .iconst (0), 1, 0, 0, 0, (0), 0, []),
  (4, .aload_n 0, 1, 0, 0, 0, 0, 0, []),
  (5, .arraylength, 1, 0, 0, 0, 0, 0, []),
  (6, .aload_n 1, 1, 1, 0, 0, 0, 0, []),
  (7, .arraylength, 1, 0, 0, 0, 0, 0, []),
  (8, .invokestatic 86, 3, 46, 0, 21, 0, 0, []),
  (11, .invokestatic 92, 3, 0, 0, 22, 0, 0, []),
  (14, .return_, 1, 0, 0, 0, 0, 0, [])]
set_option maxRecDepth 100000 in
theorem lX2_copyRow_0_ck : lX2_copyRow_0.all (ra_ck mX2_copyRow 2) = true := by decide +kernel
def nX2_copyRow_0 (N : Nat) (a0 : Nat) (a1 : Nat) (h : ra_H) : Option ra_H :=
  (ra_aL h a0).bind fun x1 =>
  (ra_aL h a1).bind fun x2 =>
  (ra_cp h a0 ((0 : Int32)) a1 ((0 : Int32)) (if x2 < x1 then x2 else x1)).bind fun h3 =>
  some h3
def kX2_copyRow_0 (N : Nat) : Nat → List (Option Value) → List Value → ra_H → Option ra_H := ra_k0
theorem kX2_copyRow_0_ok (N : Nat) : ra_kok 1 mX2_copyRow ra_oV (kX2_copyRow_0 N) := ra_k0_ok
set_option maxRecDepth 100000 in
theorem nX2_copyRow_0_ok (N : Nat) (a0 : Nat) (a1 : Nat) (h : ra_H) (r : ra_H) (e : nX2_copyRow_0 N a0 a1 h = some r) : ra_Ru 1 mX2_copyRow 0 [some (.ref a0), some (.ref a1)] [] h (ra_oV r) :=
  ra_sound (by omega) rfl ra_rV_ok (kX2_copyRow_0_ok N) (fun m av h h1 e => (ra_c0_ok (ro := ra_oV)) m av h h1 e) (fun m av h x h1 e => (ra_c0_ok (ro := ra_oI)) m av h (x, h1) e) (fun m av h x h1 e => (ra_c0_ok (ro := ra_oJ)) m av h (x, h1) e) (fun m av h x h1 e => (ra_c0_ok (ro := ra_oR)) m av h (x, h1) e) (fun m av h x h1 e => (ra_c0_ok (ro := ra_oN)) m av h (x, h1) e) (fun m av h x h1 e => (ra_c0_ok (ro := ra_oF)) m av h (x, h1) e) 12 lX2_copyRow_0 _ _ _ _ lX2_copyRow_0_ck (show ra_run ra_rV (kX2_copyRow_0 N) ra_c0 ra_c0 ra_c0 ra_c0 ra_c0 ra_c0 12 lX2_copyRow_0 [some (.ref a0), some (.ref a1)] [] h = some r from e) _ _ rfl
def fX2_copyRow (N : Nat) (p0 : Nat) (p1 : Nat) (h : ra_H) : Option ra_H := nX2_copyRow_0 N p0 p1 h
set_option maxRecDepth 100000 in
theorem mtX2_copyRow : ra_MT[201]? = some (mX2_copyRow, 0, 2, (1, 2), (6, 99), (0, 0)) := rfl
theorem fX2_copyRow_co (N : Nat) (p0 : Nat) (p1 : Nat) (h : ra_H) (r : ra_H) (e : fX2_copyRow N p0 p1 h = some r) (D : Nat) (hD : 2 ≤ D) : ra_CO D 201 [.ref p0, .ref p1] h (ra_oV r).1 (ra_oV r).2 := by
  have hw : ra_nw2 [.ref p0, .ref p1] ≤ 2 := Nat.le_of_ble_eq_true rfl
  have hdb : ∀ v ∈ ([.ref p0, .ref p1] : List Value), ∀ x, v ≠ .double x := by
    intro v hv x hx
    simp [hx] at hv
  unfold fX2_copyRow at e
  have e1 := e
  exact ⟨1, _, mtX2_copyRow, hD, ra_ev_of (by decide) hdb hw trivial (ra_Ru.weak (nX2_copyRow_0_ok N p0 p1 h _ e1) ⟨rfl, ⟨rfl, trivial⟩⟩), (fun h => absurd h (by decide)), (fun h => absurd h (by decide))⟩
/-! RedMarks$Holdings.takeOver(LRedMarks$Holdings;)V -/
def mX2_takeOver : ra_M := (yX2_takeOver, cX2_takeOver, 3, none)
def tVX2_takeOver (N : Nat) : Nat → List Value → ra_H → Option ra_H := (ra_c1 201 (fun av h => match av with
  | [.ref z0, .ref z1] => fX2_copyRow N z0 z1 h
  | _ => none) ra_c0)
theorem tVX2_takeOver_ok (N : Nat) : ra_cok 2 ra_oV (tVX2_takeOver N) := (ra_c1_ok (by
  intro av h a e
  split at e
  · exact fX2_copyRow_co N _ _ _ _ e 2 (by omega)
  · cases e) ra_c0_ok)
def lX2_takeOver_134 : List ra_I := [(134, .iload_n 2, 1, 2, 0, 0, 0, 0, []),
  (135, .bipush (8), 2, 0, 0, 0, (8), 0, []),
  (137, .if_icmp .ge (21), 3, 158, 0, 0, 0, 0, []),
  (140, .aload_n 0, 1, 0, 0, 0, 0, 0, []),
  (141, .getfield 26, 3, 2, 4, 2, 0, 0, []),
  (144, .iload_n 2, 1, 2, 0, 0, 0, 0, []),
  (145, .aload_n 1, 1, 1, 0, 0, 0, 0, []),
  (146, .getfield 26, 3, 2, 4, 2, 0, 0, []),
  (149, .iload_n 2, 1, 2, 0, 0, 0, 0, []),
  (150, .aaload, 1, 0, 0, 0, 0, 0, []),
  (151, .aastore, 1, 0, 0, 0, 0, 0, []),
  (152, .iinc 2 (1), 3, 2, 0, 0, (1), 0, []),
  (155, .goto (-21), 3, 134, 0, 0, 0, 0, []),
  (158, .aload_n 0, 1, 0, 0, 0, 0, 0, []),
  (159, .aload_n 1, 1, 1, 0, 0, 0, 0, []),
  (160, .getfield 71, 3, 2, 13, 0, 0, 0, []),
  (163, .putfield 71, 3, 2, 13, 0, 0, 0, []),
  (166, .aload_n 0, 1, 0, 0, 0, 0, 0, []),
  (167, .aload_n 1, 1, 1, 0, 0, 0, 0, []),
  (168, .getfield 74, 3, 2, 14, 0, 0, 0, []),
  (171, .putfield 74, 3, 2, 14, 0, 0, 0, []),
  (174, .aload_n 0, 1, 0, 0, 0, 0, 0, []),
  (175, .aload_n 1, 1, 1, 0, 0, 0, 0, []),
  (176, .getfield 77, 3, 2, 15, 0, 0, 0, []),
  (179, .putfield 77, 3, 2, 15, 0, 0, 0, []),
  (182, .aload_n 0, 1, 0, 0, 0, 0, 0, []),
  (183, .aload_n 1, 1, 1, 0, 0, 0, 0, []),
  (184, .getfield 80, 3, 2, 16, 0, 0, 0, []),
  (187, .putfield 80, 3, 2, 16, 0, 0, 0, []),
  (190, .aload_n 0, 1, 0, 0, 0, 0, 0, []),
  (191, .aload_n 1, 1, 1, 0, 0, 0, 0, []),
  (192, .getfield 54, 3, 2, 17, 0, 0, 0, []),
  (195, .putfield 54, 3, 2, 17, 0, 0, 0, []),
  (198, .aload_n 0, 1, 0, 0, 0, 0, 0, []),
  (199, .aload_n 1, 1, 1, 0, 0, 0, 0, []),
  (200, .getfield 58, 3, 2, 18, 0, 0, 0, []),
  (203, .putfield 58, 3, 2, 18, 0, 0, 0, []),
  (206, .aload_n 0, 1, 0, 0, 0, 0, 0, []),
  (207, .aload_n 1, 1, 1, 0, 0, 0, 0, []),
  (208, .getfield 83, 3, 2, 19, 0, 0, 0, []),
  (211, .putfield 83, 3, 2, 19, 0, 0, 0, []),
  (214, .return_, 1, 0, 0, 0, 0, 0, [])]
set_option maxRecDepth 100000 in
theorem lX2_takeOver_134_ck : lX2_takeOver_134.all (ra_ck mX2_takeOver 2) = true := by decide +kernel
def nX2_takeOver_134 (N : Nat) : Nat → Nat → Nat → Int32 → ra_H → Option ra_H
  | 0, _, _, _, _ => none
  | n + 1, a0, a1, a2, h =>
  if a2 < ((8 : Int32)) then
    (ra_fR h 2 a0 4).bind fun x15 =>
    (ra_fR h 2 a1 4).bind fun x16 =>
    (ra_aN h x16 a2).bind fun r17 => match r17 with
    | none =>
      (ra_aWN h x15 a2).bind fun h19 =>
      let y20 := a2 + (1 : Int32)
      nX2_takeOver_134 N n a0 a1 y20 h19
    | some x18 =>
      (ra_aWR h x15 a2 x18).bind fun h21 =>
      let y22 := a2 + (1 : Int32)
      nX2_takeOver_134 N n a0 a1 y22 h21
  else
    (ra_fI h 2 a1 13).bind fun x1 =>
    (ra_fW h 2 a0 13 (.int x1)).bind fun h2 =>
    (ra_fI h2 2 a1 14).bind fun x3 =>
    (ra_fW h2 2 a0 14 (.int x3)).bind fun h4 =>
    (ra_fI h4 2 a1 15).bind fun x5 =>
    (ra_fW h4 2 a0 15 (.int x5)).bind fun h6 =>
    (ra_fI h6 2 a1 16).bind fun x7 =>
    (ra_fW h6 2 a0 16 (.int x7)).bind fun h8 =>
    (ra_fI h8 2 a1 17).bind fun x9 =>
    (ra_fW h8 2 a0 17 (.int x9)).bind fun h10 =>
    (ra_fI h10 2 a1 18).bind fun x11 =>
    (ra_fW h10 2 a0 18 (.int x11)).bind fun h12 =>
    (ra_fI h12 2 a1 19).bind fun x13 =>
    (ra_fW h12 2 a0 19 (.int x13)).bind fun h14 =>
    some h14
def kX2_takeOver_134 (N : Nat) (cs : Nat → Nat → Int32 → ra_H → Option ra_H) : Nat → List (Option Value) → List Value → ra_H → Option ra_H := (ra_k1 134 (fun L S h => match L, S with
  | [some (.ref a0), some (.ref a1), some (.int a2)], [] => cs a0 a1 a2 h
  | _, _ => none) ra_k0)
theorem kX2_takeOver_134_ok (N : Nat) (cs : Nat → Nat → Int32 → ra_H → Option ra_H) (hcs : ∀ a0 a1 a2 h r, cs a0 a1 a2 h = some r → ra_Ru 2 mX2_takeOver 134 [some (.ref a0), some (.ref a1), some (.int a2)] [] h (ra_oV r)) : ra_kok 2 mX2_takeOver ra_oV (kX2_takeOver_134 N cs) := (ra_k1_ok (by
  intro L S h a e
  split at e
  · exact ra_Ru.weak (hcs _ _ _ _ _ e) ⟨rfl, ⟨rfl, ⟨rfl, trivial⟩⟩⟩
  · cases e) ra_k0_ok)
set_option maxRecDepth 100000 in
theorem nX2_takeOver_134_ok (N : Nat) : ∀ n a0 a1 a2 h r, nX2_takeOver_134 N n a0 a1 a2 h = some r → ra_Ru 2 mX2_takeOver 134 [some (.ref a0), some (.ref a1), some (.int a2)] [] h (ra_oV r) := by
  intro n
  induction n with
  | zero => intro a0 a1 a2 h r e; cases e
  | succ n ih =>
    intro a0 a1 a2 h r e
    exact ra_sound (by omega) rfl ra_rV_ok (kX2_takeOver_134_ok N (nX2_takeOver_134 N n) ih) (fun m av h h1 e => (tVX2_takeOver_ok N) m av h h1 e) (fun m av h x h1 e => (ra_c0_ok (ro := ra_oI)) m av h (x, h1) e) (fun m av h x h1 e => (ra_c0_ok (ro := ra_oJ)) m av h (x, h1) e) (fun m av h x h1 e => (ra_c0_ok (ro := ra_oR)) m av h (x, h1) e) (fun m av h x h1 e => (ra_c0_ok (ro := ra_oN)) m av h (x, h1) e) (fun m av h x h1 e => (ra_c0_ok (ro := ra_oF)) m av h (x, h1) e) 43 lX2_takeOver_134 _ _ _ _ lX2_takeOver_134_ck (show ra_run ra_rV (kX2_takeOver_134 N (nX2_takeOver_134 N n)) (tVX2_takeOver N) ra_c0 ra_c0 ra_c0 ra_c0 ra_c0 43 lX2_takeOver_134 [some (.ref a0), some (.ref a1), some (.int a2)] [] h = some r from e) _ _ rfl
def lX2_takeOver_0 : List ra_I := [(0, .aload_n 1, 1, 1, 0, 0, 0, 0, []),
  (1, .getfield 9, 3, 2, 0, 2, 0, 0, []),
  (4, .aload_n 0, 1, 0, 0, 0, 0, 0, []),
  (5, .getfield 9, 3, 2, 0, 2, 0, 0, []),
  (8, .invokestatic 67, 3, 201, 2, 0, 0, 0, []),
  (11, .aload_n 1, 1, 1, 0, 0, 0, 0, []),
  (12, .getfield 15, 3, 2, 1, 2, 0, 0, []),
  (15, .aload_n 0, 1, 0, 0, 0, 0, 0, []),
  (16, .getfield 15, 3, 2, 1, 2, 0, 0, []),
  (19, .invokestatic 67, 3, 201, 2, 0, 0, 0, []),
  (22, .aload_n 1, 1, 1, 0, 0, 0, 0, []),
  (23, .getfield 18, 3, 2, 2, 2, 0, 0, []),
  (26, .aload_n 0, 1, 0, 0, 0, 0, 0, []),
  (27, .getfield 18, 3, 2, 2, 2, 0, 0, []),
  (30, .invokestatic 67, 3, 201, 2, 0, 0, 0, []),
  (33, .aload_n 1, 1, 1, 0, 0, 0, 0, []),
  (34, .getfield 21, 3, 2, 3, 2, 0, 0, []),
  (37, .aload_n 0, 1, 0, 0, 0, 0, 0, []),
  (38, .getfield 21, 3, 2, 3, 2, 0, 0, []),
  (41, .invokestatic 67, 3, 201, 2, 0, 0, 0, []),
  (44, .aload_n 1, 1, 1, 0, 0, 0, 0, []),
  (45, .getfield 30, 3, 2, 5, 2, 0, 0, []),
  (48, .aload_n 0, 1, 0, 0, 0, 0, 0, []),
  (49, .getfield 30, 3, 2, 5, 2, 0, 0, []),
  (52, .invokestatic 67, 3, 201, 2, 0, 0, 0, []),
  (55, .aload_n 1, 1, 1, 0, 0, 0, 0, []),
  (56, .getfield 33, 3, 2, 6, 2, 0, 0, []),
  (59, .aload_n 0, 1, 0, 0, 0, 0, 0, []),
  (60, .getfield 33, 3, 2, 6, 2, 0, 0, []),
  (63, .invokestatic 67, 3, 201, 2, 0, 0, 0, []),
  (66, .aload_n 1, 1, 1, 0, 0, 0, 0, []),
  (67, .getfield 36, 3, 2, 7, 2, 0, 0, []),
  (70, .aload_n 0, 1, 0, 0, 0, 0, 0, []),
  (71, .getfield 36, 3, 2, 7, 2, 0, 0, []),
  (74, .invokestatic 67, 3, 201, 2, 0, 0, 0, []),
  (77, .aload_n 1, 1, 1, 0, 0, 0, 0, []),
  (78, .getfield 39, 3, 2, 8, 2, 0, 0, []),
  (81, .aload_n 0, 1, 0, 0, 0, 0, 0, []),
  (82, .getfield 39, 3, 2, 8, 2, 0, 0, []),
  (85, .invokestatic 67, 3, 201, 2, 0, 0, 0, []),
  (88, .aload_n 1, 1, 1, 0, 0, 0, 0, []),
  (89, .getfield 42, 3, 2, 9, 2, 0, 0, []),
  (92, .aload_n 0, 1, 0, 0, 0, 0, 0, []),
  (93, .getfield 42, 3, 2, 9, 2, 0, 0, []),
  (96, .invokestatic 67, 3, 201, 2, 0, 0, 0, []),
  (99, .aload_n 1, 1, 1, 0, 0, 0, 0, []),
  (100, .getfield 45, 3, 2, 10, 2, 0, 0, []),
  (103, .aload_n 0, 1, 0, 0, 0, 0, 0, []),
  (104, .getfield 45, 3, 2, 10, 2, 0, 0, []),
  (107, .invokestatic 67, 3, 201, 2, 0, 0, 0, []),
  (110, .aload_n 1, 1, 1, 0, 0, 0, 0, []),
  (111, .getfield 48, 3, 2, 11, 2, 0, 0, []),
  (114, .aload_n 0, 1, 0, 0, 0, 0, 0, []),
  (115, .getfield 48, 3, 2, 11, 2, 0, 0, []),
  (118, .invokestatic 67, 3, 201, 2, 0, 0, 0, []),
  (121, .aload_n 1, 1, 1, 0, 0, 0, 0, []),
  (122, .getfield 51, 3, 2, 12, 2, 0, 0, []),
  (125, .aload_n 0, 1, 0, 0, 0, 0, 0, []),
  (126, .getfield 51, 3, 2, 12, 2, 0, 0, []),
  (129, .invokestatic 67, 3, 201, 2, 0, 0, 0, []),
  (132, .iconst (0), 1, 0, 0, 0, (0), 0, []),
  (133, .istore_n 2, 1, 2, 0, 0, 0, 0, [])]
set_option maxRecDepth 100000 in
theorem lX2_takeOver_0_ck : lX2_takeOver_0.all (ra_ck mX2_takeOver 2) = true := by decide +kernel
def nX2_takeOver_0 (N : Nat) (a0 : Nat) (a1 : Nat) (h : ra_H) : Option ra_H :=
  (ra_fR h 2 a1 0).bind fun x1 =>
  (ra_fR h 2 a0 0).bind fun x2 =>
  (fX2_copyRow N x1 x2 h).bind fun h3 =>
  (ra_fR h3 2 a1 1).bind fun x4 =>
  (ra_fR h3 2 a0 1).bind fun x5 =>
  (fX2_copyRow N x4 x5 h3).bind fun h6 =>
  (ra_fR h6 2 a1 2).bind fun x7 =>
  (ra_fR h6 2 a0 2).bind fun x8 =>
  (fX2_copyRow N x7 x8 h6).bind fun h9 =>
  (ra_fR h9 2 a1 3).bind fun x10 =>
  (ra_fR h9 2 a0 3).bind fun x11 =>
  (fX2_copyRow N x10 x11 h9).bind fun h12 =>
  (ra_fR h12 2 a1 5).bind fun x13 =>
  (ra_fR h12 2 a0 5).bind fun x14 =>
  (fX2_copyRow N x13 x14 h12).bind fun h15 =>
  (ra_fR h15 2 a1 6).bind fun x16 =>
  (ra_fR h15 2 a0 6).bind fun x17 =>
  (fX2_copyRow N x16 x17 h15).bind fun h18 =>
  (ra_fR h18 2 a1 7).bind fun x19 =>
  (ra_fR h18 2 a0 7).bind fun x20 =>
  (fX2_copyRow N x19 x20 h18).bind fun h21 =>
  (ra_fR h21 2 a1 8).bind fun x22 =>
  (ra_fR h21 2 a0 8).bind fun x23 =>
  (fX2_copyRow N x22 x23 h21).bind fun h24 =>
  (ra_fR h24 2 a1 9).bind fun x25 =>
  (ra_fR h24 2 a0 9).bind fun x26 =>
  (fX2_copyRow N x25 x26 h24).bind fun h27 =>
  (ra_fR h27 2 a1 10).bind fun x28 =>
  (ra_fR h27 2 a0 10).bind fun x29 =>
  (fX2_copyRow N x28 x29 h27).bind fun h30 =>
  (ra_fR h30 2 a1 11).bind fun x31 =>
  (ra_fR h30 2 a0 11).bind fun x32 =>
  (fX2_copyRow N x31 x32 h30).bind fun h33 =>
  (ra_fR h33 2 a1 12).bind fun x34 =>
  (ra_fR h33 2 a0 12).bind fun x35 =>
  (fX2_copyRow N x34 x35 h33).bind fun h36 =>
  nX2_takeOver_134 N N a0 a1 ((0 : Int32)) h36
def kX2_takeOver_0 (N : Nat) : Nat → List (Option Value) → List Value → ra_H → Option ra_H := (ra_k1 134 (fun L S h => match L, S with
  | [some (.ref a0), some (.ref a1), some (.int a2)], [] => nX2_takeOver_134 N N a0 a1 a2 h
  | _, _ => none) ra_k0)
theorem kX2_takeOver_0_ok (N : Nat) : ra_kok 2 mX2_takeOver ra_oV (kX2_takeOver_0 N) := (ra_k1_ok (by
  intro L S h a e
  split at e
  · exact ra_Ru.weak (nX2_takeOver_134_ok N N _ _ _ _ _ e) ⟨rfl, ⟨rfl, ⟨rfl, trivial⟩⟩⟩
  · cases e) ra_k0_ok)
set_option maxRecDepth 100000 in
theorem nX2_takeOver_0_ok (N : Nat) (a0 : Nat) (a1 : Nat) (h : ra_H) (r : ra_H) (e : nX2_takeOver_0 N a0 a1 h = some r) : ra_Ru 2 mX2_takeOver 0 [some (.ref a0), some (.ref a1), none] [] h (ra_oV r) :=
  ra_sound (by omega) rfl ra_rV_ok (kX2_takeOver_0_ok N) (fun m av h h1 e => (tVX2_takeOver_ok N) m av h h1 e) (fun m av h x h1 e => (ra_c0_ok (ro := ra_oI)) m av h (x, h1) e) (fun m av h x h1 e => (ra_c0_ok (ro := ra_oJ)) m av h (x, h1) e) (fun m av h x h1 e => (ra_c0_ok (ro := ra_oR)) m av h (x, h1) e) (fun m av h x h1 e => (ra_c0_ok (ro := ra_oN)) m av h (x, h1) e) (fun m av h x h1 e => (ra_c0_ok (ro := ra_oF)) m av h (x, h1) e) 63 lX2_takeOver_0 _ _ _ _ lX2_takeOver_0_ck (show ra_run ra_rV (kX2_takeOver_0 N) (tVX2_takeOver N) ra_c0 ra_c0 ra_c0 ra_c0 ra_c0 63 lX2_takeOver_0 [some (.ref a0), some (.ref a1), none] [] h = some r from e) _ _ rfl
def fX2_takeOver (N : Nat) (p0 : Nat) (p1 : Nat) (h : ra_H) : Option ra_H := match ra_isOb h p0 2 with
  | true => nX2_takeOver_0 N p0 p1 h
  | false => none
set_option maxRecDepth 100000 in
theorem mtX2_takeOver : ra_MT[200]? = some (mX2_takeOver, 1, 1, (1, 2), (6, 95), (6, 96)) := rfl
theorem fX2_takeOver_co (N : Nat) (p0 : Nat) (p1 : Nat) (h : ra_H) (r : ra_H) (e : fX2_takeOver N p0 p1 h = some r) (D : Nat) (hD : 3 ≤ D) : ra_CO D 200 [.ref p0, .ref p1] h (ra_oV r).1 (ra_oV r).2 := by
  have hw : ra_nw2 [.ref p0, .ref p1] ≤ 3 := Nat.le_of_ble_eq_true rfl
  have hdb : ∀ v ∈ ([.ref p0, .ref p1] : List Value), ∀ x, v ≠ .double x := by
    intro v hv x hx
    simp [hx] at hv
  unfold fX2_takeOver at e
  split at e
  · rename_i ho
    have e1 := e
    exact ⟨2, _, mtX2_takeOver, hD, ra_ev_of (by decide) hdb hw trivial (ra_Ru.weak (nX2_takeOver_0_ok N p0 p1 h _ e1) ⟨rfl, ⟨rfl, trivial⟩⟩), (fun _ => ⟨_, _, rfl, ra_rcv_of ho (by decide) rfl⟩), (fun h => absurd h (by decide))⟩
  · cases e
/-! RedMarks$Holdings.dampApart(II)I -/
def mX2_dampApart : ra_M := (yX2_dampApart, cX2_dampApart, 3, (some .int))
def tIX2_dampApart (N : Nat) : Nat → List Value → ra_H → Option (Int32 × ra_H) := (ra_c1 27 (fun av h => match av with
  | [.ref z0, .int z1, .int z2] => fX2_factOf N z0 z1 z2 h
  | _ => none) (ra_c1 124 (fun av h => match av with
  | [.int z0, .int z1] => fX11_apart N z0 z1 h
  | _ => none) ra_c0))
theorem tIX2_dampApart_ok (N : Nat) : ra_cok 2 ra_oI (tIX2_dampApart N) := (ra_c1_ok (by
  intro av h a e
  split at e
  · exact fX2_factOf_co N _ _ _ _ _ e 2 (by omega)
  · cases e) (ra_c1_ok (by
  intro av h a e
  split at e
  · exact fX11_apart_co N _ _ _ _ e 2 (by omega)
  · cases e) ra_c0_ok))
def lX2_dampApart_0 : List ra_I := [(0, .aload_n 0, 1, 0, 0, 0, 0, 0, []),
  (1, .iload_n 1, 1, 1, 0, 0, 0, 0, []),
  (2, .bipush (8), 2, 0, 0, 0, (8), 0, []),
  (4, .invokevirtual 98, 3, 27, 3, 1, 0, 0, []),
  (7, .aload_n 0, 1, 0, 0, 0, 0, 0, []),
  (8, .iload_n 2, 1, 2, 0, 0, 0, 0, []),
  (9, .bipush (8), 2, 0, 0, 0, (8), 0, []),
  (11, .invokevirtual 98, 3, 27, 3, 1, 0, 0, []),
  (14, .invokestatic 113, 3, 124, 2, 11, 0, 0, []),
  (17, .ireturn, 1, 0, 0, 0, 0, 0, [])]
set_option maxRecDepth 100000 in
theorem lX2_dampApart_0_ck : lX2_dampApart_0.all (ra_ck mX2_dampApart 2) = true := by decide +kernel
def nX2_dampApart_0 (N : Nat) (a0 : Nat) (a1 : Int32) (a2 : Int32) (h : ra_H) : Option (Int32 × ra_H) :=
  (fX2_factOf N a0 a1 ((8 : Int32)) h).bind fun q1 =>
  (fX2_factOf N a0 a2 ((8 : Int32)) q1.2).bind fun q2 =>
  (fX11_apart N q1.1 q2.1 q2.2).bind fun q3 =>
  some (q3.1, q3.2)
def kX2_dampApart_0 (N : Nat) : Nat → List (Option Value) → List Value → ra_H → Option (Int32 × ra_H) := ra_k0
theorem kX2_dampApart_0_ok (N : Nat) : ra_kok 2 mX2_dampApart ra_oI (kX2_dampApart_0 N) := ra_k0_ok
set_option maxRecDepth 100000 in
theorem nX2_dampApart_0_ok (N : Nat) (a0 : Nat) (a1 : Int32) (a2 : Int32) (h : ra_H) (r : (Int32 × ra_H)) (e : nX2_dampApart_0 N a0 a1 a2 h = some r) : ra_Ru 2 mX2_dampApart 0 [some (.ref a0), some (.int a1), some (.int a2)] [] h (ra_oI r) :=
  ra_sound (by omega) rfl ra_rI_ok (kX2_dampApart_0_ok N) (fun m av h h1 e => (ra_c0_ok (ro := ra_oV)) m av h h1 e) (fun m av h x h1 e => (tIX2_dampApart_ok N) m av h (x, h1) e) (fun m av h x h1 e => (ra_c0_ok (ro := ra_oJ)) m av h (x, h1) e) (fun m av h x h1 e => (ra_c0_ok (ro := ra_oR)) m av h (x, h1) e) (fun m av h x h1 e => (ra_c0_ok (ro := ra_oN)) m av h (x, h1) e) (fun m av h x h1 e => (ra_c0_ok (ro := ra_oF)) m av h (x, h1) e) 11 lX2_dampApart_0 _ _ _ _ lX2_dampApart_0_ck (show ra_run ra_rI (kX2_dampApart_0 N) ra_c0 (tIX2_dampApart N) ra_c0 ra_c0 ra_c0 ra_c0 11 lX2_dampApart_0 [some (.ref a0), some (.int a1), some (.int a2)] [] h = some r from e) _ _ rfl
def fX2_dampApart (N : Nat) (p0 : Nat) (p1 : Int32) (p2 : Int32) (h : ra_H) : Option (Int32 × ra_H) := match ra_isOb h p0 2 with
  | true => nX2_dampApart_0 N p0 p1 p2 h
  | false => none
set_option maxRecDepth 100000 in
theorem mtX2_dampApart : ra_MT[163]? = some (mX2_dampApart, 1, 2, (1, 2), (5, 178), (5, 179)) := rfl
theorem fX2_dampApart_co (N : Nat) (p0 : Nat) (p1 : Int32) (p2 : Int32) (h : ra_H) (r : (Int32 × ra_H)) (e : fX2_dampApart N p0 p1 p2 h = some r) (D : Nat) (hD : 3 ≤ D) : ra_CO D 163 [.ref p0, .int p1, .int p2] h (ra_oI r).1 (ra_oI r).2 := by
  have hw : ra_nw2 [.ref p0, .int p1, .int p2] ≤ 3 := Nat.le_of_ble_eq_true rfl
  have hdb : ∀ v ∈ ([.ref p0, .int p1, .int p2] : List Value), ∀ x, v ≠ .double x := by
    intro v hv x hx
    simp [hx] at hv
  unfold fX2_dampApart at e
  split at e
  · rename_i ho
    have e1 := e
    exact ⟨2, _, mtX2_dampApart, hD, ra_ev_of (by decide) hdb hw trivial (ra_Ru.weak (nX2_dampApart_0_ok N p0 p1 p2 h _ e1) ⟨rfl, ⟨rfl, ⟨rfl, trivial⟩⟩⟩), (fun _ => ⟨_, _, rfl, ra_rcv_of ho (by decide) rfl⟩), (fun h => absurd h (by decide))⟩
  · cases e
/-! RedMarks$Holdings.isRight(II)Z -/
def mX2_isRight : ra_M := (yX2_isRight, cX2_isRight, 7, (some .boolean))
def tIX2_isRight (N : Nat) : Nat → List Value → ra_H → Option (Int32 × ra_H) := (ra_c1 27 (fun av h => match av with
  | [.ref z0, .int z1, .int z2] => fX2_factOf N z0 z1 z2 h
  | _ => none) ra_c0)
theorem tIX2_isRight_ok (N : Nat) : ra_cok 2 ra_oI (tIX2_isRight N) := (ra_c1_ok (by
  intro av h a e
  split at e
  · exact fX2_factOf_co N _ _ _ _ _ e 2 (by omega)
  · cases e) ra_c0_ok)
def lX2_isRight_73 : List ra_I := [(73, .ireturn, 1, 0, 0, 0, 0, 0, [])]
set_option maxRecDepth 100000 in
theorem lX2_isRight_73_ck : lX2_isRight_73.all (ra_ck mX2_isRight 2) = true := by decide +kernel
def nX2_isRight_73 (N : Nat) (b0 : Int32) (h : ra_H) : Option (Int32 × ra_H) :=
  some (b0, h)
def kX2_isRight_73 (N : Nat) : Nat → List (Option Value) → List Value → ra_H → Option (Int32 × ra_H) := ra_k0
theorem kX2_isRight_73_ok (N : Nat) : ra_kok 2 mX2_isRight ra_oI (kX2_isRight_73 N) := ra_k0_ok
set_option maxRecDepth 100000 in
theorem nX2_isRight_73_ok (N : Nat) (b0 : Int32) (h : ra_H) (r : (Int32 × ra_H)) (e : nX2_isRight_73 N b0 h = some r) : ra_Ru 2 mX2_isRight 73 [none, none, none, none, none, none, none] [.int b0] h (ra_oI r) :=
  ra_sound (by omega) rfl ra_rI_ok (kX2_isRight_73_ok N) (fun m av h h1 e => (ra_c0_ok (ro := ra_oV)) m av h h1 e) (fun m av h x h1 e => (tIX2_isRight_ok N) m av h (x, h1) e) (fun m av h x h1 e => (ra_c0_ok (ro := ra_oJ)) m av h (x, h1) e) (fun m av h x h1 e => (ra_c0_ok (ro := ra_oR)) m av h (x, h1) e) (fun m av h x h1 e => (ra_c0_ok (ro := ra_oN)) m av h (x, h1) e) (fun m av h x h1 e => (ra_c0_ok (ro := ra_oF)) m av h (x, h1) e) 2 lX2_isRight_73 _ _ _ _ lX2_isRight_73_ck (show ra_run ra_rI (kX2_isRight_73 N) ra_c0 (tIX2_isRight N) ra_c0 ra_c0 ra_c0 ra_c0 2 lX2_isRight_73 [none, none, none, none, none, none, none] [.int b0] h = some r from e) _ _ rfl
def lX2_isRight_72 : List ra_I := [(72, .iconst (0), 1, 0, 0, 0, (0), 0, [])]
set_option maxRecDepth 100000 in
theorem lX2_isRight_72_ck : lX2_isRight_72.all (ra_ck mX2_isRight 2) = true := by decide +kernel
def nX2_isRight_72 (N : Nat) (h : ra_H) : Option (Int32 × ra_H) :=
  nX2_isRight_73 N ((0 : Int32)) h
def kX2_isRight_72 (N : Nat) : Nat → List (Option Value) → List Value → ra_H → Option (Int32 × ra_H) := (ra_k1 73 (fun L S h => match L, S with
  | [_, _, _, _, _, _, _], [.int b0] => nX2_isRight_73 N b0 h
  | _, _ => none) ra_k0)
theorem kX2_isRight_72_ok (N : Nat) : ra_kok 2 mX2_isRight ra_oI (kX2_isRight_72 N) := (ra_k1_ok (by
  intro L S h a e
  split at e
  · exact ra_Ru.weak (nX2_isRight_73_ok N _ _ _ e) trivial
  · cases e) ra_k0_ok)
set_option maxRecDepth 100000 in
theorem nX2_isRight_72_ok (N : Nat) (h : ra_H) (r : (Int32 × ra_H)) (e : nX2_isRight_72 N h = some r) : ra_Ru 2 mX2_isRight 72 [none, none, none, none, none, none, none] [] h (ra_oI r) :=
  ra_sound (by omega) rfl ra_rI_ok (kX2_isRight_72_ok N) (fun m av h h1 e => (ra_c0_ok (ro := ra_oV)) m av h h1 e) (fun m av h x h1 e => (tIX2_isRight_ok N) m av h (x, h1) e) (fun m av h x h1 e => (ra_c0_ok (ro := ra_oJ)) m av h (x, h1) e) (fun m av h x h1 e => (ra_c0_ok (ro := ra_oR)) m av h (x, h1) e) (fun m av h x h1 e => (ra_c0_ok (ro := ra_oN)) m av h (x, h1) e) (fun m av h x h1 e => (ra_c0_ok (ro := ra_oF)) m av h (x, h1) e) 2 lX2_isRight_72 _ _ _ _ lX2_isRight_72_ck (show ra_run ra_rI (kX2_isRight_72 N) ra_c0 (tIX2_isRight N) ra_c0 ra_c0 ra_c0 ra_c0 2 lX2_isRight_72 [none, none, none, none, none, none, none] [] h = some r from e) _ _ rfl
def lX2_isRight_46 : List ra_I := [(46, .istore 6, 2, 6, 0, 0, 0, 0, []),
  (48, .iload 6, 2, 6, 0, 0, 0, 0, []),
  (50, .ifCond .ne (22), 3, 72, 0, 0, 0, 0, []),
  (53, .aload_n 0, 1, 0, 0, 0, 0, 0, []),
  (54, .iload_n 1, 1, 1, 0, 0, 0, 0, []),
  (55, .iconst (4), 1, 0, 0, 0, (4), 0, []),
  (56, .invokevirtual 98, 3, 27, 3, 1, 0, 0, []),
  (59, .aload_n 0, 1, 0, 0, 0, 0, 0, []),
  (60, .getfield 21, 3, 2, 3, 2, 0, 0, []),
  (63, .iload_n 3, 1, 3, 0, 0, 0, 0, []),
  (64, .iaload, 1, 0, 0, 0, 0, 0, []),
  (65, .if_icmp .gt (7), 3, 72, 0, 0, 0, 0, []),
  (68, .iconst (1), 1, 0, 0, 0, (1), 0, []),
  (69, .goto (4), 3, 73, 0, 0, 0, 0, [])]
set_option maxRecDepth 100000 in
theorem lX2_isRight_46_ck : lX2_isRight_46.all (ra_ck mX2_isRight 2) = true := by decide +kernel
def nX2_isRight_46 (N : Nat) (a0 : Nat) (a1 : Int32) (a3 : Int32) (b0 : Int32) (h : ra_H) : Option (Int32 × ra_H) :=
  if b0 = 0 then
    (fX2_factOf N a0 a1 ((4 : Int32)) h).bind fun q1 =>
    (ra_fR q1.2 2 a0 3).bind fun x2 =>
    (ra_aI q1.2 0 x2 a3).bind fun x3 =>
    if q1.1 ≤ x3 then
      nX2_isRight_73 N ((1 : Int32)) q1.2
    else
      nX2_isRight_72 N q1.2
  else
    nX2_isRight_72 N h
def kX2_isRight_46 (N : Nat) : Nat → List (Option Value) → List Value → ra_H → Option (Int32 × ra_H) := (ra_k1 72 (fun L S h => match L, S with
  | [_, _, _, _, _, _, _], [] => nX2_isRight_72 N h
  | _, _ => none) (ra_k1 73 (fun L S h => match L, S with
  | [_, _, _, _, _, _, _], [.int b0] => nX2_isRight_73 N b0 h
  | _, _ => none) ra_k0))
theorem kX2_isRight_46_ok (N : Nat) : ra_kok 2 mX2_isRight ra_oI (kX2_isRight_46 N) := (ra_k1_ok (by
  intro L S h a e
  split at e
  · exact ra_Ru.weak (nX2_isRight_72_ok N _ _ e) trivial
  · cases e) (ra_k1_ok (by
  intro L S h a e
  split at e
  · exact ra_Ru.weak (nX2_isRight_73_ok N _ _ _ e) trivial
  · cases e) ra_k0_ok))
set_option maxRecDepth 100000 in
theorem nX2_isRight_46_ok (N : Nat) (a0 : Nat) (a1 : Int32) (a3 : Int32) (b0 : Int32) (h : ra_H) (r : (Int32 × ra_H)) (e : nX2_isRight_46 N a0 a1 a3 b0 h = some r) : ra_Ru 2 mX2_isRight 46 [some (.ref a0), some (.int a1), none, some (.int a3), none, none, none] [.int b0] h (ra_oI r) :=
  ra_sound (by omega) rfl ra_rI_ok (kX2_isRight_46_ok N) (fun m av h h1 e => (ra_c0_ok (ro := ra_oV)) m av h h1 e) (fun m av h x h1 e => (tIX2_isRight_ok N) m av h (x, h1) e) (fun m av h x h1 e => (ra_c0_ok (ro := ra_oJ)) m av h (x, h1) e) (fun m av h x h1 e => (ra_c0_ok (ro := ra_oR)) m av h (x, h1) e) (fun m av h x h1 e => (ra_c0_ok (ro := ra_oN)) m av h (x, h1) e) (fun m av h x h1 e => (ra_c0_ok (ro := ra_oF)) m av h (x, h1) e) 15 lX2_isRight_46 _ _ _ _ lX2_isRight_46_ck (show ra_run ra_rI (kX2_isRight_46 N) ra_c0 (tIX2_isRight N) ra_c0 ra_c0 ra_c0 ra_c0 15 lX2_isRight_46 [some (.ref a0), some (.int a1), none, some (.int a3), none, none, none] [.int b0] h = some r from e) _ _ rfl
def lX2_isRight_45 : List ra_I := [(45, .iconst (0), 1, 0, 0, 0, (0), 0, [])]
set_option maxRecDepth 100000 in
theorem lX2_isRight_45_ck : lX2_isRight_45.all (ra_ck mX2_isRight 2) = true := by decide +kernel
def nX2_isRight_45 (N : Nat) (a0 : Nat) (a1 : Int32) (a3 : Int32) (h : ra_H) : Option (Int32 × ra_H) :=
  nX2_isRight_46 N a0 a1 a3 ((0 : Int32)) h
def kX2_isRight_45 (N : Nat) : Nat → List (Option Value) → List Value → ra_H → Option (Int32 × ra_H) := (ra_k1 46 (fun L S h => match L, S with
  | [some (.ref a0), some (.int a1), _, some (.int a3), _, _, _], [.int b0] => nX2_isRight_46 N a0 a1 a3 b0 h
  | _, _ => none) ra_k0)
theorem kX2_isRight_45_ok (N : Nat) : ra_kok 2 mX2_isRight ra_oI (kX2_isRight_45 N) := (ra_k1_ok (by
  intro L S h a e
  split at e
  · exact ra_Ru.weak (nX2_isRight_46_ok N _ _ _ _ _ _ e) ⟨rfl, ⟨rfl, ⟨rfl, trivial⟩⟩⟩
  · cases e) ra_k0_ok)
set_option maxRecDepth 100000 in
theorem nX2_isRight_45_ok (N : Nat) (a0 : Nat) (a1 : Int32) (a3 : Int32) (h : ra_H) (r : (Int32 × ra_H)) (e : nX2_isRight_45 N a0 a1 a3 h = some r) : ra_Ru 2 mX2_isRight 45 [some (.ref a0), some (.int a1), none, some (.int a3), none, none, none] [] h (ra_oI r) :=
  ra_sound (by omega) rfl ra_rI_ok (kX2_isRight_45_ok N) (fun m av h h1 e => (ra_c0_ok (ro := ra_oV)) m av h h1 e) (fun m av h x h1 e => (tIX2_isRight_ok N) m av h (x, h1) e) (fun m av h x h1 e => (ra_c0_ok (ro := ra_oJ)) m av h (x, h1) e) (fun m av h x h1 e => (ra_c0_ok (ro := ra_oR)) m av h (x, h1) e) (fun m av h x h1 e => (ra_c0_ok (ro := ra_oN)) m av h (x, h1) e) (fun m av h x h1 e => (ra_c0_ok (ro := ra_oF)) m av h (x, h1) e) 2 lX2_isRight_45 _ _ _ _ lX2_isRight_45_ck (show ra_run ra_rI (kX2_isRight_45 N) ra_c0 (tIX2_isRight N) ra_c0 ra_c0 ra_c0 ra_c0 2 lX2_isRight_45 [some (.ref a0), some (.int a1), none, some (.int a3), none, none, none] [] h = some r from e) _ _ rfl
def lX2_isRight_0 : List ra_I := [(0, .iload_n 2, 1, 2, 0, 0, 0, 0, []),
  (1, .bipush (99), 2, 0, 0, 0, (99), 0, []),
  (3, .idiv, 1, 0, 0, 0, 0, 0, []),
  (4, .istore_n 3, 1, 3, 0, 0, 0, 0, []),
  (5, .aload_n 0, 1, 0, 0, 0, 0, 0, []),
  (6, .getfield 15, 3, 2, 1, 2, 0, 0, []),
  (9, .iload_n 3, 1, 3, 0, 0, 0, 0, []),
  (10, .bipush (6), 2, 0, 0, 0, (6), 0, []),
  (12, .idiv, 1, 0, 0, 0, 0, 0, []),
  (13, .iaload, 1, 0, 0, 0, 0, 0, []),
  (14, .istore 4, 2, 4, 0, 0, 0, 0, []),
  (16, .aload_n 0, 1, 0, 0, 0, 0, 0, []),
  (17, .iload_n 1, 1, 1, 0, 0, 0, 0, []),
  (18, .iconst (5), 1, 0, 0, 0, (5), 0, []),
  (19, .invokevirtual 98, 3, 27, 3, 1, 0, 0, []),
  (22, .istore 5, 2, 5, 0, 0, 0, 0, []),
  (24, .iload 4, 2, 4, 0, 0, 0, 0, []),
  (26, .ifCond .eq (19), 3, 45, 0, 0, 0, 0, []),
  (29, .iload 5, 2, 5, 0, 0, 0, 0, []),
  (31, .ifCond .eq (14), 3, 45, 0, 0, 0, 0, []),
  (34, .iload 4, 2, 4, 0, 0, 0, 0, []),
  (36, .iload 5, 2, 5, 0, 0, 0, 0, []),
  (38, .if_icmp .eq (7), 3, 45, 0, 0, 0, 0, []),
  (41, .iconst (1), 1, 0, 0, 0, (1), 0, []),
  (42, .goto (4), 3, 46, 0, 0, 0, 0, [])]
set_option maxRecDepth 100000 in
theorem lX2_isRight_0_ck : lX2_isRight_0.all (ra_ck mX2_isRight 2) = true := by decide +kernel
def nX2_isRight_0 (N : Nat) (a0 : Nat) (a1 : Int32) (a2 : Int32) (h : ra_H) : Option (Int32 × ra_H) :=
  if ((99 : Int32)) = 0 then none else
  let y1 := a2 / ((99 : Int32))
  (ra_fR h 2 a0 1).bind fun x2 =>
  if ((6 : Int32)) = 0 then none else
  (ra_aI h 0 x2 (y1 / ((6 : Int32)))).bind fun x3 =>
  (fX2_factOf N a0 a1 ((5 : Int32)) h).bind fun q4 =>
  if x3 = 0 then
    nX2_isRight_45 N a0 a1 y1 q4.2
  else
    if q4.1 = 0 then
      nX2_isRight_45 N a0 a1 y1 q4.2
    else
      if x3 = q4.1 then
        nX2_isRight_45 N a0 a1 y1 q4.2
      else
        nX2_isRight_46 N a0 a1 y1 ((1 : Int32)) q4.2
def kX2_isRight_0 (N : Nat) : Nat → List (Option Value) → List Value → ra_H → Option (Int32 × ra_H) := (ra_k1 45 (fun L S h => match L, S with
  | [some (.ref a0), some (.int a1), _, some (.int a3), _, _, _], [] => nX2_isRight_45 N a0 a1 a3 h
  | _, _ => none) (ra_k1 46 (fun L S h => match L, S with
  | [some (.ref a0), some (.int a1), _, some (.int a3), _, _, _], [.int b0] => nX2_isRight_46 N a0 a1 a3 b0 h
  | _, _ => none) ra_k0))
theorem kX2_isRight_0_ok (N : Nat) : ra_kok 2 mX2_isRight ra_oI (kX2_isRight_0 N) := (ra_k1_ok (by
  intro L S h a e
  split at e
  · exact ra_Ru.weak (nX2_isRight_45_ok N _ _ _ _ _ e) ⟨rfl, ⟨rfl, ⟨rfl, trivial⟩⟩⟩
  · cases e) (ra_k1_ok (by
  intro L S h a e
  split at e
  · exact ra_Ru.weak (nX2_isRight_46_ok N _ _ _ _ _ _ e) ⟨rfl, ⟨rfl, ⟨rfl, trivial⟩⟩⟩
  · cases e) ra_k0_ok))
set_option maxRecDepth 100000 in
theorem nX2_isRight_0_ok (N : Nat) (a0 : Nat) (a1 : Int32) (a2 : Int32) (h : ra_H) (r : (Int32 × ra_H)) (e : nX2_isRight_0 N a0 a1 a2 h = some r) : ra_Ru 2 mX2_isRight 0 [some (.ref a0), some (.int a1), some (.int a2), none, none, none, none] [] h (ra_oI r) :=
  ra_sound (by omega) rfl ra_rI_ok (kX2_isRight_0_ok N) (fun m av h h1 e => (ra_c0_ok (ro := ra_oV)) m av h h1 e) (fun m av h x h1 e => (tIX2_isRight_ok N) m av h (x, h1) e) (fun m av h x h1 e => (ra_c0_ok (ro := ra_oJ)) m av h (x, h1) e) (fun m av h x h1 e => (ra_c0_ok (ro := ra_oR)) m av h (x, h1) e) (fun m av h x h1 e => (ra_c0_ok (ro := ra_oN)) m av h (x, h1) e) (fun m av h x h1 e => (ra_c0_ok (ro := ra_oF)) m av h (x, h1) e) 26 lX2_isRight_0 _ _ _ _ lX2_isRight_0_ck (show ra_run ra_rI (kX2_isRight_0 N) ra_c0 (tIX2_isRight N) ra_c0 ra_c0 ra_c0 ra_c0 26 lX2_isRight_0 [some (.ref a0), some (.int a1), some (.int a2), none, none, none, none] [] h = some r from e) _ _ rfl
def fX2_isRight (N : Nat) (p0 : Nat) (p1 : Int32) (p2 : Int32) (h : ra_H) : Option (Int32 × ra_H) := match ra_isOb h p0 2 with
  | true => (nX2_isRight_0 N p0 p1 p2 h).bind (fun q => ra_rz q.1 q.2)
  | false => none
set_option maxRecDepth 100000 in
theorem mtX2_isRight : ra_MT[90]? = some (mX2_isRight, 1, 2, (1, 2), (4, 110), (4, 111)) := rfl
theorem fX2_isRight_co (N : Nat) (p0 : Nat) (p1 : Int32) (p2 : Int32) (h : ra_H) (r : (Int32 × ra_H)) (e : fX2_isRight N p0 p1 p2 h = some r) (D : Nat) (hD : 3 ≤ D) : ra_CO D 90 [.ref p0, .int p1, .int p2] h (ra_oI r).1 (ra_oI r).2 := by
  have hw : ra_nw2 [.ref p0, .int p1, .int p2] ≤ 7 := Nat.le_of_ble_eq_true rfl
  have hdb : ∀ v ∈ ([.ref p0, .int p1, .int p2] : List Value), ∀ x, v ≠ .double x := by
    intro v hv x hx
    simp [hx] at hv
  unfold fX2_isRight at e
  split at e
  · rename_i ho
    obtain ⟨q, e1, e2⟩ := Option.bind_eq_some_iff.mp e
    obtain ⟨rfl, hz⟩ := ra_rz_of e2
    exact ⟨2, _, mtX2_isRight, hD, ra_ev_of (by decide) hdb hw hz (ra_Ru.weak (nX2_isRight_0_ok N p0 p1 p2 h _ e1) ⟨rfl, ⟨rfl, ⟨rfl, trivial⟩⟩⟩), (fun _ => ⟨_, _, rfl, ra_rcv_of ho (by decide) rfl⟩), (fun h => absurd h (by decide))⟩
  · cases e
/-! RedMarks$Holdings.sideOfYears(I)I -/
def mX2_sideOfYears : ra_M := (yX2_sideOfYears, cX2_sideOfYears, 4, (some .int))
def tIX2_sideOfYears (N : Nat) : Nat → List Value → ra_H → Option (Int32 × ra_H) := (ra_c1 27 (fun av h => match av with
  | [.ref z0, .int z1, .int z2] => fX2_factOf N z0 z1 z2 h
  | _ => none) ra_c0)
theorem tIX2_sideOfYears_ok (N : Nat) : ra_cok 2 ra_oI (tIX2_sideOfYears N) := (ra_c1_ok (by
  intro av h a e
  split at e
  · exact fX2_factOf_co N _ _ _ _ _ e 2 (by omega)
  · cases e) ra_c0_ok)
def lX2_sideOfYears_42 : List ra_I := [(42, .ireturn, 1, 0, 0, 0, 0, 0, [])]
set_option maxRecDepth 100000 in
theorem lX2_sideOfYears_42_ck : lX2_sideOfYears_42.all (ra_ck mX2_sideOfYears 2) = true := by decide +kernel
def nX2_sideOfYears_42 (N : Nat) (b0 : Int32) (h : ra_H) : Option (Int32 × ra_H) :=
  some (b0, h)
def kX2_sideOfYears_42 (N : Nat) : Nat → List (Option Value) → List Value → ra_H → Option (Int32 × ra_H) := ra_k0
theorem kX2_sideOfYears_42_ok (N : Nat) : ra_kok 2 mX2_sideOfYears ra_oI (kX2_sideOfYears_42 N) := ra_k0_ok
set_option maxRecDepth 100000 in
theorem nX2_sideOfYears_42_ok (N : Nat) (b0 : Int32) (h : ra_H) (r : (Int32 × ra_H)) (e : nX2_sideOfYears_42 N b0 h = some r) : ra_Ru 2 mX2_sideOfYears 42 [none, none, none, none] [.int b0] h (ra_oI r) :=
  ra_sound (by omega) rfl ra_rI_ok (kX2_sideOfYears_42_ok N) (fun m av h h1 e => (ra_c0_ok (ro := ra_oV)) m av h h1 e) (fun m av h x h1 e => (tIX2_sideOfYears_ok N) m av h (x, h1) e) (fun m av h x h1 e => (ra_c0_ok (ro := ra_oJ)) m av h (x, h1) e) (fun m av h x h1 e => (ra_c0_ok (ro := ra_oR)) m av h (x, h1) e) (fun m av h x h1 e => (ra_c0_ok (ro := ra_oN)) m av h (x, h1) e) (fun m av h x h1 e => (ra_c0_ok (ro := ra_oF)) m av h (x, h1) e) 2 lX2_sideOfYears_42 _ _ _ _ lX2_sideOfYears_42_ck (show ra_run ra_rI (kX2_sideOfYears_42 N) ra_c0 (tIX2_sideOfYears N) ra_c0 ra_c0 ra_c0 ra_c0 2 lX2_sideOfYears_42 [none, none, none, none] [.int b0] h = some r from e) _ _ rfl
def lX2_sideOfYears_0 : List ra_I := [(0, .aload_n 0, 1, 0, 0, 0, 0, 0, []),
  (1, .iload_n 1, 1, 1, 0, 0, 0, 0, []),
  (2, .bipush (7), 2, 0, 0, 0, (7), 0, []),
  (4, .invokevirtual 98, 3, 27, 3, 1, 0, 0, []),
  (7, .istore_n 2, 1, 2, 0, 0, 0, 0, []),
  (8, .aload_n 0, 1, 0, 0, 0, 0, 0, []),
  (9, .iload_n 1, 1, 1, 0, 0, 0, 0, []),
  (10, .iconst (2), 1, 0, 0, 0, (2), 0, []),
  (11, .invokevirtual 98, 3, 27, 3, 1, 0, 0, []),
  (14, .istore_n 3, 1, 3, 0, 0, 0, 0, []),
  (15, .iload_n 3, 1, 3, 0, 0, 0, 0, []),
  (16, .aload_n 0, 1, 0, 0, 0, 0, 0, []),
  (17, .getfield 36, 3, 2, 7, 2, 0, 0, []),
  (20, .iload_n 2, 1, 2, 0, 0, 0, 0, []),
  (21, .iaload, 1, 0, 0, 0, 0, 0, []),
  (22, .if_icmp .ge (5), 3, 27, 0, 0, 0, 0, []),
  (25, .iconst (-1), 1, 0, 0, 0, (-1), 0, []),
  (26, .ireturn, 1, 0, 0, 0, 0, 0, []),
  (27, .iload_n 3, 1, 3, 0, 0, 0, 0, []),
  (28, .aload_n 0, 1, 0, 0, 0, 0, 0, []),
  (29, .getfield 39, 3, 2, 8, 2, 0, 0, []),
  (32, .iload_n 2, 1, 2, 0, 0, 0, 0, []),
  (33, .iaload, 1, 0, 0, 0, 0, 0, []),
  (34, .if_icmp .le (7), 3, 41, 0, 0, 0, 0, []),
  (37, .iconst (1), 1, 0, 0, 0, (1), 0, []),
  (38, .goto (4), 3, 42, 0, 0, 0, 0, []),
  (41, .iconst (0), 1, 0, 0, 0, (0), 0, [])]
set_option maxRecDepth 100000 in
theorem lX2_sideOfYears_0_ck : lX2_sideOfYears_0.all (ra_ck mX2_sideOfYears 2) = true := by decide +kernel
def nX2_sideOfYears_0 (N : Nat) (a0 : Nat) (a1 : Int32) (h : ra_H) : Option (Int32 × ra_H) :=
  (fX2_factOf N a0 a1 ((7 : Int32)) h).bind fun q1 =>
  (fX2_factOf N a0 a1 ((2 : Int32)) q1.2).bind fun q2 =>
  (ra_fR q2.2 2 a0 7).bind fun x3 =>
  (ra_aI q2.2 0 x3 q1.1).bind fun x4 =>
  if q2.1 < x4 then
    some ((-1 : Int32), q2.2)
  else
    (ra_fR q2.2 2 a0 8).bind fun x5 =>
    (ra_aI q2.2 0 x5 q1.1).bind fun x6 =>
    if q2.1 ≤ x6 then
      nX2_sideOfYears_42 N ((0 : Int32)) q2.2
    else
      nX2_sideOfYears_42 N ((1 : Int32)) q2.2
def kX2_sideOfYears_0 (N : Nat) : Nat → List (Option Value) → List Value → ra_H → Option (Int32 × ra_H) := (ra_k1 42 (fun L S h => match L, S with
  | [_, _, _, _], [.int b0] => nX2_sideOfYears_42 N b0 h
  | _, _ => none) ra_k0)
theorem kX2_sideOfYears_0_ok (N : Nat) : ra_kok 2 mX2_sideOfYears ra_oI (kX2_sideOfYears_0 N) := (ra_k1_ok (by
  intro L S h a e
  split at e
  · exact ra_Ru.weak (nX2_sideOfYears_42_ok N _ _ _ e) trivial
  · cases e) ra_k0_ok)
set_option maxRecDepth 100000 in
theorem nX2_sideOfYears_0_ok (N : Nat) (a0 : Nat) (a1 : Int32) (h : ra_H) (r : (Int32 × ra_H)) (e : nX2_sideOfYears_0 N a0 a1 h = some r) : ra_Ru 2 mX2_sideOfYears 0 [some (.ref a0), some (.int a1), none, none] [] h (ra_oI r) :=
  ra_sound (by omega) rfl ra_rI_ok (kX2_sideOfYears_0_ok N) (fun m av h h1 e => (ra_c0_ok (ro := ra_oV)) m av h h1 e) (fun m av h x h1 e => (tIX2_sideOfYears_ok N) m av h (x, h1) e) (fun m av h x h1 e => (ra_c0_ok (ro := ra_oJ)) m av h (x, h1) e) (fun m av h x h1 e => (ra_c0_ok (ro := ra_oR)) m av h (x, h1) e) (fun m av h x h1 e => (ra_c0_ok (ro := ra_oN)) m av h (x, h1) e) (fun m av h x h1 e => (ra_c0_ok (ro := ra_oF)) m av h (x, h1) e) 28 lX2_sideOfYears_0 _ _ _ _ lX2_sideOfYears_0_ck (show ra_run ra_rI (kX2_sideOfYears_0 N) ra_c0 (tIX2_sideOfYears N) ra_c0 ra_c0 ra_c0 ra_c0 28 lX2_sideOfYears_0 [some (.ref a0), some (.int a1), none, none] [] h = some r from e) _ _ rfl
def fX2_sideOfYears (N : Nat) (p0 : Nat) (p1 : Int32) (h : ra_H) : Option (Int32 × ra_H) := match ra_isOb h p0 2 with
  | true => nX2_sideOfYears_0 N p0 p1 h
  | false => none
set_option maxRecDepth 100000 in
theorem mtX2_sideOfYears : ra_MT[158]? = some (mX2_sideOfYears, 1, 1, (1, 2), (5, 156), (5, 157)) := rfl
theorem fX2_sideOfYears_co (N : Nat) (p0 : Nat) (p1 : Int32) (h : ra_H) (r : (Int32 × ra_H)) (e : fX2_sideOfYears N p0 p1 h = some r) (D : Nat) (hD : 3 ≤ D) : ra_CO D 158 [.ref p0, .int p1] h (ra_oI r).1 (ra_oI r).2 := by
  have hw : ra_nw2 [.ref p0, .int p1] ≤ 4 := Nat.le_of_ble_eq_true rfl
  have hdb : ∀ v ∈ ([.ref p0, .int p1] : List Value), ∀ x, v ≠ .double x := by
    intro v hv x hx
    simp [hx] at hv
  unfold fX2_sideOfYears at e
  split at e
  · rename_i ho
    have e1 := e
    exact ⟨2, _, mtX2_sideOfYears, hD, ra_ev_of (by decide) hdb hw trivial (ra_Ru.weak (nX2_sideOfYears_0_ok N p0 p1 h _ e1) ⟨rfl, ⟨rfl, trivial⟩⟩), (fun _ => ⟨_, _, rfl, ra_rcv_of ho (by decide) rfl⟩), (fun h => absurd h (by decide))⟩
  · cases e
/-! RedMarks$Holdings.markedCount()I -/
def mX2_markedCount : ra_M := (yX2_markedCount, cX2_markedCount, 3, (some .int))
def tIX2_markedCount (N : Nat) : Nat → List Value → ra_H → Option (Int32 × ra_H) := (ra_c1 84 (fun av h => match av with
  | [.ref z0, .int z1] => fX2_isMarked N z0 z1 h
  | _ => none) ra_c0)
theorem tIX2_markedCount_ok (N : Nat) : ra_cok 3 ra_oI (tIX2_markedCount N) := (ra_c1_ok (by
  intro av h a e
  split at e
  · exact fX2_isMarked_co N _ _ _ _ e 3 (by omega)
  · cases e) ra_c0_ok)
def lX2_markedCount_23 : List ra_I := [(23, .iinc 2 (1), 3, 2, 0, 0, (1), 0, []),
  (26, .goto (-22), 3, 4, 0, 0, 0, 0, [])]
set_option maxRecDepth 100000 in
theorem lX2_markedCount_23_ck : lX2_markedCount_23.all (ra_ck mX2_markedCount 2) = true := by decide +kernel
def nX2_markedCount_23 (N : Nat) (c4 : Nat → Int32 → Int32 → ra_H → Option (Int32 × ra_H)) (a0 : Nat) (a1 : Int32) (a2 : Int32) (h : ra_H) : Option (Int32 × ra_H) :=
  let y1 := a2 + (1 : Int32)
  c4 a0 a1 y1 h
def kX2_markedCount_23 (N : Nat) (c4 : Nat → Int32 → Int32 → ra_H → Option (Int32 × ra_H)) : Nat → List (Option Value) → List Value → ra_H → Option (Int32 × ra_H) := (ra_k1 4 (fun L S h => match L, S with
  | [some (.ref a0), some (.int a1), some (.int a2)], [] => c4 a0 a1 a2 h
  | _, _ => none) ra_k0)
theorem kX2_markedCount_23_ok (N : Nat) (c4 : Nat → Int32 → Int32 → ra_H → Option (Int32 × ra_H)) (hc4 : ∀ a0 a1 a2 h r, c4 a0 a1 a2 h = some r → ra_Ru 3 mX2_markedCount 4 [some (.ref a0), some (.int a1), some (.int a2)] [] h (ra_oI r)) : ra_kok 3 mX2_markedCount ra_oI (kX2_markedCount_23 N c4) := (ra_k1_ok (by
  intro L S h a e
  split at e
  · exact ra_Ru.weak (hc4 _ _ _ _ _ e) ⟨rfl, ⟨rfl, ⟨rfl, trivial⟩⟩⟩
  · cases e) ra_k0_ok)
set_option maxRecDepth 100000 in
theorem nX2_markedCount_23_ok (N : Nat) (c4 : Nat → Int32 → Int32 → ra_H → Option (Int32 × ra_H)) (hc4 : ∀ a0 a1 a2 h r, c4 a0 a1 a2 h = some r → ra_Ru 3 mX2_markedCount 4 [some (.ref a0), some (.int a1), some (.int a2)] [] h (ra_oI r)) (a0 : Nat) (a1 : Int32) (a2 : Int32) (h : ra_H) (r : (Int32 × ra_H)) (e : nX2_markedCount_23 N c4 a0 a1 a2 h = some r) : ra_Ru 3 mX2_markedCount 23 [some (.ref a0), some (.int a1), some (.int a2)] [] h (ra_oI r) :=
  ra_sound (by omega) rfl ra_rI_ok (kX2_markedCount_23_ok N c4 hc4) (fun m av h h1 e => (ra_c0_ok (ro := ra_oV)) m av h h1 e) (fun m av h x h1 e => (tIX2_markedCount_ok N) m av h (x, h1) e) (fun m av h x h1 e => (ra_c0_ok (ro := ra_oJ)) m av h (x, h1) e) (fun m av h x h1 e => (ra_c0_ok (ro := ra_oR)) m av h (x, h1) e) (fun m av h x h1 e => (ra_c0_ok (ro := ra_oN)) m av h (x, h1) e) (fun m av h x h1 e => (ra_c0_ok (ro := ra_oF)) m av h (x, h1) e) 3 lX2_markedCount_23 _ _ _ _ lX2_markedCount_23_ck (show ra_run ra_rI (kX2_markedCount_23 N c4) ra_c0 (tIX2_markedCount N) ra_c0 ra_c0 ra_c0 ra_c0 3 lX2_markedCount_23 [some (.ref a0), some (.int a1), some (.int a2)] [] h = some r from e) _ _ rfl
def lX2_markedCount_4 : List ra_I := [(4, .iload_n 2, 1, 2, 0, 0, 0, 0, []),
  (5, .aload_n 0, 1, 0, 0, 0, 0, 0, []),
  (6, .getfield 71, 3, 2, 13, 0, 0, 0, []),
  (9, .if_icmp .ge (20), 3, 29, 0, 0, 0, 0, []),
  (12, .aload_n 0, 1, 0, 0, 0, 0, 0, []),
  (13, .iload_n 2, 1, 2, 0, 0, 0, 0, []),
  (14, .invokevirtual 101, 3, 84, 2, 1, 0, 0, []),
  (17, .ifCond .eq (6), 3, 23, 0, 0, 0, 0, []),
  (20, .iinc 1 (1), 3, 1, 0, 0, (1), 0, []),
  (29, .iload_n 1, 1, 1, 0, 0, 0, 0, []),
  (30, .ireturn, 1, 0, 0, 0, 0, 0, [])]
set_option maxRecDepth 100000 in
theorem lX2_markedCount_4_ck : lX2_markedCount_4.all (ra_ck mX2_markedCount 2) = true := by decide +kernel
def nX2_markedCount_4 (N : Nat) : Nat → Nat → Int32 → Int32 → ra_H → Option (Int32 × ra_H)
  | 0, _, _, _, _ => none
  | n + 1, a0, a1, a2, h =>
  (ra_fI h 2 a0 13).bind fun x1 =>
  if a2 < x1 then
    (fX2_isMarked N a0 a2 h).bind fun q2 =>
    if q2.1 = 0 then
      nX2_markedCount_23 N (nX2_markedCount_4 N n) a0 a1 a2 q2.2
    else
      let y3 := a1 + (1 : Int32)
      nX2_markedCount_23 N (nX2_markedCount_4 N n) a0 y3 a2 q2.2
  else
    some (a1, h)
def kX2_markedCount_4 (N : Nat) (cs : Nat → Int32 → Int32 → ra_H → Option (Int32 × ra_H)) : Nat → List (Option Value) → List Value → ra_H → Option (Int32 × ra_H) := (ra_k1 23 (fun L S h => match L, S with
  | [some (.ref a0), some (.int a1), some (.int a2)], [] => nX2_markedCount_23 N cs a0 a1 a2 h
  | _, _ => none) ra_k0)
theorem kX2_markedCount_4_ok (N : Nat) (cs : Nat → Int32 → Int32 → ra_H → Option (Int32 × ra_H)) (hcs : ∀ a0 a1 a2 h r, cs a0 a1 a2 h = some r → ra_Ru 3 mX2_markedCount 4 [some (.ref a0), some (.int a1), some (.int a2)] [] h (ra_oI r)) : ra_kok 3 mX2_markedCount ra_oI (kX2_markedCount_4 N cs) := (ra_k1_ok (by
  intro L S h a e
  split at e
  · exact ra_Ru.weak (nX2_markedCount_23_ok N cs hcs _ _ _ _ _ e) ⟨rfl, ⟨rfl, ⟨rfl, trivial⟩⟩⟩
  · cases e) ra_k0_ok)
set_option maxRecDepth 100000 in
theorem nX2_markedCount_4_ok (N : Nat) : ∀ n a0 a1 a2 h r, nX2_markedCount_4 N n a0 a1 a2 h = some r → ra_Ru 3 mX2_markedCount 4 [some (.ref a0), some (.int a1), some (.int a2)] [] h (ra_oI r) := by
  intro n
  induction n with
  | zero => intro a0 a1 a2 h r e; cases e
  | succ n ih =>
    intro a0 a1 a2 h r e
    exact ra_sound (by omega) rfl ra_rI_ok (kX2_markedCount_4_ok N (nX2_markedCount_4 N n) ih) (fun m av h h1 e => (ra_c0_ok (ro := ra_oV)) m av h h1 e) (fun m av h x h1 e => (tIX2_markedCount_ok N) m av h (x, h1) e) (fun m av h x h1 e => (ra_c0_ok (ro := ra_oJ)) m av h (x, h1) e) (fun m av h x h1 e => (ra_c0_ok (ro := ra_oR)) m av h (x, h1) e) (fun m av h x h1 e => (ra_c0_ok (ro := ra_oN)) m av h (x, h1) e) (fun m av h x h1 e => (ra_c0_ok (ro := ra_oF)) m av h (x, h1) e) 12 lX2_markedCount_4 _ _ _ _ lX2_markedCount_4_ck (show ra_run ra_rI (kX2_markedCount_4 N (nX2_markedCount_4 N n)) ra_c0 (tIX2_markedCount N) ra_c0 ra_c0 ra_c0 ra_c0 12 lX2_markedCount_4 [some (.ref a0), some (.int a1), some (.int a2)] [] h = some r from e) _ _ rfl
def lX2_markedCount_0 : List ra_I := [(0, .iconst (0), 1, 0, 0, 0, (0), 0, []),
  (1, .istore_n 1, 1, 1, 0, 0, 0, 0, []),
  (2, .iconst (0), 1, 0, 0, 0, (0), 0, []),
  (3, .istore_n 2, 1, 2, 0, 0, 0, 0, [])]
set_option maxRecDepth 100000 in
theorem lX2_markedCount_0_ck : lX2_markedCount_0.all (ra_ck mX2_markedCount 2) = true := by decide +kernel
def nX2_markedCount_0 (N : Nat) (a0 : Nat) (h : ra_H) : Option (Int32 × ra_H) :=
  nX2_markedCount_4 N N a0 ((0 : Int32)) ((0 : Int32)) h
def kX2_markedCount_0 (N : Nat) : Nat → List (Option Value) → List Value → ra_H → Option (Int32 × ra_H) := (ra_k1 4 (fun L S h => match L, S with
  | [some (.ref a0), some (.int a1), some (.int a2)], [] => nX2_markedCount_4 N N a0 a1 a2 h
  | _, _ => none) ra_k0)
theorem kX2_markedCount_0_ok (N : Nat) : ra_kok 3 mX2_markedCount ra_oI (kX2_markedCount_0 N) := (ra_k1_ok (by
  intro L S h a e
  split at e
  · exact ra_Ru.weak (nX2_markedCount_4_ok N N _ _ _ _ _ e) ⟨rfl, ⟨rfl, ⟨rfl, trivial⟩⟩⟩
  · cases e) ra_k0_ok)
set_option maxRecDepth 100000 in
theorem nX2_markedCount_0_ok (N : Nat) (a0 : Nat) (h : ra_H) (r : (Int32 × ra_H)) (e : nX2_markedCount_0 N a0 h = some r) : ra_Ru 3 mX2_markedCount 0 [some (.ref a0), none, none] [] h (ra_oI r) :=
  ra_sound (by omega) rfl ra_rI_ok (kX2_markedCount_0_ok N) (fun m av h h1 e => (ra_c0_ok (ro := ra_oV)) m av h h1 e) (fun m av h x h1 e => (tIX2_markedCount_ok N) m av h (x, h1) e) (fun m av h x h1 e => (ra_c0_ok (ro := ra_oJ)) m av h (x, h1) e) (fun m av h x h1 e => (ra_c0_ok (ro := ra_oR)) m av h (x, h1) e) (fun m av h x h1 e => (ra_c0_ok (ro := ra_oN)) m av h (x, h1) e) (fun m av h x h1 e => (ra_c0_ok (ro := ra_oF)) m av h (x, h1) e) 5 lX2_markedCount_0 _ _ _ _ lX2_markedCount_0_ck (show ra_run ra_rI (kX2_markedCount_0 N) ra_c0 (tIX2_markedCount N) ra_c0 ra_c0 ra_c0 ra_c0 5 lX2_markedCount_0 [some (.ref a0), none, none] [] h = some r from e) _ _ rfl
def fX2_markedCount (N : Nat) (p0 : Nat) (h : ra_H) : Option (Int32 × ra_H) := match ra_isOb h p0 2 with
  | true => nX2_markedCount_0 N p0 h
  | false => none
set_option maxRecDepth 100000 in
theorem mtX2_markedCount : ra_MT[189]? = some (mX2_markedCount, 1, 0, (1, 2), (6, 49), (6, 50)) := rfl
theorem fX2_markedCount_co (N : Nat) (p0 : Nat) (h : ra_H) (r : (Int32 × ra_H)) (e : fX2_markedCount N p0 h = some r) (D : Nat) (hD : 4 ≤ D) : ra_CO D 189 [.ref p0] h (ra_oI r).1 (ra_oI r).2 := by
  have hw : ra_nw2 [.ref p0] ≤ 3 := Nat.le_of_ble_eq_true rfl
  have hdb : ∀ v ∈ ([.ref p0] : List Value), ∀ x, v ≠ .double x := by
    intro v hv x hx
    simp [hx] at hv
  unfold fX2_markedCount at e
  split at e
  · rename_i ho
    have e1 := e
    exact ⟨3, _, mtX2_markedCount, hD, ra_ev_of (by decide) hdb hw trivial (ra_Ru.weak (nX2_markedCount_0_ok N p0 h _ e1) ⟨rfl, trivial⟩), (fun _ => ⟨_, _, rfl, ra_rcv_of ho (by decide) rfl⟩), (fun h => absurd h (by decide))⟩
  · cases e
/-! RedMarks$Holdings.foundTimesUnseen(I)I -/
def mX2_foundTimesUnseen : ra_M := (yX2_foundTimesUnseen, cX2_foundTimesUnseen, 4, (some .int))
def tIX2_foundTimesUnseen (N : Nat) : Nat → List Value → ra_H → Option (Int32 × ra_H) := (ra_c1 27 (fun av h => match av with
  | [.ref z0, .int z1, .int z2] => fX2_factOf N z0 z1 z2 h
  | _ => none) ra_c0)
theorem tIX2_foundTimesUnseen_ok (N : Nat) : ra_cok 2 ra_oI (tIX2_foundTimesUnseen N) := (ra_c1_ok (by
  intro av h a e
  split at e
  · exact fX2_factOf_co N _ _ _ _ _ e 2 (by omega)
  · cases e) ra_c0_ok)
def lX2_foundTimesUnseen_26 : List ra_I := [(26, .iinc 3 (1), 3, 3, 0, 0, (1), 0, []),
  (29, .goto (-25), 3, 4, 0, 0, 0, 0, [])]
set_option maxRecDepth 100000 in
theorem lX2_foundTimesUnseen_26_ck : lX2_foundTimesUnseen_26.all (ra_ck mX2_foundTimesUnseen 2) = true := by decide +kernel
def nX2_foundTimesUnseen_26 (N : Nat) (c4 : Nat → Int32 → Int32 → Int32 → ra_H → Option (Int32 × ra_H)) (a0 : Nat) (a1 : Int32) (a2 : Int32) (a3 : Int32) (h : ra_H) : Option (Int32 × ra_H) :=
  let y1 := a3 + (1 : Int32)
  c4 a0 a1 a2 y1 h
def kX2_foundTimesUnseen_26 (N : Nat) (c4 : Nat → Int32 → Int32 → Int32 → ra_H → Option (Int32 × ra_H)) : Nat → List (Option Value) → List Value → ra_H → Option (Int32 × ra_H) := (ra_k1 4 (fun L S h => match L, S with
  | [some (.ref a0), some (.int a1), some (.int a2), some (.int a3)], [] => c4 a0 a1 a2 a3 h
  | _, _ => none) ra_k0)
theorem kX2_foundTimesUnseen_26_ok (N : Nat) (c4 : Nat → Int32 → Int32 → Int32 → ra_H → Option (Int32 × ra_H)) (hc4 : ∀ a0 a1 a2 a3 h r, c4 a0 a1 a2 a3 h = some r → ra_Ru 2 mX2_foundTimesUnseen 4 [some (.ref a0), some (.int a1), some (.int a2), some (.int a3)] [] h (ra_oI r)) : ra_kok 2 mX2_foundTimesUnseen ra_oI (kX2_foundTimesUnseen_26 N c4) := (ra_k1_ok (by
  intro L S h a e
  split at e
  · exact ra_Ru.weak (hc4 _ _ _ _ _ _ e) ⟨rfl, ⟨rfl, ⟨rfl, ⟨rfl, trivial⟩⟩⟩⟩
  · cases e) ra_k0_ok)
set_option maxRecDepth 100000 in
theorem nX2_foundTimesUnseen_26_ok (N : Nat) (c4 : Nat → Int32 → Int32 → Int32 → ra_H → Option (Int32 × ra_H)) (hc4 : ∀ a0 a1 a2 a3 h r, c4 a0 a1 a2 a3 h = some r → ra_Ru 2 mX2_foundTimesUnseen 4 [some (.ref a0), some (.int a1), some (.int a2), some (.int a3)] [] h (ra_oI r)) (a0 : Nat) (a1 : Int32) (a2 : Int32) (a3 : Int32) (h : ra_H) (r : (Int32 × ra_H)) (e : nX2_foundTimesUnseen_26 N c4 a0 a1 a2 a3 h = some r) : ra_Ru 2 mX2_foundTimesUnseen 26 [some (.ref a0), some (.int a1), some (.int a2), some (.int a3)] [] h (ra_oI r) :=
  ra_sound (by omega) rfl ra_rI_ok (kX2_foundTimesUnseen_26_ok N c4 hc4) (fun m av h h1 e => (ra_c0_ok (ro := ra_oV)) m av h h1 e) (fun m av h x h1 e => (tIX2_foundTimesUnseen_ok N) m av h (x, h1) e) (fun m av h x h1 e => (ra_c0_ok (ro := ra_oJ)) m av h (x, h1) e) (fun m av h x h1 e => (ra_c0_ok (ro := ra_oR)) m av h (x, h1) e) (fun m av h x h1 e => (ra_c0_ok (ro := ra_oN)) m av h (x, h1) e) (fun m av h x h1 e => (ra_c0_ok (ro := ra_oF)) m av h (x, h1) e) 3 lX2_foundTimesUnseen_26 _ _ _ _ lX2_foundTimesUnseen_26_ck (show ra_run ra_rI (kX2_foundTimesUnseen_26 N c4) ra_c0 (tIX2_foundTimesUnseen N) ra_c0 ra_c0 ra_c0 ra_c0 3 lX2_foundTimesUnseen_26 [some (.ref a0), some (.int a1), some (.int a2), some (.int a3)] [] h = some r from e) _ _ rfl
def lX2_foundTimesUnseen_4 : List ra_I := [(4, .iload_n 3, 1, 3, 0, 0, 0, 0, []),
  (5, .aload_n 0, 1, 0, 0, 0, 0, 0, []),
  (6, .getfield 71, 3, 2, 13, 0, 0, 0, []),
  (9, .if_icmp .ge (23), 3, 32, 0, 0, 0, 0, []),
  (12, .aload_n 0, 1, 0, 0, 0, 0, 0, []),
  (13, .iload_n 3, 1, 3, 0, 0, 0, 0, []),
  (14, .bipush (11), 2, 0, 0, 0, (11), 0, []),
  (16, .invokevirtual 98, 3, 27, 3, 1, 0, 0, []),
  (19, .iload_n 1, 1, 1, 0, 0, 0, 0, []),
  (20, .if_icmp .ne (6), 3, 26, 0, 0, 0, 0, []),
  (23, .iinc 2 (1), 3, 2, 0, 0, (1), 0, []),
  (32, .iload_n 2, 1, 2, 0, 0, 0, 0, []),
  (33, .aload_n 0, 1, 0, 0, 0, 0, 0, []),
  (34, .getfield 45, 3, 2, 10, 2, 0, 0, []),
  (37, .iload_n 1, 1, 1, 0, 0, 0, 0, []),
  (38, .iaload, 1, 0, 0, 0, 0, 0, []),
  (39, .aload_n 0, 1, 0, 0, 0, 0, 0, []),
  (40, .getfield 48, 3, 2, 11, 2, 0, 0, []),
  (43, .iload_n 1, 1, 1, 0, 0, 0, 0, []),
  (44, .iaload, 1, 0, 0, 0, 0, 0, []),
  (45, .isub, 1, 0, 0, 0, 0, 0, []),
  (46, .imul, 1, 0, 0, 0, 0, 0, []),
  (47, .ireturn, 1, 0, 0, 0, 0, 0, [])]
set_option maxRecDepth 100000 in
theorem lX2_foundTimesUnseen_4_ck : lX2_foundTimesUnseen_4.all (ra_ck mX2_foundTimesUnseen 2) = true := by decide +kernel
def nX2_foundTimesUnseen_4 (N : Nat) : Nat → Nat → Int32 → Int32 → Int32 → ra_H → Option (Int32 × ra_H)
  | 0, _, _, _, _, _ => none
  | n + 1, a0, a1, a2, a3, h =>
  (ra_fI h 2 a0 13).bind fun x1 =>
  if a3 < x1 then
    (fX2_factOf N a0 a3 ((11 : Int32)) h).bind fun q6 =>
    if q6.1 = a1 then
      let y7 := a2 + (1 : Int32)
      nX2_foundTimesUnseen_26 N (nX2_foundTimesUnseen_4 N n) a0 a1 y7 a3 q6.2
    else
      nX2_foundTimesUnseen_26 N (nX2_foundTimesUnseen_4 N n) a0 a1 a2 a3 q6.2
  else
    (ra_fR h 2 a0 10).bind fun x2 =>
    (ra_aI h 0 x2 a1).bind fun x3 =>
    (ra_fR h 2 a0 11).bind fun x4 =>
    (ra_aI h 0 x4 a1).bind fun x5 =>
    some (a2 * (x3 - x5), h)
def kX2_foundTimesUnseen_4 (N : Nat) (cs : Nat → Int32 → Int32 → Int32 → ra_H → Option (Int32 × ra_H)) : Nat → List (Option Value) → List Value → ra_H → Option (Int32 × ra_H) := (ra_k1 26 (fun L S h => match L, S with
  | [some (.ref a0), some (.int a1), some (.int a2), some (.int a3)], [] => nX2_foundTimesUnseen_26 N cs a0 a1 a2 a3 h
  | _, _ => none) ra_k0)
theorem kX2_foundTimesUnseen_4_ok (N : Nat) (cs : Nat → Int32 → Int32 → Int32 → ra_H → Option (Int32 × ra_H)) (hcs : ∀ a0 a1 a2 a3 h r, cs a0 a1 a2 a3 h = some r → ra_Ru 2 mX2_foundTimesUnseen 4 [some (.ref a0), some (.int a1), some (.int a2), some (.int a3)] [] h (ra_oI r)) : ra_kok 2 mX2_foundTimesUnseen ra_oI (kX2_foundTimesUnseen_4 N cs) := (ra_k1_ok (by
  intro L S h a e
  split at e
  · exact ra_Ru.weak (nX2_foundTimesUnseen_26_ok N cs hcs _ _ _ _ _ _ e) ⟨rfl, ⟨rfl, ⟨rfl, ⟨rfl, trivial⟩⟩⟩⟩
  · cases e) ra_k0_ok)
set_option maxRecDepth 100000 in
theorem nX2_foundTimesUnseen_4_ok (N : Nat) : ∀ n a0 a1 a2 a3 h r, nX2_foundTimesUnseen_4 N n a0 a1 a2 a3 h = some r → ra_Ru 2 mX2_foundTimesUnseen 4 [some (.ref a0), some (.int a1), some (.int a2), some (.int a3)] [] h (ra_oI r) := by
  intro n
  induction n with
  | zero => intro a0 a1 a2 a3 h r e; cases e
  | succ n ih =>
    intro a0 a1 a2 a3 h r e
    exact ra_sound (by omega) rfl ra_rI_ok (kX2_foundTimesUnseen_4_ok N (nX2_foundTimesUnseen_4 N n) ih) (fun m av h h1 e => (ra_c0_ok (ro := ra_oV)) m av h h1 e) (fun m av h x h1 e => (tIX2_foundTimesUnseen_ok N) m av h (x, h1) e) (fun m av h x h1 e => (ra_c0_ok (ro := ra_oJ)) m av h (x, h1) e) (fun m av h x h1 e => (ra_c0_ok (ro := ra_oR)) m av h (x, h1) e) (fun m av h x h1 e => (ra_c0_ok (ro := ra_oN)) m av h (x, h1) e) (fun m av h x h1 e => (ra_c0_ok (ro := ra_oF)) m av h (x, h1) e) 24 lX2_foundTimesUnseen_4 _ _ _ _ lX2_foundTimesUnseen_4_ck (show ra_run ra_rI (kX2_foundTimesUnseen_4 N (nX2_foundTimesUnseen_4 N n)) ra_c0 (tIX2_foundTimesUnseen N) ra_c0 ra_c0 ra_c0 ra_c0 24 lX2_foundTimesUnseen_4 [some (.ref a0), some (.int a1), some (.int a2), some (.int a3)] [] h = some r from e) _ _ rfl
def lX2_foundTimesUnseen_0 : List ra_I := [(0, .iconst (0), 1, 0, 0, 0, (0), 0, []),
  (1, .istore_n 2, 1, 2, 0, 0, 0, 0, []),
  (2, .iconst (0), 1, 0, 0, 0, (0), 0, []),
  (3, .istore_n 3, 1, 3, 0, 0, 0, 0, [])]
set_option maxRecDepth 100000 in
theorem lX2_foundTimesUnseen_0_ck : lX2_foundTimesUnseen_0.all (ra_ck mX2_foundTimesUnseen 2) = true := by decide +kernel
def nX2_foundTimesUnseen_0 (N : Nat) (a0 : Nat) (a1 : Int32) (h : ra_H) : Option (Int32 × ra_H) :=
  nX2_foundTimesUnseen_4 N N a0 a1 ((0 : Int32)) ((0 : Int32)) h
def kX2_foundTimesUnseen_0 (N : Nat) : Nat → List (Option Value) → List Value → ra_H → Option (Int32 × ra_H) := (ra_k1 4 (fun L S h => match L, S with
  | [some (.ref a0), some (.int a1), some (.int a2), some (.int a3)], [] => nX2_foundTimesUnseen_4 N N a0 a1 a2 a3 h
  | _, _ => none) ra_k0)
theorem kX2_foundTimesUnseen_0_ok (N : Nat) : ra_kok 2 mX2_foundTimesUnseen ra_oI (kX2_foundTimesUnseen_0 N) := (ra_k1_ok (by
  intro L S h a e
  split at e
  · exact ra_Ru.weak (nX2_foundTimesUnseen_4_ok N N _ _ _ _ _ _ e) ⟨rfl, ⟨rfl, ⟨rfl, ⟨rfl, trivial⟩⟩⟩⟩
  · cases e) ra_k0_ok)
set_option maxRecDepth 100000 in
theorem nX2_foundTimesUnseen_0_ok (N : Nat) (a0 : Nat) (a1 : Int32) (h : ra_H) (r : (Int32 × ra_H)) (e : nX2_foundTimesUnseen_0 N a0 a1 h = some r) : ra_Ru 2 mX2_foundTimesUnseen 0 [some (.ref a0), some (.int a1), none, none] [] h (ra_oI r) :=
  ra_sound (by omega) rfl ra_rI_ok (kX2_foundTimesUnseen_0_ok N) (fun m av h h1 e => (ra_c0_ok (ro := ra_oV)) m av h h1 e) (fun m av h x h1 e => (tIX2_foundTimesUnseen_ok N) m av h (x, h1) e) (fun m av h x h1 e => (ra_c0_ok (ro := ra_oJ)) m av h (x, h1) e) (fun m av h x h1 e => (ra_c0_ok (ro := ra_oR)) m av h (x, h1) e) (fun m av h x h1 e => (ra_c0_ok (ro := ra_oN)) m av h (x, h1) e) (fun m av h x h1 e => (ra_c0_ok (ro := ra_oF)) m av h (x, h1) e) 5 lX2_foundTimesUnseen_0 _ _ _ _ lX2_foundTimesUnseen_0_ck (show ra_run ra_rI (kX2_foundTimesUnseen_0 N) ra_c0 (tIX2_foundTimesUnseen N) ra_c0 ra_c0 ra_c0 ra_c0 5 lX2_foundTimesUnseen_0 [some (.ref a0), some (.int a1), none, none] [] h = some r from e) _ _ rfl
def fX2_foundTimesUnseen (N : Nat) (p0 : Nat) (p1 : Int32) (h : ra_H) : Option (Int32 × ra_H) := match ra_isOb h p0 2 with
  | true => nX2_foundTimesUnseen_0 N p0 p1 h
  | false => none
set_option maxRecDepth 100000 in
theorem mtX2_foundTimesUnseen : ra_MT[186]? = some (mX2_foundTimesUnseen, 1, 1, (1, 2), (6, 37), (6, 38)) := rfl
theorem fX2_foundTimesUnseen_co (N : Nat) (p0 : Nat) (p1 : Int32) (h : ra_H) (r : (Int32 × ra_H)) (e : fX2_foundTimesUnseen N p0 p1 h = some r) (D : Nat) (hD : 3 ≤ D) : ra_CO D 186 [.ref p0, .int p1] h (ra_oI r).1 (ra_oI r).2 := by
  have hw : ra_nw2 [.ref p0, .int p1] ≤ 4 := Nat.le_of_ble_eq_true rfl
  have hdb : ∀ v ∈ ([.ref p0, .int p1] : List Value), ∀ x, v ≠ .double x := by
    intro v hv x hx
    simp [hx] at hv
  unfold fX2_foundTimesUnseen at e
  split at e
  · rename_i ho
    have e1 := e
    exact ⟨2, _, mtX2_foundTimesUnseen, hD, ra_ev_of (by decide) hdb hw trivial (ra_Ru.weak (nX2_foundTimesUnseen_0_ok N p0 p1 h _ e1) ⟨rfl, ⟨rfl, trivial⟩⟩), (fun _ => ⟨_, _, rfl, ra_rcv_of ho (by decide) rfl⟩), (fun h => absurd h (by decide))⟩
  · cases e
/-! RedMarks$Holdings.linesFight(II)Z -/
def mX2_linesFight : ra_M := (yX2_linesFight, cX2_linesFight, 5, (some .boolean))
def tIX2_linesFight (N : Nat) : Nat → List Value → ra_H → Option (Int32 × ra_H) := (ra_c1 123 (fun av h => match av with
  | [.ref z0, .int z1, .int z2] => fX2_lineFact N z0 z1 z2 h
  | _ => none) ra_c0)
theorem tIX2_linesFight_ok (N : Nat) : ra_cok 2 ra_oI (tIX2_linesFight N) := (ra_c1_ok (by
  intro av h a e
  split at e
  · exact fX2_lineFact_co N _ _ _ _ _ e 2 (by omega)
  · cases e) ra_c0_ok)
def lX2_linesFight_45 : List ra_I := [(45, .iconst (0), 1, 0, 0, 0, (0), 0, []),
  (46, .ireturn, 1, 0, 0, 0, 0, 0, [])]
set_option maxRecDepth 100000 in
theorem lX2_linesFight_45_ck : lX2_linesFight_45.all (ra_ck mX2_linesFight 2) = true := by decide +kernel
def nX2_linesFight_45 (N : Nat) (h : ra_H) : Option (Int32 × ra_H) :=
  some ((0 : Int32), h)
def kX2_linesFight_45 (N : Nat) : Nat → List (Option Value) → List Value → ra_H → Option (Int32 × ra_H) := ra_k0
theorem kX2_linesFight_45_ok (N : Nat) : ra_kok 2 mX2_linesFight ra_oI (kX2_linesFight_45 N) := ra_k0_ok
set_option maxRecDepth 100000 in
theorem nX2_linesFight_45_ok (N : Nat) (h : ra_H) (r : (Int32 × ra_H)) (e : nX2_linesFight_45 N h = some r) : ra_Ru 2 mX2_linesFight 45 [none, none, none, none, none] [] h (ra_oI r) :=
  ra_sound (by omega) rfl ra_rI_ok (kX2_linesFight_45_ok N) (fun m av h h1 e => (ra_c0_ok (ro := ra_oV)) m av h h1 e) (fun m av h x h1 e => (tIX2_linesFight_ok N) m av h (x, h1) e) (fun m av h x h1 e => (ra_c0_ok (ro := ra_oJ)) m av h (x, h1) e) (fun m av h x h1 e => (ra_c0_ok (ro := ra_oR)) m av h (x, h1) e) (fun m av h x h1 e => (ra_c0_ok (ro := ra_oN)) m av h (x, h1) e) (fun m av h x h1 e => (ra_c0_ok (ro := ra_oF)) m av h (x, h1) e) 3 lX2_linesFight_45 _ _ _ _ lX2_linesFight_45_ck (show ra_run ra_rI (kX2_linesFight_45 N) ra_c0 (tIX2_linesFight N) ra_c0 ra_c0 ra_c0 ra_c0 3 lX2_linesFight_45 [none, none, none, none, none] [] h = some r from e) _ _ rfl
def lX2_linesFight_116 : List ra_I := [(116, .ireturn, 1, 0, 0, 0, 0, 0, [])]
set_option maxRecDepth 100000 in
theorem lX2_linesFight_116_ck : lX2_linesFight_116.all (ra_ck mX2_linesFight 2) = true := by decide +kernel
def nX2_linesFight_116 (N : Nat) (b0 : Int32) (h : ra_H) : Option (Int32 × ra_H) :=
  some (b0, h)
def kX2_linesFight_116 (N : Nat) : Nat → List (Option Value) → List Value → ra_H → Option (Int32 × ra_H) := ra_k0
theorem kX2_linesFight_116_ok (N : Nat) : ra_kok 2 mX2_linesFight ra_oI (kX2_linesFight_116 N) := ra_k0_ok
set_option maxRecDepth 100000 in
theorem nX2_linesFight_116_ok (N : Nat) (b0 : Int32) (h : ra_H) (r : (Int32 × ra_H)) (e : nX2_linesFight_116 N b0 h = some r) : ra_Ru 2 mX2_linesFight 116 [none, none, none, none, none] [.int b0] h (ra_oI r) :=
  ra_sound (by omega) rfl ra_rI_ok (kX2_linesFight_116_ok N) (fun m av h h1 e => (ra_c0_ok (ro := ra_oV)) m av h h1 e) (fun m av h x h1 e => (tIX2_linesFight_ok N) m av h (x, h1) e) (fun m av h x h1 e => (ra_c0_ok (ro := ra_oJ)) m av h (x, h1) e) (fun m av h x h1 e => (ra_c0_ok (ro := ra_oR)) m av h (x, h1) e) (fun m av h x h1 e => (ra_c0_ok (ro := ra_oN)) m av h (x, h1) e) (fun m av h x h1 e => (ra_c0_ok (ro := ra_oF)) m av h (x, h1) e) 2 lX2_linesFight_116 _ _ _ _ lX2_linesFight_116_ck (show ra_run ra_rI (kX2_linesFight_116 N) ra_c0 (tIX2_linesFight N) ra_c0 ra_c0 ra_c0 ra_c0 2 lX2_linesFight_116 [none, none, none, none, none] [.int b0] h = some r from e) _ _ rfl
def lX2_linesFight_108 : List ra_I := [(108, .if_icmp .eq (7), 3, 115, 0, 0, 0, 0, []),
  (111, .iconst (1), 1, 0, 0, 0, (1), 0, []),
  (112, .goto (4), 3, 116, 0, 0, 0, 0, []),
  (115, .iconst (0), 1, 0, 0, 0, (0), 0, [])]
set_option maxRecDepth 100000 in
theorem lX2_linesFight_108_ck : lX2_linesFight_108.all (ra_ck mX2_linesFight 2) = true := by decide +kernel
def nX2_linesFight_108 (N : Nat) (b0 : Int32) (b1 : Int32) (h : ra_H) : Option (Int32 × ra_H) :=
  if b0 = b1 then
    nX2_linesFight_116 N ((0 : Int32)) h
  else
    nX2_linesFight_116 N ((1 : Int32)) h
def kX2_linesFight_108 (N : Nat) : Nat → List (Option Value) → List Value → ra_H → Option (Int32 × ra_H) := (ra_k1 116 (fun L S h => match L, S with
  | [_, _, _, _, _], [.int b0] => nX2_linesFight_116 N b0 h
  | _, _ => none) ra_k0)
theorem kX2_linesFight_108_ok (N : Nat) : ra_kok 2 mX2_linesFight ra_oI (kX2_linesFight_108 N) := (ra_k1_ok (by
  intro L S h a e
  split at e
  · exact ra_Ru.weak (nX2_linesFight_116_ok N _ _ _ e) trivial
  · cases e) ra_k0_ok)
set_option maxRecDepth 100000 in
theorem nX2_linesFight_108_ok (N : Nat) (b0 : Int32) (b1 : Int32) (h : ra_H) (r : (Int32 × ra_H)) (e : nX2_linesFight_108 N b0 b1 h = some r) : ra_Ru 2 mX2_linesFight 108 [none, none, none, none, none] [.int b1, .int b0] h (ra_oI r) :=
  ra_sound (by omega) rfl ra_rI_ok (kX2_linesFight_108_ok N) (fun m av h h1 e => (ra_c0_ok (ro := ra_oV)) m av h h1 e) (fun m av h x h1 e => (tIX2_linesFight_ok N) m av h (x, h1) e) (fun m av h x h1 e => (ra_c0_ok (ro := ra_oJ)) m av h (x, h1) e) (fun m av h x h1 e => (ra_c0_ok (ro := ra_oR)) m av h (x, h1) e) (fun m av h x h1 e => (ra_c0_ok (ro := ra_oN)) m av h (x, h1) e) (fun m av h x h1 e => (ra_c0_ok (ro := ra_oF)) m av h (x, h1) e) 5 lX2_linesFight_108 _ _ _ _ lX2_linesFight_108_ck (show ra_run ra_rI (kX2_linesFight_108 N) ra_c0 (tIX2_linesFight N) ra_c0 ra_c0 ra_c0 ra_c0 5 lX2_linesFight_108 [none, none, none, none, none] [.int b1, .int b0] h = some r from e) _ _ rfl
def lX2_linesFight_82 : List ra_I := [(82, .istore 4, 2, 4, 0, 0, 0, 0, []),
  (84, .iload 4, 2, 4, 0, 0, 0, 0, []),
  (86, .aload_n 0, 1, 0, 0, 0, 0, 0, []),
  (87, .iload_n 1, 1, 1, 0, 0, 0, 0, []),
  (88, .bipush (9), 2, 0, 0, 0, (9), 0, []),
  (90, .invokevirtual 116, 3, 123, 3, 1, 0, 0, []),
  (93, .aload_n 0, 1, 0, 0, 0, 0, 0, []),
  (94, .iload_n 2, 1, 2, 0, 0, 0, 0, []),
  (95, .bipush (9), 2, 0, 0, 0, (9), 0, []),
  (97, .invokevirtual 116, 3, 123, 3, 1, 0, 0, []),
  (100, .if_icmp .ne (7), 3, 107, 0, 0, 0, 0, []),
  (103, .iconst (1), 1, 0, 0, 0, (1), 0, []),
  (104, .goto (4), 3, 108, 0, 0, 0, 0, []),
  (107, .iconst (0), 1, 0, 0, 0, (0), 0, [])]
set_option maxRecDepth 100000 in
theorem lX2_linesFight_82_ck : lX2_linesFight_82.all (ra_ck mX2_linesFight 2) = true := by decide +kernel
def nX2_linesFight_82 (N : Nat) (a0 : Nat) (a1 : Int32) (a2 : Int32) (b0 : Int32) (h : ra_H) : Option (Int32 × ra_H) :=
  (fX2_lineFact N a0 a1 ((9 : Int32)) h).bind fun q1 =>
  (fX2_lineFact N a0 a2 ((9 : Int32)) q1.2).bind fun q2 =>
  if q1.1 = q2.1 then
    nX2_linesFight_108 N b0 ((1 : Int32)) q2.2
  else
    nX2_linesFight_108 N b0 ((0 : Int32)) q2.2
def kX2_linesFight_82 (N : Nat) : Nat → List (Option Value) → List Value → ra_H → Option (Int32 × ra_H) := (ra_k1 108 (fun L S h => match L, S with
  | [_, _, _, _, _], [.int b1, .int b0] => nX2_linesFight_108 N b0 b1 h
  | _, _ => none) ra_k0)
theorem kX2_linesFight_82_ok (N : Nat) : ra_kok 2 mX2_linesFight ra_oI (kX2_linesFight_82 N) := (ra_k1_ok (by
  intro L S h a e
  split at e
  · exact ra_Ru.weak (nX2_linesFight_108_ok N _ _ _ _ e) trivial
  · cases e) ra_k0_ok)
set_option maxRecDepth 100000 in
theorem nX2_linesFight_82_ok (N : Nat) (a0 : Nat) (a1 : Int32) (a2 : Int32) (b0 : Int32) (h : ra_H) (r : (Int32 × ra_H)) (e : nX2_linesFight_82 N a0 a1 a2 b0 h = some r) : ra_Ru 2 mX2_linesFight 82 [some (.ref a0), some (.int a1), some (.int a2), none, none] [.int b0] h (ra_oI r) :=
  ra_sound (by omega) rfl ra_rI_ok (kX2_linesFight_82_ok N) (fun m av h h1 e => (ra_c0_ok (ro := ra_oV)) m av h h1 e) (fun m av h x h1 e => (tIX2_linesFight_ok N) m av h (x, h1) e) (fun m av h x h1 e => (ra_c0_ok (ro := ra_oJ)) m av h (x, h1) e) (fun m av h x h1 e => (ra_c0_ok (ro := ra_oR)) m av h (x, h1) e) (fun m av h x h1 e => (ra_c0_ok (ro := ra_oN)) m av h (x, h1) e) (fun m av h x h1 e => (ra_c0_ok (ro := ra_oF)) m av h (x, h1) e) 15 lX2_linesFight_82 _ _ _ _ lX2_linesFight_82_ck (show ra_run ra_rI (kX2_linesFight_82 N) ra_c0 (tIX2_linesFight N) ra_c0 ra_c0 ra_c0 ra_c0 15 lX2_linesFight_82 [some (.ref a0), some (.int a1), some (.int a2), none, none] [.int b0] h = some r from e) _ _ rfl
def lX2_linesFight_81 : List ra_I := [(81, .iconst (0), 1, 0, 0, 0, (0), 0, [])]
set_option maxRecDepth 100000 in
theorem lX2_linesFight_81_ck : lX2_linesFight_81.all (ra_ck mX2_linesFight 2) = true := by decide +kernel
def nX2_linesFight_81 (N : Nat) (a0 : Nat) (a1 : Int32) (a2 : Int32) (h : ra_H) : Option (Int32 × ra_H) :=
  nX2_linesFight_82 N a0 a1 a2 ((0 : Int32)) h
def kX2_linesFight_81 (N : Nat) : Nat → List (Option Value) → List Value → ra_H → Option (Int32 × ra_H) := (ra_k1 82 (fun L S h => match L, S with
  | [some (.ref a0), some (.int a1), some (.int a2), _, _], [.int b0] => nX2_linesFight_82 N a0 a1 a2 b0 h
  | _, _ => none) ra_k0)
theorem kX2_linesFight_81_ok (N : Nat) : ra_kok 2 mX2_linesFight ra_oI (kX2_linesFight_81 N) := (ra_k1_ok (by
  intro L S h a e
  split at e
  · exact ra_Ru.weak (nX2_linesFight_82_ok N _ _ _ _ _ _ e) ⟨rfl, ⟨rfl, ⟨rfl, trivial⟩⟩⟩
  · cases e) ra_k0_ok)
set_option maxRecDepth 100000 in
theorem nX2_linesFight_81_ok (N : Nat) (a0 : Nat) (a1 : Int32) (a2 : Int32) (h : ra_H) (r : (Int32 × ra_H)) (e : nX2_linesFight_81 N a0 a1 a2 h = some r) : ra_Ru 2 mX2_linesFight 81 [some (.ref a0), some (.int a1), some (.int a2), none, none] [] h (ra_oI r) :=
  ra_sound (by omega) rfl ra_rI_ok (kX2_linesFight_81_ok N) (fun m av h h1 e => (ra_c0_ok (ro := ra_oV)) m av h h1 e) (fun m av h x h1 e => (tIX2_linesFight_ok N) m av h (x, h1) e) (fun m av h x h1 e => (ra_c0_ok (ro := ra_oJ)) m av h (x, h1) e) (fun m av h x h1 e => (ra_c0_ok (ro := ra_oR)) m av h (x, h1) e) (fun m av h x h1 e => (ra_c0_ok (ro := ra_oN)) m av h (x, h1) e) (fun m av h x h1 e => (ra_c0_ok (ro := ra_oF)) m av h (x, h1) e) 2 lX2_linesFight_81 _ _ _ _ lX2_linesFight_81_ck (show ra_run ra_rI (kX2_linesFight_81 N) ra_c0 (tIX2_linesFight N) ra_c0 ra_c0 ra_c0 ra_c0 2 lX2_linesFight_81 [some (.ref a0), some (.int a1), some (.int a2), none, none] [] h = some r from e) _ _ rfl
def lX2_linesFight_25 : List ra_I := [(25, .istore_n 3, 1, 3, 0, 0, 0, 0, []),
  (26, .aload_n 0, 1, 0, 0, 0, 0, 0, []),
  (27, .getfield 33, 3, 2, 6, 2, 0, 0, []),
  (30, .iload_n 1, 1, 1, 0, 0, 0, 0, []),
  (31, .iaload, 1, 0, 0, 0, 0, 0, []),
  (32, .aload_n 0, 1, 0, 0, 0, 0, 0, []),
  (33, .getfield 33, 3, 2, 6, 2, 0, 0, []),
  (36, .iload_n 2, 1, 2, 0, 0, 0, 0, []),
  (37, .iaload, 1, 0, 0, 0, 0, 0, []),
  (38, .if_icmp .eq (7), 3, 45, 0, 0, 0, 0, []),
  (41, .iload_n 3, 1, 3, 0, 0, 0, 0, []),
  (42, .ifCond .ne (5), 3, 47, 0, 0, 0, 0, []),
  (47, .aload_n 0, 1, 0, 0, 0, 0, 0, []),
  (48, .iload_n 1, 1, 1, 0, 0, 0, 0, []),
  (49, .iconst (0), 1, 0, 0, 0, (0), 0, []),
  (50, .invokevirtual 116, 3, 123, 3, 1, 0, 0, []),
  (53, .aload_n 0, 1, 0, 0, 0, 0, 0, []),
  (54, .iload_n 2, 1, 2, 0, 0, 0, 0, []),
  (55, .iconst (0), 1, 0, 0, 0, (0), 0, []),
  (56, .invokevirtual 116, 3, 123, 3, 1, 0, 0, []),
  (59, .if_icmp .ne (22), 3, 81, 0, 0, 0, 0, []),
  (62, .aload_n 0, 1, 0, 0, 0, 0, 0, []),
  (63, .iload_n 1, 1, 1, 0, 0, 0, 0, []),
  (64, .iconst (1), 1, 0, 0, 0, (1), 0, []),
  (65, .invokevirtual 116, 3, 123, 3, 1, 0, 0, []),
  (68, .aload_n 0, 1, 0, 0, 0, 0, 0, []),
  (69, .iload_n 2, 1, 2, 0, 0, 0, 0, []),
  (70, .iconst (1), 1, 0, 0, 0, (1), 0, []),
  (71, .invokevirtual 116, 3, 123, 3, 1, 0, 0, []),
  (74, .if_icmp .ne (7), 3, 81, 0, 0, 0, 0, []),
  (77, .iconst (1), 1, 0, 0, 0, (1), 0, []),
  (78, .goto (4), 3, 82, 0, 0, 0, 0, [])]
set_option maxRecDepth 100000 in
theorem lX2_linesFight_25_ck : lX2_linesFight_25.all (ra_ck mX2_linesFight 2) = true := by decide +kernel
def nX2_linesFight_25 (N : Nat) (a0 : Nat) (a1 : Int32) (a2 : Int32) (b0 : Int32) (h : ra_H) : Option (Int32 × ra_H) :=
  (ra_fR h 2 a0 6).bind fun x1 =>
  (ra_aI h 0 x1 a1).bind fun x2 =>
  (ra_fR h 2 a0 6).bind fun x3 =>
  (ra_aI h 0 x3 a2).bind fun x4 =>
  if x2 = x4 then
    nX2_linesFight_45 N h
  else
    if b0 = 0 then
      nX2_linesFight_45 N h
    else
      (fX2_lineFact N a0 a1 ((0 : Int32)) h).bind fun q5 =>
      (fX2_lineFact N a0 a2 ((0 : Int32)) q5.2).bind fun q6 =>
      if q5.1 = q6.1 then
        (fX2_lineFact N a0 a1 ((1 : Int32)) q6.2).bind fun q7 =>
        (fX2_lineFact N a0 a2 ((1 : Int32)) q7.2).bind fun q8 =>
        if q7.1 = q8.1 then
          nX2_linesFight_82 N a0 a1 a2 ((1 : Int32)) q8.2
        else
          nX2_linesFight_81 N a0 a1 a2 q8.2
      else
        nX2_linesFight_81 N a0 a1 a2 q6.2
def kX2_linesFight_25 (N : Nat) : Nat → List (Option Value) → List Value → ra_H → Option (Int32 × ra_H) := (ra_k1 45 (fun L S h => match L, S with
  | [_, _, _, _, _], [] => nX2_linesFight_45 N h
  | _, _ => none) (ra_k1 81 (fun L S h => match L, S with
  | [some (.ref a0), some (.int a1), some (.int a2), _, _], [] => nX2_linesFight_81 N a0 a1 a2 h
  | _, _ => none) (ra_k1 82 (fun L S h => match L, S with
  | [some (.ref a0), some (.int a1), some (.int a2), _, _], [.int b0] => nX2_linesFight_82 N a0 a1 a2 b0 h
  | _, _ => none) ra_k0)))
theorem kX2_linesFight_25_ok (N : Nat) : ra_kok 2 mX2_linesFight ra_oI (kX2_linesFight_25 N) := (ra_k1_ok (by
  intro L S h a e
  split at e
  · exact ra_Ru.weak (nX2_linesFight_45_ok N _ _ e) trivial
  · cases e) (ra_k1_ok (by
  intro L S h a e
  split at e
  · exact ra_Ru.weak (nX2_linesFight_81_ok N _ _ _ _ _ e) ⟨rfl, ⟨rfl, ⟨rfl, trivial⟩⟩⟩
  · cases e) (ra_k1_ok (by
  intro L S h a e
  split at e
  · exact ra_Ru.weak (nX2_linesFight_82_ok N _ _ _ _ _ _ e) ⟨rfl, ⟨rfl, ⟨rfl, trivial⟩⟩⟩
  · cases e) ra_k0_ok)))
set_option maxRecDepth 100000 in
theorem nX2_linesFight_25_ok (N : Nat) (a0 : Nat) (a1 : Int32) (a2 : Int32) (b0 : Int32) (h : ra_H) (r : (Int32 × ra_H)) (e : nX2_linesFight_25 N a0 a1 a2 b0 h = some r) : ra_Ru 2 mX2_linesFight 25 [some (.ref a0), some (.int a1), some (.int a2), none, none] [.int b0] h (ra_oI r) :=
  ra_sound (by omega) rfl ra_rI_ok (kX2_linesFight_25_ok N) (fun m av h h1 e => (ra_c0_ok (ro := ra_oV)) m av h h1 e) (fun m av h x h1 e => (tIX2_linesFight_ok N) m av h (x, h1) e) (fun m av h x h1 e => (ra_c0_ok (ro := ra_oJ)) m av h (x, h1) e) (fun m av h x h1 e => (ra_c0_ok (ro := ra_oR)) m av h (x, h1) e) (fun m av h x h1 e => (ra_c0_ok (ro := ra_oN)) m av h (x, h1) e) (fun m av h x h1 e => (ra_c0_ok (ro := ra_oF)) m av h (x, h1) e) 33 lX2_linesFight_25 _ _ _ _ lX2_linesFight_25_ck (show ra_run ra_rI (kX2_linesFight_25 N) ra_c0 (tIX2_linesFight N) ra_c0 ra_c0 ra_c0 ra_c0 33 lX2_linesFight_25 [some (.ref a0), some (.int a1), some (.int a2), none, none] [.int b0] h = some r from e) _ _ rfl
def lX2_linesFight_24 : List ra_I := [(24, .iconst (0), 1, 0, 0, 0, (0), 0, [])]
set_option maxRecDepth 100000 in
theorem lX2_linesFight_24_ck : lX2_linesFight_24.all (ra_ck mX2_linesFight 2) = true := by decide +kernel
def nX2_linesFight_24 (N : Nat) (a0 : Nat) (a1 : Int32) (a2 : Int32) (h : ra_H) : Option (Int32 × ra_H) :=
  nX2_linesFight_25 N a0 a1 a2 ((0 : Int32)) h
def kX2_linesFight_24 (N : Nat) : Nat → List (Option Value) → List Value → ra_H → Option (Int32 × ra_H) := (ra_k1 25 (fun L S h => match L, S with
  | [some (.ref a0), some (.int a1), some (.int a2), _, _], [.int b0] => nX2_linesFight_25 N a0 a1 a2 b0 h
  | _, _ => none) ra_k0)
theorem kX2_linesFight_24_ok (N : Nat) : ra_kok 2 mX2_linesFight ra_oI (kX2_linesFight_24 N) := (ra_k1_ok (by
  intro L S h a e
  split at e
  · exact ra_Ru.weak (nX2_linesFight_25_ok N _ _ _ _ _ _ e) ⟨rfl, ⟨rfl, ⟨rfl, trivial⟩⟩⟩
  · cases e) ra_k0_ok)
set_option maxRecDepth 100000 in
theorem nX2_linesFight_24_ok (N : Nat) (a0 : Nat) (a1 : Int32) (a2 : Int32) (h : ra_H) (r : (Int32 × ra_H)) (e : nX2_linesFight_24 N a0 a1 a2 h = some r) : ra_Ru 2 mX2_linesFight 24 [some (.ref a0), some (.int a1), some (.int a2), none, none] [] h (ra_oI r) :=
  ra_sound (by omega) rfl ra_rI_ok (kX2_linesFight_24_ok N) (fun m av h h1 e => (ra_c0_ok (ro := ra_oV)) m av h h1 e) (fun m av h x h1 e => (tIX2_linesFight_ok N) m av h (x, h1) e) (fun m av h x h1 e => (ra_c0_ok (ro := ra_oJ)) m av h (x, h1) e) (fun m av h x h1 e => (ra_c0_ok (ro := ra_oR)) m av h (x, h1) e) (fun m av h x h1 e => (ra_c0_ok (ro := ra_oN)) m av h (x, h1) e) (fun m av h x h1 e => (ra_c0_ok (ro := ra_oF)) m av h (x, h1) e) 2 lX2_linesFight_24 _ _ _ _ lX2_linesFight_24_ck (show ra_run ra_rI (kX2_linesFight_24 N) ra_c0 (tIX2_linesFight N) ra_c0 ra_c0 ra_c0 ra_c0 2 lX2_linesFight_24 [some (.ref a0), some (.int a1), some (.int a2), none, none] [] h = some r from e) _ _ rfl
def lX2_linesFight_0 : List ra_I := [(0, .aload_n 0, 1, 0, 0, 0, 0, 0, []),
  (1, .iload_n 1, 1, 1, 0, 0, 0, 0, []),
  (2, .iconst (0), 1, 0, 0, 0, (0), 0, []),
  (3, .invokevirtual 116, 3, 123, 3, 1, 0, 0, []),
  (6, .iconst (-1), 1, 0, 0, 0, (-1), 0, []),
  (7, .if_icmp .eq (17), 3, 24, 0, 0, 0, 0, []),
  (10, .aload_n 0, 1, 0, 0, 0, 0, 0, []),
  (11, .iload_n 2, 1, 2, 0, 0, 0, 0, []),
  (12, .iconst (0), 1, 0, 0, 0, (0), 0, []),
  (13, .invokevirtual 116, 3, 123, 3, 1, 0, 0, []),
  (16, .iconst (-1), 1, 0, 0, 0, (-1), 0, []),
  (17, .if_icmp .eq (7), 3, 24, 0, 0, 0, 0, []),
  (20, .iconst (1), 1, 0, 0, 0, (1), 0, []),
  (21, .goto (4), 3, 25, 0, 0, 0, 0, [])]
set_option maxRecDepth 100000 in
theorem lX2_linesFight_0_ck : lX2_linesFight_0.all (ra_ck mX2_linesFight 2) = true := by decide +kernel
def nX2_linesFight_0 (N : Nat) (a0 : Nat) (a1 : Int32) (a2 : Int32) (h : ra_H) : Option (Int32 × ra_H) :=
  (fX2_lineFact N a0 a1 ((0 : Int32)) h).bind fun q1 =>
  if q1.1 = ((-1 : Int32)) then
    nX2_linesFight_24 N a0 a1 a2 q1.2
  else
    (fX2_lineFact N a0 a2 ((0 : Int32)) q1.2).bind fun q2 =>
    if q2.1 = ((-1 : Int32)) then
      nX2_linesFight_24 N a0 a1 a2 q2.2
    else
      nX2_linesFight_25 N a0 a1 a2 ((1 : Int32)) q2.2
def kX2_linesFight_0 (N : Nat) : Nat → List (Option Value) → List Value → ra_H → Option (Int32 × ra_H) := (ra_k1 24 (fun L S h => match L, S with
  | [some (.ref a0), some (.int a1), some (.int a2), _, _], [] => nX2_linesFight_24 N a0 a1 a2 h
  | _, _ => none) (ra_k1 25 (fun L S h => match L, S with
  | [some (.ref a0), some (.int a1), some (.int a2), _, _], [.int b0] => nX2_linesFight_25 N a0 a1 a2 b0 h
  | _, _ => none) ra_k0))
theorem kX2_linesFight_0_ok (N : Nat) : ra_kok 2 mX2_linesFight ra_oI (kX2_linesFight_0 N) := (ra_k1_ok (by
  intro L S h a e
  split at e
  · exact ra_Ru.weak (nX2_linesFight_24_ok N _ _ _ _ _ e) ⟨rfl, ⟨rfl, ⟨rfl, trivial⟩⟩⟩
  · cases e) (ra_k1_ok (by
  intro L S h a e
  split at e
  · exact ra_Ru.weak (nX2_linesFight_25_ok N _ _ _ _ _ _ e) ⟨rfl, ⟨rfl, ⟨rfl, trivial⟩⟩⟩
  · cases e) ra_k0_ok))
set_option maxRecDepth 100000 in
theorem nX2_linesFight_0_ok (N : Nat) (a0 : Nat) (a1 : Int32) (a2 : Int32) (h : ra_H) (r : (Int32 × ra_H)) (e : nX2_linesFight_0 N a0 a1 a2 h = some r) : ra_Ru 2 mX2_linesFight 0 [some (.ref a0), some (.int a1), some (.int a2), none, none] [] h (ra_oI r) :=
  ra_sound (by omega) rfl ra_rI_ok (kX2_linesFight_0_ok N) (fun m av h h1 e => (ra_c0_ok (ro := ra_oV)) m av h h1 e) (fun m av h x h1 e => (tIX2_linesFight_ok N) m av h (x, h1) e) (fun m av h x h1 e => (ra_c0_ok (ro := ra_oJ)) m av h (x, h1) e) (fun m av h x h1 e => (ra_c0_ok (ro := ra_oR)) m av h (x, h1) e) (fun m av h x h1 e => (ra_c0_ok (ro := ra_oN)) m av h (x, h1) e) (fun m av h x h1 e => (ra_c0_ok (ro := ra_oF)) m av h (x, h1) e) 15 lX2_linesFight_0 _ _ _ _ lX2_linesFight_0_ck (show ra_run ra_rI (kX2_linesFight_0 N) ra_c0 (tIX2_linesFight N) ra_c0 ra_c0 ra_c0 ra_c0 15 lX2_linesFight_0 [some (.ref a0), some (.int a1), some (.int a2), none, none] [] h = some r from e) _ _ rfl
def fX2_linesFight (N : Nat) (p0 : Nat) (p1 : Int32) (p2 : Int32) (h : ra_H) : Option (Int32 × ra_H) := match ra_isOb h p0 2 with
  | true => (nX2_linesFight_0 N p0 p1 p2 h).bind (fun q => ra_rz q.1 q.2)
  | false => none
set_option maxRecDepth 100000 in
theorem mtX2_linesFight : ra_MT[148]? = some (mX2_linesFight, 1, 2, (1, 2), (5, 116), (5, 117)) := rfl
theorem fX2_linesFight_co (N : Nat) (p0 : Nat) (p1 : Int32) (p2 : Int32) (h : ra_H) (r : (Int32 × ra_H)) (e : fX2_linesFight N p0 p1 p2 h = some r) (D : Nat) (hD : 3 ≤ D) : ra_CO D 148 [.ref p0, .int p1, .int p2] h (ra_oI r).1 (ra_oI r).2 := by
  have hw : ra_nw2 [.ref p0, .int p1, .int p2] ≤ 5 := Nat.le_of_ble_eq_true rfl
  have hdb : ∀ v ∈ ([.ref p0, .int p1, .int p2] : List Value), ∀ x, v ≠ .double x := by
    intro v hv x hx
    simp [hx] at hv
  unfold fX2_linesFight at e
  split at e
  · rename_i ho
    obtain ⟨q, e1, e2⟩ := Option.bind_eq_some_iff.mp e
    obtain ⟨rfl, hz⟩ := ra_rz_of e2
    exact ⟨2, _, mtX2_linesFight, hD, ra_ev_of (by decide) hdb hw hz (ra_Ru.weak (nX2_linesFight_0_ok N p0 p1 p2 h _ e1) ⟨rfl, ⟨rfl, ⟨rfl, trivial⟩⟩⟩), (fun _ => ⟨_, _, rfl, ra_rcv_of ho (by decide) rfl⟩), (fun h => absurd h (by decide))⟩
  · cases e
/-! RedMarks$Holdings.hasScheme(I)Z -/
def mX2_hasScheme : ra_M := (yX2_hasScheme, cX2_hasScheme, 2, (some .boolean))
def lX2_hasScheme_26 : List ra_I := [(26, .ireturn, 1, 0, 0, 0, 0, 0, [])]
set_option maxRecDepth 100000 in
theorem lX2_hasScheme_26_ck : lX2_hasScheme_26.all (ra_ck mX2_hasScheme 2) = true := by decide +kernel
def nX2_hasScheme_26 (N : Nat) (b0 : Int32) (h : ra_H) : Option (Int32 × ra_H) :=
  some (b0, h)
def kX2_hasScheme_26 (N : Nat) : Nat → List (Option Value) → List Value → ra_H → Option (Int32 × ra_H) := ra_k0
theorem kX2_hasScheme_26_ok (N : Nat) : ra_kok 1 mX2_hasScheme ra_oI (kX2_hasScheme_26 N) := ra_k0_ok
set_option maxRecDepth 100000 in
theorem nX2_hasScheme_26_ok (N : Nat) (b0 : Int32) (h : ra_H) (r : (Int32 × ra_H)) (e : nX2_hasScheme_26 N b0 h = some r) : ra_Ru 1 mX2_hasScheme 26 [none, none] [.int b0] h (ra_oI r) :=
  ra_sound (by omega) rfl ra_rI_ok (kX2_hasScheme_26_ok N) (fun m av h h1 e => (ra_c0_ok (ro := ra_oV)) m av h h1 e) (fun m av h x h1 e => (ra_c0_ok (ro := ra_oI)) m av h (x, h1) e) (fun m av h x h1 e => (ra_c0_ok (ro := ra_oJ)) m av h (x, h1) e) (fun m av h x h1 e => (ra_c0_ok (ro := ra_oR)) m av h (x, h1) e) (fun m av h x h1 e => (ra_c0_ok (ro := ra_oN)) m av h (x, h1) e) (fun m av h x h1 e => (ra_c0_ok (ro := ra_oF)) m av h (x, h1) e) 2 lX2_hasScheme_26 _ _ _ _ lX2_hasScheme_26_ck (show ra_run ra_rI (kX2_hasScheme_26 N) ra_c0 ra_c0 ra_c0 ra_c0 ra_c0 ra_c0 2 lX2_hasScheme_26 [none, none] [.int b0] h = some r from e) _ _ rfl
def lX2_hasScheme_25 : List ra_I := [(25, .iconst (0), 1, 0, 0, 0, (0), 0, [])]
set_option maxRecDepth 100000 in
theorem lX2_hasScheme_25_ck : lX2_hasScheme_25.all (ra_ck mX2_hasScheme 2) = true := by decide +kernel
def nX2_hasScheme_25 (N : Nat) (h : ra_H) : Option (Int32 × ra_H) :=
  nX2_hasScheme_26 N ((0 : Int32)) h
def kX2_hasScheme_25 (N : Nat) : Nat → List (Option Value) → List Value → ra_H → Option (Int32 × ra_H) := (ra_k1 26 (fun L S h => match L, S with
  | [_, _], [.int b0] => nX2_hasScheme_26 N b0 h
  | _, _ => none) ra_k0)
theorem kX2_hasScheme_25_ok (N : Nat) : ra_kok 1 mX2_hasScheme ra_oI (kX2_hasScheme_25 N) := (ra_k1_ok (by
  intro L S h a e
  split at e
  · exact ra_Ru.weak (nX2_hasScheme_26_ok N _ _ _ e) trivial
  · cases e) ra_k0_ok)
set_option maxRecDepth 100000 in
theorem nX2_hasScheme_25_ok (N : Nat) (h : ra_H) (r : (Int32 × ra_H)) (e : nX2_hasScheme_25 N h = some r) : ra_Ru 1 mX2_hasScheme 25 [none, none] [] h (ra_oI r) :=
  ra_sound (by omega) rfl ra_rI_ok (kX2_hasScheme_25_ok N) (fun m av h h1 e => (ra_c0_ok (ro := ra_oV)) m av h h1 e) (fun m av h x h1 e => (ra_c0_ok (ro := ra_oI)) m av h (x, h1) e) (fun m av h x h1 e => (ra_c0_ok (ro := ra_oJ)) m av h (x, h1) e) (fun m av h x h1 e => (ra_c0_ok (ro := ra_oR)) m av h (x, h1) e) (fun m av h x h1 e => (ra_c0_ok (ro := ra_oN)) m av h (x, h1) e) (fun m av h x h1 e => (ra_c0_ok (ro := ra_oF)) m av h (x, h1) e) 2 lX2_hasScheme_25 _ _ _ _ lX2_hasScheme_25_ck (show ra_run ra_rI (kX2_hasScheme_25 N) ra_c0 ra_c0 ra_c0 ra_c0 ra_c0 ra_c0 2 lX2_hasScheme_25 [none, none] [] h = some r from e) _ _ rfl
def lX2_hasScheme_0 : List ra_I := [(0, .iload_n 1, 1, 1, 0, 0, 0, 0, []),
  (1, .ifCond .lt (24), 3, 25, 0, 0, 0, 0, []),
  (4, .iload_n 1, 1, 1, 0, 0, 0, 0, []),
  (5, .aload_n 0, 1, 0, 0, 0, 0, 0, []),
  (6, .getfield 74, 3, 2, 14, 0, 0, 0, []),
  (9, .if_icmp .ge (16), 3, 25, 0, 0, 0, 0, []),
  (12, .aload_n 0, 1, 0, 0, 0, 0, 0, []),
  (13, .getfield 26, 3, 2, 4, 2, 0, 0, []),
  (16, .iload_n 1, 1, 1, 0, 0, 0, 0, []),
  (17, .aaload, 1, 0, 0, 0, 0, 0, []),
  (18, .ifnull (7), 3, 25, 0, 0, 0, 0, []),
  (21, .iconst (1), 1, 0, 0, 0, (1), 0, []),
  (22, .goto (4), 3, 26, 0, 0, 0, 0, [])]
set_option maxRecDepth 100000 in
theorem lX2_hasScheme_0_ck : lX2_hasScheme_0.all (ra_ck mX2_hasScheme 2) = true := by decide +kernel
def nX2_hasScheme_0 (N : Nat) (a0 : Nat) (a1 : Int32) (h : ra_H) : Option (Int32 × ra_H) :=
  if a1 < 0 then
    nX2_hasScheme_25 N h
  else
    (ra_fI h 2 a0 14).bind fun x1 =>
    if a1 < x1 then
      (ra_fR h 2 a0 4).bind fun x2 =>
      (ra_aN h x2 a1).bind fun r3 => match r3 with
      | none =>
        nX2_hasScheme_25 N h
      | some x4 =>
        nX2_hasScheme_26 N ((1 : Int32)) h
    else
      nX2_hasScheme_25 N h
def kX2_hasScheme_0 (N : Nat) : Nat → List (Option Value) → List Value → ra_H → Option (Int32 × ra_H) := (ra_k1 25 (fun L S h => match L, S with
  | [_, _], [] => nX2_hasScheme_25 N h
  | _, _ => none) (ra_k1 26 (fun L S h => match L, S with
  | [_, _], [.int b0] => nX2_hasScheme_26 N b0 h
  | _, _ => none) ra_k0))
theorem kX2_hasScheme_0_ok (N : Nat) : ra_kok 1 mX2_hasScheme ra_oI (kX2_hasScheme_0 N) := (ra_k1_ok (by
  intro L S h a e
  split at e
  · exact ra_Ru.weak (nX2_hasScheme_25_ok N _ _ e) trivial
  · cases e) (ra_k1_ok (by
  intro L S h a e
  split at e
  · exact ra_Ru.weak (nX2_hasScheme_26_ok N _ _ _ e) trivial
  · cases e) ra_k0_ok))
set_option maxRecDepth 100000 in
theorem nX2_hasScheme_0_ok (N : Nat) (a0 : Nat) (a1 : Int32) (h : ra_H) (r : (Int32 × ra_H)) (e : nX2_hasScheme_0 N a0 a1 h = some r) : ra_Ru 1 mX2_hasScheme 0 [some (.ref a0), some (.int a1)] [] h (ra_oI r) :=
  ra_sound (by omega) rfl ra_rI_ok (kX2_hasScheme_0_ok N) (fun m av h h1 e => (ra_c0_ok (ro := ra_oV)) m av h h1 e) (fun m av h x h1 e => (ra_c0_ok (ro := ra_oI)) m av h (x, h1) e) (fun m av h x h1 e => (ra_c0_ok (ro := ra_oJ)) m av h (x, h1) e) (fun m av h x h1 e => (ra_c0_ok (ro := ra_oR)) m av h (x, h1) e) (fun m av h x h1 e => (ra_c0_ok (ro := ra_oN)) m av h (x, h1) e) (fun m av h x h1 e => (ra_c0_ok (ro := ra_oF)) m av h (x, h1) e) 14 lX2_hasScheme_0 _ _ _ _ lX2_hasScheme_0_ck (show ra_run ra_rI (kX2_hasScheme_0 N) ra_c0 ra_c0 ra_c0 ra_c0 ra_c0 ra_c0 14 lX2_hasScheme_0 [some (.ref a0), some (.int a1)] [] h = some r from e) _ _ rfl
def fX2_hasScheme (N : Nat) (p0 : Nat) (p1 : Int32) (h : ra_H) : Option (Int32 × ra_H) := match ra_isOb h p0 2 with
  | true => (nX2_hasScheme_0 N p0 p1 h).bind (fun q => ra_rz q.1 q.2)
  | false => none
set_option maxRecDepth 100000 in
theorem mtX2_hasScheme : ra_MT[82]? = some (mX2_hasScheme, 1, 1, (1, 2), (4, 75), (4, 76)) := rfl
theorem fX2_hasScheme_co (N : Nat) (p0 : Nat) (p1 : Int32) (h : ra_H) (r : (Int32 × ra_H)) (e : fX2_hasScheme N p0 p1 h = some r) (D : Nat) (hD : 2 ≤ D) : ra_CO D 82 [.ref p0, .int p1] h (ra_oI r).1 (ra_oI r).2 := by
  have hw : ra_nw2 [.ref p0, .int p1] ≤ 2 := Nat.le_of_ble_eq_true rfl
  have hdb : ∀ v ∈ ([.ref p0, .int p1] : List Value), ∀ x, v ≠ .double x := by
    intro v hv x hx
    simp [hx] at hv
  unfold fX2_hasScheme at e
  split at e
  · rename_i ho
    obtain ⟨q, e1, e2⟩ := Option.bind_eq_some_iff.mp e
    obtain ⟨rfl, hz⟩ := ra_rz_of e2
    exact ⟨1, _, mtX2_hasScheme, hD, ra_ev_of (by decide) hdb hw hz (ra_Ru.weak (nX2_hasScheme_0_ok N p0 p1 h _ e1) ⟨rfl, ⟨rfl, trivial⟩⟩), (fun _ => ⟨_, _, rfl, ra_rcv_of ho (by decide) rfl⟩), (fun h => absurd h (by decide))⟩
  · cases e
/-! RedMarks$Holdings.hasHoleAndLetter(II)Z -/
def mX2_hasHoleAndLetter : ra_M := (yX2_hasHoleAndLetter, cX2_hasHoleAndLetter, 3, (some .boolean))
def tIX2_hasHoleAndLetter (N : Nat) : Nat → List Value → ra_H → Option (Int32 × ra_H) := (ra_c1 27 (fun av h => match av with
  | [.ref z0, .int z1, .int z2] => fX2_factOf N z0 z1 z2 h
  | _ => none) ra_c0)
theorem tIX2_hasHoleAndLetter_ok (N : Nat) : ra_cok 2 ra_oI (tIX2_hasHoleAndLetter N) := (ra_c1_ok (by
  intro av h a e
  split at e
  · exact fX2_factOf_co N _ _ _ _ _ e 2 (by omega)
  · cases e) ra_c0_ok)
def lX2_hasHoleAndLetter_24 : List ra_I := [(24, .ireturn, 1, 0, 0, 0, 0, 0, [])]
set_option maxRecDepth 100000 in
theorem lX2_hasHoleAndLetter_24_ck : lX2_hasHoleAndLetter_24.all (ra_ck mX2_hasHoleAndLetter 2) = true := by decide +kernel
def nX2_hasHoleAndLetter_24 (N : Nat) (b0 : Int32) (h : ra_H) : Option (Int32 × ra_H) :=
  some (b0, h)
def kX2_hasHoleAndLetter_24 (N : Nat) : Nat → List (Option Value) → List Value → ra_H → Option (Int32 × ra_H) := ra_k0
theorem kX2_hasHoleAndLetter_24_ok (N : Nat) : ra_kok 2 mX2_hasHoleAndLetter ra_oI (kX2_hasHoleAndLetter_24 N) := ra_k0_ok
set_option maxRecDepth 100000 in
theorem nX2_hasHoleAndLetter_24_ok (N : Nat) (b0 : Int32) (h : ra_H) (r : (Int32 × ra_H)) (e : nX2_hasHoleAndLetter_24 N b0 h = some r) : ra_Ru 2 mX2_hasHoleAndLetter 24 [none, none, none] [.int b0] h (ra_oI r) :=
  ra_sound (by omega) rfl ra_rI_ok (kX2_hasHoleAndLetter_24_ok N) (fun m av h h1 e => (ra_c0_ok (ro := ra_oV)) m av h h1 e) (fun m av h x h1 e => (tIX2_hasHoleAndLetter_ok N) m av h (x, h1) e) (fun m av h x h1 e => (ra_c0_ok (ro := ra_oJ)) m av h (x, h1) e) (fun m av h x h1 e => (ra_c0_ok (ro := ra_oR)) m av h (x, h1) e) (fun m av h x h1 e => (ra_c0_ok (ro := ra_oN)) m av h (x, h1) e) (fun m av h x h1 e => (ra_c0_ok (ro := ra_oF)) m av h (x, h1) e) 2 lX2_hasHoleAndLetter_24 _ _ _ _ lX2_hasHoleAndLetter_24_ck (show ra_run ra_rI (kX2_hasHoleAndLetter_24 N) ra_c0 (tIX2_hasHoleAndLetter N) ra_c0 ra_c0 ra_c0 ra_c0 2 lX2_hasHoleAndLetter_24 [none, none, none] [.int b0] h = some r from e) _ _ rfl
def lX2_hasHoleAndLetter_23 : List ra_I := [(23, .iconst (0), 1, 0, 0, 0, (0), 0, [])]
set_option maxRecDepth 100000 in
theorem lX2_hasHoleAndLetter_23_ck : lX2_hasHoleAndLetter_23.all (ra_ck mX2_hasHoleAndLetter 2) = true := by decide +kernel
def nX2_hasHoleAndLetter_23 (N : Nat) (h : ra_H) : Option (Int32 × ra_H) :=
  nX2_hasHoleAndLetter_24 N ((0 : Int32)) h
def kX2_hasHoleAndLetter_23 (N : Nat) : Nat → List (Option Value) → List Value → ra_H → Option (Int32 × ra_H) := (ra_k1 24 (fun L S h => match L, S with
  | [_, _, _], [.int b0] => nX2_hasHoleAndLetter_24 N b0 h
  | _, _ => none) ra_k0)
theorem kX2_hasHoleAndLetter_23_ok (N : Nat) : ra_kok 2 mX2_hasHoleAndLetter ra_oI (kX2_hasHoleAndLetter_23 N) := (ra_k1_ok (by
  intro L S h a e
  split at e
  · exact ra_Ru.weak (nX2_hasHoleAndLetter_24_ok N _ _ _ e) trivial
  · cases e) ra_k0_ok)
set_option maxRecDepth 100000 in
theorem nX2_hasHoleAndLetter_23_ok (N : Nat) (h : ra_H) (r : (Int32 × ra_H)) (e : nX2_hasHoleAndLetter_23 N h = some r) : ra_Ru 2 mX2_hasHoleAndLetter 23 [none, none, none] [] h (ra_oI r) :=
  ra_sound (by omega) rfl ra_rI_ok (kX2_hasHoleAndLetter_23_ok N) (fun m av h h1 e => (ra_c0_ok (ro := ra_oV)) m av h h1 e) (fun m av h x h1 e => (tIX2_hasHoleAndLetter_ok N) m av h (x, h1) e) (fun m av h x h1 e => (ra_c0_ok (ro := ra_oJ)) m av h (x, h1) e) (fun m av h x h1 e => (ra_c0_ok (ro := ra_oR)) m av h (x, h1) e) (fun m av h x h1 e => (ra_c0_ok (ro := ra_oN)) m av h (x, h1) e) (fun m av h x h1 e => (ra_c0_ok (ro := ra_oF)) m av h (x, h1) e) 2 lX2_hasHoleAndLetter_23 _ _ _ _ lX2_hasHoleAndLetter_23_ck (show ra_run ra_rI (kX2_hasHoleAndLetter_23 N) ra_c0 (tIX2_hasHoleAndLetter N) ra_c0 ra_c0 ra_c0 ra_c0 2 lX2_hasHoleAndLetter_23 [none, none, none] [] h = some r from e) _ _ rfl
def lX2_hasHoleAndLetter_0 : List ra_I := [(0, .aload_n 0, 1, 0, 0, 0, 0, 0, []),
  (1, .iload_n 1, 1, 1, 0, 0, 0, 0, []),
  (2, .iconst (5), 1, 0, 0, 0, (5), 0, []),
  (3, .invokevirtual 98, 3, 27, 3, 1, 0, 0, []),
  (6, .ifCond .eq (17), 3, 23, 0, 0, 0, 0, []),
  (9, .aload_n 0, 1, 0, 0, 0, 0, 0, []),
  (10, .iload_n 1, 1, 1, 0, 0, 0, 0, []),
  (11, .iconst (0), 1, 0, 0, 0, (0), 0, []),
  (12, .invokevirtual 98, 3, 27, 3, 1, 0, 0, []),
  (15, .iload_n 2, 1, 2, 0, 0, 0, 0, []),
  (16, .if_icmp .ne (7), 3, 23, 0, 0, 0, 0, []),
  (19, .iconst (1), 1, 0, 0, 0, (1), 0, []),
  (20, .goto (4), 3, 24, 0, 0, 0, 0, [])]
set_option maxRecDepth 100000 in
theorem lX2_hasHoleAndLetter_0_ck : lX2_hasHoleAndLetter_0.all (ra_ck mX2_hasHoleAndLetter 2) = true := by decide +kernel
def nX2_hasHoleAndLetter_0 (N : Nat) (a0 : Nat) (a1 : Int32) (a2 : Int32) (h : ra_H) : Option (Int32 × ra_H) :=
  (fX2_factOf N a0 a1 ((5 : Int32)) h).bind fun q1 =>
  if q1.1 = 0 then
    nX2_hasHoleAndLetter_23 N q1.2
  else
    (fX2_factOf N a0 a1 ((0 : Int32)) q1.2).bind fun q2 =>
    if q2.1 = a2 then
      nX2_hasHoleAndLetter_24 N ((1 : Int32)) q2.2
    else
      nX2_hasHoleAndLetter_23 N q2.2
def kX2_hasHoleAndLetter_0 (N : Nat) : Nat → List (Option Value) → List Value → ra_H → Option (Int32 × ra_H) := (ra_k1 23 (fun L S h => match L, S with
  | [_, _, _], [] => nX2_hasHoleAndLetter_23 N h
  | _, _ => none) (ra_k1 24 (fun L S h => match L, S with
  | [_, _, _], [.int b0] => nX2_hasHoleAndLetter_24 N b0 h
  | _, _ => none) ra_k0))
theorem kX2_hasHoleAndLetter_0_ok (N : Nat) : ra_kok 2 mX2_hasHoleAndLetter ra_oI (kX2_hasHoleAndLetter_0 N) := (ra_k1_ok (by
  intro L S h a e
  split at e
  · exact ra_Ru.weak (nX2_hasHoleAndLetter_23_ok N _ _ e) trivial
  · cases e) (ra_k1_ok (by
  intro L S h a e
  split at e
  · exact ra_Ru.weak (nX2_hasHoleAndLetter_24_ok N _ _ _ e) trivial
  · cases e) ra_k0_ok))
set_option maxRecDepth 100000 in
theorem nX2_hasHoleAndLetter_0_ok (N : Nat) (a0 : Nat) (a1 : Int32) (a2 : Int32) (h : ra_H) (r : (Int32 × ra_H)) (e : nX2_hasHoleAndLetter_0 N a0 a1 a2 h = some r) : ra_Ru 2 mX2_hasHoleAndLetter 0 [some (.ref a0), some (.int a1), some (.int a2)] [] h (ra_oI r) :=
  ra_sound (by omega) rfl ra_rI_ok (kX2_hasHoleAndLetter_0_ok N) (fun m av h h1 e => (ra_c0_ok (ro := ra_oV)) m av h h1 e) (fun m av h x h1 e => (tIX2_hasHoleAndLetter_ok N) m av h (x, h1) e) (fun m av h x h1 e => (ra_c0_ok (ro := ra_oJ)) m av h (x, h1) e) (fun m av h x h1 e => (ra_c0_ok (ro := ra_oR)) m av h (x, h1) e) (fun m av h x h1 e => (ra_c0_ok (ro := ra_oN)) m av h (x, h1) e) (fun m av h x h1 e => (ra_c0_ok (ro := ra_oF)) m av h (x, h1) e) 14 lX2_hasHoleAndLetter_0 _ _ _ _ lX2_hasHoleAndLetter_0_ck (show ra_run ra_rI (kX2_hasHoleAndLetter_0 N) ra_c0 (tIX2_hasHoleAndLetter N) ra_c0 ra_c0 ra_c0 ra_c0 14 lX2_hasHoleAndLetter_0 [some (.ref a0), some (.int a1), some (.int a2)] [] h = some r from e) _ _ rfl
def fX2_hasHoleAndLetter (N : Nat) (p0 : Nat) (p1 : Int32) (p2 : Int32) (h : ra_H) : Option (Int32 × ra_H) := match ra_isOb h p0 2 with
  | true => (nX2_hasHoleAndLetter_0 N p0 p1 p2 h).bind (fun q => ra_rz q.1 q.2)
  | false => none
set_option maxRecDepth 100000 in
theorem mtX2_hasHoleAndLetter : ra_MT[154]? = some (mX2_hasHoleAndLetter, 1, 2, (1, 2), (5, 141), (5, 142)) := rfl
theorem fX2_hasHoleAndLetter_co (N : Nat) (p0 : Nat) (p1 : Int32) (p2 : Int32) (h : ra_H) (r : (Int32 × ra_H)) (e : fX2_hasHoleAndLetter N p0 p1 p2 h = some r) (D : Nat) (hD : 3 ≤ D) : ra_CO D 154 [.ref p0, .int p1, .int p2] h (ra_oI r).1 (ra_oI r).2 := by
  have hw : ra_nw2 [.ref p0, .int p1, .int p2] ≤ 3 := Nat.le_of_ble_eq_true rfl
  have hdb : ∀ v ∈ ([.ref p0, .int p1, .int p2] : List Value), ∀ x, v ≠ .double x := by
    intro v hv x hx
    simp [hx] at hv
  unfold fX2_hasHoleAndLetter at e
  split at e
  · rename_i ho
    obtain ⟨q, e1, e2⟩ := Option.bind_eq_some_iff.mp e
    obtain ⟨rfl, hz⟩ := ra_rz_of e2
    exact ⟨2, _, mtX2_hasHoleAndLetter, hD, ra_ev_of (by decide) hdb hw hz (ra_Ru.weak (nX2_hasHoleAndLetter_0_ok N p0 p1 p2 h _ e1) ⟨rfl, ⟨rfl, ⟨rfl, trivial⟩⟩⟩), (fun _ => ⟨_, _, rfl, ra_rcv_of ho (by decide) rfl⟩), (fun h => absurd h (by decide))⟩
  · cases e
/-! java/lang/Integer.compare(II)I -/
def mJ6_compare_7cf53 : ra_M := (yJ6_compare_7cf53, cJ6_compare_7cf53, 2, (some .int))
def lJ6_compare_7cf53_19 : List ra_I := [(19, .ireturn, 1, 0, 0, 0, 0, 0, [])]
set_option maxRecDepth 100000 in
theorem lJ6_compare_7cf53_19_ck : lJ6_compare_7cf53_19.all (ra_ck mJ6_compare_7cf53 15) = true := by decide +kernel
def nJ6_compare_7cf53_19 (N : Nat) (b0 : Int32) (h : ra_H) : Option (Int32 × ra_H) :=
  some (b0, h)
def kJ6_compare_7cf53_19 (N : Nat) : Nat → List (Option Value) → List Value → ra_H → Option (Int32 × ra_H) := ra_k0
theorem kJ6_compare_7cf53_19_ok (N : Nat) : ra_kok 1 mJ6_compare_7cf53 ra_oI (kJ6_compare_7cf53_19 N) := ra_k0_ok
set_option maxRecDepth 100000 in
theorem nJ6_compare_7cf53_19_ok (N : Nat) (b0 : Int32) (h : ra_H) (r : (Int32 × ra_H)) (e : nJ6_compare_7cf53_19 N b0 h = some r) : ra_Ru 1 mJ6_compare_7cf53 19 [none, none] [.int b0] h (ra_oI r) :=
  ra_sound (by omega) rfl ra_rI_ok (kJ6_compare_7cf53_19_ok N) (fun m av h h1 e => (ra_c0_ok (ro := ra_oV)) m av h h1 e) (fun m av h x h1 e => (ra_c0_ok (ro := ra_oI)) m av h (x, h1) e) (fun m av h x h1 e => (ra_c0_ok (ro := ra_oJ)) m av h (x, h1) e) (fun m av h x h1 e => (ra_c0_ok (ro := ra_oR)) m av h (x, h1) e) (fun m av h x h1 e => (ra_c0_ok (ro := ra_oN)) m av h (x, h1) e) (fun m av h x h1 e => (ra_c0_ok (ro := ra_oF)) m av h (x, h1) e) 2 lJ6_compare_7cf53_19 _ _ _ _ lJ6_compare_7cf53_19_ck (show ra_run ra_rI (kJ6_compare_7cf53_19 N) ra_c0 ra_c0 ra_c0 ra_c0 ra_c0 ra_c0 2 lJ6_compare_7cf53_19 [none, none] [.int b0] h = some r from e) _ _ rfl
def lJ6_compare_7cf53_0 : List ra_I := [(0, .iload_n 0, 1, 0, 0, 0, 0, 0, []),
  (1, .iload_n 1, 1, 1, 0, 0, 0, 0, []),
  (2, .if_icmp .ge (7), 3, 9, 0, 0, 0, 0, []),
  (5, .iconst (-1), 1, 0, 0, 0, (-1), 0, []),
  (6, .goto (13), 3, 19, 0, 0, 0, 0, []),
  (9, .iload_n 0, 1, 0, 0, 0, 0, 0, []),
  (10, .iload_n 1, 1, 1, 0, 0, 0, 0, []),
  (11, .if_icmp .ne (7), 3, 18, 0, 0, 0, 0, []),
  (14, .iconst (0), 1, 0, 0, 0, (0), 0, []),
  (15, .goto (4), 3, 19, 0, 0, 0, 0, []),
  (18, .iconst (1), 1, 0, 0, 0, (1), 0, [])]
set_option maxRecDepth 100000 in
theorem lJ6_compare_7cf53_0_ck : lJ6_compare_7cf53_0.all (ra_ck mJ6_compare_7cf53 15) = true := by decide +kernel
def nJ6_compare_7cf53_0 (N : Nat) (a0 : Int32) (a1 : Int32) (h : ra_H) : Option (Int32 × ra_H) :=
  if a0 < a1 then
    nJ6_compare_7cf53_19 N ((-1 : Int32)) h
  else
    if a0 = a1 then
      nJ6_compare_7cf53_19 N ((0 : Int32)) h
    else
      nJ6_compare_7cf53_19 N ((1 : Int32)) h
def kJ6_compare_7cf53_0 (N : Nat) : Nat → List (Option Value) → List Value → ra_H → Option (Int32 × ra_H) := (ra_k1 19 (fun L S h => match L, S with
  | [_, _], [.int b0] => nJ6_compare_7cf53_19 N b0 h
  | _, _ => none) ra_k0)
theorem kJ6_compare_7cf53_0_ok (N : Nat) : ra_kok 1 mJ6_compare_7cf53 ra_oI (kJ6_compare_7cf53_0 N) := (ra_k1_ok (by
  intro L S h a e
  split at e
  · exact ra_Ru.weak (nJ6_compare_7cf53_19_ok N _ _ _ e) trivial
  · cases e) ra_k0_ok)
set_option maxRecDepth 100000 in
theorem nJ6_compare_7cf53_0_ok (N : Nat) (a0 : Int32) (a1 : Int32) (h : ra_H) (r : (Int32 × ra_H)) (e : nJ6_compare_7cf53_0 N a0 a1 h = some r) : ra_Ru 1 mJ6_compare_7cf53 0 [some (.int a0), some (.int a1)] [] h (ra_oI r) :=
  ra_sound (by omega) rfl ra_rI_ok (kJ6_compare_7cf53_0_ok N) (fun m av h h1 e => (ra_c0_ok (ro := ra_oV)) m av h h1 e) (fun m av h x h1 e => (ra_c0_ok (ro := ra_oI)) m av h (x, h1) e) (fun m av h x h1 e => (ra_c0_ok (ro := ra_oJ)) m av h (x, h1) e) (fun m av h x h1 e => (ra_c0_ok (ro := ra_oR)) m av h (x, h1) e) (fun m av h x h1 e => (ra_c0_ok (ro := ra_oN)) m av h (x, h1) e) (fun m av h x h1 e => (ra_c0_ok (ro := ra_oF)) m av h (x, h1) e) 12 lJ6_compare_7cf53_0 _ _ _ _ lJ6_compare_7cf53_0_ck (show ra_run ra_rI (kJ6_compare_7cf53_0 N) ra_c0 ra_c0 ra_c0 ra_c0 ra_c0 ra_c0 12 lJ6_compare_7cf53_0 [some (.int a0), some (.int a1)] [] h = some r from e) _ _ rfl
def fJ6_compare_7cf53 (N : Nat) (p0 : Int32) (p1 : Int32) (h : ra_H) : Option (Int32 × ra_H) := nJ6_compare_7cf53_0 N p0 p1 h
set_option maxRecDepth 100000 in
theorem mtJ6_compare_7cf53 : ra_MT[156]? = some (mJ6_compare_7cf53, 0, 2, (1, 21), (5, 149), (0, 0)) := rfl
theorem fJ6_compare_7cf53_co (N : Nat) (p0 : Int32) (p1 : Int32) (h : ra_H) (r : (Int32 × ra_H)) (e : fJ6_compare_7cf53 N p0 p1 h = some r) (D : Nat) (hD : 2 ≤ D) : ra_CO D 156 [.int p0, .int p1] h (ra_oI r).1 (ra_oI r).2 := by
  have hw : ra_nw2 [.int p0, .int p1] ≤ 2 := Nat.le_of_ble_eq_true rfl
  have hdb : ∀ v ∈ ([.int p0, .int p1] : List Value), ∀ x, v ≠ .double x := by
    intro v hv x hx
    simp [hx] at hv
  unfold fJ6_compare_7cf53 at e
  have e1 := e
  exact ⟨1, _, mtJ6_compare_7cf53, hD, ra_ev_of (by decide) hdb hw trivial (ra_Ru.weak (nJ6_compare_7cf53_0_ok N p0 p1 h _ e1) ⟨rfl, ⟨rfl, trivial⟩⟩), (fun h => absurd h (by decide)), (fun h => absurd h (by decide))⟩
/-! RedMarks$Holdings.rise(II)I -/
def mX2_rise : ra_M := (yX2_rise, cX2_rise, 5, (some .int))
def tIX2_rise (N : Nat) : Nat → List Value → ra_H → Option (Int32 × ra_H) := (ra_c1 27 (fun av h => match av with
  | [.ref z0, .int z1, .int z2] => fX2_factOf N z0 z1 z2 h
  | _ => none) (ra_c1 156 (fun av h => match av with
  | [.int z0, .int z1] => fJ6_compare_7cf53 N z0 z1 h
  | _ => none) ra_c0))
theorem tIX2_rise_ok (N : Nat) : ra_cok 2 ra_oI (tIX2_rise N) := (ra_c1_ok (by
  intro av h a e
  split at e
  · exact fX2_factOf_co N _ _ _ _ _ e 2 (by omega)
  · cases e) (ra_c1_ok (by
  intro av h a e
  split at e
  · exact fJ6_compare_7cf53_co N _ _ _ _ e 2 (by omega)
  · cases e) ra_c0_ok))
def lX2_rise_0 : List ra_I := [(0, .aload_n 0, 1, 0, 0, 0, 0, 0, []),
  (1, .iload_n 1, 1, 1, 0, 0, 0, 0, []),
  (2, .iconst (1), 1, 0, 0, 0, (1), 0, []),
  (3, .invokevirtual 98, 3, 27, 3, 1, 0, 0, []),
  (6, .aload_n 0, 1, 0, 0, 0, 0, 0, []),
  (7, .iload_n 2, 1, 2, 0, 0, 0, 0, []),
  (8, .iconst (1), 1, 0, 0, 0, (1), 0, []),
  (9, .invokevirtual 98, 3, 27, 3, 1, 0, 0, []),
  (12, .invokestatic 108, 3, 156, 2, 1, 0, 0, []),
  (15, .istore_n 3, 1, 3, 0, 0, 0, 0, []),
  (16, .aload_n 0, 1, 0, 0, 0, 0, 0, []),
  (17, .iload_n 1, 1, 1, 0, 0, 0, 0, []),
  (18, .bipush (6), 2, 0, 0, 0, (6), 0, []),
  (20, .invokevirtual 98, 3, 27, 3, 1, 0, 0, []),
  (23, .aload_n 0, 1, 0, 0, 0, 0, 0, []),
  (24, .iload_n 2, 1, 2, 0, 0, 0, 0, []),
  (25, .bipush (6), 2, 0, 0, 0, (6), 0, []),
  (27, .invokevirtual 98, 3, 27, 3, 1, 0, 0, []),
  (30, .invokestatic 108, 3, 156, 2, 1, 0, 0, []),
  (33, .istore 4, 2, 4, 0, 0, 0, 0, []),
  (35, .iload_n 3, 1, 3, 0, 0, 0, 0, []),
  (36, .iload 4, 2, 4, 0, 0, 0, 0, []),
  (38, .imul, 1, 0, 0, 0, 0, 0, []),
  (39, .ireturn, 1, 0, 0, 0, 0, 0, [])]
set_option maxRecDepth 100000 in
theorem lX2_rise_0_ck : lX2_rise_0.all (ra_ck mX2_rise 2) = true := by decide +kernel
def nX2_rise_0 (N : Nat) (a0 : Nat) (a1 : Int32) (a2 : Int32) (h : ra_H) : Option (Int32 × ra_H) :=
  (fX2_factOf N a0 a1 ((1 : Int32)) h).bind fun q1 =>
  (fX2_factOf N a0 a2 ((1 : Int32)) q1.2).bind fun q2 =>
  (fJ6_compare_7cf53 N q1.1 q2.1 q2.2).bind fun q3 =>
  (fX2_factOf N a0 a1 ((6 : Int32)) q3.2).bind fun q4 =>
  (fX2_factOf N a0 a2 ((6 : Int32)) q4.2).bind fun q5 =>
  (fJ6_compare_7cf53 N q4.1 q5.1 q5.2).bind fun q6 =>
  some (q3.1 * q6.1, q6.2)
def kX2_rise_0 (N : Nat) : Nat → List (Option Value) → List Value → ra_H → Option (Int32 × ra_H) := ra_k0
theorem kX2_rise_0_ok (N : Nat) : ra_kok 2 mX2_rise ra_oI (kX2_rise_0 N) := ra_k0_ok
set_option maxRecDepth 100000 in
theorem nX2_rise_0_ok (N : Nat) (a0 : Nat) (a1 : Int32) (a2 : Int32) (h : ra_H) (r : (Int32 × ra_H)) (e : nX2_rise_0 N a0 a1 a2 h = some r) : ra_Ru 2 mX2_rise 0 [some (.ref a0), some (.int a1), some (.int a2), none, none] [] h (ra_oI r) :=
  ra_sound (by omega) rfl ra_rI_ok (kX2_rise_0_ok N) (fun m av h h1 e => (ra_c0_ok (ro := ra_oV)) m av h h1 e) (fun m av h x h1 e => (tIX2_rise_ok N) m av h (x, h1) e) (fun m av h x h1 e => (ra_c0_ok (ro := ra_oJ)) m av h (x, h1) e) (fun m av h x h1 e => (ra_c0_ok (ro := ra_oR)) m av h (x, h1) e) (fun m av h x h1 e => (ra_c0_ok (ro := ra_oN)) m av h (x, h1) e) (fun m av h x h1 e => (ra_c0_ok (ro := ra_oF)) m av h (x, h1) e) 25 lX2_rise_0 _ _ _ _ lX2_rise_0_ck (show ra_run ra_rI (kX2_rise_0 N) ra_c0 (tIX2_rise N) ra_c0 ra_c0 ra_c0 ra_c0 25 lX2_rise_0 [some (.ref a0), some (.int a1), some (.int a2), none, none] [] h = some r from e) _ _ rfl
def fX2_rise (N : Nat) (p0 : Nat) (p1 : Int32) (p2 : Int32) (h : ra_H) : Option (Int32 × ra_H) := match ra_isOb h p0 2 with
  | true => nX2_rise_0 N p0 p1 p2 h
  | false => none
set_option maxRecDepth 100000 in
theorem mtX2_rise : ra_MT[155]? = some (mX2_rise, 1, 2, (1, 2), (5, 145), (5, 146)) := rfl
theorem fX2_rise_co (N : Nat) (p0 : Nat) (p1 : Int32) (p2 : Int32) (h : ra_H) (r : (Int32 × ra_H)) (e : fX2_rise N p0 p1 p2 h = some r) (D : Nat) (hD : 3 ≤ D) : ra_CO D 155 [.ref p0, .int p1, .int p2] h (ra_oI r).1 (ra_oI r).2 := by
  have hw : ra_nw2 [.ref p0, .int p1, .int p2] ≤ 5 := Nat.le_of_ble_eq_true rfl
  have hdb : ∀ v ∈ ([.ref p0, .int p1, .int p2] : List Value), ∀ x, v ≠ .double x := by
    intro v hv x hx
    simp [hx] at hv
  unfold fX2_rise at e
  split at e
  · rename_i ho
    have e1 := e
    exact ⟨2, _, mtX2_rise, hD, ra_ev_of (by decide) hdb hw trivial (ra_Ru.weak (nX2_rise_0_ok N p0 p1 p2 h _ e1) ⟨rfl, ⟨rfl, ⟨rfl, trivial⟩⟩⟩), (fun _ => ⟨_, _, rfl, ra_rcv_of ho (by decide) rfl⟩), (fun h => absurd h (by decide))⟩
  · cases e
/-! RedMarks$Holdings.isStacked(I)Z -/
def mX2_isStacked : ra_M := (yX2_isStacked, cX2_isStacked, 3, (some .boolean))
def lX2_isStacked_2 : List ra_I := [(2, .iload_n 2, 1, 2, 0, 0, 0, 0, []),
  (3, .aload_n 0, 1, 0, 0, 0, 0, 0, []),
  (4, .getfield 80, 3, 2, 16, 0, 0, 0, []),
  (7, .if_icmp .ge (21), 3, 28, 0, 0, 0, 0, []),
  (10, .aload_n 0, 1, 0, 0, 0, 0, 0, []),
  (11, .getfield 42, 3, 2, 9, 2, 0, 0, []),
  (14, .iload_n 2, 1, 2, 0, 0, 0, 0, []),
  (15, .iaload, 1, 0, 0, 0, 0, 0, []),
  (16, .iload_n 1, 1, 1, 0, 0, 0, 0, []),
  (17, .if_icmp .ne (5), 3, 22, 0, 0, 0, 0, []),
  (20, .iconst (1), 1, 0, 0, 0, (1), 0, []),
  (21, .ireturn, 1, 0, 0, 0, 0, 0, []),
  (22, .iinc 2 (1), 3, 2, 0, 0, (1), 0, []),
  (25, .goto (-23), 3, 2, 0, 0, 0, 0, []),
  (28, .iconst (0), 1, 0, 0, 0, (0), 0, []),
  (29, .ireturn, 1, 0, 0, 0, 0, 0, [])]
set_option maxRecDepth 100000 in
theorem lX2_isStacked_2_ck : lX2_isStacked_2.all (ra_ck mX2_isStacked 2) = true := by decide +kernel
def nX2_isStacked_2 (N : Nat) : Nat → Nat → Int32 → Int32 → ra_H → Option (Int32 × ra_H)
  | 0, _, _, _, _ => none
  | n + 1, a0, a1, a2, h =>
  (ra_fI h 2 a0 16).bind fun x1 =>
  if a2 < x1 then
    (ra_fR h 2 a0 9).bind fun x2 =>
    (ra_aI h 0 x2 a2).bind fun x3 =>
    if x3 = a1 then
      some ((1 : Int32), h)
    else
      let y4 := a2 + (1 : Int32)
      nX2_isStacked_2 N n a0 a1 y4 h
  else
    some ((0 : Int32), h)
def kX2_isStacked_2 (N : Nat) (cs : Nat → Int32 → Int32 → ra_H → Option (Int32 × ra_H)) : Nat → List (Option Value) → List Value → ra_H → Option (Int32 × ra_H) := (ra_k1 2 (fun L S h => match L, S with
  | [some (.ref a0), some (.int a1), some (.int a2)], [] => cs a0 a1 a2 h
  | _, _ => none) ra_k0)
theorem kX2_isStacked_2_ok (N : Nat) (cs : Nat → Int32 → Int32 → ra_H → Option (Int32 × ra_H)) (hcs : ∀ a0 a1 a2 h r, cs a0 a1 a2 h = some r → ra_Ru 1 mX2_isStacked 2 [some (.ref a0), some (.int a1), some (.int a2)] [] h (ra_oI r)) : ra_kok 1 mX2_isStacked ra_oI (kX2_isStacked_2 N cs) := (ra_k1_ok (by
  intro L S h a e
  split at e
  · exact ra_Ru.weak (hcs _ _ _ _ _ e) ⟨rfl, ⟨rfl, ⟨rfl, trivial⟩⟩⟩
  · cases e) ra_k0_ok)
set_option maxRecDepth 100000 in
theorem nX2_isStacked_2_ok (N : Nat) : ∀ n a0 a1 a2 h r, nX2_isStacked_2 N n a0 a1 a2 h = some r → ra_Ru 1 mX2_isStacked 2 [some (.ref a0), some (.int a1), some (.int a2)] [] h (ra_oI r) := by
  intro n
  induction n with
  | zero => intro a0 a1 a2 h r e; cases e
  | succ n ih =>
    intro a0 a1 a2 h r e
    exact ra_sound (by omega) rfl ra_rI_ok (kX2_isStacked_2_ok N (nX2_isStacked_2 N n) ih) (fun m av h h1 e => (ra_c0_ok (ro := ra_oV)) m av h h1 e) (fun m av h x h1 e => (ra_c0_ok (ro := ra_oI)) m av h (x, h1) e) (fun m av h x h1 e => (ra_c0_ok (ro := ra_oJ)) m av h (x, h1) e) (fun m av h x h1 e => (ra_c0_ok (ro := ra_oR)) m av h (x, h1) e) (fun m av h x h1 e => (ra_c0_ok (ro := ra_oN)) m av h (x, h1) e) (fun m av h x h1 e => (ra_c0_ok (ro := ra_oF)) m av h (x, h1) e) 17 lX2_isStacked_2 _ _ _ _ lX2_isStacked_2_ck (show ra_run ra_rI (kX2_isStacked_2 N (nX2_isStacked_2 N n)) ra_c0 ra_c0 ra_c0 ra_c0 ra_c0 ra_c0 17 lX2_isStacked_2 [some (.ref a0), some (.int a1), some (.int a2)] [] h = some r from e) _ _ rfl
def lX2_isStacked_0 : List ra_I := [(0, .iconst (0), 1, 0, 0, 0, (0), 0, []),
  (1, .istore_n 2, 1, 2, 0, 0, 0, 0, [])]
set_option maxRecDepth 100000 in
theorem lX2_isStacked_0_ck : lX2_isStacked_0.all (ra_ck mX2_isStacked 2) = true := by decide +kernel
def nX2_isStacked_0 (N : Nat) (a0 : Nat) (a1 : Int32) (h : ra_H) : Option (Int32 × ra_H) :=
  nX2_isStacked_2 N N a0 a1 ((0 : Int32)) h
def kX2_isStacked_0 (N : Nat) : Nat → List (Option Value) → List Value → ra_H → Option (Int32 × ra_H) := (ra_k1 2 (fun L S h => match L, S with
  | [some (.ref a0), some (.int a1), some (.int a2)], [] => nX2_isStacked_2 N N a0 a1 a2 h
  | _, _ => none) ra_k0)
theorem kX2_isStacked_0_ok (N : Nat) : ra_kok 1 mX2_isStacked ra_oI (kX2_isStacked_0 N) := (ra_k1_ok (by
  intro L S h a e
  split at e
  · exact ra_Ru.weak (nX2_isStacked_2_ok N N _ _ _ _ _ e) ⟨rfl, ⟨rfl, ⟨rfl, trivial⟩⟩⟩
  · cases e) ra_k0_ok)
set_option maxRecDepth 100000 in
theorem nX2_isStacked_0_ok (N : Nat) (a0 : Nat) (a1 : Int32) (h : ra_H) (r : (Int32 × ra_H)) (e : nX2_isStacked_0 N a0 a1 h = some r) : ra_Ru 1 mX2_isStacked 0 [some (.ref a0), some (.int a1), none] [] h (ra_oI r) :=
  ra_sound (by omega) rfl ra_rI_ok (kX2_isStacked_0_ok N) (fun m av h h1 e => (ra_c0_ok (ro := ra_oV)) m av h h1 e) (fun m av h x h1 e => (ra_c0_ok (ro := ra_oI)) m av h (x, h1) e) (fun m av h x h1 e => (ra_c0_ok (ro := ra_oJ)) m av h (x, h1) e) (fun m av h x h1 e => (ra_c0_ok (ro := ra_oR)) m av h (x, h1) e) (fun m av h x h1 e => (ra_c0_ok (ro := ra_oN)) m av h (x, h1) e) (fun m av h x h1 e => (ra_c0_ok (ro := ra_oF)) m av h (x, h1) e) 3 lX2_isStacked_0 _ _ _ _ lX2_isStacked_0_ck (show ra_run ra_rI (kX2_isStacked_0 N) ra_c0 ra_c0 ra_c0 ra_c0 ra_c0 ra_c0 3 lX2_isStacked_0 [some (.ref a0), some (.int a1), none] [] h = some r from e) _ _ rfl
def fX2_isStacked (N : Nat) (p0 : Nat) (p1 : Int32) (h : ra_H) : Option (Int32 × ra_H) := match ra_isOb h p0 2 with
  | true => (nX2_isStacked_0 N p0 p1 h).bind (fun q => ra_rz q.1 q.2)
  | false => none
set_option maxRecDepth 100000 in
theorem mtX2_isStacked : ra_MT[175]? = some (mX2_isStacked, 1, 1, (1, 2), (5, 231), (5, 232)) := rfl
theorem fX2_isStacked_co (N : Nat) (p0 : Nat) (p1 : Int32) (h : ra_H) (r : (Int32 × ra_H)) (e : fX2_isStacked N p0 p1 h = some r) (D : Nat) (hD : 2 ≤ D) : ra_CO D 175 [.ref p0, .int p1] h (ra_oI r).1 (ra_oI r).2 := by
  have hw : ra_nw2 [.ref p0, .int p1] ≤ 3 := Nat.le_of_ble_eq_true rfl
  have hdb : ∀ v ∈ ([.ref p0, .int p1] : List Value), ∀ x, v ≠ .double x := by
    intro v hv x hx
    simp [hx] at hv
  unfold fX2_isStacked at e
  split at e
  · rename_i ho
    obtain ⟨q, e1, e2⟩ := Option.bind_eq_some_iff.mp e
    obtain ⟨rfl, hz⟩ := ra_rz_of e2
    exact ⟨1, _, mtX2_isStacked, hD, ra_ev_of (by decide) hdb hw hz (ra_Ru.weak (nX2_isStacked_0_ok N p0 p1 h _ e1) ⟨rfl, ⟨rfl, trivial⟩⟩), (fun _ => ⟨_, _, rfl, ra_rcv_of ho (by decide) rfl⟩), (fun h => absurd h (by decide))⟩
  · cases e
/-! RedMarks$Holdings.sameMark(II)Z -/
def mX2_sameMark : ra_M := (yX2_sameMark, cX2_sameMark, 3, (some .boolean))
def tIX2_sameMark (N : Nat) : Nat → List Value → ra_H → Option (Int32 × ra_H) := (ra_c1 27 (fun av h => match av with
  | [.ref z0, .int z1, .int z2] => fX2_factOf N z0 z1 z2 h
  | _ => none) (ra_c1 84 (fun av h => match av with
  | [.ref z0, .int z1] => fX2_isMarked N z0 z1 h
  | _ => none) ra_c0))
theorem tIX2_sameMark_ok (N : Nat) : ra_cok 3 ra_oI (tIX2_sameMark N) := (ra_c1_ok (by
  intro av h a e
  split at e
  · exact fX2_factOf_co N _ _ _ _ _ e 3 (by omega)
  · cases e) (ra_c1_ok (by
  intro av h a e
  split at e
  · exact fX2_isMarked_co N _ _ _ _ e 3 (by omega)
  · cases e) ra_c0_ok))
def lX2_sameMark_43 : List ra_I := [(43, .ireturn, 1, 0, 0, 0, 0, 0, [])]
set_option maxRecDepth 100000 in
theorem lX2_sameMark_43_ck : lX2_sameMark_43.all (ra_ck mX2_sameMark 2) = true := by decide +kernel
def nX2_sameMark_43 (N : Nat) (b0 : Int32) (h : ra_H) : Option (Int32 × ra_H) :=
  some (b0, h)
def kX2_sameMark_43 (N : Nat) : Nat → List (Option Value) → List Value → ra_H → Option (Int32 × ra_H) := ra_k0
theorem kX2_sameMark_43_ok (N : Nat) : ra_kok 3 mX2_sameMark ra_oI (kX2_sameMark_43 N) := ra_k0_ok
set_option maxRecDepth 100000 in
theorem nX2_sameMark_43_ok (N : Nat) (b0 : Int32) (h : ra_H) (r : (Int32 × ra_H)) (e : nX2_sameMark_43 N b0 h = some r) : ra_Ru 3 mX2_sameMark 43 [none, none, none] [.int b0] h (ra_oI r) :=
  ra_sound (by omega) rfl ra_rI_ok (kX2_sameMark_43_ok N) (fun m av h h1 e => (ra_c0_ok (ro := ra_oV)) m av h h1 e) (fun m av h x h1 e => (tIX2_sameMark_ok N) m av h (x, h1) e) (fun m av h x h1 e => (ra_c0_ok (ro := ra_oJ)) m av h (x, h1) e) (fun m av h x h1 e => (ra_c0_ok (ro := ra_oR)) m av h (x, h1) e) (fun m av h x h1 e => (ra_c0_ok (ro := ra_oN)) m av h (x, h1) e) (fun m av h x h1 e => (ra_c0_ok (ro := ra_oF)) m av h (x, h1) e) 2 lX2_sameMark_43 _ _ _ _ lX2_sameMark_43_ck (show ra_run ra_rI (kX2_sameMark_43 N) ra_c0 (tIX2_sameMark N) ra_c0 ra_c0 ra_c0 ra_c0 2 lX2_sameMark_43 [none, none, none] [.int b0] h = some r from e) _ _ rfl
def lX2_sameMark_42 : List ra_I := [(42, .iconst (0), 1, 0, 0, 0, (0), 0, [])]
set_option maxRecDepth 100000 in
theorem lX2_sameMark_42_ck : lX2_sameMark_42.all (ra_ck mX2_sameMark 2) = true := by decide +kernel
def nX2_sameMark_42 (N : Nat) (h : ra_H) : Option (Int32 × ra_H) :=
  nX2_sameMark_43 N ((0 : Int32)) h
def kX2_sameMark_42 (N : Nat) : Nat → List (Option Value) → List Value → ra_H → Option (Int32 × ra_H) := (ra_k1 43 (fun L S h => match L, S with
  | [_, _, _], [.int b0] => nX2_sameMark_43 N b0 h
  | _, _ => none) ra_k0)
theorem kX2_sameMark_42_ok (N : Nat) : ra_kok 3 mX2_sameMark ra_oI (kX2_sameMark_42 N) := (ra_k1_ok (by
  intro L S h a e
  split at e
  · exact ra_Ru.weak (nX2_sameMark_43_ok N _ _ _ e) trivial
  · cases e) ra_k0_ok)
set_option maxRecDepth 100000 in
theorem nX2_sameMark_42_ok (N : Nat) (h : ra_H) (r : (Int32 × ra_H)) (e : nX2_sameMark_42 N h = some r) : ra_Ru 3 mX2_sameMark 42 [none, none, none] [] h (ra_oI r) :=
  ra_sound (by omega) rfl ra_rI_ok (kX2_sameMark_42_ok N) (fun m av h h1 e => (ra_c0_ok (ro := ra_oV)) m av h h1 e) (fun m av h x h1 e => (tIX2_sameMark_ok N) m av h (x, h1) e) (fun m av h x h1 e => (ra_c0_ok (ro := ra_oJ)) m av h (x, h1) e) (fun m av h x h1 e => (ra_c0_ok (ro := ra_oR)) m av h (x, h1) e) (fun m av h x h1 e => (ra_c0_ok (ro := ra_oN)) m av h (x, h1) e) (fun m av h x h1 e => (ra_c0_ok (ro := ra_oF)) m av h (x, h1) e) 2 lX2_sameMark_42 _ _ _ _ lX2_sameMark_42_ck (show ra_run ra_rI (kX2_sameMark_42 N) ra_c0 (tIX2_sameMark N) ra_c0 ra_c0 ra_c0 ra_c0 2 lX2_sameMark_42 [none, none, none] [] h = some r from e) _ _ rfl
def lX2_sameMark_0 : List ra_I := [(0, .aload_n 0, 1, 0, 0, 0, 0, 0, []),
  (1, .iload_n 1, 1, 1, 0, 0, 0, 0, []),
  (2, .invokevirtual 101, 3, 84, 2, 1, 0, 0, []),
  (5, .ifCond .eq (37), 3, 42, 0, 0, 0, 0, []),
  (8, .aload_n 0, 1, 0, 0, 0, 0, 0, []),
  (9, .iload_n 1, 1, 1, 0, 0, 0, 0, []),
  (10, .iconst (0), 1, 0, 0, 0, (0), 0, []),
  (11, .invokevirtual 98, 3, 27, 3, 1, 0, 0, []),
  (14, .aload_n 0, 1, 0, 0, 0, 0, 0, []),
  (15, .iload_n 2, 1, 2, 0, 0, 0, 0, []),
  (16, .iconst (0), 1, 0, 0, 0, (0), 0, []),
  (17, .invokevirtual 98, 3, 27, 3, 1, 0, 0, []),
  (20, .if_icmp .ne (22), 3, 42, 0, 0, 0, 0, []),
  (23, .aload_n 0, 1, 0, 0, 0, 0, 0, []),
  (24, .iload_n 1, 1, 1, 0, 0, 0, 0, []),
  (25, .iconst (1), 1, 0, 0, 0, (1), 0, []),
  (26, .invokevirtual 98, 3, 27, 3, 1, 0, 0, []),
  (29, .aload_n 0, 1, 0, 0, 0, 0, 0, []),
  (30, .iload_n 2, 1, 2, 0, 0, 0, 0, []),
  (31, .iconst (1), 1, 0, 0, 0, (1), 0, []),
  (32, .invokevirtual 98, 3, 27, 3, 1, 0, 0, []),
  (35, .if_icmp .ne (7), 3, 42, 0, 0, 0, 0, []),
  (38, .iconst (1), 1, 0, 0, 0, (1), 0, []),
  (39, .goto (4), 3, 43, 0, 0, 0, 0, [])]
set_option maxRecDepth 100000 in
theorem lX2_sameMark_0_ck : lX2_sameMark_0.all (ra_ck mX2_sameMark 2) = true := by decide +kernel
def nX2_sameMark_0 (N : Nat) (a0 : Nat) (a1 : Int32) (a2 : Int32) (h : ra_H) : Option (Int32 × ra_H) :=
  (fX2_isMarked N a0 a1 h).bind fun q1 =>
  if q1.1 = 0 then
    nX2_sameMark_42 N q1.2
  else
    (fX2_factOf N a0 a1 ((0 : Int32)) q1.2).bind fun q2 =>
    (fX2_factOf N a0 a2 ((0 : Int32)) q2.2).bind fun q3 =>
    if q2.1 = q3.1 then
      (fX2_factOf N a0 a1 ((1 : Int32)) q3.2).bind fun q4 =>
      (fX2_factOf N a0 a2 ((1 : Int32)) q4.2).bind fun q5 =>
      if q4.1 = q5.1 then
        nX2_sameMark_43 N ((1 : Int32)) q5.2
      else
        nX2_sameMark_42 N q5.2
    else
      nX2_sameMark_42 N q3.2
def kX2_sameMark_0 (N : Nat) : Nat → List (Option Value) → List Value → ra_H → Option (Int32 × ra_H) := (ra_k1 42 (fun L S h => match L, S with
  | [_, _, _], [] => nX2_sameMark_42 N h
  | _, _ => none) (ra_k1 43 (fun L S h => match L, S with
  | [_, _, _], [.int b0] => nX2_sameMark_43 N b0 h
  | _, _ => none) ra_k0))
theorem kX2_sameMark_0_ok (N : Nat) : ra_kok 3 mX2_sameMark ra_oI (kX2_sameMark_0 N) := (ra_k1_ok (by
  intro L S h a e
  split at e
  · exact ra_Ru.weak (nX2_sameMark_42_ok N _ _ e) trivial
  · cases e) (ra_k1_ok (by
  intro L S h a e
  split at e
  · exact ra_Ru.weak (nX2_sameMark_43_ok N _ _ _ e) trivial
  · cases e) ra_k0_ok))
set_option maxRecDepth 100000 in
theorem nX2_sameMark_0_ok (N : Nat) (a0 : Nat) (a1 : Int32) (a2 : Int32) (h : ra_H) (r : (Int32 × ra_H)) (e : nX2_sameMark_0 N a0 a1 a2 h = some r) : ra_Ru 3 mX2_sameMark 0 [some (.ref a0), some (.int a1), some (.int a2)] [] h (ra_oI r) :=
  ra_sound (by omega) rfl ra_rI_ok (kX2_sameMark_0_ok N) (fun m av h h1 e => (ra_c0_ok (ro := ra_oV)) m av h h1 e) (fun m av h x h1 e => (tIX2_sameMark_ok N) m av h (x, h1) e) (fun m av h x h1 e => (ra_c0_ok (ro := ra_oJ)) m av h (x, h1) e) (fun m av h x h1 e => (ra_c0_ok (ro := ra_oR)) m av h (x, h1) e) (fun m av h x h1 e => (ra_c0_ok (ro := ra_oN)) m av h (x, h1) e) (fun m av h x h1 e => (ra_c0_ok (ro := ra_oF)) m av h (x, h1) e) 25 lX2_sameMark_0 _ _ _ _ lX2_sameMark_0_ck (show ra_run ra_rI (kX2_sameMark_0 N) ra_c0 (tIX2_sameMark N) ra_c0 ra_c0 ra_c0 ra_c0 25 lX2_sameMark_0 [some (.ref a0), some (.int a1), some (.int a2)] [] h = some r from e) _ _ rfl
def fX2_sameMark (N : Nat) (p0 : Nat) (p1 : Int32) (p2 : Int32) (h : ra_H) : Option (Int32 × ra_H) := match ra_isOb h p0 2 with
  | true => (nX2_sameMark_0 N p0 p1 p2 h).bind (fun q => ra_rz q.1 q.2)
  | false => none
set_option maxRecDepth 100000 in
theorem mtX2_sameMark : ra_MT[173]? = some (mX2_sameMark, 1, 2, (1, 2), (5, 223), (5, 224)) := rfl
theorem fX2_sameMark_co (N : Nat) (p0 : Nat) (p1 : Int32) (p2 : Int32) (h : ra_H) (r : (Int32 × ra_H)) (e : fX2_sameMark N p0 p1 p2 h = some r) (D : Nat) (hD : 4 ≤ D) : ra_CO D 173 [.ref p0, .int p1, .int p2] h (ra_oI r).1 (ra_oI r).2 := by
  have hw : ra_nw2 [.ref p0, .int p1, .int p2] ≤ 3 := Nat.le_of_ble_eq_true rfl
  have hdb : ∀ v ∈ ([.ref p0, .int p1, .int p2] : List Value), ∀ x, v ≠ .double x := by
    intro v hv x hx
    simp [hx] at hv
  unfold fX2_sameMark at e
  split at e
  · rename_i ho
    obtain ⟨q, e1, e2⟩ := Option.bind_eq_some_iff.mp e
    obtain ⟨rfl, hz⟩ := ra_rz_of e2
    exact ⟨3, _, mtX2_sameMark, hD, ra_ev_of (by decide) hdb hw hz (ra_Ru.weak (nX2_sameMark_0_ok N p0 p1 p2 h _ e1) ⟨rfl, ⟨rfl, ⟨rfl, trivial⟩⟩⟩), (fun _ => ⟨_, _, rfl, ra_rcv_of ho (by decide) rfl⟩), (fun h => absurd h (by decide))⟩
  · cases e
/-! RedMarks$Holdings.booksWithLetter(I)I -/
def mX2_booksWithLetter : ra_M := (yX2_booksWithLetter, cX2_booksWithLetter, 4, (some .int))
def tIX2_booksWithLetter (N : Nat) : Nat → List Value → ra_H → Option (Int32 × ra_H) := (ra_c1 27 (fun av h => match av with
  | [.ref z0, .int z1, .int z2] => fX2_factOf N z0 z1 z2 h
  | _ => none) ra_c0)
theorem tIX2_booksWithLetter_ok (N : Nat) : ra_cok 2 ra_oI (tIX2_booksWithLetter N) := (ra_c1_ok (by
  intro av h a e
  split at e
  · exact fX2_factOf_co N _ _ _ _ _ e 2 (by omega)
  · cases e) ra_c0_ok)
def lX2_booksWithLetter_25 : List ra_I := [(25, .iinc 3 (1), 3, 3, 0, 0, (1), 0, []),
  (28, .goto (-24), 3, 4, 0, 0, 0, 0, [])]
set_option maxRecDepth 100000 in
theorem lX2_booksWithLetter_25_ck : lX2_booksWithLetter_25.all (ra_ck mX2_booksWithLetter 2) = true := by decide +kernel
def nX2_booksWithLetter_25 (N : Nat) (c4 : Nat → Int32 → Int32 → Int32 → ra_H → Option (Int32 × ra_H)) (a0 : Nat) (a1 : Int32) (a2 : Int32) (a3 : Int32) (h : ra_H) : Option (Int32 × ra_H) :=
  let y1 := a3 + (1 : Int32)
  c4 a0 a1 a2 y1 h
def kX2_booksWithLetter_25 (N : Nat) (c4 : Nat → Int32 → Int32 → Int32 → ra_H → Option (Int32 × ra_H)) : Nat → List (Option Value) → List Value → ra_H → Option (Int32 × ra_H) := (ra_k1 4 (fun L S h => match L, S with
  | [some (.ref a0), some (.int a1), some (.int a2), some (.int a3)], [] => c4 a0 a1 a2 a3 h
  | _, _ => none) ra_k0)
theorem kX2_booksWithLetter_25_ok (N : Nat) (c4 : Nat → Int32 → Int32 → Int32 → ra_H → Option (Int32 × ra_H)) (hc4 : ∀ a0 a1 a2 a3 h r, c4 a0 a1 a2 a3 h = some r → ra_Ru 2 mX2_booksWithLetter 4 [some (.ref a0), some (.int a1), some (.int a2), some (.int a3)] [] h (ra_oI r)) : ra_kok 2 mX2_booksWithLetter ra_oI (kX2_booksWithLetter_25 N c4) := (ra_k1_ok (by
  intro L S h a e
  split at e
  · exact ra_Ru.weak (hc4 _ _ _ _ _ _ e) ⟨rfl, ⟨rfl, ⟨rfl, ⟨rfl, trivial⟩⟩⟩⟩
  · cases e) ra_k0_ok)
set_option maxRecDepth 100000 in
theorem nX2_booksWithLetter_25_ok (N : Nat) (c4 : Nat → Int32 → Int32 → Int32 → ra_H → Option (Int32 × ra_H)) (hc4 : ∀ a0 a1 a2 a3 h r, c4 a0 a1 a2 a3 h = some r → ra_Ru 2 mX2_booksWithLetter 4 [some (.ref a0), some (.int a1), some (.int a2), some (.int a3)] [] h (ra_oI r)) (a0 : Nat) (a1 : Int32) (a2 : Int32) (a3 : Int32) (h : ra_H) (r : (Int32 × ra_H)) (e : nX2_booksWithLetter_25 N c4 a0 a1 a2 a3 h = some r) : ra_Ru 2 mX2_booksWithLetter 25 [some (.ref a0), some (.int a1), some (.int a2), some (.int a3)] [] h (ra_oI r) :=
  ra_sound (by omega) rfl ra_rI_ok (kX2_booksWithLetter_25_ok N c4 hc4) (fun m av h h1 e => (ra_c0_ok (ro := ra_oV)) m av h h1 e) (fun m av h x h1 e => (tIX2_booksWithLetter_ok N) m av h (x, h1) e) (fun m av h x h1 e => (ra_c0_ok (ro := ra_oJ)) m av h (x, h1) e) (fun m av h x h1 e => (ra_c0_ok (ro := ra_oR)) m av h (x, h1) e) (fun m av h x h1 e => (ra_c0_ok (ro := ra_oN)) m av h (x, h1) e) (fun m av h x h1 e => (ra_c0_ok (ro := ra_oF)) m av h (x, h1) e) 3 lX2_booksWithLetter_25 _ _ _ _ lX2_booksWithLetter_25_ck (show ra_run ra_rI (kX2_booksWithLetter_25 N c4) ra_c0 (tIX2_booksWithLetter N) ra_c0 ra_c0 ra_c0 ra_c0 3 lX2_booksWithLetter_25 [some (.ref a0), some (.int a1), some (.int a2), some (.int a3)] [] h = some r from e) _ _ rfl
def lX2_booksWithLetter_4 : List ra_I := [(4, .iload_n 3, 1, 3, 0, 0, 0, 0, []),
  (5, .aload_n 0, 1, 0, 0, 0, 0, 0, []),
  (6, .getfield 71, 3, 2, 13, 0, 0, 0, []),
  (9, .if_icmp .ge (22), 3, 31, 0, 0, 0, 0, []),
  (12, .aload_n 0, 1, 0, 0, 0, 0, 0, []),
  (13, .iload_n 3, 1, 3, 0, 0, 0, 0, []),
  (14, .iconst (0), 1, 0, 0, 0, (0), 0, []),
  (15, .invokevirtual 98, 3, 27, 3, 1, 0, 0, []),
  (18, .iload_n 1, 1, 1, 0, 0, 0, 0, []),
  (19, .if_icmp .ne (6), 3, 25, 0, 0, 0, 0, []),
  (22, .iinc 2 (1), 3, 2, 0, 0, (1), 0, []),
  (31, .iload_n 2, 1, 2, 0, 0, 0, 0, []),
  (32, .ireturn, 1, 0, 0, 0, 0, 0, [])]
set_option maxRecDepth 100000 in
theorem lX2_booksWithLetter_4_ck : lX2_booksWithLetter_4.all (ra_ck mX2_booksWithLetter 2) = true := by decide +kernel
def nX2_booksWithLetter_4 (N : Nat) : Nat → Nat → Int32 → Int32 → Int32 → ra_H → Option (Int32 × ra_H)
  | 0, _, _, _, _, _ => none
  | n + 1, a0, a1, a2, a3, h =>
  (ra_fI h 2 a0 13).bind fun x1 =>
  if a3 < x1 then
    (fX2_factOf N a0 a3 ((0 : Int32)) h).bind fun q2 =>
    if q2.1 = a1 then
      let y3 := a2 + (1 : Int32)
      nX2_booksWithLetter_25 N (nX2_booksWithLetter_4 N n) a0 a1 y3 a3 q2.2
    else
      nX2_booksWithLetter_25 N (nX2_booksWithLetter_4 N n) a0 a1 a2 a3 q2.2
  else
    some (a2, h)
def kX2_booksWithLetter_4 (N : Nat) (cs : Nat → Int32 → Int32 → Int32 → ra_H → Option (Int32 × ra_H)) : Nat → List (Option Value) → List Value → ra_H → Option (Int32 × ra_H) := (ra_k1 25 (fun L S h => match L, S with
  | [some (.ref a0), some (.int a1), some (.int a2), some (.int a3)], [] => nX2_booksWithLetter_25 N cs a0 a1 a2 a3 h
  | _, _ => none) ra_k0)
theorem kX2_booksWithLetter_4_ok (N : Nat) (cs : Nat → Int32 → Int32 → Int32 → ra_H → Option (Int32 × ra_H)) (hcs : ∀ a0 a1 a2 a3 h r, cs a0 a1 a2 a3 h = some r → ra_Ru 2 mX2_booksWithLetter 4 [some (.ref a0), some (.int a1), some (.int a2), some (.int a3)] [] h (ra_oI r)) : ra_kok 2 mX2_booksWithLetter ra_oI (kX2_booksWithLetter_4 N cs) := (ra_k1_ok (by
  intro L S h a e
  split at e
  · exact ra_Ru.weak (nX2_booksWithLetter_25_ok N cs hcs _ _ _ _ _ _ e) ⟨rfl, ⟨rfl, ⟨rfl, ⟨rfl, trivial⟩⟩⟩⟩
  · cases e) ra_k0_ok)
set_option maxRecDepth 100000 in
theorem nX2_booksWithLetter_4_ok (N : Nat) : ∀ n a0 a1 a2 a3 h r, nX2_booksWithLetter_4 N n a0 a1 a2 a3 h = some r → ra_Ru 2 mX2_booksWithLetter 4 [some (.ref a0), some (.int a1), some (.int a2), some (.int a3)] [] h (ra_oI r) := by
  intro n
  induction n with
  | zero => intro a0 a1 a2 a3 h r e; cases e
  | succ n ih =>
    intro a0 a1 a2 a3 h r e
    exact ra_sound (by omega) rfl ra_rI_ok (kX2_booksWithLetter_4_ok N (nX2_booksWithLetter_4 N n) ih) (fun m av h h1 e => (ra_c0_ok (ro := ra_oV)) m av h h1 e) (fun m av h x h1 e => (tIX2_booksWithLetter_ok N) m av h (x, h1) e) (fun m av h x h1 e => (ra_c0_ok (ro := ra_oJ)) m av h (x, h1) e) (fun m av h x h1 e => (ra_c0_ok (ro := ra_oR)) m av h (x, h1) e) (fun m av h x h1 e => (ra_c0_ok (ro := ra_oN)) m av h (x, h1) e) (fun m av h x h1 e => (ra_c0_ok (ro := ra_oF)) m av h (x, h1) e) 14 lX2_booksWithLetter_4 _ _ _ _ lX2_booksWithLetter_4_ck (show ra_run ra_rI (kX2_booksWithLetter_4 N (nX2_booksWithLetter_4 N n)) ra_c0 (tIX2_booksWithLetter N) ra_c0 ra_c0 ra_c0 ra_c0 14 lX2_booksWithLetter_4 [some (.ref a0), some (.int a1), some (.int a2), some (.int a3)] [] h = some r from e) _ _ rfl
def lX2_booksWithLetter_0 : List ra_I := [(0, .iconst (0), 1, 0, 0, 0, (0), 0, []),
  (1, .istore_n 2, 1, 2, 0, 0, 0, 0, []),
  (2, .iconst (0), 1, 0, 0, 0, (0), 0, []),
  (3, .istore_n 3, 1, 3, 0, 0, 0, 0, [])]
set_option maxRecDepth 100000 in
theorem lX2_booksWithLetter_0_ck : lX2_booksWithLetter_0.all (ra_ck mX2_booksWithLetter 2) = true := by decide +kernel
def nX2_booksWithLetter_0 (N : Nat) (a0 : Nat) (a1 : Int32) (h : ra_H) : Option (Int32 × ra_H) :=
  nX2_booksWithLetter_4 N N a0 a1 ((0 : Int32)) ((0 : Int32)) h
def kX2_booksWithLetter_0 (N : Nat) : Nat → List (Option Value) → List Value → ra_H → Option (Int32 × ra_H) := (ra_k1 4 (fun L S h => match L, S with
  | [some (.ref a0), some (.int a1), some (.int a2), some (.int a3)], [] => nX2_booksWithLetter_4 N N a0 a1 a2 a3 h
  | _, _ => none) ra_k0)
theorem kX2_booksWithLetter_0_ok (N : Nat) : ra_kok 2 mX2_booksWithLetter ra_oI (kX2_booksWithLetter_0 N) := (ra_k1_ok (by
  intro L S h a e
  split at e
  · exact ra_Ru.weak (nX2_booksWithLetter_4_ok N N _ _ _ _ _ _ e) ⟨rfl, ⟨rfl, ⟨rfl, ⟨rfl, trivial⟩⟩⟩⟩
  · cases e) ra_k0_ok)
set_option maxRecDepth 100000 in
theorem nX2_booksWithLetter_0_ok (N : Nat) (a0 : Nat) (a1 : Int32) (h : ra_H) (r : (Int32 × ra_H)) (e : nX2_booksWithLetter_0 N a0 a1 h = some r) : ra_Ru 2 mX2_booksWithLetter 0 [some (.ref a0), some (.int a1), none, none] [] h (ra_oI r) :=
  ra_sound (by omega) rfl ra_rI_ok (kX2_booksWithLetter_0_ok N) (fun m av h h1 e => (ra_c0_ok (ro := ra_oV)) m av h h1 e) (fun m av h x h1 e => (tIX2_booksWithLetter_ok N) m av h (x, h1) e) (fun m av h x h1 e => (ra_c0_ok (ro := ra_oJ)) m av h (x, h1) e) (fun m av h x h1 e => (ra_c0_ok (ro := ra_oR)) m av h (x, h1) e) (fun m av h x h1 e => (ra_c0_ok (ro := ra_oN)) m av h (x, h1) e) (fun m av h x h1 e => (ra_c0_ok (ro := ra_oF)) m av h (x, h1) e) 5 lX2_booksWithLetter_0 _ _ _ _ lX2_booksWithLetter_0_ck (show ra_run ra_rI (kX2_booksWithLetter_0 N) ra_c0 (tIX2_booksWithLetter N) ra_c0 ra_c0 ra_c0 ra_c0 5 lX2_booksWithLetter_0 [some (.ref a0), some (.int a1), none, none] [] h = some r from e) _ _ rfl
def fX2_booksWithLetter (N : Nat) (p0 : Nat) (p1 : Int32) (h : ra_H) : Option (Int32 × ra_H) := match ra_isOb h p0 2 with
  | true => nX2_booksWithLetter_0 N p0 p1 h
  | false => none
set_option maxRecDepth 100000 in
theorem mtX2_booksWithLetter : ra_MT[150]? = some (mX2_booksWithLetter, 1, 1, (1, 2), (5, 124), (5, 125)) := rfl
theorem fX2_booksWithLetter_co (N : Nat) (p0 : Nat) (p1 : Int32) (h : ra_H) (r : (Int32 × ra_H)) (e : fX2_booksWithLetter N p0 p1 h = some r) (D : Nat) (hD : 3 ≤ D) : ra_CO D 150 [.ref p0, .int p1] h (ra_oI r).1 (ra_oI r).2 := by
  have hw : ra_nw2 [.ref p0, .int p1] ≤ 4 := Nat.le_of_ble_eq_true rfl
  have hdb : ∀ v ∈ ([.ref p0, .int p1] : List Value), ∀ x, v ≠ .double x := by
    intro v hv x hx
    simp [hx] at hv
  unfold fX2_booksWithLetter at e
  split at e
  · rename_i ho
    have e1 := e
    exact ⟨2, _, mtX2_booksWithLetter, hD, ra_ev_of (by decide) hdb hw trivial (ra_Ru.weak (nX2_booksWithLetter_0_ok N p0 p1 h _ e1) ⟨rfl, ⟨rfl, trivial⟩⟩), (fun _ => ⟨_, _, rfl, ra_rcv_of ho (by decide) rfl⟩), (fun h => absurd h (by decide))⟩
  · cases e
/-! RedMarks$Holdings.greatestNumber(I)I -/
def mX2_greatestNumber : ra_M := (yX2_greatestNumber, cX2_greatestNumber, 4, (some .int))
def tIX2_greatestNumber (N : Nat) : Nat → List Value → ra_H → Option (Int32 × ra_H) := (ra_c1 27 (fun av h => match av with
  | [.ref z0, .int z1, .int z2] => fX2_factOf N z0 z1 z2 h
  | _ => none) ra_c0)
theorem tIX2_greatestNumber_ok (N : Nat) : ra_cok 2 ra_oI (tIX2_greatestNumber N) := (ra_c1_ok (by
  intro av h a e
  split at e
  · exact fX2_factOf_co N _ _ _ _ _ e 2 (by omega)
  · cases e) ra_c0_ok)
def lX2_greatestNumber_33 : List ra_I := [(33, .iinc 3 (1), 3, 3, 0, 0, (1), 0, []),
  (36, .goto (-32), 3, 4, 0, 0, 0, 0, [])]
set_option maxRecDepth 100000 in
theorem lX2_greatestNumber_33_ck : lX2_greatestNumber_33.all (ra_ck mX2_greatestNumber 2) = true := by decide +kernel
def nX2_greatestNumber_33 (N : Nat) (c4 : Nat → Int32 → Int32 → Int32 → ra_H → Option (Int32 × ra_H)) (a0 : Nat) (a1 : Int32) (a2 : Int32) (a3 : Int32) (h : ra_H) : Option (Int32 × ra_H) :=
  let y1 := a3 + (1 : Int32)
  c4 a0 a1 a2 y1 h
def kX2_greatestNumber_33 (N : Nat) (c4 : Nat → Int32 → Int32 → Int32 → ra_H → Option (Int32 × ra_H)) : Nat → List (Option Value) → List Value → ra_H → Option (Int32 × ra_H) := (ra_k1 4 (fun L S h => match L, S with
  | [some (.ref a0), some (.int a1), some (.int a2), some (.int a3)], [] => c4 a0 a1 a2 a3 h
  | _, _ => none) ra_k0)
theorem kX2_greatestNumber_33_ok (N : Nat) (c4 : Nat → Int32 → Int32 → Int32 → ra_H → Option (Int32 × ra_H)) (hc4 : ∀ a0 a1 a2 a3 h r, c4 a0 a1 a2 a3 h = some r → ra_Ru 2 mX2_greatestNumber 4 [some (.ref a0), some (.int a1), some (.int a2), some (.int a3)] [] h (ra_oI r)) : ra_kok 2 mX2_greatestNumber ra_oI (kX2_greatestNumber_33 N c4) := (ra_k1_ok (by
  intro L S h a e
  split at e
  · exact ra_Ru.weak (hc4 _ _ _ _ _ _ e) ⟨rfl, ⟨rfl, ⟨rfl, ⟨rfl, trivial⟩⟩⟩⟩
  · cases e) ra_k0_ok)
set_option maxRecDepth 100000 in
theorem nX2_greatestNumber_33_ok (N : Nat) (c4 : Nat → Int32 → Int32 → Int32 → ra_H → Option (Int32 × ra_H)) (hc4 : ∀ a0 a1 a2 a3 h r, c4 a0 a1 a2 a3 h = some r → ra_Ru 2 mX2_greatestNumber 4 [some (.ref a0), some (.int a1), some (.int a2), some (.int a3)] [] h (ra_oI r)) (a0 : Nat) (a1 : Int32) (a2 : Int32) (a3 : Int32) (h : ra_H) (r : (Int32 × ra_H)) (e : nX2_greatestNumber_33 N c4 a0 a1 a2 a3 h = some r) : ra_Ru 2 mX2_greatestNumber 33 [some (.ref a0), some (.int a1), some (.int a2), some (.int a3)] [] h (ra_oI r) :=
  ra_sound (by omega) rfl ra_rI_ok (kX2_greatestNumber_33_ok N c4 hc4) (fun m av h h1 e => (ra_c0_ok (ro := ra_oV)) m av h h1 e) (fun m av h x h1 e => (tIX2_greatestNumber_ok N) m av h (x, h1) e) (fun m av h x h1 e => (ra_c0_ok (ro := ra_oJ)) m av h (x, h1) e) (fun m av h x h1 e => (ra_c0_ok (ro := ra_oR)) m av h (x, h1) e) (fun m av h x h1 e => (ra_c0_ok (ro := ra_oN)) m av h (x, h1) e) (fun m av h x h1 e => (ra_c0_ok (ro := ra_oF)) m av h (x, h1) e) 3 lX2_greatestNumber_33 _ _ _ _ lX2_greatestNumber_33_ck (show ra_run ra_rI (kX2_greatestNumber_33 N c4) ra_c0 (tIX2_greatestNumber N) ra_c0 ra_c0 ra_c0 ra_c0 3 lX2_greatestNumber_33 [some (.ref a0), some (.int a1), some (.int a2), some (.int a3)] [] h = some r from e) _ _ rfl
def lX2_greatestNumber_4 : List ra_I := [(4, .iload_n 3, 1, 3, 0, 0, 0, 0, []),
  (5, .aload_n 0, 1, 0, 0, 0, 0, 0, []),
  (6, .getfield 71, 3, 2, 13, 0, 0, 0, []),
  (9, .if_icmp .ge (30), 3, 39, 0, 0, 0, 0, []),
  (12, .aload_n 0, 1, 0, 0, 0, 0, 0, []),
  (13, .iload_n 3, 1, 3, 0, 0, 0, 0, []),
  (14, .iconst (0), 1, 0, 0, 0, (0), 0, []),
  (15, .invokevirtual 98, 3, 27, 3, 1, 0, 0, []),
  (18, .iload_n 1, 1, 1, 0, 0, 0, 0, []),
  (19, .if_icmp .ne (14), 3, 33, 0, 0, 0, 0, []),
  (22, .iload_n 2, 1, 2, 0, 0, 0, 0, []),
  (23, .aload_n 0, 1, 0, 0, 0, 0, 0, []),
  (24, .iload_n 3, 1, 3, 0, 0, 0, 0, []),
  (25, .iconst (1), 1, 0, 0, 0, (1), 0, []),
  (26, .invokevirtual 98, 3, 27, 3, 1, 0, 0, []),
  (29, .invokestatic 105, 3, 87, 0, 20, 0, 0, []),
  (32, .istore_n 2, 1, 2, 0, 0, 0, 0, []),
  (39, .iload_n 2, 1, 2, 0, 0, 0, 0, []),
  (40, .ireturn, 1, 0, 0, 0, 0, 0, [])]
set_option maxRecDepth 100000 in
theorem lX2_greatestNumber_4_ck : lX2_greatestNumber_4.all (ra_ck mX2_greatestNumber 2) = true := by decide +kernel
def nX2_greatestNumber_4 (N : Nat) : Nat → Nat → Int32 → Int32 → Int32 → ra_H → Option (Int32 × ra_H)
  | 0, _, _, _, _, _ => none
  | n + 1, a0, a1, a2, a3, h =>
  (ra_fI h 2 a0 13).bind fun x1 =>
  if a3 < x1 then
    (fX2_factOf N a0 a3 ((0 : Int32)) h).bind fun q2 =>
    if q2.1 = a1 then
      (fX2_factOf N a0 a3 ((1 : Int32)) q2.2).bind fun q3 =>
      let y4 := if a2 < q3.1 then q3.1 else a2
      nX2_greatestNumber_33 N (nX2_greatestNumber_4 N n) a0 a1 y4 a3 q3.2
    else
      nX2_greatestNumber_33 N (nX2_greatestNumber_4 N n) a0 a1 a2 a3 q2.2
  else
    some (a2, h)
def kX2_greatestNumber_4 (N : Nat) (cs : Nat → Int32 → Int32 → Int32 → ra_H → Option (Int32 × ra_H)) : Nat → List (Option Value) → List Value → ra_H → Option (Int32 × ra_H) := (ra_k1 33 (fun L S h => match L, S with
  | [some (.ref a0), some (.int a1), some (.int a2), some (.int a3)], [] => nX2_greatestNumber_33 N cs a0 a1 a2 a3 h
  | _, _ => none) ra_k0)
theorem kX2_greatestNumber_4_ok (N : Nat) (cs : Nat → Int32 → Int32 → Int32 → ra_H → Option (Int32 × ra_H)) (hcs : ∀ a0 a1 a2 a3 h r, cs a0 a1 a2 a3 h = some r → ra_Ru 2 mX2_greatestNumber 4 [some (.ref a0), some (.int a1), some (.int a2), some (.int a3)] [] h (ra_oI r)) : ra_kok 2 mX2_greatestNumber ra_oI (kX2_greatestNumber_4 N cs) := (ra_k1_ok (by
  intro L S h a e
  split at e
  · exact ra_Ru.weak (nX2_greatestNumber_33_ok N cs hcs _ _ _ _ _ _ e) ⟨rfl, ⟨rfl, ⟨rfl, ⟨rfl, trivial⟩⟩⟩⟩
  · cases e) ra_k0_ok)
set_option maxRecDepth 100000 in
theorem nX2_greatestNumber_4_ok (N : Nat) : ∀ n a0 a1 a2 a3 h r, nX2_greatestNumber_4 N n a0 a1 a2 a3 h = some r → ra_Ru 2 mX2_greatestNumber 4 [some (.ref a0), some (.int a1), some (.int a2), some (.int a3)] [] h (ra_oI r) := by
  intro n
  induction n with
  | zero => intro a0 a1 a2 a3 h r e; cases e
  | succ n ih =>
    intro a0 a1 a2 a3 h r e
    exact ra_sound (by omega) rfl ra_rI_ok (kX2_greatestNumber_4_ok N (nX2_greatestNumber_4 N n) ih) (fun m av h h1 e => (ra_c0_ok (ro := ra_oV)) m av h h1 e) (fun m av h x h1 e => (tIX2_greatestNumber_ok N) m av h (x, h1) e) (fun m av h x h1 e => (ra_c0_ok (ro := ra_oJ)) m av h (x, h1) e) (fun m av h x h1 e => (ra_c0_ok (ro := ra_oR)) m av h (x, h1) e) (fun m av h x h1 e => (ra_c0_ok (ro := ra_oN)) m av h (x, h1) e) (fun m av h x h1 e => (ra_c0_ok (ro := ra_oF)) m av h (x, h1) e) 20 lX2_greatestNumber_4 _ _ _ _ lX2_greatestNumber_4_ck (show ra_run ra_rI (kX2_greatestNumber_4 N (nX2_greatestNumber_4 N n)) ra_c0 (tIX2_greatestNumber N) ra_c0 ra_c0 ra_c0 ra_c0 20 lX2_greatestNumber_4 [some (.ref a0), some (.int a1), some (.int a2), some (.int a3)] [] h = some r from e) _ _ rfl
def lX2_greatestNumber_0 : List ra_I := [(0, .iconst (0), 1, 0, 0, 0, (0), 0, []),
  (1, .istore_n 2, 1, 2, 0, 0, 0, 0, []),
  (2, .iconst (0), 1, 0, 0, 0, (0), 0, []),
  (3, .istore_n 3, 1, 3, 0, 0, 0, 0, [])]
set_option maxRecDepth 100000 in
theorem lX2_greatestNumber_0_ck : lX2_greatestNumber_0.all (ra_ck mX2_greatestNumber 2) = true := by decide +kernel
def nX2_greatestNumber_0 (N : Nat) (a0 : Nat) (a1 : Int32) (h : ra_H) : Option (Int32 × ra_H) :=
  nX2_greatestNumber_4 N N a0 a1 ((0 : Int32)) ((0 : Int32)) h
def kX2_greatestNumber_0 (N : Nat) : Nat → List (Option Value) → List Value → ra_H → Option (Int32 × ra_H) := (ra_k1 4 (fun L S h => match L, S with
  | [some (.ref a0), some (.int a1), some (.int a2), some (.int a3)], [] => nX2_greatestNumber_4 N N a0 a1 a2 a3 h
  | _, _ => none) ra_k0)
theorem kX2_greatestNumber_0_ok (N : Nat) : ra_kok 2 mX2_greatestNumber ra_oI (kX2_greatestNumber_0 N) := (ra_k1_ok (by
  intro L S h a e
  split at e
  · exact ra_Ru.weak (nX2_greatestNumber_4_ok N N _ _ _ _ _ _ e) ⟨rfl, ⟨rfl, ⟨rfl, ⟨rfl, trivial⟩⟩⟩⟩
  · cases e) ra_k0_ok)
set_option maxRecDepth 100000 in
theorem nX2_greatestNumber_0_ok (N : Nat) (a0 : Nat) (a1 : Int32) (h : ra_H) (r : (Int32 × ra_H)) (e : nX2_greatestNumber_0 N a0 a1 h = some r) : ra_Ru 2 mX2_greatestNumber 0 [some (.ref a0), some (.int a1), none, none] [] h (ra_oI r) :=
  ra_sound (by omega) rfl ra_rI_ok (kX2_greatestNumber_0_ok N) (fun m av h h1 e => (ra_c0_ok (ro := ra_oV)) m av h h1 e) (fun m av h x h1 e => (tIX2_greatestNumber_ok N) m av h (x, h1) e) (fun m av h x h1 e => (ra_c0_ok (ro := ra_oJ)) m av h (x, h1) e) (fun m av h x h1 e => (ra_c0_ok (ro := ra_oR)) m av h (x, h1) e) (fun m av h x h1 e => (ra_c0_ok (ro := ra_oN)) m av h (x, h1) e) (fun m av h x h1 e => (ra_c0_ok (ro := ra_oF)) m av h (x, h1) e) 5 lX2_greatestNumber_0 _ _ _ _ lX2_greatestNumber_0_ck (show ra_run ra_rI (kX2_greatestNumber_0 N) ra_c0 (tIX2_greatestNumber N) ra_c0 ra_c0 ra_c0 ra_c0 5 lX2_greatestNumber_0 [some (.ref a0), some (.int a1), none, none] [] h = some r from e) _ _ rfl
def fX2_greatestNumber (N : Nat) (p0 : Nat) (p1 : Int32) (h : ra_H) : Option (Int32 × ra_H) := match ra_isOb h p0 2 with
  | true => nX2_greatestNumber_0 N p0 p1 h
  | false => none
set_option maxRecDepth 100000 in
theorem mtX2_greatestNumber : ra_MT[151]? = some (mX2_greatestNumber, 1, 1, (1, 2), (5, 128), (5, 129)) := rfl
theorem fX2_greatestNumber_co (N : Nat) (p0 : Nat) (p1 : Int32) (h : ra_H) (r : (Int32 × ra_H)) (e : fX2_greatestNumber N p0 p1 h = some r) (D : Nat) (hD : 3 ≤ D) : ra_CO D 151 [.ref p0, .int p1] h (ra_oI r).1 (ra_oI r).2 := by
  have hw : ra_nw2 [.ref p0, .int p1] ≤ 4 := Nat.le_of_ble_eq_true rfl
  have hdb : ∀ v ∈ ([.ref p0, .int p1] : List Value), ∀ x, v ≠ .double x := by
    intro v hv x hx
    simp [hx] at hv
  unfold fX2_greatestNumber at e
  split at e
  · rename_i ho
    have e1 := e
    exact ⟨2, _, mtX2_greatestNumber, hD, ra_ev_of (by decide) hdb hw trivial (ra_Ru.weak (nX2_greatestNumber_0_ok N p0 p1 h _ e1) ⟨rfl, ⟨rfl, trivial⟩⟩), (fun _ => ⟨_, _, rfl, ra_rcv_of ho (by decide) rfl⟩), (fun h => absurd h (by decide))⟩
  · cases e
/-! RedMarks$Holdings.hasMark(II)Z -/
def mX2_hasMark : ra_M := (yX2_hasMark, cX2_hasMark, 4, (some .boolean))
def tIX2_hasMark (N : Nat) : Nat → List Value → ra_H → Option (Int32 × ra_H) := (ra_c1 27 (fun av h => match av with
  | [.ref z0, .int z1, .int z2] => fX2_factOf N z0 z1 z2 h
  | _ => none) ra_c0)
theorem tIX2_hasMark_ok (N : Nat) : ra_cok 2 ra_oI (tIX2_hasMark N) := (ra_c1_ok (by
  intro av h a e
  split at e
  · exact fX2_factOf_co N _ _ _ _ _ e 2 (by omega)
  · cases e) ra_c0_ok)
def lX2_hasMark_32 : List ra_I := [(32, .iinc 3 (1), 3, 3, 0, 0, (1), 0, []),
  (35, .goto (-33), 3, 2, 0, 0, 0, 0, [])]
set_option maxRecDepth 100000 in
theorem lX2_hasMark_32_ck : lX2_hasMark_32.all (ra_ck mX2_hasMark 2) = true := by decide +kernel
def nX2_hasMark_32 (N : Nat) (c2 : Nat → Int32 → Int32 → Int32 → ra_H → Option (Int32 × ra_H)) (a0 : Nat) (a1 : Int32) (a2 : Int32) (a3 : Int32) (h : ra_H) : Option (Int32 × ra_H) :=
  let y1 := a3 + (1 : Int32)
  c2 a0 a1 a2 y1 h
def kX2_hasMark_32 (N : Nat) (c2 : Nat → Int32 → Int32 → Int32 → ra_H → Option (Int32 × ra_H)) : Nat → List (Option Value) → List Value → ra_H → Option (Int32 × ra_H) := (ra_k1 2 (fun L S h => match L, S with
  | [some (.ref a0), some (.int a1), some (.int a2), some (.int a3)], [] => c2 a0 a1 a2 a3 h
  | _, _ => none) ra_k0)
theorem kX2_hasMark_32_ok (N : Nat) (c2 : Nat → Int32 → Int32 → Int32 → ra_H → Option (Int32 × ra_H)) (hc2 : ∀ a0 a1 a2 a3 h r, c2 a0 a1 a2 a3 h = some r → ra_Ru 2 mX2_hasMark 2 [some (.ref a0), some (.int a1), some (.int a2), some (.int a3)] [] h (ra_oI r)) : ra_kok 2 mX2_hasMark ra_oI (kX2_hasMark_32 N c2) := (ra_k1_ok (by
  intro L S h a e
  split at e
  · exact ra_Ru.weak (hc2 _ _ _ _ _ _ e) ⟨rfl, ⟨rfl, ⟨rfl, ⟨rfl, trivial⟩⟩⟩⟩
  · cases e) ra_k0_ok)
set_option maxRecDepth 100000 in
theorem nX2_hasMark_32_ok (N : Nat) (c2 : Nat → Int32 → Int32 → Int32 → ra_H → Option (Int32 × ra_H)) (hc2 : ∀ a0 a1 a2 a3 h r, c2 a0 a1 a2 a3 h = some r → ra_Ru 2 mX2_hasMark 2 [some (.ref a0), some (.int a1), some (.int a2), some (.int a3)] [] h (ra_oI r)) (a0 : Nat) (a1 : Int32) (a2 : Int32) (a3 : Int32) (h : ra_H) (r : (Int32 × ra_H)) (e : nX2_hasMark_32 N c2 a0 a1 a2 a3 h = some r) : ra_Ru 2 mX2_hasMark 32 [some (.ref a0), some (.int a1), some (.int a2), some (.int a3)] [] h (ra_oI r) :=
  ra_sound (by omega) rfl ra_rI_ok (kX2_hasMark_32_ok N c2 hc2) (fun m av h h1 e => (ra_c0_ok (ro := ra_oV)) m av h h1 e) (fun m av h x h1 e => (tIX2_hasMark_ok N) m av h (x, h1) e) (fun m av h x h1 e => (ra_c0_ok (ro := ra_oJ)) m av h (x, h1) e) (fun m av h x h1 e => (ra_c0_ok (ro := ra_oR)) m av h (x, h1) e) (fun m av h x h1 e => (ra_c0_ok (ro := ra_oN)) m av h (x, h1) e) (fun m av h x h1 e => (ra_c0_ok (ro := ra_oF)) m av h (x, h1) e) 3 lX2_hasMark_32 _ _ _ _ lX2_hasMark_32_ck (show ra_run ra_rI (kX2_hasMark_32 N c2) ra_c0 (tIX2_hasMark N) ra_c0 ra_c0 ra_c0 ra_c0 3 lX2_hasMark_32 [some (.ref a0), some (.int a1), some (.int a2), some (.int a3)] [] h = some r from e) _ _ rfl
def lX2_hasMark_2 : List ra_I := [(2, .iload_n 3, 1, 3, 0, 0, 0, 0, []),
  (3, .aload_n 0, 1, 0, 0, 0, 0, 0, []),
  (4, .getfield 71, 3, 2, 13, 0, 0, 0, []),
  (7, .if_icmp .ge (31), 3, 38, 0, 0, 0, 0, []),
  (10, .aload_n 0, 1, 0, 0, 0, 0, 0, []),
  (11, .iload_n 3, 1, 3, 0, 0, 0, 0, []),
  (12, .iconst (0), 1, 0, 0, 0, (0), 0, []),
  (13, .invokevirtual 98, 3, 27, 3, 1, 0, 0, []),
  (16, .iload_n 1, 1, 1, 0, 0, 0, 0, []),
  (17, .if_icmp .ne (15), 3, 32, 0, 0, 0, 0, []),
  (20, .aload_n 0, 1, 0, 0, 0, 0, 0, []),
  (21, .iload_n 3, 1, 3, 0, 0, 0, 0, []),
  (22, .iconst (1), 1, 0, 0, 0, (1), 0, []),
  (23, .invokevirtual 98, 3, 27, 3, 1, 0, 0, []),
  (26, .iload_n 2, 1, 2, 0, 0, 0, 0, []),
  (27, .if_icmp .ne (5), 3, 32, 0, 0, 0, 0, []),
  (30, .iconst (1), 1, 0, 0, 0, (1), 0, []),
  (31, .ireturn, 1, 0, 0, 0, 0, 0, []),
  (38, .iconst (0), 1, 0, 0, 0, (0), 0, []),
  (39, .ireturn, 1, 0, 0, 0, 0, 0, [])]
set_option maxRecDepth 100000 in
theorem lX2_hasMark_2_ck : lX2_hasMark_2.all (ra_ck mX2_hasMark 2) = true := by decide +kernel
def nX2_hasMark_2 (N : Nat) : Nat → Nat → Int32 → Int32 → Int32 → ra_H → Option (Int32 × ra_H)
  | 0, _, _, _, _, _ => none
  | n + 1, a0, a1, a2, a3, h =>
  (ra_fI h 2 a0 13).bind fun x1 =>
  if a3 < x1 then
    (fX2_factOf N a0 a3 ((0 : Int32)) h).bind fun q2 =>
    if q2.1 = a1 then
      (fX2_factOf N a0 a3 ((1 : Int32)) q2.2).bind fun q3 =>
      if q3.1 = a2 then
        some ((1 : Int32), q3.2)
      else
        nX2_hasMark_32 N (nX2_hasMark_2 N n) a0 a1 a2 a3 q3.2
    else
      nX2_hasMark_32 N (nX2_hasMark_2 N n) a0 a1 a2 a3 q2.2
  else
    some ((0 : Int32), h)
def kX2_hasMark_2 (N : Nat) (cs : Nat → Int32 → Int32 → Int32 → ra_H → Option (Int32 × ra_H)) : Nat → List (Option Value) → List Value → ra_H → Option (Int32 × ra_H) := (ra_k1 32 (fun L S h => match L, S with
  | [some (.ref a0), some (.int a1), some (.int a2), some (.int a3)], [] => nX2_hasMark_32 N cs a0 a1 a2 a3 h
  | _, _ => none) ra_k0)
theorem kX2_hasMark_2_ok (N : Nat) (cs : Nat → Int32 → Int32 → Int32 → ra_H → Option (Int32 × ra_H)) (hcs : ∀ a0 a1 a2 a3 h r, cs a0 a1 a2 a3 h = some r → ra_Ru 2 mX2_hasMark 2 [some (.ref a0), some (.int a1), some (.int a2), some (.int a3)] [] h (ra_oI r)) : ra_kok 2 mX2_hasMark ra_oI (kX2_hasMark_2 N cs) := (ra_k1_ok (by
  intro L S h a e
  split at e
  · exact ra_Ru.weak (nX2_hasMark_32_ok N cs hcs _ _ _ _ _ _ e) ⟨rfl, ⟨rfl, ⟨rfl, ⟨rfl, trivial⟩⟩⟩⟩
  · cases e) ra_k0_ok)
set_option maxRecDepth 100000 in
theorem nX2_hasMark_2_ok (N : Nat) : ∀ n a0 a1 a2 a3 h r, nX2_hasMark_2 N n a0 a1 a2 a3 h = some r → ra_Ru 2 mX2_hasMark 2 [some (.ref a0), some (.int a1), some (.int a2), some (.int a3)] [] h (ra_oI r) := by
  intro n
  induction n with
  | zero => intro a0 a1 a2 a3 h r e; cases e
  | succ n ih =>
    intro a0 a1 a2 a3 h r e
    exact ra_sound (by omega) rfl ra_rI_ok (kX2_hasMark_2_ok N (nX2_hasMark_2 N n) ih) (fun m av h h1 e => (ra_c0_ok (ro := ra_oV)) m av h h1 e) (fun m av h x h1 e => (tIX2_hasMark_ok N) m av h (x, h1) e) (fun m av h x h1 e => (ra_c0_ok (ro := ra_oJ)) m av h (x, h1) e) (fun m av h x h1 e => (ra_c0_ok (ro := ra_oR)) m av h (x, h1) e) (fun m av h x h1 e => (ra_c0_ok (ro := ra_oN)) m av h (x, h1) e) (fun m av h x h1 e => (ra_c0_ok (ro := ra_oF)) m av h (x, h1) e) 21 lX2_hasMark_2 _ _ _ _ lX2_hasMark_2_ck (show ra_run ra_rI (kX2_hasMark_2 N (nX2_hasMark_2 N n)) ra_c0 (tIX2_hasMark N) ra_c0 ra_c0 ra_c0 ra_c0 21 lX2_hasMark_2 [some (.ref a0), some (.int a1), some (.int a2), some (.int a3)] [] h = some r from e) _ _ rfl
def lX2_hasMark_0 : List ra_I := [(0, .iconst (0), 1, 0, 0, 0, (0), 0, []),
  (1, .istore_n 3, 1, 3, 0, 0, 0, 0, [])]
set_option maxRecDepth 100000 in
theorem lX2_hasMark_0_ck : lX2_hasMark_0.all (ra_ck mX2_hasMark 2) = true := by decide +kernel
def nX2_hasMark_0 (N : Nat) (a0 : Nat) (a1 : Int32) (a2 : Int32) (h : ra_H) : Option (Int32 × ra_H) :=
  nX2_hasMark_2 N N a0 a1 a2 ((0 : Int32)) h
def kX2_hasMark_0 (N : Nat) : Nat → List (Option Value) → List Value → ra_H → Option (Int32 × ra_H) := (ra_k1 2 (fun L S h => match L, S with
  | [some (.ref a0), some (.int a1), some (.int a2), some (.int a3)], [] => nX2_hasMark_2 N N a0 a1 a2 a3 h
  | _, _ => none) ra_k0)
theorem kX2_hasMark_0_ok (N : Nat) : ra_kok 2 mX2_hasMark ra_oI (kX2_hasMark_0 N) := (ra_k1_ok (by
  intro L S h a e
  split at e
  · exact ra_Ru.weak (nX2_hasMark_2_ok N N _ _ _ _ _ _ e) ⟨rfl, ⟨rfl, ⟨rfl, ⟨rfl, trivial⟩⟩⟩⟩
  · cases e) ra_k0_ok)
set_option maxRecDepth 100000 in
theorem nX2_hasMark_0_ok (N : Nat) (a0 : Nat) (a1 : Int32) (a2 : Int32) (h : ra_H) (r : (Int32 × ra_H)) (e : nX2_hasMark_0 N a0 a1 a2 h = some r) : ra_Ru 2 mX2_hasMark 0 [some (.ref a0), some (.int a1), some (.int a2), none] [] h (ra_oI r) :=
  ra_sound (by omega) rfl ra_rI_ok (kX2_hasMark_0_ok N) (fun m av h h1 e => (ra_c0_ok (ro := ra_oV)) m av h h1 e) (fun m av h x h1 e => (tIX2_hasMark_ok N) m av h (x, h1) e) (fun m av h x h1 e => (ra_c0_ok (ro := ra_oJ)) m av h (x, h1) e) (fun m av h x h1 e => (ra_c0_ok (ro := ra_oR)) m av h (x, h1) e) (fun m av h x h1 e => (ra_c0_ok (ro := ra_oN)) m av h (x, h1) e) (fun m av h x h1 e => (ra_c0_ok (ro := ra_oF)) m av h (x, h1) e) 3 lX2_hasMark_0 _ _ _ _ lX2_hasMark_0_ck (show ra_run ra_rI (kX2_hasMark_0 N) ra_c0 (tIX2_hasMark N) ra_c0 ra_c0 ra_c0 ra_c0 3 lX2_hasMark_0 [some (.ref a0), some (.int a1), some (.int a2), none] [] h = some r from e) _ _ rfl
def fX2_hasMark (N : Nat) (p0 : Nat) (p1 : Int32) (p2 : Int32) (h : ra_H) : Option (Int32 × ra_H) := match ra_isOb h p0 2 with
  | true => (nX2_hasMark_0 N p0 p1 p2 h).bind (fun q => ra_rz q.1 q.2)
  | false => none
set_option maxRecDepth 100000 in
theorem mtX2_hasMark : ra_MT[152]? = some (mX2_hasMark, 1, 2, (1, 2), (5, 133), (5, 134)) := rfl
theorem fX2_hasMark_co (N : Nat) (p0 : Nat) (p1 : Int32) (p2 : Int32) (h : ra_H) (r : (Int32 × ra_H)) (e : fX2_hasMark N p0 p1 p2 h = some r) (D : Nat) (hD : 3 ≤ D) : ra_CO D 152 [.ref p0, .int p1, .int p2] h (ra_oI r).1 (ra_oI r).2 := by
  have hw : ra_nw2 [.ref p0, .int p1, .int p2] ≤ 4 := Nat.le_of_ble_eq_true rfl
  have hdb : ∀ v ∈ ([.ref p0, .int p1, .int p2] : List Value), ∀ x, v ≠ .double x := by
    intro v hv x hx
    simp [hx] at hv
  unfold fX2_hasMark at e
  split at e
  · rename_i ho
    obtain ⟨q, e1, e2⟩ := Option.bind_eq_some_iff.mp e
    obtain ⟨rfl, hz⟩ := ra_rz_of e2
    exact ⟨2, _, mtX2_hasMark, hD, ra_ev_of (by decide) hdb hw hz (ra_Ru.weak (nX2_hasMark_0_ok N p0 p1 p2 h _ e1) ⟨rfl, ⟨rfl, ⟨rfl, trivial⟩⟩⟩), (fun _ => ⟨_, _, rfl, ra_rcv_of ho (by decide) rfl⟩), (fun h => absurd h (by decide))⟩
  · cases e
