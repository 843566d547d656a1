/-! RedMarks.<init>()V -/
def mX11_init : ra_M := (yX11_init, cX11_init, 1, none)
def tVX11_init (N : Nat) : Nat → List Value → ra_H → Option ra_H := (ra_c1 2 (fun av h => match av with
  | [.ref z0] => fX2_init N z0 h
  | _ => none) (ra_c1 4 (fun av h => match av with
  | [.ref z0] => fX8_init N z0 h
  | _ => none) (ra_c1 5 (fun av h => match av with
  | [.ref z0] => fX0_init N z0 h
  | _ => none) (ra_c1 6 (fun av h => match av with
  | [.ref z0, .ref z1, .ref z2] => fX1_init N z0 z1 z2 h
  | _ => none) (ra_c1 8 (fun av h => match av with
  | [.ref z0, .ref z1, .ref z2] => fX5_init N z0 z1 z2 h
  | _ => none) (ra_c1 9 (fun av h => match av with
  | [.ref z0, .ref z1] => fX3_init N z0 z1 h
  | _ => none) (ra_c1 11 (fun av h => match av with
  | [.ref z0, .ref z1] => fX6_init N z0 z1 h
  | _ => none) (ra_c1 12 (fun av h => match av with
  | [.ref z0] => fX9_init N z0 h
  | _ => none) ra_c0))))))))
theorem tVX11_init_ok (N : Nat) : ra_cok 3 ra_oV (tVX11_init N) := (ra_c1_ok (by
  intro av h a e
  split at e
  · exact fX2_init_co N _ _ _ e 3 (by omega)
  · cases e) (ra_c1_ok (by
  intro av h a e
  split at e
  · exact fX8_init_co N _ _ _ e 3 (by omega)
  · cases e) (ra_c1_ok (by
  intro av h a e
  split at e
  · exact fX0_init_co N _ _ _ e 3 (by omega)
  · cases e) (ra_c1_ok (by
  intro av h a e
  split at e
  · exact fX1_init_co N _ _ _ _ _ e 3 (by omega)
  · cases e) (ra_c1_ok (by
  intro av h a e
  split at e
  · exact fX5_init_co N _ _ _ _ _ e 3 (by omega)
  · cases e) (ra_c1_ok (by
  intro av h a e
  split at e
  · exact fX3_init_co N _ _ _ _ e 3 (by omega)
  · cases e) (ra_c1_ok (by
  intro av h a e
  split at e
  · exact fX6_init_co N _ _ _ _ e 3 (by omega)
  · cases e) (ra_c1_ok (by
  intro av h a e
  split at e
  · exact fX9_init_co N _ _ _ e 3 (by omega)
  · cases e) ra_c0_ok))))))))
def lX11_init_0 : List ra_I := [(0, .aload_n 0, 1, 0, 0, 0, 0, 0, []),
  (1, .invokespecial 1, 3, 0, 0, 23, 0, 0, []),
  (4, .aload_n 0, 1, 0, 0, 0, 0, 0, []),
  (5, .new 7, 3, 2, 20, 0, 0, 0, []),
  (8, .dup, 1, 0, 0, 0, 0, 0, []),
  (9, .invokespecial 9, 3, 2, 1, 0, 0, 0, []),
  (12, .putfield 10, 3, 11, 0, 2, 0, 0, []),
  (15, .aload_n 0, 1, 0, 0, 0, 0, 0, []),
  (16, .iconst (2), 1, 0, 0, 0, (2), 0, []),
  (17, .anewarray 7, 3, 5, 0, 0, 0, 0, []),
  (20, .putfield 16, 3, 11, 1, 2, 0, 0, []),
  (23, .aload_n 0, 1, 0, 0, 0, 0, 0, []),
  (24, .new 20, 3, 8, 12, 0, 0, 0, []),
  (27, .dup, 1, 0, 0, 0, 0, 0, []),
  (28, .invokespecial 22, 3, 4, 1, 10, 0, 0, []),
  (31, .putfield 23, 3, 11, 2, 2, 0, 0, []),
  (34, .aload_n 0, 1, 0, 0, 0, 0, 0, []),
  (35, .new 27, 3, 0, 1, 0, 0, 0, []),
  (38, .dup, 1, 0, 0, 0, 0, 0, []),
  (39, .invokespecial 29, 3, 5, 1, 10, 0, 0, []),
  (42, .putfield 30, 3, 11, 3, 2, 0, 0, []),
  (45, .aload_n 0, 1, 0, 0, 0, 0, 0, []),
  (46, .new 34, 3, 1, 12, 0, 0, 0, []),
  (49, .dup, 1, 0, 0, 0, 0, 0, []),
  (50, .aload_n 0, 1, 0, 0, 0, 0, 0, []),
  (51, .getfield 10, 3, 11, 0, 2, 0, 0, []),
  (54, .aload_n 0, 1, 0, 0, 0, 0, 0, []),
  (55, .getfield 30, 3, 11, 3, 2, 0, 0, []),
  (58, .invokespecial 36, 3, 6, 3, 0, 0, 0, []),
  (61, .putfield 39, 3, 11, 4, 2, 0, 0, []),
  (64, .aload_n 0, 1, 0, 0, 0, 0, 0, []),
  (65, .new 43, 3, 5, 3, 0, 0, 0, []),
  (68, .dup, 1, 0, 0, 0, 0, 0, []),
  (69, .aload_n 0, 1, 0, 0, 0, 0, 0, []),
  (70, .getfield 10, 3, 11, 0, 2, 0, 0, []),
  (73, .aload_n 0, 1, 0, 0, 0, 0, 0, []),
  (74, .getfield 39, 3, 11, 4, 2, 0, 0, []),
  (77, .getfield 45, 3, 1, 11, 2, 0, 0, []),
  (80, .invokespecial 49, 3, 8, 3, 0, 0, 0, []),
  (83, .putfield 52, 3, 11, 5, 2, 0, 0, []),
  (86, .aload_n 0, 1, 0, 0, 0, 0, 0, []),
  (87, .new 56, 3, 3, 18, 0, 0, 0, []),
  (90, .dup, 1, 0, 0, 0, 0, 0, []),
  (91, .aload_n 0, 1, 0, 0, 0, 0, 0, []),
  (92, .getfield 10, 3, 11, 0, 2, 0, 0, []),
  (95, .invokespecial 58, 3, 9, 2, 0, 0, 0, []),
  (98, .putfield 61, 3, 11, 6, 2, 0, 0, []),
  (101, .aload_n 0, 1, 0, 0, 0, 0, 0, []),
  (102, .new 65, 3, 6, 7, 0, 0, 0, []),
  (105, .dup, 1, 0, 0, 0, 0, 0, []),
  (106, .aload_n 0, 1, 0, 0, 0, 0, 0, []),
  (107, .getfield 10, 3, 11, 0, 2, 0, 0, []),
  (110, .invokespecial 67, 3, 11, 2, 0, 0, 0, []),
  (113, .putfield 68, 3, 11, 7, 2, 0, 0, []),
  (116, .aload_n 0, 1, 0, 0, 0, 0, 0, []),
  (117, .new 72, 3, 9, 3, 0, 0, 0, []),
  (120, .dup, 1, 0, 0, 0, 0, 0, []),
  (121, .invokespecial 74, 3, 12, 1, 0, 0, 0, []),
  (124, .putfield 75, 3, 11, 8, 2, 0, 0, []),
  (127, .aload_n 0, 1, 0, 0, 0, 0, 0, []),
  (128, .bipush (7), 2, 0, 0, 0, (7), 0, []),
  (130, .newarray .int, 2, 0, 0, 0, 0, 0, []),
  (132, .putfield 79, 3, 11, 9, 2, 0, 0, []),
  (135, .aload_n 0, 1, 0, 0, 0, 0, 0, []),
  (136, .iconst (-1), 1, 0, 0, 0, (-1), 0, []),
  (137, .putfield 83, 3, 11, 12, 0, 0, 0, []),
  (140, .return_, 1, 0, 0, 0, 0, 0, [])]
set_option maxRecDepth 100000 in
theorem lX11_init_0_ck : lX11_init_0.all (ra_ck mX11_init 11) = true := by decide +kernel
def nX11_init_0 (N : Nat) (a0 : Nat) (h : ra_H) : Option ra_H :=
  let h1 := ra_mk h (.inr (2, ra_df 2)) 20
  (fX2_init N h.2.1 h1).bind fun h2 =>
  (ra_fW h2 11 a0 0 (.ref h.2.1)).bind fun h3 =>
  if ((2 : Int32)) < 0 ∨ 50000000 < (Int32.toNatClampNeg ((2 : Int32))) then none else
  let h4 := ra_mk h3 (ra_nr 5 (Int32.toNatClampNeg ((2 : Int32)))) (Int32.toNatClampNeg ((2 : Int32)))
  (ra_fW h4 11 a0 1 (.ref h3.2.1)).bind fun h5 =>
  let h6 := ra_mk h5 (.inr (8, ra_df 8)) 12
  (fX8_init N h5.2.1 h6).bind fun h7 =>
  (ra_fW h7 11 a0 2 (.ref h5.2.1)).bind fun h8 =>
  let h9 := ra_mk h8 (.inr (0, ra_df 0)) 1
  (fX0_init N h8.2.1 h9).bind fun h10 =>
  (ra_fW h10 11 a0 3 (.ref h8.2.1)).bind fun h11 =>
  let h12 := ra_mk h11 (.inr (1, ra_df 1)) 12
  (ra_fR h12 11 a0 0).bind fun x13 =>
  (ra_fR h12 11 a0 3).bind fun x14 =>
  (fX1_init N h11.2.1 x13 x14 h12).bind fun h15 =>
  (ra_fW h15 11 a0 4 (.ref h11.2.1)).bind fun h16 =>
  let h17 := ra_mk h16 (.inr (5, ra_df 5)) 3
  (ra_fR h17 11 a0 0).bind fun x18 =>
  (ra_fR h17 11 a0 4).bind fun x19 =>
  (ra_fR h17 1 x19 11).bind fun x20 =>
  (fX5_init N h16.2.1 x18 x20 h17).bind fun h21 =>
  (ra_fW h21 11 a0 5 (.ref h16.2.1)).bind fun h22 =>
  let h23 := ra_mk h22 (.inr (3, ra_df 3)) 18
  (ra_fR h23 11 a0 0).bind fun x24 =>
  (fX3_init N h22.2.1 x24 h23).bind fun h25 =>
  (ra_fW h25 11 a0 6 (.ref h22.2.1)).bind fun h26 =>
  let h27 := ra_mk h26 (.inr (6, ra_df 6)) 7
  (ra_fR h27 11 a0 0).bind fun x28 =>
  (fX6_init N h26.2.1 x28 h27).bind fun h29 =>
  (ra_fW h29 11 a0 7 (.ref h26.2.1)).bind fun h30 =>
  let h31 := ra_mk h30 (.inr (9, ra_df 9)) 3
  (fX9_init N h30.2.1 h31).bind fun h32 =>
  (ra_fW h32 11 a0 8 (.ref h30.2.1)).bind fun h33 =>
  if ((7 : Int32)) < 0 ∨ 50000000 < (Int32.toNatClampNeg ((7 : Int32))) then none else
  let h34 := ra_mk h33 (ra_na 0 (Int32.toNatClampNeg ((7 : Int32)))) (Int32.toNatClampNeg ((7 : Int32)))
  (ra_fW h34 11 a0 9 (.ref h33.2.1)).bind fun h35 =>
  (ra_fW h35 11 a0 12 (.int ((-1 : Int32)))).bind fun h36 =>
  some h36
def kX11_init_0 (N : Nat) : Nat → List (Option Value) → List Value → ra_H → Option ra_H := ra_k0
theorem kX11_init_0_ok (N : Nat) : ra_kok 3 mX11_init ra_oV (kX11_init_0 N) := ra_k0_ok
set_option maxRecDepth 100000 in
theorem nX11_init_0_ok (N : Nat) (a0 : Nat) (h : ra_H) (r : ra_H) (e : nX11_init_0 N a0 h = some r) : ra_Ru 3 mX11_init 0 [some (.ref a0)] [] h (ra_oV r) :=
  ra_sound (by omega) rfl ra_rV_ok (kX11_init_0_ok N) (fun m av h h1 e => (tVX11_init_ok N) m av h h1 e) (fun m av h x h1 e => (ra_c0_ok (ro := ra_oI)) m av h (x, h1) e) (fun m av h x h1 e => (ra_c0_ok (ro := ra_oJ)) m av h (x, h1) e) (fun m av h x h1 e => (ra_c0_ok (ro := ra_oR)) m av h (x, h1) e) (fun m av h x h1 e => (ra_c0_ok (ro := ra_oN)) m av h (x, h1) e) (fun m av h x h1 e => (ra_c0_ok (ro := ra_oF)) m av h (x, h1) e) 68 lX11_init_0 _ _ _ _ lX11_init_0_ck (show ra_run ra_rV (kX11_init_0 N) (tVX11_init N) ra_c0 ra_c0 ra_c0 ra_c0 ra_c0 68 lX11_init_0 [some (.ref a0)] [] h = some r from e) _ _ rfl
def fX11_init (N : Nat) (p0 : Nat) (h : ra_H) : Option ra_H := nX11_init_0 N p0 h
set_option maxRecDepth 100000 in
theorem mtX11_init : ra_MT[1]? = some (mX11_init, 2, 0, (1, 1), (1, 25), (0, 0)) := rfl
theorem fX11_init_co (N : Nat) (p0 : Nat) (h : ra_H) (r : ra_H) (e : fX11_init N p0 h = some r) (D : Nat) (hD : 4 ≤ D) : ra_CO D 1 [.ref p0] h (ra_oV r).1 (ra_oV r).2 := by
  have hw : ra_nw2 [.ref p0] ≤ 1 := Nat.le_of_ble_eq_true rfl
  have hdb : ∀ v ∈ ([.ref p0] : List Value), ∀ x, v ≠ .double x := by
    intro v hv x hx
    simp [hx] at hv
  unfold fX11_init at e
  have e1 := e
  exact ⟨3, _, mtX11_init, hD, ra_ev_of (by decide) hdb hw trivial (ra_Ru.weak (nX11_init_0_ok N p0 h _ e1) ⟨rfl, trivial⟩), (fun h => absurd h (by decide)), (fun _ => ⟨_, _, rfl⟩)⟩
/-! RedMarks.accept(I)I -/
def mX11_accept : ra_M := (yX11_accept, cX11_accept, 2, (some .int))
def lX11_accept_0 : List ra_I := [(0, .aload_n 0, 1, 0, 0, 0, 0, 0, []),
  (1, .iconst (0), 1, 0, 0, 0, (0), 0, []),
  (2, .putfield 388, 3, 11, 10, 0, 0, 0, []),
  (5, .iload_n 1, 1, 1, 0, 0, 0, 0, []),
  (6, .ireturn, 1, 0, 0, 0, 0, 0, [])]
set_option maxRecDepth 100000 in
theorem lX11_accept_0_ck : lX11_accept_0.all (ra_ck mX11_accept 11) = true := by decide +kernel
def nX11_accept_0 (N : Nat) (a0 : Nat) (a1 : Int32) (h : ra_H) : Option (Int32 × ra_H) :=
  (ra_fW h 11 a0 10 (.int ((0 : Int32)))).bind fun h1 =>
  some (a1, h1)
def kX11_accept_0 (N : Nat) : Nat → List (Option Value) → List Value → ra_H → Option (Int32 × ra_H) := ra_k0
theorem kX11_accept_0_ok (N : Nat) : ra_kok 1 mX11_accept ra_oI (kX11_accept_0 N) := ra_k0_ok
set_option maxRecDepth 100000 in
theorem nX11_accept_0_ok (N : Nat) (a0 : Nat) (a1 : Int32) (h : ra_H) (r : (Int32 × ra_H)) (e : nX11_accept_0 N a0 a1 h = some r) : ra_Ru 1 mX11_accept 0 [some (.ref a0), some (.int a1)] [] h (ra_oI r) :=
  ra_sound (by omega) rfl ra_rI_ok (kX11_accept_0_ok N) (fun m av h h1 e => (ra_c0_ok (ro := ra_oV)) m av h h1 e) (fun m av h x h1 e => (ra_c0_ok (ro := ra_oI)) m av h (x, h1) e) (fun m av h x h1 e => (ra_c0_ok (ro := ra_oJ)) m av h (x, h1) e) (fun m av h x h1 e => (ra_c0_ok (ro := ra_oR)) m av h (x, h1) e) (fun m av h x h1 e => (ra_c0_ok (ro := ra_oN)) m av h (x, h1) e) (fun m av h x h1 e => (ra_c0_ok (ro := ra_oF)) m av h (x, h1) e) 6 lX11_accept_0 _ _ _ _ lX11_accept_0_ck (show ra_run ra_rI (kX11_accept_0 N) ra_c0 ra_c0 ra_c0 ra_c0 ra_c0 ra_c0 6 lX11_accept_0 [some (.ref a0), some (.int a1)] [] h = some r from e) _ _ rfl
def fX11_accept (N : Nat) (p0 : Nat) (p1 : Int32) (h : ra_H) : Option (Int32 × ra_H) := match ra_isOb h p0 11 with
  | true => nX11_accept_0 N p0 p1 h
  | false => none
set_option maxRecDepth 100000 in
theorem mtX11_accept : ra_MT[24]? = some (mX11_accept, 1, 1, (1, 1), (3, 38), (0, 3)) := rfl
theorem fX11_accept_co (N : Nat) (p0 : Nat) (p1 : Int32) (h : ra_H) (r : (Int32 × ra_H)) (e : fX11_accept N p0 p1 h = some r) (D : Nat) (hD : 2 ≤ D) : ra_CO D 24 [.ref p0, .int p1] h (ra_oI r).1 (ra_oI r).2 := by
  have hw : ra_nw2 [.ref p0, .int p1] ≤ 2 := Nat.le_of_ble_eq_true rfl
  have hdb : ∀ v ∈ ([.ref p0, .int p1] : List Value), ∀ x, v ≠ .double x := by
    intro v hv x hx
    simp [hx] at hv
  unfold fX11_accept at e
  split at e
  · rename_i ho
    have e1 := e
    exact ⟨1, _, mtX11_accept, hD, ra_ev_of (by decide) hdb hw trivial (ra_Ru.weak (nX11_accept_0_ok N p0 p1 h _ e1) ⟨rfl, ⟨rfl, trivial⟩⟩), (fun _ => ⟨_, _, rfl, ra_rcv_of ho (by decide) rfl⟩), (fun h => absurd h (by decide))⟩
  · cases e
/-! RedMarks.forgetBook(I)V -/
def mX11_forgetBook : ra_M := (yX11_forgetBook, cX11_forgetBook, 2, none)
def tVX11_forgetBook (N : Nat) : Nat → List Value → ra_H → Option ra_H := (ra_c1 21 (fun av h => match av with
  | [.ref z0, .int z1] => fX1_forgetBook N z0 z1 h
  | _ => none) (ra_c1 23 (fun av h => match av with
  | [.ref z0] => fX3_forgetAll N z0 h
  | _ => none) ra_c0))
theorem tVX11_forgetBook_ok (N : Nat) : ra_cok 3 ra_oV (tVX11_forgetBook N) := (ra_c1_ok (by
  intro av h a e
  split at e
  · exact fX1_forgetBook_co N _ _ _ _ e 3 (by omega)
  · cases e) (ra_c1_ok (by
  intro av h a e
  split at e
  · exact fX3_forgetAll_co N _ _ _ e 3 (by omega)
  · cases e) ra_c0_ok))
def lX11_forgetBook_0 : List ra_I := [(0, .aload_n 0, 1, 0, 0, 0, 0, 0, []),
  (1, .getfield 39, 3, 11, 4, 2, 0, 0, []),
  (4, .iload_n 1, 1, 1, 0, 0, 0, 0, []),
  (5, .invokevirtual 394, 3, 21, 2, 0, 0, 0, []),
  (8, .aload_n 0, 1, 0, 0, 0, 0, 0, []),
  (9, .getfield 61, 3, 11, 6, 2, 0, 0, []),
  (12, .invokevirtual 243, 3, 23, 1, 0, 0, 0, []),
  (15, .return_, 1, 0, 0, 0, 0, 0, [])]
set_option maxRecDepth 100000 in
theorem lX11_forgetBook_0_ck : lX11_forgetBook_0.all (ra_ck mX11_forgetBook 11) = true := by decide +kernel
def nX11_forgetBook_0 (N : Nat) (a0 : Nat) (a1 : Int32) (h : ra_H) : Option ra_H :=
  (ra_fR h 11 a0 4).bind fun x1 =>
  (fX1_forgetBook N x1 a1 h).bind fun h2 =>
  (ra_fR h2 11 a0 6).bind fun x3 =>
  (fX3_forgetAll N x3 h2).bind fun h4 =>
  some h4
def kX11_forgetBook_0 (N : Nat) : Nat → List (Option Value) → List Value → ra_H → Option ra_H := ra_k0
theorem kX11_forgetBook_0_ok (N : Nat) : ra_kok 3 mX11_forgetBook ra_oV (kX11_forgetBook_0 N) := ra_k0_ok
set_option maxRecDepth 100000 in
theorem nX11_forgetBook_0_ok (N : Nat) (a0 : Nat) (a1 : Int32) (h : ra_H) (r : ra_H) (e : nX11_forgetBook_0 N a0 a1 h = some r) : ra_Ru 3 mX11_forgetBook 0 [some (.ref a0), some (.int a1)] [] h (ra_oV r) :=
  ra_sound (by omega) rfl ra_rV_ok (kX11_forgetBook_0_ok N) (fun m av h h1 e => (tVX11_forgetBook_ok N) m av h h1 e) (fun m av h x h1 e => (ra_c0_ok (ro := ra_oI)) m av h (x, h1) e) (fun m av h x h1 e => (ra_c0_ok (ro := ra_oJ)) m av h (x, h1) e) (fun m av h x h1 e => (ra_c0_ok (ro := ra_oR)) m av h (x, h1) e) (fun m av h x h1 e => (ra_c0_ok (ro := ra_oN)) m av h (x, h1) e) (fun m av h x h1 e => (ra_c0_ok (ro := ra_oF)) m av h (x, h1) e) 9 lX11_forgetBook_0 _ _ _ _ lX11_forgetBook_0_ck (show ra_run ra_rV (kX11_forgetBook_0 N) (tVX11_forgetBook N) ra_c0 ra_c0 ra_c0 ra_c0 ra_c0 9 lX11_forgetBook_0 [some (.ref a0), some (.int a1)] [] h = some r from e) _ _ rfl
def fX11_forgetBook (N : Nat) (p0 : Nat) (p1 : Int32) (h : ra_H) : Option ra_H := match ra_isOb h p0 11 with
  | true => nX11_forgetBook_0 N p0 p1 h
  | false => none
set_option maxRecDepth 100000 in
theorem mtX11_forgetBook : ra_MT[20]? = some (mX11_forgetBook, 1, 1, (1, 1), (3, 22), (0, 2)) := rfl
theorem fX11_forgetBook_co (N : Nat) (p0 : Nat) (p1 : Int32) (h : ra_H) (r : ra_H) (e : fX11_forgetBook N p0 p1 h = some r) (D : Nat) (hD : 4 ≤ D) : ra_CO D 20 [.ref p0, .int p1] h (ra_oV r).1 (ra_oV r).2 := by
  have hw : ra_nw2 [.ref p0, .int p1] ≤ 2 := Nat.le_of_ble_eq_true rfl
  have hdb : ∀ v ∈ ([.ref p0, .int p1] : List Value), ∀ x, v ≠ .double x := by
    intro v hv x hx
    simp [hx] at hv
  unfold fX11_forgetBook at e
  split at e
  · rename_i ho
    have e1 := e
    exact ⟨3, _, mtX11_forgetBook, hD, ra_ev_of (by decide) hdb hw trivial (ra_Ru.weak (nX11_forgetBook_0_ok N p0 p1 h _ e1) ⟨rfl, ⟨rfl, trivial⟩⟩), (fun _ => ⟨_, _, rfl, ra_rcv_of ho (by decide) rfl⟩), (fun h => absurd h (by decide))⟩
  · cases e
/-! RedMarks.addBook(IIIII)I -/
def mX11_addBook : ra_M := (yX11_addBook, cX11_addBook, 7, (some .int))
def tVX11_addBook (N : Nat) : Nat → List Value → ra_H → Option ra_H := (ra_c1 19 (fun av h => match av with
  | [.ref z0, .int z1, .int z2, .int z3] => fX2_setFact N z0 z1 z2 z3 h
  | _ => none) (ra_c1 20 (fun av h => match av with
  | [.ref z0, .int z1] => fX11_forgetBook N z0 z1 h
  | _ => none) ra_c0))
theorem tVX11_addBook_ok (N : Nat) : ra_cok 4 ra_oV (tVX11_addBook N) := (ra_c1_ok (by
  intro av h a e
  split at e
  · exact fX2_setFact_co N _ _ _ _ _ _ e 4 (by omega)
  · cases e) (ra_c1_ok (by
  intro av h a e
  split at e
  · exact fX11_forgetBook_co N _ _ _ _ e 4 (by omega)
  · cases e) ra_c0_ok))
def lX11_addBook_0 : List ra_I := [(0, .aload_n 0, 1, 0, 0, 0, 0, 0, []),
  (1, .getfield 10, 3, 11, 0, 2, 0, 0, []),
  (4, .getfield 99, 3, 2, 13, 0, 0, 0, []),
  (7, .istore 6, 2, 6, 0, 0, 0, 0, []),
  (9, .aload_n 0, 1, 0, 0, 0, 0, 0, []),
  (10, .getfield 10, 3, 11, 0, 2, 0, 0, []),
  (13, .dup, 1, 0, 0, 0, 0, 0, []),
  (14, .getfield 99, 3, 2, 13, 0, 0, 0, []),
  (17, .iconst (1), 1, 0, 0, 0, (1), 0, []),
  (18, .iadd, 1, 0, 0, 0, 0, 0, []),
  (19, .putfield 99, 3, 2, 13, 0, 0, 0, []),
  (22, .aload_n 0, 1, 0, 0, 0, 0, 0, []),
  (23, .getfield 10, 3, 11, 0, 2, 0, 0, []),
  (26, .iload 6, 2, 6, 0, 0, 0, 0, []),
  (28, .iconst (0), 1, 0, 0, 0, (0), 0, []),
  (29, .iload_n 1, 1, 1, 0, 0, 0, 0, []),
  (30, .invokevirtual 120, 3, 19, 4, 0, 0, 0, []),
  (33, .aload_n 0, 1, 0, 0, 0, 0, 0, []),
  (34, .getfield 10, 3, 11, 0, 2, 0, 0, []),
  (37, .iload 6, 2, 6, 0, 0, 0, 0, []),
  (39, .iconst (1), 1, 0, 0, 0, (1), 0, []),
  (40, .iload_n 2, 1, 2, 0, 0, 0, 0, []),
  (41, .invokevirtual 120, 3, 19, 4, 0, 0, 0, []),
  (44, .aload_n 0, 1, 0, 0, 0, 0, 0, []),
  (45, .getfield 10, 3, 11, 0, 2, 0, 0, []),
  (48, .iload 6, 2, 6, 0, 0, 0, 0, []),
  (50, .iconst (2), 1, 0, 0, 0, (2), 0, []),
  (51, .iload_n 3, 1, 3, 0, 0, 0, 0, []),
  (52, .invokevirtual 120, 3, 19, 4, 0, 0, 0, []),
  (55, .aload_n 0, 1, 0, 0, 0, 0, 0, []),
  (56, .getfield 10, 3, 11, 0, 2, 0, 0, []),
  (59, .iload 6, 2, 6, 0, 0, 0, 0, []),
  (61, .iconst (3), 1, 0, 0, 0, (3), 0, []),
  (62, .iload 4, 2, 4, 0, 0, 0, 0, []),
  (64, .invokevirtual 120, 3, 19, 4, 0, 0, 0, []),
  (67, .aload_n 0, 1, 0, 0, 0, 0, 0, []),
  (68, .getfield 10, 3, 11, 0, 2, 0, 0, []),
  (71, .iload 6, 2, 6, 0, 0, 0, 0, []),
  (73, .iconst (4), 1, 0, 0, 0, (4), 0, []),
  (74, .iload 5, 2, 5, 0, 0, 0, 0, []),
  (76, .invokevirtual 120, 3, 19, 4, 0, 0, 0, []),
  (79, .aload_n 0, 1, 0, 0, 0, 0, 0, []),
  (80, .iload 6, 2, 6, 0, 0, 0, 0, []),
  (82, .invokevirtual 128, 3, 20, 2, 0, 0, 0, []),
  (85, .iload 6, 2, 6, 0, 0, 0, 0, []),
  (87, .ireturn, 1, 0, 0, 0, 0, 0, [])]
set_option maxRecDepth 100000 in
theorem lX11_addBook_0_ck : lX11_addBook_0.all (ra_ck mX11_addBook 11) = true := by decide +kernel
def nX11_addBook_0 (N : Nat) (a0 : Nat) (a1 : Int32) (a2 : Int32) (a3 : Int32) (a4 : Int32) (a5 : Int32) (h : ra_H) : Option (Int32 × ra_H) :=
  (ra_fR h 11 a0 0).bind fun x1 =>
  (ra_fI h 2 x1 13).bind fun x2 =>
  (ra_fR h 11 a0 0).bind fun x3 =>
  (ra_fI h 2 x3 13).bind fun x4 =>
  (ra_fW h 2 x3 13 (.int (x4 + ((1 : Int32))))).bind fun h5 =>
  (ra_fR h5 11 a0 0).bind fun x6 =>
  (fX2_setFact N x6 x2 ((0 : Int32)) a1 h5).bind fun h7 =>
  (ra_fR h7 11 a0 0).bind fun x8 =>
  (fX2_setFact N x8 x2 ((1 : Int32)) a2 h7).bind fun h9 =>
  (ra_fR h9 11 a0 0).bind fun x10 =>
  (fX2_setFact N x10 x2 ((2 : Int32)) a3 h9).bind fun h11 =>
  (ra_fR h11 11 a0 0).bind fun x12 =>
  (fX2_setFact N x12 x2 ((3 : Int32)) a4 h11).bind fun h13 =>
  (ra_fR h13 11 a0 0).bind fun x14 =>
  (fX2_setFact N x14 x2 ((4 : Int32)) a5 h13).bind fun h15 =>
  (fX11_forgetBook N a0 x2 h15).bind fun h16 =>
  some (x2, h16)
def kX11_addBook_0 (N : Nat) : Nat → List (Option Value) → List Value → ra_H → Option (Int32 × ra_H) := ra_k0
theorem kX11_addBook_0_ok (N : Nat) : ra_kok 4 mX11_addBook ra_oI (kX11_addBook_0 N) := ra_k0_ok
set_option maxRecDepth 100000 in
theorem nX11_addBook_0_ok (N : Nat) (a0 : Nat) (a1 : Int32) (a2 : Int32) (a3 : Int32) (a4 : Int32) (a5 : Int32) (h : ra_H) (r : (Int32 × ra_H)) (e : nX11_addBook_0 N a0 a1 a2 a3 a4 a5 h = some r) : ra_Ru 4 mX11_addBook 0 [some (.ref a0), some (.int a1), some (.int a2), some (.int a3), some (.int a4), some (.int a5), none] [] h (ra_oI r) :=
  ra_sound (by omega) rfl ra_rI_ok (kX11_addBook_0_ok N) (fun m av h h1 e => (tVX11_addBook_ok N) m av h h1 e) (fun m av h x h1 e => (ra_c0_ok (ro := ra_oI)) m av h (x, h1) e) (fun m av h x h1 e => (ra_c0_ok (ro := ra_oJ)) m av h (x, h1) e) (fun m av h x h1 e => (ra_c0_ok (ro := ra_oR)) m av h (x, h1) e) (fun m av h x h1 e => (ra_c0_ok (ro := ra_oN)) m av h (x, h1) e) (fun m av h x h1 e => (ra_c0_ok (ro := ra_oF)) m av h (x, h1) e) 47 lX11_addBook_0 _ _ _ _ lX11_addBook_0_ck (show ra_run ra_rI (kX11_addBook_0 N) (tVX11_addBook N) ra_c0 ra_c0 ra_c0 ra_c0 ra_c0 47 lX11_addBook_0 [some (.ref a0), some (.int a1), some (.int a2), some (.int a3), some (.int a4), some (.int a5), none] [] h = some r from e) _ _ rfl
def fX11_addBook (N : Nat) (p0 : Nat) (p1 : Int32) (p2 : Int32) (p3 : Int32) (p4 : Int32) (p5 : Int32) (h : ra_H) : Option (Int32 × ra_H) := match ra_isOb h p0 11 with
  | true => nX11_addBook_0 N p0 p1 p2 p3 p4 p5 h
  | false => none
set_option maxRecDepth 100000 in
theorem mtX11_addBook : ra_MT[18]? = some (mX11_addBook, 1, 5, (1, 1), (3, 14), (0, 1)) := rfl
theorem fX11_addBook_co (N : Nat) (p0 : Nat) (p1 : Int32) (p2 : Int32) (p3 : Int32) (p4 : Int32) (p5 : Int32) (h : ra_H) (r : (Int32 × ra_H)) (e : fX11_addBook N p0 p1 p2 p3 p4 p5 h = some r) (D : Nat) (hD : 5 ≤ D) : ra_CO D 18 [.ref p0, .int p1, .int p2, .int p3, .int p4, .int p5] h (ra_oI r).1 (ra_oI r).2 := by
  have hw : ra_nw2 [.ref p0, .int p1, .int p2, .int p3, .int p4, .int p5] ≤ 7 := Nat.le_of_ble_eq_true rfl
  have hdb : ∀ v ∈ ([.ref p0, .int p1, .int p2, .int p3, .int p4, .int p5] : List Value), ∀ x, v ≠ .double x := by
    intro v hv x hx
    simp [hx] at hv
  unfold fX11_addBook at e
  split at e
  · rename_i ho
    have e1 := e
    exact ⟨4, _, mtX11_addBook, hD, ra_ev_of (by decide) hdb hw trivial (ra_Ru.weak (nX11_addBook_0_ok N p0 p1 p2 p3 p4 p5 h _ e1) ⟨rfl, ⟨rfl, ⟨rfl, ⟨rfl, ⟨rfl, ⟨rfl, trivial⟩⟩⟩⟩⟩⟩), (fun _ => ⟨_, _, rfl, ra_rcv_of ho (by decide) rfl⟩), (fun h => absurd h (by decide))⟩
  · cases e
/-! RedMarks.fits(II)Z -/
def mX11_fits : ra_M := (yX11_fits, cX11_fits, 2, (some .boolean))
def lX11_fits_33 : List ra_I := [(33, .ireturn, 1, 0, 0, 0, 0, 0, [])]
set_option maxRecDepth 100000 in
theorem lX11_fits_33_ck : lX11_fits_33.all (ra_ck mX11_fits 11) = true := by decide +kernel
def nX11_fits_33 (N : Nat) (b0 : Int32) (h : ra_H) : Option (Int32 × ra_H) :=
  some (b0, h)
def kX11_fits_33 (N : Nat) : Nat → List (Option Value) → List Value → ra_H → Option (Int32 × ra_H) := ra_k0
theorem kX11_fits_33_ok (N : Nat) : ra_kok 1 mX11_fits ra_oI (kX11_fits_33 N) := ra_k0_ok
set_option maxRecDepth 100000 in
theorem nX11_fits_33_ok (N : Nat) (b0 : Int32) (h : ra_H) (r : (Int32 × ra_H)) (e : nX11_fits_33 N b0 h = some r) : ra_Ru 1 mX11_fits 33 [none, none] [.int b0] h (ra_oI r) :=
  ra_sound (by omega) rfl ra_rI_ok (kX11_fits_33_ok N) (fun m av h h1 e => (ra_c0_ok (ro := ra_oV)) m av h h1 e) (fun m av h x h1 e => (ra_c0_ok (ro := ra_oI)) m av h (x, h1) e) (fun m av h x h1 e => (ra_c0_ok (ro := ra_oJ)) m av h (x, h1) e) (fun m av h x h1 e => (ra_c0_ok (ro := ra_oR)) m av h (x, h1) e) (fun m av h x h1 e => (ra_c0_ok (ro := ra_oN)) m av h (x, h1) e) (fun m av h x h1 e => (ra_c0_ok (ro := ra_oF)) m av h (x, h1) e) 2 lX11_fits_33 _ _ _ _ lX11_fits_33_ck (show ra_run ra_rI (kX11_fits_33 N) ra_c0 ra_c0 ra_c0 ra_c0 ra_c0 ra_c0 2 lX11_fits_33 [none, none] [.int b0] h = some r from e) _ _ rfl
def lX11_fits_32 : List ra_I := [(32, .iconst (0), 1, 0, 0, 0, (0), 0, [])]
set_option maxRecDepth 100000 in
theorem lX11_fits_32_ck : lX11_fits_32.all (ra_ck mX11_fits 11) = true := by decide +kernel
def nX11_fits_32 (N : Nat) (h : ra_H) : Option (Int32 × ra_H) :=
  nX11_fits_33 N ((0 : Int32)) h
def kX11_fits_32 (N : Nat) : Nat → List (Option Value) → List Value → ra_H → Option (Int32 × ra_H) := (ra_k1 33 (fun L S h => match L, S with
  | [_, _], [.int b0] => nX11_fits_33 N b0 h
  | _, _ => none) ra_k0)
theorem kX11_fits_32_ok (N : Nat) : ra_kok 1 mX11_fits ra_oI (kX11_fits_32 N) := (ra_k1_ok (by
  intro L S h a e
  split at e
  · exact ra_Ru.weak (nX11_fits_33_ok N _ _ _ e) trivial
  · cases e) ra_k0_ok)
set_option maxRecDepth 100000 in
theorem nX11_fits_32_ok (N : Nat) (h : ra_H) (r : (Int32 × ra_H)) (e : nX11_fits_32 N h = some r) : ra_Ru 1 mX11_fits 32 [none, none] [] h (ra_oI r) :=
  ra_sound (by omega) rfl ra_rI_ok (kX11_fits_32_ok N) (fun m av h h1 e => (ra_c0_ok (ro := ra_oV)) m av h h1 e) (fun m av h x h1 e => (ra_c0_ok (ro := ra_oI)) m av h (x, h1) e) (fun m av h x h1 e => (ra_c0_ok (ro := ra_oJ)) m av h (x, h1) e) (fun m av h x h1 e => (ra_c0_ok (ro := ra_oR)) m av h (x, h1) e) (fun m av h x h1 e => (ra_c0_ok (ro := ra_oN)) m av h (x, h1) e) (fun m av h x h1 e => (ra_c0_ok (ro := ra_oF)) m av h (x, h1) e) 2 lX11_fits_32 _ _ _ _ lX11_fits_32_ck (show ra_run ra_rI (kX11_fits_32 N) ra_c0 ra_c0 ra_c0 ra_c0 ra_c0 ra_c0 2 lX11_fits_32 [none, none] [] h = some r from e) _ _ rfl
def lX11_fits_0 : List ra_I := [(0, .iload_n 0, 1, 0, 0, 0, 0, 0, []),
  (1, .ifCond .lt (31), 3, 32, 0, 0, 0, 0, []),
  (4, .iload_n 0, 1, 0, 0, 0, 0, 0, []),
  (5, .bipush (12), 2, 0, 0, 0, (12), 0, []),
  (7, .if_icmp .ge (25), 3, 32, 0, 0, 0, 0, []),
  (10, .iload_n 1, 1, 1, 0, 0, 0, 0, []),
  (11, .getstatic 395, 3, 1, 0, 0, 0, 0, []),
  (14, .iload_n 0, 1, 0, 0, 0, 0, 0, []),
  (15, .iaload, 1, 0, 0, 0, 0, 0, []),
  (16, .if_icmp .lt (16), 3, 32, 0, 0, 0, 0, []),
  (19, .iload_n 1, 1, 1, 0, 0, 0, 0, []),
  (20, .getstatic 398, 3, 2, 0, 0, 0, 0, []),
  (23, .iload_n 0, 1, 0, 0, 0, 0, 0, []),
  (24, .iaload, 1, 0, 0, 0, 0, 0, []),
  (25, .if_icmp .gt (7), 3, 32, 0, 0, 0, 0, []),
  (28, .iconst (1), 1, 0, 0, 0, (1), 0, []),
  (29, .goto (4), 3, 33, 0, 0, 0, 0, [])]
set_option maxRecDepth 100000 in
theorem lX11_fits_0_ck : lX11_fits_0.all (ra_ck mX11_fits 11) = true := by decide +kernel
def nX11_fits_0 (N : Nat) (a0 : Int32) (a1 : Int32) (h : ra_H) : Option (Int32 × ra_H) :=
  if a0 < 0 then
    nX11_fits_32 N h
  else
    if a0 < ((12 : Int32)) then
      (ra_xI h ((1 : UInt32)) a0).bind fun x1 =>
      if a1 < x1 then
        nX11_fits_32 N h
      else
        (ra_xI h ((2 : UInt32)) a0).bind fun x2 =>
        if a1 ≤ x2 then
          nX11_fits_33 N ((1 : Int32)) h
        else
          nX11_fits_32 N h
    else
      nX11_fits_32 N h
def kX11_fits_0 (N : Nat) : Nat → List (Option Value) → List Value → ra_H → Option (Int32 × ra_H) := (ra_k1 32 (fun L S h => match L, S with
  | [_, _], [] => nX11_fits_32 N h
  | _, _ => none) (ra_k1 33 (fun L S h => match L, S with
  | [_, _], [.int b0] => nX11_fits_33 N b0 h
  | _, _ => none) ra_k0))
theorem kX11_fits_0_ok (N : Nat) : ra_kok 1 mX11_fits ra_oI (kX11_fits_0 N) := (ra_k1_ok (by
  intro L S h a e
  split at e
  · exact ra_Ru.weak (nX11_fits_32_ok N _ _ e) trivial
  · cases e) (ra_k1_ok (by
  intro L S h a e
  split at e
  · exact ra_Ru.weak (nX11_fits_33_ok N _ _ _ e) trivial
  · cases e) ra_k0_ok))
set_option maxRecDepth 100000 in
theorem nX11_fits_0_ok (N : Nat) (a0 : Int32) (a1 : Int32) (h : ra_H) (r : (Int32 × ra_H)) (e : nX11_fits_0 N a0 a1 h = some r) : ra_Ru 1 mX11_fits 0 [some (.int a0), some (.int a1)] [] h (ra_oI r) :=
  ra_sound (by omega) rfl ra_rI_ok (kX11_fits_0_ok N) (fun m av h h1 e => (ra_c0_ok (ro := ra_oV)) m av h h1 e) (fun m av h x h1 e => (ra_c0_ok (ro := ra_oI)) m av h (x, h1) e) (fun m av h x h1 e => (ra_c0_ok (ro := ra_oJ)) m av h (x, h1) e) (fun m av h x h1 e => (ra_c0_ok (ro := ra_oR)) m av h (x, h1) e) (fun m av h x h1 e => (ra_c0_ok (ro := ra_oN)) m av h (x, h1) e) (fun m av h x h1 e => (ra_c0_ok (ro := ra_oF)) m av h (x, h1) e) 18 lX11_fits_0 _ _ _ _ lX11_fits_0_ck (show ra_run ra_rI (kX11_fits_0 N) ra_c0 ra_c0 ra_c0 ra_c0 ra_c0 ra_c0 18 lX11_fits_0 [some (.int a0), some (.int a1)] [] h = some r from e) _ _ rfl
def fX11_fits (N : Nat) (p0 : Int32) (p1 : Int32) (h : ra_H) : Option (Int32 × ra_H) := (nX11_fits_0 N p0 p1 h).bind (fun q => ra_rz q.1 q.2)
set_option maxRecDepth 100000 in
theorem mtX11_fits : ra_MT[15]? = some (mX11_fits, 0, 2, (1, 1), (2, 239), (0, 0)) := rfl
theorem fX11_fits_co (N : Nat) (p0 : Int32) (p1 : Int32) (h : ra_H) (r : (Int32 × ra_H)) (e : fX11_fits N p0 p1 h = some r) (D : Nat) (hD : 2 ≤ D) : ra_CO D 15 [.int p0, .int p1] h (ra_oI r).1 (ra_oI r).2 := by
  have hw : ra_nw2 [.int p0, .int p1] ≤ 2 := Nat.le_of_ble_eq_true rfl
  have hdb : ∀ v ∈ ([.int p0, .int p1] : List Value), ∀ x, v ≠ .double x := by
    intro v hv x hx
    simp [hx] at hv
  unfold fX11_fits at e
  obtain ⟨q, e1, e2⟩ := Option.bind_eq_some_iff.mp e
  obtain ⟨rfl, hz⟩ := ra_rz_of e2
  exact ⟨1, _, mtX11_fits, hD, ra_ev_of (by decide) hdb hw hz (ra_Ru.weak (nX11_fits_0_ok N p0 p1 h _ e1) ⟨rfl, ⟨rfl, trivial⟩⟩), (fun h => absurd h (by decide)), (fun h => absurd h (by decide))⟩
/-! RedMarks.areBookNumbers(III)Z -/
def mX11_areBookNumbers : ra_M := (yX11_areBookNumbers, cX11_areBookNumbers, 3, (some .boolean))
def tIX11_areBookNumbers (N : Nat) : Nat → List Value → ra_H → Option (Int32 × ra_H) := (ra_c1 15 (fun av h => match av with
  | [.int z0, .int z1] => fX11_fits N z0 z1 h
  | _ => none) ra_c0)
theorem tIX11_areBookNumbers_ok (N : Nat) : ra_cok 2 ra_oI (tIX11_areBookNumbers N) := (ra_c1_ok (by
  intro av h a e
  split at e
  · exact fX11_fits_co N _ _ _ _ e 2 (by omega)
  · cases e) ra_c0_ok)
def lX11_areBookNumbers_29 : List ra_I := [(29, .ireturn, 1, 0, 0, 0, 0, 0, [])]
set_option maxRecDepth 100000 in
theorem lX11_areBookNumbers_29_ck : lX11_areBookNumbers_29.all (ra_ck mX11_areBookNumbers 11) = true := by decide +kernel
def nX11_areBookNumbers_29 (N : Nat) (b0 : Int32) (h : ra_H) : Option (Int32 × ra_H) :=
  some (b0, h)
def kX11_areBookNumbers_29 (N : Nat) : Nat → List (Option Value) → List Value → ra_H → Option (Int32 × ra_H) := ra_k0
theorem kX11_areBookNumbers_29_ok (N : Nat) : ra_kok 2 mX11_areBookNumbers ra_oI (kX11_areBookNumbers_29 N) := ra_k0_ok
set_option maxRecDepth 100000 in
theorem nX11_areBookNumbers_29_ok (N : Nat) (b0 : Int32) (h : ra_H) (r : (Int32 × ra_H)) (e : nX11_areBookNumbers_29 N b0 h = some r) : ra_Ru 2 mX11_areBookNumbers 29 [none, none, none] [.int b0] h (ra_oI r) :=
  ra_sound (by omega) rfl ra_rI_ok (kX11_areBookNumbers_29_ok N) (fun m av h h1 e => (ra_c0_ok (ro := ra_oV)) m av h h1 e) (fun m av h x h1 e => (tIX11_areBookNumbers_ok N) m av h (x, h1) e) (fun m av h x h1 e => (ra_c0_ok (ro := ra_oJ)) m av h (x, h1) e) (fun m av h x h1 e => (ra_c0_ok (ro := ra_oR)) m av h (x, h1) e) (fun m av h x h1 e => (ra_c0_ok (ro := ra_oN)) m av h (x, h1) e) (fun m av h x h1 e => (ra_c0_ok (ro := ra_oF)) m av h (x, h1) e) 2 lX11_areBookNumbers_29 _ _ _ _ lX11_areBookNumbers_29_ck (show ra_run ra_rI (kX11_areBookNumbers_29 N) ra_c0 (tIX11_areBookNumbers N) ra_c0 ra_c0 ra_c0 ra_c0 2 lX11_areBookNumbers_29 [none, none, none] [.int b0] h = some r from e) _ _ rfl
def lX11_areBookNumbers_28 : List ra_I := [(28, .iconst (0), 1, 0, 0, 0, (0), 0, [])]
set_option maxRecDepth 100000 in
theorem lX11_areBookNumbers_28_ck : lX11_areBookNumbers_28.all (ra_ck mX11_areBookNumbers 11) = true := by decide +kernel
def nX11_areBookNumbers_28 (N : Nat) (h : ra_H) : Option (Int32 × ra_H) :=
  nX11_areBookNumbers_29 N ((0 : Int32)) h
def kX11_areBookNumbers_28 (N : Nat) : Nat → List (Option Value) → List Value → ra_H → Option (Int32 × ra_H) := (ra_k1 29 (fun L S h => match L, S with
  | [_, _, _], [.int b0] => nX11_areBookNumbers_29 N b0 h
  | _, _ => none) ra_k0)
theorem kX11_areBookNumbers_28_ok (N : Nat) : ra_kok 2 mX11_areBookNumbers ra_oI (kX11_areBookNumbers_28 N) := (ra_k1_ok (by
  intro L S h a e
  split at e
  · exact ra_Ru.weak (nX11_areBookNumbers_29_ok N _ _ _ e) trivial
  · cases e) ra_k0_ok)
set_option maxRecDepth 100000 in
theorem nX11_areBookNumbers_28_ok (N : Nat) (h : ra_H) (r : (Int32 × ra_H)) (e : nX11_areBookNumbers_28 N h = some r) : ra_Ru 2 mX11_areBookNumbers 28 [none, none, none] [] h (ra_oI r) :=
  ra_sound (by omega) rfl ra_rI_ok (kX11_areBookNumbers_28_ok N) (fun m av h h1 e => (ra_c0_ok (ro := ra_oV)) m av h h1 e) (fun m av h x h1 e => (tIX11_areBookNumbers_ok N) m av h (x, h1) e) (fun m av h x h1 e => (ra_c0_ok (ro := ra_oJ)) m av h (x, h1) e) (fun m av h x h1 e => (ra_c0_ok (ro := ra_oR)) m av h (x, h1) e) (fun m av h x h1 e => (ra_c0_ok (ro := ra_oN)) m av h (x, h1) e) (fun m av h x h1 e => (ra_c0_ok (ro := ra_oF)) m av h (x, h1) e) 2 lX11_areBookNumbers_28 _ _ _ _ lX11_areBookNumbers_28_ck (show ra_run ra_rI (kX11_areBookNumbers_28 N) ra_c0 (tIX11_areBookNumbers N) ra_c0 ra_c0 ra_c0 ra_c0 2 lX11_areBookNumbers_28 [none, none, none] [] h = some r from e) _ _ rfl
def lX11_areBookNumbers_0 : List ra_I := [(0, .iconst (2), 1, 0, 0, 0, (2), 0, []),
  (1, .iload_n 0, 1, 0, 0, 0, 0, 0, []),
  (2, .invokestatic 109, 3, 15, 2, 1, 0, 0, []),
  (5, .ifCond .eq (23), 3, 28, 0, 0, 0, 0, []),
  (8, .iconst (3), 1, 0, 0, 0, (3), 0, []),
  (9, .iload_n 1, 1, 1, 0, 0, 0, 0, []),
  (10, .invokestatic 109, 3, 15, 2, 1, 0, 0, []),
  (13, .ifCond .eq (15), 3, 28, 0, 0, 0, 0, []),
  (16, .iconst (4), 1, 0, 0, 0, (4), 0, []),
  (17, .iload_n 2, 1, 2, 0, 0, 0, 0, []),
  (18, .invokestatic 109, 3, 15, 2, 1, 0, 0, []),
  (21, .ifCond .eq (7), 3, 28, 0, 0, 0, 0, []),
  (24, .iconst (1), 1, 0, 0, 0, (1), 0, []),
  (25, .goto (4), 3, 29, 0, 0, 0, 0, [])]
set_option maxRecDepth 100000 in
theorem lX11_areBookNumbers_0_ck : lX11_areBookNumbers_0.all (ra_ck mX11_areBookNumbers 11) = true := by decide +kernel
def nX11_areBookNumbers_0 (N : Nat) (a0 : Int32) (a1 : Int32) (a2 : Int32) (h : ra_H) : Option (Int32 × ra_H) :=
  (fX11_fits N ((2 : Int32)) a0 h).bind fun q1 =>
  if q1.1 = 0 then
    nX11_areBookNumbers_28 N q1.2
  else
    (fX11_fits N ((3 : Int32)) a1 q1.2).bind fun q2 =>
    if q2.1 = 0 then
      nX11_areBookNumbers_28 N q2.2
    else
      (fX11_fits N ((4 : Int32)) a2 q2.2).bind fun q3 =>
      if q3.1 = 0 then
        nX11_areBookNumbers_28 N q3.2
      else
        nX11_areBookNumbers_29 N ((1 : Int32)) q3.2
def kX11_areBookNumbers_0 (N : Nat) : Nat → List (Option Value) → List Value → ra_H → Option (Int32 × ra_H) := (ra_k1 28 (fun L S h => match L, S with
  | [_, _, _], [] => nX11_areBookNumbers_28 N h
  | _, _ => none) (ra_k1 29 (fun L S h => match L, S with
  | [_, _, _], [.int b0] => nX11_areBookNumbers_29 N b0 h
  | _, _ => none) ra_k0))
theorem kX11_areBookNumbers_0_ok (N : Nat) : ra_kok 2 mX11_areBookNumbers ra_oI (kX11_areBookNumbers_0 N) := (ra_k1_ok (by
  intro L S h a e
  split at e
  · exact ra_Ru.weak (nX11_areBookNumbers_28_ok N _ _ e) trivial
  · cases e) (ra_k1_ok (by
  intro L S h a e
  split at e
  · exact ra_Ru.weak (nX11_areBookNumbers_29_ok N _ _ _ e) trivial
  · cases e) ra_k0_ok))
set_option maxRecDepth 100000 in
theorem nX11_areBookNumbers_0_ok (N : Nat) (a0 : Int32) (a1 : Int32) (a2 : Int32) (h : ra_H) (r : (Int32 × ra_H)) (e : nX11_areBookNumbers_0 N a0 a1 a2 h = some r) : ra_Ru 2 mX11_areBookNumbers 0 [some (.int a0), some (.int a1), some (.int a2)] [] h (ra_oI r) :=
  ra_sound (by omega) rfl ra_rI_ok (kX11_areBookNumbers_0_ok N) (fun m av h h1 e => (ra_c0_ok (ro := ra_oV)) m av h h1 e) (fun m av h x h1 e => (tIX11_areBookNumbers_ok N) m av h (x, h1) e) (fun m av h x h1 e => (ra_c0_ok (ro := ra_oJ)) m av h (x, h1) e) (fun m av h x h1 e => (ra_c0_ok (ro := ra_oR)) m av h (x, h1) e) (fun m av h x h1 e => (ra_c0_ok (ro := ra_oN)) m av h (x, h1) e) (fun m av h x h1 e => (ra_c0_ok (ro := ra_oF)) m av h (x, h1) e) 15 lX11_areBookNumbers_0 _ _ _ _ lX11_areBookNumbers_0_ck (show ra_run ra_rI (kX11_areBookNumbers_0 N) ra_c0 (tIX11_areBookNumbers N) ra_c0 ra_c0 ra_c0 ra_c0 15 lX11_areBookNumbers_0 [some (.int a0), some (.int a1), some (.int a2)] [] h = some r from e) _ _ rfl
def fX11_areBookNumbers (N : Nat) (p0 : Int32) (p1 : Int32) (p2 : Int32) (h : ra_H) : Option (Int32 × ra_H) := (nX11_areBookNumbers_0 N p0 p1 p2 h).bind (fun q => ra_rz q.1 q.2)
set_option maxRecDepth 100000 in
theorem mtX11_areBookNumbers : ra_MT[16]? = some (mX11_areBookNumbers, 0, 3, (1, 1), (3, 6), (0, 0)) := rfl
theorem fX11_areBookNumbers_co (N : Nat) (p0 : Int32) (p1 : Int32) (p2 : Int32) (h : ra_H) (r : (Int32 × ra_H)) (e : fX11_areBookNumbers N p0 p1 p2 h = some r) (D : Nat) (hD : 3 ≤ D) : ra_CO D 16 [.int p0, .int p1, .int p2] h (ra_oI r).1 (ra_oI r).2 := by
  have hw : ra_nw2 [.int p0, .int p1, .int p2] ≤ 3 := Nat.le_of_ble_eq_true rfl
  have hdb : ∀ v ∈ ([.int p0, .int p1, .int p2] : List Value), ∀ x, v ≠ .double x := by
    intro v hv x hx
    simp [hx] at hv
  unfold fX11_areBookNumbers at e
  obtain ⟨q, e1, e2⟩ := Option.bind_eq_some_iff.mp e
  obtain ⟨rfl, hz⟩ := ra_rz_of e2
  exact ⟨2, _, mtX11_areBookNumbers, hD, ra_ev_of (by decide) hdb hw hz (ra_Ru.weak (nX11_areBookNumbers_0_ok N p0 p1 p2 h _ e1) ⟨rfl, ⟨rfl, ⟨rfl, trivial⟩⟩⟩), (fun h => absurd h (by decide)), (fun h => absurd h (by decide))⟩
/-! RedMarks.isMarkOrNone(II)Z -/
def mX11_isMarkOrNone : ra_M := (yX11_isMarkOrNone, cX11_isMarkOrNone, 2, (some .boolean))
def tIX11_isMarkOrNone (N : Nat) : Nat → List Value → ra_H → Option (Int32 × ra_H) := (ra_c1 15 (fun av h => match av with
  | [.int z0, .int z1] => fX11_fits N z0 z1 h
  | _ => none) ra_c0)
theorem tIX11_isMarkOrNone_ok (N : Nat) : ra_cok 2 ra_oI (tIX11_isMarkOrNone N) := (ra_c1_ok (by
  intro av h a e
  split at e
  · exact fX11_fits_co N _ _ _ _ e 2 (by omega)
  · cases e) ra_c0_ok)
def lX11_isMarkOrNone_31 : List ra_I := [(31, .ireturn, 1, 0, 0, 0, 0, 0, [])]
set_option maxRecDepth 100000 in
theorem lX11_isMarkOrNone_31_ck : lX11_isMarkOrNone_31.all (ra_ck mX11_isMarkOrNone 11) = true := by decide +kernel
def nX11_isMarkOrNone_31 (N : Nat) (b0 : Int32) (h : ra_H) : Option (Int32 × ra_H) :=
  some (b0, h)
def kX11_isMarkOrNone_31 (N : Nat) : Nat → List (Option Value) → List Value → ra_H → Option (Int32 × ra_H) := ra_k0
theorem kX11_isMarkOrNone_31_ok (N : Nat) : ra_kok 2 mX11_isMarkOrNone ra_oI (kX11_isMarkOrNone_31 N) := ra_k0_ok
set_option maxRecDepth 100000 in
theorem nX11_isMarkOrNone_31_ok (N : Nat) (b0 : Int32) (h : ra_H) (r : (Int32 × ra_H)) (e : nX11_isMarkOrNone_31 N b0 h = some r) : ra_Ru 2 mX11_isMarkOrNone 31 [none, none] [.int b0] h (ra_oI r) :=
  ra_sound (by omega) rfl ra_rI_ok (kX11_isMarkOrNone_31_ok N) (fun m av h h1 e => (ra_c0_ok (ro := ra_oV)) m av h h1 e) (fun m av h x h1 e => (tIX11_isMarkOrNone_ok N) m av h (x, h1) e) (fun m av h x h1 e => (ra_c0_ok (ro := ra_oJ)) m av h (x, h1) e) (fun m av h x h1 e => (ra_c0_ok (ro := ra_oR)) m av h (x, h1) e) (fun m av h x h1 e => (ra_c0_ok (ro := ra_oN)) m av h (x, h1) e) (fun m av h x h1 e => (ra_c0_ok (ro := ra_oF)) m av h (x, h1) e) 2 lX11_isMarkOrNone_31 _ _ _ _ lX11_isMarkOrNone_31_ck (show ra_run ra_rI (kX11_isMarkOrNone_31 N) ra_c0 (tIX11_isMarkOrNone N) ra_c0 ra_c0 ra_c0 ra_c0 2 lX11_isMarkOrNone_31 [none, none] [.int b0] h = some r from e) _ _ rfl
def lX11_isMarkOrNone_26 : List ra_I := [(26, .iconst (1), 1, 0, 0, 0, (1), 0, []),
  (27, .goto (4), 3, 31, 0, 0, 0, 0, [])]
set_option maxRecDepth 100000 in
theorem lX11_isMarkOrNone_26_ck : lX11_isMarkOrNone_26.all (ra_ck mX11_isMarkOrNone 11) = true := by decide +kernel
def nX11_isMarkOrNone_26 (N : Nat) (h : ra_H) : Option (Int32 × ra_H) :=
  nX11_isMarkOrNone_31 N ((1 : Int32)) h
def kX11_isMarkOrNone_26 (N : Nat) : Nat → List (Option Value) → List Value → ra_H → Option (Int32 × ra_H) := (ra_k1 31 (fun L S h => match L, S with
  | [_, _], [.int b0] => nX11_isMarkOrNone_31 N b0 h
  | _, _ => none) ra_k0)
theorem kX11_isMarkOrNone_26_ok (N : Nat) : ra_kok 2 mX11_isMarkOrNone ra_oI (kX11_isMarkOrNone_26 N) := (ra_k1_ok (by
  intro L S h a e
  split at e
  · exact ra_Ru.weak (nX11_isMarkOrNone_31_ok N _ _ _ e) trivial
  · cases e) ra_k0_ok)
set_option maxRecDepth 100000 in
theorem nX11_isMarkOrNone_26_ok (N : Nat) (h : ra_H) (r : (Int32 × ra_H)) (e : nX11_isMarkOrNone_26 N h = some r) : ra_Ru 2 mX11_isMarkOrNone 26 [none, none] [] h (ra_oI r) :=
  ra_sound (by omega) rfl ra_rI_ok (kX11_isMarkOrNone_26_ok N) (fun m av h h1 e => (ra_c0_ok (ro := ra_oV)) m av h h1 e) (fun m av h x h1 e => (tIX11_isMarkOrNone_ok N) m av h (x, h1) e) (fun m av h x h1 e => (ra_c0_ok (ro := ra_oJ)) m av h (x, h1) e) (fun m av h x h1 e => (ra_c0_ok (ro := ra_oR)) m av h (x, h1) e) (fun m av h x h1 e => (ra_c0_ok (ro := ra_oN)) m av h (x, h1) e) (fun m av h x h1 e => (ra_c0_ok (ro := ra_oF)) m av h (x, h1) e) 3 lX11_isMarkOrNone_26 _ _ _ _ lX11_isMarkOrNone_26_ck (show ra_run ra_rI (kX11_isMarkOrNone_26 N) ra_c0 (tIX11_isMarkOrNone N) ra_c0 ra_c0 ra_c0 ra_c0 3 lX11_isMarkOrNone_26 [none, none] [] h = some r from e) _ _ rfl
def lX11_isMarkOrNone_30 : List ra_I := [(30, .iconst (0), 1, 0, 0, 0, (0), 0, [])]
set_option maxRecDepth 100000 in
theorem lX11_isMarkOrNone_30_ck : lX11_isMarkOrNone_30.all (ra_ck mX11_isMarkOrNone 11) = true := by decide +kernel
def nX11_isMarkOrNone_30 (N : Nat) (h : ra_H) : Option (Int32 × ra_H) :=
  nX11_isMarkOrNone_31 N ((0 : Int32)) h
def kX11_isMarkOrNone_30 (N : Nat) : Nat → List (Option Value) → List Value → ra_H → Option (Int32 × ra_H) := (ra_k1 31 (fun L S h => match L, S with
  | [_, _], [.int b0] => nX11_isMarkOrNone_31 N b0 h
  | _, _ => none) ra_k0)
theorem kX11_isMarkOrNone_30_ok (N : Nat) : ra_kok 2 mX11_isMarkOrNone ra_oI (kX11_isMarkOrNone_30 N) := (ra_k1_ok (by
  intro L S h a e
  split at e
  · exact ra_Ru.weak (nX11_isMarkOrNone_31_ok N _ _ _ e) trivial
  · cases e) ra_k0_ok)
set_option maxRecDepth 100000 in
theorem nX11_isMarkOrNone_30_ok (N : Nat) (h : ra_H) (r : (Int32 × ra_H)) (e : nX11_isMarkOrNone_30 N h = some r) : ra_Ru 2 mX11_isMarkOrNone 30 [none, none] [] h (ra_oI r) :=
  ra_sound (by omega) rfl ra_rI_ok (kX11_isMarkOrNone_30_ok N) (fun m av h h1 e => (ra_c0_ok (ro := ra_oV)) m av h h1 e) (fun m av h x h1 e => (tIX11_isMarkOrNone_ok N) m av h (x, h1) e) (fun m av h x h1 e => (ra_c0_ok (ro := ra_oJ)) m av h (x, h1) e) (fun m av h x h1 e => (ra_c0_ok (ro := ra_oR)) m av h (x, h1) e) (fun m av h x h1 e => (ra_c0_ok (ro := ra_oN)) m av h (x, h1) e) (fun m av h x h1 e => (ra_c0_ok (ro := ra_oF)) m av h (x, h1) e) 2 lX11_isMarkOrNone_30 _ _ _ _ lX11_isMarkOrNone_30_ck (show ra_run ra_rI (kX11_isMarkOrNone_30 N) ra_c0 (tIX11_isMarkOrNone N) ra_c0 ra_c0 ra_c0 ra_c0 2 lX11_isMarkOrNone_30 [none, none] [] h = some r from e) _ _ rfl
def lX11_isMarkOrNone_10 : List ra_I := [(10, .iconst (0), 1, 0, 0, 0, (0), 0, []),
  (11, .iload_n 0, 1, 0, 0, 0, 0, 0, []),
  (12, .invokestatic 109, 3, 15, 2, 1, 0, 0, []),
  (15, .ifCond .eq (15), 3, 30, 0, 0, 0, 0, []),
  (18, .iconst (1), 1, 0, 0, 0, (1), 0, []),
  (19, .iload_n 1, 1, 1, 0, 0, 0, 0, []),
  (20, .invokestatic 109, 3, 15, 2, 1, 0, 0, []),
  (23, .ifCond .eq (7), 3, 30, 0, 0, 0, 0, [])]
set_option maxRecDepth 100000 in
theorem lX11_isMarkOrNone_10_ck : lX11_isMarkOrNone_10.all (ra_ck mX11_isMarkOrNone 11) = true := by decide +kernel
def nX11_isMarkOrNone_10 (N : Nat) (a0 : Int32) (a1 : Int32) (h : ra_H) : Option (Int32 × ra_H) :=
  (fX11_fits N ((0 : Int32)) a0 h).bind fun q1 =>
  if q1.1 = 0 then
    nX11_isMarkOrNone_30 N q1.2
  else
    (fX11_fits N ((1 : Int32)) a1 q1.2).bind fun q2 =>
    if q2.1 = 0 then
      nX11_isMarkOrNone_30 N q2.2
    else
      nX11_isMarkOrNone_26 N q2.2
def kX11_isMarkOrNone_10 (N : Nat) : Nat → List (Option Value) → List Value → ra_H → Option (Int32 × ra_H) := (ra_k1 26 (fun L S h => match L, S with
  | [_, _], [] => nX11_isMarkOrNone_26 N h
  | _, _ => none) (ra_k1 30 (fun L S h => match L, S with
  | [_, _], [] => nX11_isMarkOrNone_30 N h
  | _, _ => none) ra_k0))
theorem kX11_isMarkOrNone_10_ok (N : Nat) : ra_kok 2 mX11_isMarkOrNone ra_oI (kX11_isMarkOrNone_10 N) := (ra_k1_ok (by
  intro L S h a e
  split at e
  · exact ra_Ru.weak (nX11_isMarkOrNone_26_ok N _ _ e) trivial
  · cases e) (ra_k1_ok (by
  intro L S h a e
  split at e
  · exact ra_Ru.weak (nX11_isMarkOrNone_30_ok N _ _ e) trivial
  · cases e) ra_k0_ok))
set_option maxRecDepth 100000 in
theorem nX11_isMarkOrNone_10_ok (N : Nat) (a0 : Int32) (a1 : Int32) (h : ra_H) (r : (Int32 × ra_H)) (e : nX11_isMarkOrNone_10 N a0 a1 h = some r) : ra_Ru 2 mX11_isMarkOrNone 10 [some (.int a0), some (.int a1)] [] h (ra_oI r) :=
  ra_sound (by omega) rfl ra_rI_ok (kX11_isMarkOrNone_10_ok N) (fun m av h h1 e => (ra_c0_ok (ro := ra_oV)) m av h h1 e) (fun m av h x h1 e => (tIX11_isMarkOrNone_ok N) m av h (x, h1) e) (fun m av h x h1 e => (ra_c0_ok (ro := ra_oJ)) m av h (x, h1) e) (fun m av h x h1 e => (ra_c0_ok (ro := ra_oR)) m av h (x, h1) e) (fun m av h x h1 e => (ra_c0_ok (ro := ra_oN)) m av h (x, h1) e) (fun m av h x h1 e => (ra_c0_ok (ro := ra_oF)) m av h (x, h1) e) 9 lX11_isMarkOrNone_10 _ _ _ _ lX11_isMarkOrNone_10_ck (show ra_run ra_rI (kX11_isMarkOrNone_10 N) ra_c0 (tIX11_isMarkOrNone N) ra_c0 ra_c0 ra_c0 ra_c0 9 lX11_isMarkOrNone_10 [some (.int a0), some (.int a1)] [] h = some r from e) _ _ rfl
def lX11_isMarkOrNone_0 : List ra_I := [(0, .iload_n 0, 1, 0, 0, 0, 0, 0, []),
  (1, .iconst (-1), 1, 0, 0, 0, (-1), 0, []),
  (2, .if_icmp .ne (8), 3, 10, 0, 0, 0, 0, []),
  (5, .iload_n 1, 1, 1, 0, 0, 0, 0, []),
  (6, .iconst (-1), 1, 0, 0, 0, (-1), 0, []),
  (7, .if_icmp .eq (19), 3, 26, 0, 0, 0, 0, [])]
set_option maxRecDepth 100000 in
theorem lX11_isMarkOrNone_0_ck : lX11_isMarkOrNone_0.all (ra_ck mX11_isMarkOrNone 11) = true := by decide +kernel
def nX11_isMarkOrNone_0 (N : Nat) (a0 : Int32) (a1 : Int32) (h : ra_H) : Option (Int32 × ra_H) :=
  if a0 = ((-1 : Int32)) then
    if a1 = ((-1 : Int32)) then
      nX11_isMarkOrNone_26 N h
    else
      nX11_isMarkOrNone_10 N a0 a1 h
  else
    nX11_isMarkOrNone_10 N a0 a1 h
def kX11_isMarkOrNone_0 (N : Nat) : Nat → List (Option Value) → List Value → ra_H → Option (Int32 × ra_H) := (ra_k1 10 (fun L S h => match L, S with
  | [some (.int a0), some (.int a1)], [] => nX11_isMarkOrNone_10 N a0 a1 h
  | _, _ => none) (ra_k1 26 (fun L S h => match L, S with
  | [_, _], [] => nX11_isMarkOrNone_26 N h
  | _, _ => none) ra_k0))
theorem kX11_isMarkOrNone_0_ok (N : Nat) : ra_kok 2 mX11_isMarkOrNone ra_oI (kX11_isMarkOrNone_0 N) := (ra_k1_ok (by
  intro L S h a e
  split at e
  · exact ra_Ru.weak (nX11_isMarkOrNone_10_ok N _ _ _ _ e) ⟨rfl, ⟨rfl, trivial⟩⟩
  · cases e) (ra_k1_ok (by
  intro L S h a e
  split at e
  · exact ra_Ru.weak (nX11_isMarkOrNone_26_ok N _ _ e) trivial
  · cases e) ra_k0_ok))
set_option maxRecDepth 100000 in
theorem nX11_isMarkOrNone_0_ok (N : Nat) (a0 : Int32) (a1 : Int32) (h : ra_H) (r : (Int32 × ra_H)) (e : nX11_isMarkOrNone_0 N a0 a1 h = some r) : ra_Ru 2 mX11_isMarkOrNone 0 [some (.int a0), some (.int a1)] [] h (ra_oI r) :=
  ra_sound (by omega) rfl ra_rI_ok (kX11_isMarkOrNone_0_ok N) (fun m av h h1 e => (ra_c0_ok (ro := ra_oV)) m av h h1 e) (fun m av h x h1 e => (tIX11_isMarkOrNone_ok N) m av h (x, h1) e) (fun m av h x h1 e => (ra_c0_ok (ro := ra_oJ)) m av h (x, h1) e) (fun m av h x h1 e => (ra_c0_ok (ro := ra_oR)) m av h (x, h1) e) (fun m av h x h1 e => (ra_c0_ok (ro := ra_oN)) m av h (x, h1) e) (fun m av h x h1 e => (ra_c0_ok (ro := ra_oF)) m av h (x, h1) e) 7 lX11_isMarkOrNone_0 _ _ _ _ lX11_isMarkOrNone_0_ck (show ra_run ra_rI (kX11_isMarkOrNone_0 N) ra_c0 (tIX11_isMarkOrNone N) ra_c0 ra_c0 ra_c0 ra_c0 7 lX11_isMarkOrNone_0 [some (.int a0), some (.int a1)] [] h = some r from e) _ _ rfl
def fX11_isMarkOrNone (N : Nat) (p0 : Int32) (p1 : Int32) (h : ra_H) : Option (Int32 × ra_H) := (nX11_isMarkOrNone_0 N p0 p1 h).bind (fun q => ra_rz q.1 q.2)
set_option maxRecDepth 100000 in
theorem mtX11_isMarkOrNone : ra_MT[14]? = some (mX11_isMarkOrNone, 0, 2, (1, 1), (2, 236), (0, 0)) := rfl
theorem fX11_isMarkOrNone_co (N : Nat) (p0 : Int32) (p1 : Int32) (h : ra_H) (r : (Int32 × ra_H)) (e : fX11_isMarkOrNone N p0 p1 h = some r) (D : Nat) (hD : 3 ≤ D) : ra_CO D 14 [.int p0, .int p1] h (ra_oI r).1 (ra_oI r).2 := by
  have hw : ra_nw2 [.int p0, .int p1] ≤ 2 := Nat.le_of_ble_eq_true rfl
  have hdb : ∀ v ∈ ([.int p0, .int p1] : List Value), ∀ x, v ≠ .double x := by
    intro v hv x hx
    simp [hx] at hv
  unfold fX11_isMarkOrNone at e
  obtain ⟨q, e1, e2⟩ := Option.bind_eq_some_iff.mp e
  obtain ⟨rfl, hz⟩ := ra_rz_of e2
  exact ⟨2, _, mtX11_isMarkOrNone, hD, ra_ev_of (by decide) hdb hw hz (ra_Ru.weak (nX11_isMarkOrNone_0_ok N p0 p1 h _ e1) ⟨rfl, ⟨rfl, trivial⟩⟩), (fun h => absurd h (by decide)), (fun h => absurd h (by decide))⟩
/-! RedMarks.addFromTape(I)Z -/
def mX11_addFromTape : ra_M := (yX11_addFromTape, cX11_addFromTape, 7, (some .boolean))
def tIX11_addFromTape (N : Nat) : Nat → List Value → ra_H → Option (Int32 × ra_H) := (ra_c1 14 (fun av h => match av with
  | [.int z0, .int z1] => fX11_isMarkOrNone N z0 z1 h
  | _ => none) (ra_c1 16 (fun av h => match av with
  | [.int z0, .int z1, .int z2] => fX11_areBookNumbers N z0 z1 z2 h
  | _ => none) (ra_c1 18 (fun av h => match av with
  | [.ref z0, .int z1, .int z2, .int z3, .int z4, .int z5] => fX11_addBook N z0 z1 z2 z3 z4 z5 h
  | _ => none) ra_c0)))
theorem tIX11_addFromTape_ok (N : Nat) : ra_cok 5 ra_oI (tIX11_addFromTape N) := (ra_c1_ok (by
  intro av h a e
  split at e
  · exact fX11_isMarkOrNone_co N _ _ _ _ e 5 (by omega)
  · cases e) (ra_c1_ok (by
  intro av h a e
  split at e
  · exact fX11_areBookNumbers_co N _ _ _ _ _ e 5 (by omega)
  · cases e) (ra_c1_ok (by
  intro av h a e
  split at e
  · exact fX11_addBook_co N _ _ _ _ _ _ _ _ e 5 (by omega)
  · cases e) ra_c0_ok)))
def lX11_addFromTape_25 : List ra_I := [(25, .iconst (0), 1, 0, 0, 0, (0), 0, []),
  (26, .ireturn, 1, 0, 0, 0, 0, 0, [])]
set_option maxRecDepth 100000 in
theorem lX11_addFromTape_25_ck : lX11_addFromTape_25.all (ra_ck mX11_addFromTape 11) = true := by decide +kernel
def nX11_addFromTape_25 (N : Nat) (h : ra_H) : Option (Int32 × ra_H) :=
  some ((0 : Int32), h)
def kX11_addFromTape_25 (N : Nat) : Nat → List (Option Value) → List Value → ra_H → Option (Int32 × ra_H) := ra_k0
theorem kX11_addFromTape_25_ok (N : Nat) : ra_kok 5 mX11_addFromTape ra_oI (kX11_addFromTape_25 N) := ra_k0_ok
set_option maxRecDepth 100000 in
theorem nX11_addFromTape_25_ok (N : Nat) (h : ra_H) (r : (Int32 × ra_H)) (e : nX11_addFromTape_25 N h = some r) : ra_Ru 5 mX11_addFromTape 25 [none, none, none, none, none, none, none] [] h (ra_oI r) :=
  ra_sound (by omega) rfl ra_rI_ok (kX11_addFromTape_25_ok N) (fun m av h h1 e => (ra_c0_ok (ro := ra_oV)) m av h h1 e) (fun m av h x h1 e => (tIX11_addFromTape_ok N) m av h (x, h1) e) (fun m av h x h1 e => (ra_c0_ok (ro := ra_oJ)) m av h (x, h1) e) (fun m av h x h1 e => (ra_c0_ok (ro := ra_oR)) m av h (x, h1) e) (fun m av h x h1 e => (ra_c0_ok (ro := ra_oN)) m av h (x, h1) e) (fun m av h x h1 e => (ra_c0_ok (ro := ra_oF)) m av h (x, h1) e) 3 lX11_addFromTape_25 _ _ _ _ lX11_addFromTape_25_ck (show ra_run ra_rI (kX11_addFromTape_25 N) ra_c0 (tIX11_addFromTape N) ra_c0 ra_c0 ra_c0 ra_c0 3 lX11_addFromTape_25 [none, none, none, none, none, none, none] [] h = some r from e) _ _ rfl
def lX11_addFromTape_108 : List ra_I := [(108, .iconst (0), 1, 0, 0, 0, (0), 0, []),
  (109, .ireturn, 1, 0, 0, 0, 0, 0, [])]
set_option maxRecDepth 100000 in
theorem lX11_addFromTape_108_ck : lX11_addFromTape_108.all (ra_ck mX11_addFromTape 11) = true := by decide +kernel
def nX11_addFromTape_108 (N : Nat) (h : ra_H) : Option (Int32 × ra_H) :=
  some ((0 : Int32), h)
def kX11_addFromTape_108 (N : Nat) : Nat → List (Option Value) → List Value → ra_H → Option (Int32 × ra_H) := ra_k0
theorem kX11_addFromTape_108_ok (N : Nat) : ra_kok 5 mX11_addFromTape ra_oI (kX11_addFromTape_108 N) := ra_k0_ok
set_option maxRecDepth 100000 in
theorem nX11_addFromTape_108_ok (N : Nat) (h : ra_H) (r : (Int32 × ra_H)) (e : nX11_addFromTape_108 N h = some r) : ra_Ru 5 mX11_addFromTape 108 [none, none, none, none, none, none, none] [] h (ra_oI r) :=
  ra_sound (by omega) rfl ra_rI_ok (kX11_addFromTape_108_ok N) (fun m av h h1 e => (ra_c0_ok (ro := ra_oV)) m av h h1 e) (fun m av h x h1 e => (tIX11_addFromTape_ok N) m av h (x, h1) e) (fun m av h x h1 e => (ra_c0_ok (ro := ra_oJ)) m av h (x, h1) e) (fun m av h x h1 e => (ra_c0_ok (ro := ra_oR)) m av h (x, h1) e) (fun m av h x h1 e => (ra_c0_ok (ro := ra_oN)) m av h (x, h1) e) (fun m av h x h1 e => (ra_c0_ok (ro := ra_oF)) m av h (x, h1) e) 3 lX11_addFromTape_108 _ _ _ _ lX11_addFromTape_108_ck (show ra_run ra_rI (kX11_addFromTape_108 N) ra_c0 (tIX11_addFromTape N) ra_c0 ra_c0 ra_c0 ra_c0 3 lX11_addFromTape_108 [none, none, none, none, none, none, none] [] h = some r from e) _ _ rfl
def lX11_addFromTape_0 : List ra_I := [(0, .iload_n 1, 1, 1, 0, 0, 0, 0, []),
  (1, .iconst (5), 1, 0, 0, 0, (5), 0, []),
  (2, .iadd, 1, 0, 0, 0, 0, 0, []),
  (3, .aload_n 0, 1, 0, 0, 0, 0, 0, []),
  (4, .getfield 23, 3, 11, 2, 2, 0, 0, []),
  (7, .getfield 147, 3, 8, 1, 0, 0, 0, []),
  (10, .if_icmp .gt (15), 3, 25, 0, 0, 0, 0, []),
  (13, .aload_n 0, 1, 0, 0, 0, 0, 0, []),
  (14, .getfield 10, 3, 11, 0, 2, 0, 0, []),
  (17, .getfield 99, 3, 2, 13, 0, 0, 0, []),
  (20, .bipush (40), 2, 0, 0, 0, (40), 0, []),
  (22, .if_icmp .lt (5), 3, 27, 0, 0, 0, 0, []),
  (27, .aload_n 0, 1, 0, 0, 0, 0, 0, []),
  (28, .getfield 23, 3, 11, 2, 2, 0, 0, []),
  (31, .getfield 391, 3, 8, 0, 2, 0, 0, []),
  (34, .iload_n 1, 1, 1, 0, 0, 0, 0, []),
  (35, .iaload, 1, 0, 0, 0, 0, 0, []),
  (36, .istore_n 2, 1, 2, 0, 0, 0, 0, []),
  (37, .aload_n 0, 1, 0, 0, 0, 0, 0, []),
  (38, .getfield 23, 3, 11, 2, 2, 0, 0, []),
  (41, .getfield 391, 3, 8, 0, 2, 0, 0, []),
  (44, .iload_n 1, 1, 1, 0, 0, 0, 0, []),
  (45, .iconst (1), 1, 0, 0, 0, (1), 0, []),
  (46, .iadd, 1, 0, 0, 0, 0, 0, []),
  (47, .iaload, 1, 0, 0, 0, 0, 0, []),
  (48, .istore_n 3, 1, 3, 0, 0, 0, 0, []),
  (49, .aload_n 0, 1, 0, 0, 0, 0, 0, []),
  (50, .getfield 23, 3, 11, 2, 2, 0, 0, []),
  (53, .getfield 391, 3, 8, 0, 2, 0, 0, []),
  (56, .iload_n 1, 1, 1, 0, 0, 0, 0, []),
  (57, .iconst (2), 1, 0, 0, 0, (2), 0, []),
  (58, .iadd, 1, 0, 0, 0, 0, 0, []),
  (59, .iaload, 1, 0, 0, 0, 0, 0, []),
  (60, .istore 4, 2, 4, 0, 0, 0, 0, []),
  (62, .aload_n 0, 1, 0, 0, 0, 0, 0, []),
  (63, .getfield 23, 3, 11, 2, 2, 0, 0, []),
  (66, .getfield 391, 3, 8, 0, 2, 0, 0, []),
  (69, .iload_n 1, 1, 1, 0, 0, 0, 0, []),
  (70, .iconst (3), 1, 0, 0, 0, (3), 0, []),
  (71, .iadd, 1, 0, 0, 0, 0, 0, []),
  (72, .iaload, 1, 0, 0, 0, 0, 0, []),
  (73, .istore 5, 2, 5, 0, 0, 0, 0, []),
  (75, .aload_n 0, 1, 0, 0, 0, 0, 0, []),
  (76, .getfield 23, 3, 11, 2, 2, 0, 0, []),
  (79, .getfield 391, 3, 8, 0, 2, 0, 0, []),
  (82, .iload_n 1, 1, 1, 0, 0, 0, 0, []),
  (83, .iconst (4), 1, 0, 0, 0, (4), 0, []),
  (84, .iadd, 1, 0, 0, 0, 0, 0, []),
  (85, .iaload, 1, 0, 0, 0, 0, 0, []),
  (86, .istore 6, 2, 6, 0, 0, 0, 0, []),
  (88, .iload_n 2, 1, 2, 0, 0, 0, 0, []),
  (89, .iload_n 3, 1, 3, 0, 0, 0, 0, []),
  (90, .invokestatic 87, 3, 14, 2, 1, 0, 0, []),
  (93, .ifCond .eq (15), 3, 108, 0, 0, 0, 0, []),
  (96, .iload 4, 2, 4, 0, 0, 0, 0, []),
  (98, .iload 5, 2, 5, 0, 0, 0, 0, []),
  (100, .iload 6, 2, 6, 0, 0, 0, 0, []),
  (102, .invokestatic 91, 3, 16, 3, 1, 0, 0, []),
  (105, .ifCond .ne (5), 3, 110, 0, 0, 0, 0, []),
  (110, .aload_n 0, 1, 0, 0, 0, 0, 0, []),
  (111, .iload_n 2, 1, 2, 0, 0, 0, 0, []),
  (112, .iload_n 3, 1, 3, 0, 0, 0, 0, []),
  (113, .iload 4, 2, 4, 0, 0, 0, 0, []),
  (115, .iload 5, 2, 5, 0, 0, 0, 0, []),
  (117, .iload 6, 2, 6, 0, 0, 0, 0, []),
  (119, .invokevirtual 102, 3, 18, 6, 1, 0, 0, []),
  (122, .pop, 1, 0, 0, 0, 0, 0, []),
  (123, .iconst (1), 1, 0, 0, 0, (1), 0, []),
  (124, .ireturn, 1, 0, 0, 0, 0, 0, [])]
set_option maxRecDepth 100000 in
theorem lX11_addFromTape_0_ck : lX11_addFromTape_0.all (ra_ck mX11_addFromTape 11) = true := by decide +kernel
def nX11_addFromTape_0 (N : Nat) (a0 : Nat) (a1 : Int32) (h : ra_H) : Option (Int32 × ra_H) :=
  (ra_fR h 11 a0 2).bind fun x1 =>
  (ra_fI h 8 x1 1).bind fun x2 =>
  if (a1 + ((5 : Int32))) ≤ x2 then
    (ra_fR h 11 a0 0).bind fun x3 =>
    (ra_fI h 2 x3 13).bind fun x4 =>
    if x4 < ((40 : Int32)) then
      (ra_fR h 11 a0 2).bind fun x5 =>
      (ra_fR h 8 x5 0).bind fun x6 =>
      (ra_aI h 0 x6 a1).bind fun x7 =>
      (ra_fR h 11 a0 2).bind fun x8 =>
      (ra_fR h 8 x8 0).bind fun x9 =>
      (ra_aI h 0 x9 (a1 + ((1 : Int32)))).bind fun x10 =>
      (ra_fR h 11 a0 2).bind fun x11 =>
      (ra_fR h 8 x11 0).bind fun x12 =>
      (ra_aI h 0 x12 (a1 + ((2 : Int32)))).bind fun x13 =>
      (ra_fR h 11 a0 2).bind fun x14 =>
      (ra_fR h 8 x14 0).bind fun x15 =>
      (ra_aI h 0 x15 (a1 + ((3 : Int32)))).bind fun x16 =>
      (ra_fR h 11 a0 2).bind fun x17 =>
      (ra_fR h 8 x17 0).bind fun x18 =>
      (ra_aI h 0 x18 (a1 + ((4 : Int32)))).bind fun x19 =>
      (fX11_isMarkOrNone N x7 x10 h).bind fun q20 =>
      if q20.1 = 0 then
        nX11_addFromTape_108 N q20.2
      else
        (fX11_areBookNumbers N x13 x16 x19 q20.2).bind fun q21 =>
        if q21.1 = 0 then
          nX11_addFromTape_108 N q21.2
        else
          (fX11_addBook N a0 x7 x10 x13 x16 x19 q21.2).bind fun q22 =>
          some ((1 : Int32), q22.2)
    else
      nX11_addFromTape_25 N h
  else
    nX11_addFromTape_25 N h
def kX11_addFromTape_0 (N : Nat) : Nat → List (Option Value) → List Value → ra_H → Option (Int32 × ra_H) := (ra_k1 25 (fun L S h => match L, S with
  | [_, _, _, _, _, _, _], [] => nX11_addFromTape_25 N h
  | _, _ => none) (ra_k1 108 (fun L S h => match L, S with
  | [_, _, _, _, _, _, _], [] => nX11_addFromTape_108 N h
  | _, _ => none) ra_k0))
theorem kX11_addFromTape_0_ok (N : Nat) : ra_kok 5 mX11_addFromTape ra_oI (kX11_addFromTape_0 N) := (ra_k1_ok (by
  intro L S h a e
  split at e
  · exact ra_Ru.weak (nX11_addFromTape_25_ok N _ _ e) trivial
  · cases e) (ra_k1_ok (by
  intro L S h a e
  split at e
  · exact ra_Ru.weak (nX11_addFromTape_108_ok N _ _ e) trivial
  · cases e) ra_k0_ok))
set_option maxRecDepth 100000 in
theorem nX11_addFromTape_0_ok (N : Nat) (a0 : Nat) (a1 : Int32) (h : ra_H) (r : (Int32 × ra_H)) (e : nX11_addFromTape_0 N a0 a1 h = some r) : ra_Ru 5 mX11_addFromTape 0 [some (.ref a0), some (.int a1), none, none, none, none, none] [] h (ra_oI r) :=
  ra_sound (by omega) rfl ra_rI_ok (kX11_addFromTape_0_ok N) (fun m av h h1 e => (ra_c0_ok (ro := ra_oV)) m av h h1 e) (fun m av h x h1 e => (tIX11_addFromTape_ok N) m av h (x, h1) e) (fun m av h x h1 e => (ra_c0_ok (ro := ra_oJ)) m av h (x, h1) e) (fun m av h x h1 e => (ra_c0_ok (ro := ra_oR)) m av h (x, h1) e) (fun m av h x h1 e => (ra_c0_ok (ro := ra_oN)) m av h (x, h1) e) (fun m av h x h1 e => (ra_c0_ok (ro := ra_oF)) m av h (x, h1) e) 70 lX11_addFromTape_0 _ _ _ _ lX11_addFromTape_0_ck (show ra_run ra_rI (kX11_addFromTape_0 N) ra_c0 (tIX11_addFromTape N) ra_c0 ra_c0 ra_c0 ra_c0 70 lX11_addFromTape_0 [some (.ref a0), some (.int a1), none, none, none, none, none] [] h = some r from e) _ _ rfl
def fX11_addFromTape (N : Nat) (p0 : Nat) (p1 : Int32) (h : ra_H) : Option (Int32 × ra_H) := match ra_isOb h p0 11 with
  | true => (nX11_addFromTape_0 N p0 p1 h).bind (fun q => ra_rz q.1 q.2)
  | false => none
set_option maxRecDepth 100000 in
theorem mtX11_addFromTape : ra_MT[39]? = some (mX11_addFromTape, 1, 1, (1, 1), (3, 98), (0, 5)) := rfl
theorem fX11_addFromTape_co (N : Nat) (p0 : Nat) (p1 : Int32) (h : ra_H) (r : (Int32 × ra_H)) (e : fX11_addFromTape N p0 p1 h = some r) (D : Nat) (hD : 6 ≤ D) : ra_CO D 39 [.ref p0, .int p1] h (ra_oI r).1 (ra_oI r).2 := by
  have hw : ra_nw2 [.ref p0, .int p1] ≤ 7 := Nat.le_of_ble_eq_true rfl
  have hdb : ∀ v ∈ ([.ref p0, .int p1] : List Value), ∀ x, v ≠ .double x := by
    intro v hv x hx
    simp [hx] at hv
  unfold fX11_addFromTape at e
  split at e
  · rename_i ho
    obtain ⟨q, e1, e2⟩ := Option.bind_eq_some_iff.mp e
    obtain ⟨rfl, hz⟩ := ra_rz_of e2
    exact ⟨5, _, mtX11_addFromTape, hD, ra_ev_of (by decide) hdb hw hz (ra_Ru.weak (nX11_addFromTape_0_ok N p0 p1 h _ e1) ⟨rfl, ⟨rfl, trivial⟩⟩), (fun _ => ⟨_, _, rfl, ra_rcv_of ho (by decide) rfl⟩), (fun h => absurd h (by decide))⟩
  · cases e
/-! RedMarks.agree(II)I -/
def mX11_agree : ra_M := (yX11_agree, cX11_agree, 3, (some .int))
def tIX11_agree (N : Nat) : Nat → List Value → ra_H → Option (Int32 × ra_H) := (ra_c1 26 (fun av h => match av with
  | [.ref z0, .int z1] => fX2_hasBook N z0 z1 h
  | _ => none) (ra_c1 118 (fun av h => match av with
  | [.ref z0, .int z1] => fX2_hasLine N z0 z1 h
  | _ => none) (ra_c1 122 (fun av h => match av with
  | [.ref z0, .int z1, .int z2] => fX2_agreement N z0 z1 z2 h
  | _ => none) ra_c0)))
theorem tIX11_agree_ok (N : Nat) : ra_cok 4 ra_oI (tIX11_agree N) := (ra_c1_ok (by
  intro av h a e
  split at e
  · exact fX2_hasBook_co N _ _ _ _ e 4 (by omega)
  · cases e) (ra_c1_ok (by
  intro av h a e
  split at e
  · exact fX2_hasLine_co N _ _ _ _ e 4 (by omega)
  · cases e) (ra_c1_ok (by
  intro av h a e
  split at e
  · exact fX2_agreement_co N _ _ _ _ _ e 4 (by omega)
  · cases e) ra_c0_ok)))
def lX11_agree_22 : List ra_I := [(22, .sipush (-1000), 3, 0, 0, 0, (-1000), 0, []),
  (25, .ireturn, 1, 0, 0, 0, 0, 0, [])]
set_option maxRecDepth 100000 in
theorem lX11_agree_22_ck : lX11_agree_22.all (ra_ck mX11_agree 11) = true := by decide +kernel
def nX11_agree_22 (N : Nat) (h : ra_H) : Option (Int32 × ra_H) :=
  some ((-1000 : Int32), h)
def kX11_agree_22 (N : Nat) : Nat → List (Option Value) → List Value → ra_H → Option (Int32 × ra_H) := ra_k0
theorem kX11_agree_22_ok (N : Nat) : ra_kok 4 mX11_agree ra_oI (kX11_agree_22 N) := ra_k0_ok
set_option maxRecDepth 100000 in
theorem nX11_agree_22_ok (N : Nat) (h : ra_H) (r : (Int32 × ra_H)) (e : nX11_agree_22 N h = some r) : ra_Ru 4 mX11_agree 22 [none, none, none] [] h (ra_oI r) :=
  ra_sound (by omega) rfl ra_rI_ok (kX11_agree_22_ok N) (fun m av h h1 e => (ra_c0_ok (ro := ra_oV)) m av h h1 e) (fun m av h x h1 e => (tIX11_agree_ok N) m av h (x, h1) e) (fun m av h x h1 e => (ra_c0_ok (ro := ra_oJ)) m av h (x, h1) e) (fun m av h x h1 e => (ra_c0_ok (ro := ra_oR)) m av h (x, h1) e) (fun m av h x h1 e => (ra_c0_ok (ro := ra_oN)) m av h (x, h1) e) (fun m av h x h1 e => (ra_c0_ok (ro := ra_oF)) m av h (x, h1) e) 3 lX11_agree_22 _ _ _ _ lX11_agree_22_ck (show ra_run ra_rI (kX11_agree_22 N) ra_c0 (tIX11_agree N) ra_c0 ra_c0 ra_c0 ra_c0 3 lX11_agree_22 [none, none, none] [] h = some r from e) _ _ rfl
def lX11_agree_0 : List ra_I := [(0, .aload_n 0, 1, 0, 0, 0, 0, 0, []),
  (1, .getfield 10, 3, 11, 0, 2, 0, 0, []),
  (4, .iload_n 1, 1, 1, 0, 0, 0, 0, []),
  (5, .invokevirtual 228, 3, 118, 2, 1, 0, 0, []),
  (8, .ifCond .eq (14), 3, 22, 0, 0, 0, 0, []),
  (11, .aload_n 0, 1, 0, 0, 0, 0, 0, []),
  (12, .getfield 10, 3, 11, 0, 2, 0, 0, []),
  (15, .iload_n 2, 1, 2, 0, 0, 0, 0, []),
  (16, .invokevirtual 112, 3, 26, 2, 1, 0, 0, []),
  (19, .ifCond .ne (7), 3, 26, 0, 0, 0, 0, []),
  (26, .aload_n 0, 1, 0, 0, 0, 0, 0, []),
  (27, .getfield 10, 3, 11, 0, 2, 0, 0, []),
  (30, .iload_n 1, 1, 1, 0, 0, 0, 0, []),
  (31, .iload_n 2, 1, 2, 0, 0, 0, 0, []),
  (32, .invokevirtual 288, 3, 122, 3, 1, 0, 0, []),
  (35, .ireturn, 1, 0, 0, 0, 0, 0, [])]
set_option maxRecDepth 100000 in
theorem lX11_agree_0_ck : lX11_agree_0.all (ra_ck mX11_agree 11) = true := by decide +kernel
def nX11_agree_0 (N : Nat) (a0 : Nat) (a1 : Int32) (a2 : Int32) (h : ra_H) : Option (Int32 × ra_H) :=
  (ra_fR h 11 a0 0).bind fun x1 =>
  (fX2_hasLine N x1 a1 h).bind fun q2 =>
  if q2.1 = 0 then
    nX11_agree_22 N q2.2
  else
    (ra_fR q2.2 11 a0 0).bind fun x3 =>
    (fX2_hasBook N x3 a2 q2.2).bind fun q4 =>
    if q4.1 = 0 then
      nX11_agree_22 N q4.2
    else
      (ra_fR q4.2 11 a0 0).bind fun x5 =>
      (fX2_agreement N x5 a1 a2 q4.2).bind fun q6 =>
      some (q6.1, q6.2)
def kX11_agree_0 (N : Nat) : Nat → List (Option Value) → List Value → ra_H → Option (Int32 × ra_H) := (ra_k1 22 (fun L S h => match L, S with
  | [_, _, _], [] => nX11_agree_22 N h
  | _, _ => none) ra_k0)
theorem kX11_agree_0_ok (N : Nat) : ra_kok 4 mX11_agree ra_oI (kX11_agree_0 N) := (ra_k1_ok (by
  intro L S h a e
  split at e
  · exact ra_Ru.weak (nX11_agree_22_ok N _ _ e) trivial
  · cases e) ra_k0_ok)
set_option maxRecDepth 100000 in
theorem nX11_agree_0_ok (N : Nat) (a0 : Nat) (a1 : Int32) (a2 : Int32) (h : ra_H) (r : (Int32 × ra_H)) (e : nX11_agree_0 N a0 a1 a2 h = some r) : ra_Ru 4 mX11_agree 0 [some (.ref a0), some (.int a1), some (.int a2)] [] h (ra_oI r) :=
  ra_sound (by omega) rfl ra_rI_ok (kX11_agree_0_ok N) (fun m av h h1 e => (ra_c0_ok (ro := ra_oV)) m av h h1 e) (fun m av h x h1 e => (tIX11_agree_ok N) m av h (x, h1) e) (fun m av h x h1 e => (ra_c0_ok (ro := ra_oJ)) m av h (x, h1) e) (fun m av h x h1 e => (ra_c0_ok (ro := ra_oR)) m av h (x, h1) e) (fun m av h x h1 e => (ra_c0_ok (ro := ra_oN)) m av h (x, h1) e) (fun m av h x h1 e => (ra_c0_ok (ro := ra_oF)) m av h (x, h1) e) 17 lX11_agree_0 _ _ _ _ lX11_agree_0_ck (show ra_run ra_rI (kX11_agree_0 N) ra_c0 (tIX11_agree N) ra_c0 ra_c0 ra_c0 ra_c0 17 lX11_agree_0 [some (.ref a0), some (.int a1), some (.int a2)] [] h = some r from e) _ _ rfl
def fX11_agree (N : Nat) (p0 : Nat) (p1 : Int32) (p2 : Int32) (h : ra_H) : Option (Int32 × ra_H) := match ra_isOb h p0 11 with
  | true => nX11_agree_0 N p0 p1 p2 h
  | false => none
set_option maxRecDepth 100000 in
theorem mtX11_agree : ra_MT[166]? = some (mX11_agree, 1, 2, (1, 1), (5, 191), (5, 192)) := rfl
theorem fX11_agree_co (N : Nat) (p0 : Nat) (p1 : Int32) (p2 : Int32) (h : ra_H) (r : (Int32 × ra_H)) (e : fX11_agree N p0 p1 p2 h = some r) (D : Nat) (hD : 5 ≤ D) : ra_CO D 166 [.ref p0, .int p1, .int p2] h (ra_oI r).1 (ra_oI r).2 := by
  have hw : ra_nw2 [.ref p0, .int p1, .int p2] ≤ 3 := Nat.le_of_ble_eq_true rfl
  have hdb : ∀ v ∈ ([.ref p0, .int p1, .int p2] : List Value), ∀ x, v ≠ .double x := by
    intro v hv x hx
    simp [hx] at hv
  unfold fX11_agree at e
  split at e
  · rename_i ho
    have e1 := e
    exact ⟨4, _, mtX11_agree, hD, ra_ev_of (by decide) hdb hw trivial (ra_Ru.weak (nX11_agree_0_ok N p0 p1 p2 h _ e1) ⟨rfl, ⟨rfl, ⟨rfl, trivial⟩⟩⟩), (fun _ => ⟨_, _, rfl, ra_rcv_of ho (by decide) rfl⟩), (fun h => absurd h (by decide))⟩
  · cases e
/-! RedMarks.refuse(I)I -/
def mX11_refuse : ra_M := (yX11_refuse, cX11_refuse, 2, (some .int))
def lX11_refuse_0 : List ra_I := [(0, .aload_n 0, 1, 0, 0, 0, 0, 0, []),
  (1, .iload_n 1, 1, 1, 0, 0, 0, 0, []),
  (2, .putfield 388, 3, 11, 10, 0, 0, 0, []),
  (5, .aload_n 0, 1, 0, 0, 0, 0, 0, []),
  (6, .getfield 79, 3, 11, 9, 2, 0, 0, []),
  (9, .iload_n 1, 1, 1, 0, 0, 0, 0, []),
  (10, .ineg, 1, 0, 0, 0, 0, 0, []),
  (11, .dup2, 1, 0, 0, 0, 0, 0, []),
  (12, .iaload, 1, 0, 0, 0, 0, 0, []),
  (13, .iconst (1), 1, 0, 0, 0, (1), 0, []),
  (14, .iadd, 1, 0, 0, 0, 0, 0, []),
  (15, .iastore, 1, 0, 0, 0, 0, 0, []),
  (16, .iload_n 1, 1, 1, 0, 0, 0, 0, []),
  (17, .ireturn, 1, 0, 0, 0, 0, 0, [])]
set_option maxRecDepth 100000 in
theorem lX11_refuse_0_ck : lX11_refuse_0.all (ra_ck mX11_refuse 11) = true := by decide +kernel
def nX11_refuse_0 (N : Nat) (a0 : Nat) (a1 : Int32) (h : ra_H) : Option (Int32 × ra_H) :=
  (ra_fW h 11 a0 10 (.int a1)).bind fun h1 =>
  (ra_fR h1 11 a0 9).bind fun x2 =>
  (ra_aI h1 0 x2 (-a1)).bind fun x3 =>
  (ra_aW h1 0 x2 (-a1) (x3 + ((1 : Int32)))).bind fun h4 =>
  some (a1, h4)
def kX11_refuse_0 (N : Nat) : Nat → List (Option Value) → List Value → ra_H → Option (Int32 × ra_H) := ra_k0
theorem kX11_refuse_0_ok (N : Nat) : ra_kok 1 mX11_refuse ra_oI (kX11_refuse_0 N) := ra_k0_ok
set_option maxRecDepth 100000 in
theorem nX11_refuse_0_ok (N : Nat) (a0 : Nat) (a1 : Int32) (h : ra_H) (r : (Int32 × ra_H)) (e : nX11_refuse_0 N a0 a1 h = some r) : ra_Ru 1 mX11_refuse 0 [some (.ref a0), some (.int a1)] [] h (ra_oI r) :=
  ra_sound (by omega) rfl ra_rI_ok (kX11_refuse_0_ok N) (fun m av h h1 e => (ra_c0_ok (ro := ra_oV)) m av h h1 e) (fun m av h x h1 e => (ra_c0_ok (ro := ra_oI)) m av h (x, h1) e) (fun m av h x h1 e => (ra_c0_ok (ro := ra_oJ)) m av h (x, h1) e) (fun m av h x h1 e => (ra_c0_ok (ro := ra_oR)) m av h (x, h1) e) (fun m av h x h1 e => (ra_c0_ok (ro := ra_oN)) m av h (x, h1) e) (fun m av h x h1 e => (ra_c0_ok (ro := ra_oF)) m av h (x, h1) e) 15 lX11_refuse_0 _ _ _ _ lX11_refuse_0_ck (show ra_run ra_rI (kX11_refuse_0 N) ra_c0 ra_c0 ra_c0 ra_c0 ra_c0 ra_c0 15 lX11_refuse_0 [some (.ref a0), some (.int a1)] [] h = some r from e) _ _ rfl
def fX11_refuse (N : Nat) (p0 : Nat) (p1 : Int32) (h : ra_H) : Option (Int32 × ra_H) := match ra_isOb h p0 11 with
  | true => nX11_refuse_0 N p0 p1 h
  | false => none
set_option maxRecDepth 100000 in
theorem mtX11_refuse : ra_MT[17]? = some (mX11_refuse, 1, 1, (1, 1), (3, 10), (0, 0)) := rfl
theorem fX11_refuse_co (N : Nat) (p0 : Nat) (p1 : Int32) (h : ra_H) (r : (Int32 × ra_H)) (e : fX11_refuse N p0 p1 h = some r) (D : Nat) (hD : 2 ≤ D) : ra_CO D 17 [.ref p0, .int p1] h (ra_oI r).1 (ra_oI r).2 := by
  have hw : ra_nw2 [.ref p0, .int p1] ≤ 2 := Nat.le_of_ble_eq_true rfl
  have hdb : ∀ v ∈ ([.ref p0, .int p1] : List Value), ∀ x, v ≠ .double x := by
    intro v hv x hx
    simp [hx] at hv
  unfold fX11_refuse at e
  split at e
  · rename_i ho
    have e1 := e
    exact ⟨1, _, mtX11_refuse, hD, ra_ev_of (by decide) hdb hw trivial (ra_Ru.weak (nX11_refuse_0_ok N p0 p1 h _ e1) ⟨rfl, ⟨rfl, trivial⟩⟩), (fun _ => ⟨_, _, rfl, ra_rcv_of ho (by decide) rfl⟩), (fun h => absurd h (by decide))⟩
  · cases e
/-! RedMarks.back(I)I -/
def mX11_back : ra_M := (yX11_back, cX11_back, 2, (some .int))
def tVX11_back (N : Nat) : Nat → List Value → ra_H → Option ra_H := (ra_c1 23 (fun av h => match av with
  | [.ref z0] => fX3_forgetAll N z0 h
  | _ => none) (ra_c1 29 (fun av h => match av with
  | [.ref z0] => fX6_forgetAll N z0 h
  | _ => none) (ra_c1 200 (fun av h => match av with
  | [.ref z0, .ref z1] => fX2_takeOver N z0 z1 h
  | _ => none) (ra_c1 203 (fun av h => match av with
  | [.ref z0] => fX1_forgetAll N z0 h
  | _ => none) ra_c0))))
theorem tVX11_back_ok (N : Nat) : ra_cok 4 ra_oV (tVX11_back N) := (ra_c1_ok (by
  intro av h a e
  split at e
  · exact fX3_forgetAll_co N _ _ _ e 4 (by omega)
  · cases e) (ra_c1_ok (by
  intro av h a e
  split at e
  · exact fX6_forgetAll_co N _ _ _ e 4 (by omega)
  · cases e) (ra_c1_ok (by
  intro av h a e
  split at e
  · exact fX2_takeOver_co N _ _ _ _ e 4 (by omega)
  · cases e) (ra_c1_ok (by
  intro av h a e
  split at e
  · exact fX1_forgetAll_co N _ _ _ e 4 (by omega)
  · cases e) ra_c0_ok))))
def tIX11_back (N : Nat) : Nat → List Value → ra_H → Option (Int32 × ra_H) := (ra_c1 17 (fun av h => match av with
  | [.ref z0, .int z1] => fX11_refuse N z0 z1 h
  | _ => none) (ra_c1 24 (fun av h => match av with
  | [.ref z0, .int z1] => fX11_accept N z0 z1 h
  | _ => none) ra_c0))
theorem tIX11_back_ok (N : Nat) : ra_cok 4 ra_oI (tIX11_back N) := (ra_c1_ok (by
  intro av h a e
  split at e
  · exact fX11_refuse_co N _ _ _ _ e 4 (by omega)
  · cases e) (ra_c1_ok (by
  intro av h a e
  split at e
  · exact fX11_accept_co N _ _ _ _ e 4 (by omega)
  · cases e) ra_c0_ok))
def lX11_back_9 : List ra_I := [(9, .aload_n 0, 1, 0, 0, 0, 0, 0, []),
  (10, .iconst (-1), 1, 0, 0, 0, (-1), 0, []),
  (11, .invokevirtual 95, 3, 17, 2, 1, 0, 0, []),
  (14, .ireturn, 1, 0, 0, 0, 0, 0, [])]
set_option maxRecDepth 100000 in
theorem lX11_back_9_ck : lX11_back_9.all (ra_ck mX11_back 11) = true := by decide +kernel
def nX11_back_9 (N : Nat) (a0 : Nat) (h : ra_H) : Option (Int32 × ra_H) :=
  (fX11_refuse N a0 ((-1 : Int32)) h).bind fun q1 =>
  some (q1.1, q1.2)
def kX11_back_9 (N : Nat) : Nat → List (Option Value) → List Value → ra_H → Option (Int32 × ra_H) := ra_k0
theorem kX11_back_9_ok (N : Nat) : ra_kok 4 mX11_back ra_oI (kX11_back_9 N) := ra_k0_ok
set_option maxRecDepth 100000 in
theorem nX11_back_9_ok (N : Nat) (a0 : Nat) (h : ra_H) (r : (Int32 × ra_H)) (e : nX11_back_9 N a0 h = some r) : ra_Ru 4 mX11_back 9 [some (.ref a0), none] [] h (ra_oI r) :=
  ra_sound (by omega) rfl ra_rI_ok (kX11_back_9_ok N) (fun m av h h1 e => (tVX11_back_ok N) m av h h1 e) (fun m av h x h1 e => (tIX11_back_ok N) m av h (x, h1) e) (fun m av h x h1 e => (ra_c0_ok (ro := ra_oJ)) m av h (x, h1) e) (fun m av h x h1 e => (ra_c0_ok (ro := ra_oR)) m av h (x, h1) e) (fun m av h x h1 e => (ra_c0_ok (ro := ra_oN)) m av h (x, h1) e) (fun m av h x h1 e => (ra_c0_ok (ro := ra_oF)) m av h (x, h1) e) 5 lX11_back_9 _ _ _ _ lX11_back_9_ck (show ra_run ra_rI (kX11_back_9 N) (tVX11_back N) (tIX11_back N) ra_c0 ra_c0 ra_c0 ra_c0 5 lX11_back_9 [some (.ref a0), none] [] h = some r from e) _ _ rfl
def lX11_back_0 : List ra_I := [(0, .iload_n 1, 1, 1, 0, 0, 0, 0, []),
  (1, .ifCond .lt (8), 3, 9, 0, 0, 0, 0, []),
  (4, .iload_n 1, 1, 1, 0, 0, 0, 0, []),
  (5, .iconst (2), 1, 0, 0, 0, (2), 0, []),
  (6, .if_icmp .lt (9), 3, 15, 0, 0, 0, 0, []),
  (15, .aload_n 0, 1, 0, 0, 0, 0, 0, []),
  (16, .getfield 16, 3, 11, 1, 2, 0, 0, []),
  (19, .iload_n 1, 1, 1, 0, 0, 0, 0, []),
  (20, .aaload, 1, 0, 0, 0, 0, 0, []),
  (21, .ifnonnull (10), 3, 31, 0, 0, 0, 0, []),
  (24, .aload_n 0, 1, 0, 0, 0, 0, 0, []),
  (25, .bipush (-2), 2, 0, 0, 0, (-2), 0, []),
  (27, .invokevirtual 95, 3, 17, 2, 1, 0, 0, []),
  (30, .ireturn, 1, 0, 0, 0, 0, 0, []),
  (31, .aload_n 0, 1, 0, 0, 0, 0, 0, []),
  (32, .getfield 10, 3, 11, 0, 2, 0, 0, []),
  (35, .aload_n 0, 1, 0, 0, 0, 0, 0, []),
  (36, .getfield 16, 3, 11, 1, 2, 0, 0, []),
  (39, .iload_n 1, 1, 1, 0, 0, 0, 0, []),
  (40, .aaload, 1, 0, 0, 0, 0, 0, []),
  (41, .invokevirtual 381, 3, 200, 2, 0, 0, 0, []),
  (44, .aload_n 0, 1, 0, 0, 0, 0, 0, []),
  (45, .getfield 39, 3, 11, 4, 2, 0, 0, []),
  (48, .invokevirtual 384, 3, 203, 1, 0, 0, 0, []),
  (51, .aload_n 0, 1, 0, 0, 0, 0, 0, []),
  (52, .getfield 61, 3, 11, 6, 2, 0, 0, []),
  (55, .invokevirtual 243, 3, 23, 1, 0, 0, 0, []),
  (58, .aload_n 0, 1, 0, 0, 0, 0, 0, []),
  (59, .getfield 68, 3, 11, 7, 2, 0, 0, []),
  (62, .invokevirtual 337, 3, 29, 1, 0, 0, 0, []),
  (65, .aload_n 0, 1, 0, 0, 0, 0, 0, []),
  (66, .iconst (0), 1, 0, 0, 0, (0), 0, []),
  (67, .invokevirtual 106, 3, 24, 2, 1, 0, 0, []),
  (70, .ireturn, 1, 0, 0, 0, 0, 0, [])]
set_option maxRecDepth 100000 in
theorem lX11_back_0_ck : lX11_back_0.all (ra_ck mX11_back 11) = true := by decide +kernel
def nX11_back_0 (N : Nat) (a0 : Nat) (a1 : Int32) (h : ra_H) : Option (Int32 × ra_H) :=
  if a1 < 0 then
    nX11_back_9 N a0 h
  else
    if a1 < ((2 : Int32)) then
      (ra_fR h 11 a0 1).bind fun x1 =>
      (ra_aN h x1 a1).bind fun r2 => match r2 with
      | none =>
        (fX11_refuse N a0 ((-2 : Int32)) h).bind fun q4 =>
        some (q4.1, q4.2)
      | some x3 =>
        (ra_fR h 11 a0 0).bind fun x5 =>
        (ra_fR h 11 a0 1).bind fun x6 =>
        (ra_aN h x6 a1).bind fun r7 => match r7 with
        | none =>
          none
        | some x8 =>
          (fX2_takeOver N x5 x8 h).bind fun h9 =>
          (ra_fR h9 11 a0 4).bind fun x10 =>
          (fX1_forgetAll N x10 h9).bind fun h11 =>
          (ra_fR h11 11 a0 6).bind fun x12 =>
          (fX3_forgetAll N x12 h11).bind fun h13 =>
          (ra_fR h13 11 a0 7).bind fun x14 =>
          (fX6_forgetAll N x14 h13).bind fun h15 =>
          (fX11_accept N a0 ((0 : Int32)) h15).bind fun q16 =>
          some (q16.1, q16.2)
    else
      nX11_back_9 N a0 h
def kX11_back_0 (N : Nat) : Nat → List (Option Value) → List Value → ra_H → Option (Int32 × ra_H) := (ra_k1 9 (fun L S h => match L, S with
  | [some (.ref a0), _], [] => nX11_back_9 N a0 h
  | _, _ => none) ra_k0)
theorem kX11_back_0_ok (N : Nat) : ra_kok 4 mX11_back ra_oI (kX11_back_0 N) := (ra_k1_ok (by
  intro L S h a e
  split at e
  · exact ra_Ru.weak (nX11_back_9_ok N _ _ _ e) ⟨rfl, trivial⟩
  · cases e) ra_k0_ok)
set_option maxRecDepth 100000 in
theorem nX11_back_0_ok (N : Nat) (a0 : Nat) (a1 : Int32) (h : ra_H) (r : (Int32 × ra_H)) (e : nX11_back_0 N a0 a1 h = some r) : ra_Ru 4 mX11_back 0 [some (.ref a0), some (.int a1)] [] h (ra_oI r) :=
  ra_sound (by omega) rfl ra_rI_ok (kX11_back_0_ok N) (fun m av h h1 e => (tVX11_back_ok N) m av h h1 e) (fun m av h x h1 e => (tIX11_back_ok N) m av h (x, h1) e) (fun m av h x h1 e => (ra_c0_ok (ro := ra_oJ)) m av h (x, h1) e) (fun m av h x h1 e => (ra_c0_ok (ro := ra_oR)) m av h (x, h1) e) (fun m av h x h1 e => (ra_c0_ok (ro := ra_oN)) m av h (x, h1) e) (fun m av h x h1 e => (ra_c0_ok (ro := ra_oF)) m av h (x, h1) e) 35 lX11_back_0 _ _ _ _ lX11_back_0_ck (show ra_run ra_rI (kX11_back_0 N) (tVX11_back N) (tIX11_back N) ra_c0 ra_c0 ra_c0 ra_c0 35 lX11_back_0 [some (.ref a0), some (.int a1)] [] h = some r from e) _ _ rfl
def fX11_back (N : Nat) (p0 : Nat) (p1 : Int32) (h : ra_H) : Option (Int32 × ra_H) := match ra_isOb h p0 11 with
  | true => nX11_back_0 N p0 p1 h
  | false => none
set_option maxRecDepth 100000 in
theorem mtX11_back : ra_MT[202]? = some (mX11_back, 1, 1, (1, 1), (6, 104), (6, 105)) := rfl
theorem fX11_back_co (N : Nat) (p0 : Nat) (p1 : Int32) (h : ra_H) (r : (Int32 × ra_H)) (e : fX11_back N p0 p1 h = some r) (D : Nat) (hD : 5 ≤ D) : ra_CO D 202 [.ref p0, .int p1] h (ra_oI r).1 (ra_oI r).2 := by
  have hw : ra_nw2 [.ref p0, .int p1] ≤ 2 := Nat.le_of_ble_eq_true rfl
  have hdb : ∀ v ∈ ([.ref p0, .int p1] : List Value), ∀ x, v ≠ .double x := by
    intro v hv x hx
    simp [hx] at hv
  unfold fX11_back at e
  split at e
  · rename_i ho
    have e1 := e
    exact ⟨4, _, mtX11_back, hD, ra_ev_of (by decide) hdb hw trivial (ra_Ru.weak (nX11_back_0_ok N p0 p1 h _ e1) ⟨rfl, ⟨rfl, trivial⟩⟩), (fun _ => ⟨_, _, rfl, ra_rcv_of ho (by decide) rfl⟩), (fun h => absurd h (by decide))⟩
  · cases e
/-! RedMarks.bay(II)I -/
def mX11_bay : ra_M := (yX11_bay, cX11_bay, 4, (some .int))
def tVX11_bay (N : Nat) : Nat → List Value → ra_H → Option ra_H := (ra_c1 22 (fun av h => match av with
  | [.ref z0] => fX1_forgetStanding N z0 h
  | _ => none) ra_c0)
theorem tVX11_bay_ok (N : Nat) : ra_cok 2 ra_oV (tVX11_bay N) := (ra_c1_ok (by
  intro av h a e
  split at e
  · exact fX1_forgetStanding_co N _ _ _ e 2 (by omega)
  · cases e) ra_c0_ok)
def tIX11_bay (N : Nat) : Nat → List Value → ra_H → Option (Int32 × ra_H) := (ra_c1 17 (fun av h => match av with
  | [.ref z0, .int z1] => fX11_refuse N z0 z1 h
  | _ => none) (ra_c1 24 (fun av h => match av with
  | [.ref z0, .int z1] => fX11_accept N z0 z1 h
  | _ => none) ra_c0))
theorem tIX11_bay_ok (N : Nat) : ra_cok 2 ra_oI (tIX11_bay N) := (ra_c1_ok (by
  intro av h a e
  split at e
  · exact fX11_refuse_co N _ _ _ _ e 2 (by omega)
  · cases e) (ra_c1_ok (by
  intro av h a e
  split at e
  · exact fX11_accept_co N _ _ _ _ e 2 (by omega)
  · cases e) ra_c0_ok))
def lX11_bay_19 : List ra_I := [(19, .aload_n 0, 1, 0, 0, 0, 0, 0, []),
  (20, .iconst (-1), 1, 0, 0, 0, (-1), 0, []),
  (21, .invokevirtual 95, 3, 17, 2, 1, 0, 0, []),
  (24, .ireturn, 1, 0, 0, 0, 0, 0, [])]
set_option maxRecDepth 100000 in
theorem lX11_bay_19_ck : lX11_bay_19.all (ra_ck mX11_bay 11) = true := by decide +kernel
def nX11_bay_19 (N : Nat) (a0 : Nat) (h : ra_H) : Option (Int32 × ra_H) :=
  (fX11_refuse N a0 ((-1 : Int32)) h).bind fun q1 =>
  some (q1.1, q1.2)
def kX11_bay_19 (N : Nat) : Nat → List (Option Value) → List Value → ra_H → Option (Int32 × ra_H) := ra_k0
theorem kX11_bay_19_ok (N : Nat) : ra_kok 2 mX11_bay ra_oI (kX11_bay_19 N) := ra_k0_ok
set_option maxRecDepth 100000 in
theorem nX11_bay_19_ok (N : Nat) (a0 : Nat) (h : ra_H) (r : (Int32 × ra_H)) (e : nX11_bay_19 N a0 h = some r) : ra_Ru 2 mX11_bay 19 [some (.ref a0), none, none, none] [] h (ra_oI r) :=
  ra_sound (by omega) rfl ra_rI_ok (kX11_bay_19_ok N) (fun m av h h1 e => (tVX11_bay_ok N) m av h h1 e) (fun m av h x h1 e => (tIX11_bay_ok N) m av h (x, h1) e) (fun m av h x h1 e => (ra_c0_ok (ro := ra_oJ)) m av h (x, h1) e) (fun m av h x h1 e => (ra_c0_ok (ro := ra_oR)) m av h (x, h1) e) (fun m av h x h1 e => (ra_c0_ok (ro := ra_oN)) m av h (x, h1) e) (fun m av h x h1 e => (ra_c0_ok (ro := ra_oF)) m av h (x, h1) e) 5 lX11_bay_19 _ _ _ _ lX11_bay_19_ck (show ra_run ra_rI (kX11_bay_19 N) (tVX11_bay N) (tIX11_bay N) ra_c0 ra_c0 ra_c0 ra_c0 5 lX11_bay_19 [some (.ref a0), none, none, none] [] h = some r from e) _ _ rfl
def lX11_bay_0 : List ra_I := [(0, .iload_n 1, 1, 1, 0, 0, 0, 0, []),
  (1, .ifCond .lt (18), 3, 19, 0, 0, 0, 0, []),
  (4, .iload_n 1, 1, 1, 0, 0, 0, 0, []),
  (5, .bipush (9), 2, 0, 0, 0, (9), 0, []),
  (7, .if_icmp .ge (12), 3, 19, 0, 0, 0, 0, []),
  (10, .iload_n 2, 1, 2, 0, 0, 0, 0, []),
  (11, .ifCond .lt (8), 3, 19, 0, 0, 0, 0, []),
  (14, .iload_n 2, 1, 2, 0, 0, 0, 0, []),
  (15, .iconst (2), 1, 0, 0, 0, (2), 0, []),
  (16, .if_icmp .le (9), 3, 25, 0, 0, 0, 0, []),
  (25, .aload_n 0, 1, 0, 0, 0, 0, 0, []),
  (26, .getfield 10, 3, 11, 0, 2, 0, 0, []),
  (29, .getfield 132, 3, 2, 1, 2, 0, 0, []),
  (32, .iload_n 1, 1, 1, 0, 0, 0, 0, []),
  (33, .iaload, 1, 0, 0, 0, 0, 0, []),
  (34, .istore_n 3, 1, 3, 0, 0, 0, 0, []),
  (35, .aload_n 0, 1, 0, 0, 0, 0, 0, []),
  (36, .getfield 10, 3, 11, 0, 2, 0, 0, []),
  (39, .getfield 132, 3, 2, 1, 2, 0, 0, []),
  (42, .iload_n 1, 1, 1, 0, 0, 0, 0, []),
  (43, .iload_n 2, 1, 2, 0, 0, 0, 0, []),
  (44, .iastore, 1, 0, 0, 0, 0, 0, []),
  (45, .aload_n 0, 1, 0, 0, 0, 0, 0, []),
  (46, .getfield 39, 3, 11, 4, 2, 0, 0, []),
  (49, .invokevirtual 135, 3, 22, 1, 0, 0, 0, []),
  (52, .aload_n 0, 1, 0, 0, 0, 0, 0, []),
  (53, .iload_n 3, 1, 3, 0, 0, 0, 0, []),
  (54, .invokevirtual 106, 3, 24, 2, 1, 0, 0, []),
  (57, .ireturn, 1, 0, 0, 0, 0, 0, [])]
set_option maxRecDepth 100000 in
theorem lX11_bay_0_ck : lX11_bay_0.all (ra_ck mX11_bay 11) = true := by decide +kernel
def nX11_bay_0 (N : Nat) (a0 : Nat) (a1 : Int32) (a2 : Int32) (h : ra_H) : Option (Int32 × ra_H) :=
  if a1 < 0 then
    nX11_bay_19 N a0 h
  else
    if a1 < ((9 : Int32)) then
      if a2 < 0 then
        nX11_bay_19 N a0 h
      else
        if a2 ≤ ((2 : Int32)) then
          (ra_fR h 11 a0 0).bind fun x1 =>
          (ra_fR h 2 x1 1).bind fun x2 =>
          (ra_aI h 0 x2 a1).bind fun x3 =>
          (ra_fR h 11 a0 0).bind fun x4 =>
          (ra_fR h 2 x4 1).bind fun x5 =>
          (ra_aW h 0 x5 a1 a2).bind fun h6 =>
          (ra_fR h6 11 a0 4).bind fun x7 =>
          (fX1_forgetStanding N x7 h6).bind fun h8 =>
          (fX11_accept N a0 x3 h8).bind fun q9 =>
          some (q9.1, q9.2)
        else
          nX11_bay_19 N a0 h
    else
      nX11_bay_19 N a0 h
def kX11_bay_0 (N : Nat) : Nat → List (Option Value) → List Value → ra_H → Option (Int32 × ra_H) := (ra_k1 19 (fun L S h => match L, S with
  | [some (.ref a0), _, _, _], [] => nX11_bay_19 N a0 h
  | _, _ => none) ra_k0)
theorem kX11_bay_0_ok (N : Nat) : ra_kok 2 mX11_bay ra_oI (kX11_bay_0 N) := (ra_k1_ok (by
  intro L S h a e
  split at e
  · exact ra_Ru.weak (nX11_bay_19_ok N _ _ _ e) ⟨rfl, trivial⟩
  · cases e) ra_k0_ok)
set_option maxRecDepth 100000 in
theorem nX11_bay_0_ok (N : Nat) (a0 : Nat) (a1 : Int32) (a2 : Int32) (h : ra_H) (r : (Int32 × ra_H)) (e : nX11_bay_0 N a0 a1 a2 h = some r) : ra_Ru 2 mX11_bay 0 [some (.ref a0), some (.int a1), some (.int a2), none] [] h (ra_oI r) :=
  ra_sound (by omega) rfl ra_rI_ok (kX11_bay_0_ok N) (fun m av h h1 e => (tVX11_bay_ok N) m av h h1 e) (fun m av h x h1 e => (tIX11_bay_ok N) m av h (x, h1) e) (fun m av h x h1 e => (ra_c0_ok (ro := ra_oJ)) m av h (x, h1) e) (fun m av h x h1 e => (ra_c0_ok (ro := ra_oR)) m av h (x, h1) e) (fun m av h x h1 e => (ra_c0_ok (ro := ra_oN)) m av h (x, h1) e) (fun m av h x h1 e => (ra_c0_ok (ro := ra_oF)) m av h (x, h1) e) 30 lX11_bay_0 _ _ _ _ lX11_bay_0_ck (show ra_run ra_rI (kX11_bay_0 N) (tVX11_bay N) (tIX11_bay N) ra_c0 ra_c0 ra_c0 ra_c0 30 lX11_bay_0 [some (.ref a0), some (.int a1), some (.int a2), none] [] h = some r from e) _ _ rfl
def fX11_bay (N : Nat) (p0 : Nat) (p1 : Int32) (p2 : Int32) (h : ra_H) : Option (Int32 × ra_H) := match ra_isOb h p0 11 with
  | true => nX11_bay_0 N p0 p1 p2 h
  | false => none
set_option maxRecDepth 100000 in
theorem mtX11_bay : ra_MT[32]? = some (mX11_bay, 1, 2, (1, 1), (3, 69), (3, 70)) := rfl
theorem fX11_bay_co (N : Nat) (p0 : Nat) (p1 : Int32) (p2 : Int32) (h : ra_H) (r : (Int32 × ra_H)) (e : fX11_bay N p0 p1 p2 h = some r) (D : Nat) (hD : 3 ≤ D) : ra_CO D 32 [.ref p0, .int p1, .int p2] h (ra_oI r).1 (ra_oI r).2 := by
  have hw : ra_nw2 [.ref p0, .int p1, .int p2] ≤ 4 := Nat.le_of_ble_eq_true rfl
  have hdb : ∀ v ∈ ([.ref p0, .int p1, .int p2] : List Value), ∀ x, v ≠ .double x := by
    intro v hv x hx
    simp [hx] at hv
  unfold fX11_bay at e
  split at e
  · rename_i ho
    have e1 := e
    exact ⟨2, _, mtX11_bay, hD, ra_ev_of (by decide) hdb hw trivial (ra_Ru.weak (nX11_bay_0_ok N p0 p1 p2 h _ e1) ⟨rfl, ⟨rfl, ⟨rfl, trivial⟩⟩⟩), (fun _ => ⟨_, _, rfl, ra_rcv_of ho (by decide) rfl⟩), (fun h => absurd h (by decide))⟩
  · cases e
/-! RedMarks.beside(I)I -/
def mX11_beside : ra_M := (yX11_beside, cX11_beside, 2, (some .int))
def tVX11_beside (N : Nat) : Nat → List Value → ra_H → Option ra_H := (ra_c1 178 (fun av h => match av with
  | [.ref z0] => fX6_layOut N z0 h
  | _ => none) ra_c0)
theorem tVX11_beside_ok (N : Nat) : ra_cok 5 ra_oV (tVX11_beside N) := (ra_c1_ok (by
  intro av h a e
  split at e
  · exact fX6_layOut_co N _ _ _ e 5 (by omega)
  · cases e) ra_c0_ok)
def lX11_beside_26 : List ra_I := [(26, .iconst (-1), 1, 0, 0, 0, (-1), 0, []),
  (27, .ireturn, 1, 0, 0, 0, 0, 0, [])]
set_option maxRecDepth 100000 in
theorem lX11_beside_26_ck : lX11_beside_26.all (ra_ck mX11_beside 11) = true := by decide +kernel
def nX11_beside_26 (N : Nat) (h : ra_H) : Option (Int32 × ra_H) :=
  some ((-1 : Int32), h)
def kX11_beside_26 (N : Nat) : Nat → List (Option Value) → List Value → ra_H → Option (Int32 × ra_H) := ra_k0
theorem kX11_beside_26_ok (N : Nat) : ra_kok 5 mX11_beside ra_oI (kX11_beside_26 N) := ra_k0_ok
set_option maxRecDepth 100000 in
theorem nX11_beside_26_ok (N : Nat) (h : ra_H) (r : (Int32 × ra_H)) (e : nX11_beside_26 N h = some r) : ra_Ru 5 mX11_beside 26 [none, none] [] h (ra_oI r) :=
  ra_sound (by omega) rfl ra_rI_ok (kX11_beside_26_ok N) (fun m av h h1 e => (tVX11_beside_ok N) m av h h1 e) (fun m av h x h1 e => (ra_c0_ok (ro := ra_oI)) m av h (x, h1) e) (fun m av h x h1 e => (ra_c0_ok (ro := ra_oJ)) m av h (x, h1) e) (fun m av h x h1 e => (ra_c0_ok (ro := ra_oR)) m av h (x, h1) e) (fun m av h x h1 e => (ra_c0_ok (ro := ra_oN)) m av h (x, h1) e) (fun m av h x h1 e => (ra_c0_ok (ro := ra_oF)) m av h (x, h1) e) 3 lX11_beside_26 _ _ _ _ lX11_beside_26_ck (show ra_run ra_rI (kX11_beside_26 N) (tVX11_beside N) ra_c0 ra_c0 ra_c0 ra_c0 ra_c0 3 lX11_beside_26 [none, none] [] h = some r from e) _ _ rfl
def lX11_beside_59 : List ra_I := [(59, .ireturn, 1, 0, 0, 0, 0, 0, [])]
set_option maxRecDepth 100000 in
theorem lX11_beside_59_ck : lX11_beside_59.all (ra_ck mX11_beside 11) = true := by decide +kernel
def nX11_beside_59 (N : Nat) (b0 : Int32) (h : ra_H) : Option (Int32 × ra_H) :=
  some (b0, h)
def kX11_beside_59 (N : Nat) : Nat → List (Option Value) → List Value → ra_H → Option (Int32 × ra_H) := ra_k0
theorem kX11_beside_59_ok (N : Nat) : ra_kok 5 mX11_beside ra_oI (kX11_beside_59 N) := ra_k0_ok
set_option maxRecDepth 100000 in
theorem nX11_beside_59_ok (N : Nat) (b0 : Int32) (h : ra_H) (r : (Int32 × ra_H)) (e : nX11_beside_59 N b0 h = some r) : ra_Ru 5 mX11_beside 59 [none, none] [.int b0] h (ra_oI r) :=
  ra_sound (by omega) rfl ra_rI_ok (kX11_beside_59_ok N) (fun m av h h1 e => (tVX11_beside_ok N) m av h h1 e) (fun m av h x h1 e => (ra_c0_ok (ro := ra_oI)) m av h (x, h1) e) (fun m av h x h1 e => (ra_c0_ok (ro := ra_oJ)) m av h (x, h1) e) (fun m av h x h1 e => (ra_c0_ok (ro := ra_oR)) m av h (x, h1) e) (fun m av h x h1 e => (ra_c0_ok (ro := ra_oN)) m av h (x, h1) e) (fun m av h x h1 e => (ra_c0_ok (ro := ra_oF)) m av h (x, h1) e) 2 lX11_beside_59 _ _ _ _ lX11_beside_59_ck (show ra_run ra_rI (kX11_beside_59 N) (tVX11_beside N) ra_c0 ra_c0 ra_c0 ra_c0 ra_c0 2 lX11_beside_59 [none, none] [.int b0] h = some r from e) _ _ rfl
def lX11_beside_0 : List ra_I := [(0, .aload_n 0, 1, 0, 0, 0, 0, 0, []),
  (1, .getfield 10, 3, 11, 0, 2, 0, 0, []),
  (4, .getfield 331, 3, 2, 16, 0, 0, 0, []),
  (7, .ifCond .eq (19), 3, 26, 0, 0, 0, 0, []),
  (10, .iload_n 1, 1, 1, 0, 0, 0, 0, []),
  (11, .iconst (-1), 1, 0, 0, 0, (-1), 0, []),
  (12, .if_icmp .lt (14), 3, 26, 0, 0, 0, 0, []),
  (15, .iload_n 1, 1, 1, 0, 0, 0, 0, []),
  (16, .aload_n 0, 1, 0, 0, 0, 0, 0, []),
  (17, .getfield 10, 3, 11, 0, 2, 0, 0, []),
  (20, .getfield 331, 3, 2, 16, 0, 0, 0, []),
  (23, .if_icmp .lt (5), 3, 28, 0, 0, 0, 0, []),
  (28, .aload_n 0, 1, 0, 0, 0, 0, 0, []),
  (29, .getfield 68, 3, 11, 7, 2, 0, 0, []),
  (32, .invokevirtual 338, 3, 178, 1, 0, 0, 0, []),
  (35, .iload_n 1, 1, 1, 0, 0, 0, 0, []),
  (36, .iconst (-1), 1, 0, 0, 0, (-1), 0, []),
  (37, .if_icmp .ne (13), 3, 50, 0, 0, 0, 0, []),
  (40, .aload_n 0, 1, 0, 0, 0, 0, 0, []),
  (41, .getfield 68, 3, 11, 7, 2, 0, 0, []),
  (44, .getfield 341, 3, 6, 6, 0, 0, 0, []),
  (47, .goto (12), 3, 59, 0, 0, 0, 0, []),
  (50, .aload_n 0, 1, 0, 0, 0, 0, 0, []),
  (51, .getfield 68, 3, 11, 7, 2, 0, 0, []),
  (54, .getfield 344, 3, 6, 5, 2, 0, 0, []),
  (57, .iload_n 1, 1, 1, 0, 0, 0, 0, []),
  (58, .iaload, 1, 0, 0, 0, 0, 0, [])]
set_option maxRecDepth 100000 in
theorem lX11_beside_0_ck : lX11_beside_0.all (ra_ck mX11_beside 11) = true := by decide +kernel
def nX11_beside_0 (N : Nat) (a0 : Nat) (a1 : Int32) (h : ra_H) : Option (Int32 × ra_H) :=
  (ra_fR h 11 a0 0).bind fun x1 =>
  (ra_fI h 2 x1 16).bind fun x2 =>
  if x2 = 0 then
    nX11_beside_26 N h
  else
    if a1 < ((-1 : Int32)) then
      nX11_beside_26 N h
    else
      (ra_fR h 11 a0 0).bind fun x3 =>
      (ra_fI h 2 x3 16).bind fun x4 =>
      if a1 < x4 then
        (ra_fR h 11 a0 7).bind fun x5 =>
        (fX6_layOut N x5 h).bind fun h6 =>
        if a1 = ((-1 : Int32)) then
          (ra_fR h6 11 a0 7).bind fun x10 =>
          (ra_fI h6 6 x10 6).bind fun x11 =>
          nX11_beside_59 N x11 h6
        else
          (ra_fR h6 11 a0 7).bind fun x7 =>
          (ra_fR h6 6 x7 5).bind fun x8 =>
          (ra_aI h6 0 x8 a1).bind fun x9 =>
          nX11_beside_59 N x9 h6
      else
        nX11_beside_26 N h
def kX11_beside_0 (N : Nat) : Nat → List (Option Value) → List Value → ra_H → Option (Int32 × ra_H) := (ra_k1 26 (fun L S h => match L, S with
  | [_, _], [] => nX11_beside_26 N h
  | _, _ => none) (ra_k1 59 (fun L S h => match L, S with
  | [_, _], [.int b0] => nX11_beside_59 N b0 h
  | _, _ => none) ra_k0))
theorem kX11_beside_0_ok (N : Nat) : ra_kok 5 mX11_beside ra_oI (kX11_beside_0 N) := (ra_k1_ok (by
  intro L S h a e
  split at e
  · exact ra_Ru.weak (nX11_beside_26_ok N _ _ e) trivial
  · cases e) (ra_k1_ok (by
  intro L S h a e
  split at e
  · exact ra_Ru.weak (nX11_beside_59_ok N _ _ _ e) trivial
  · cases e) ra_k0_ok))
set_option maxRecDepth 100000 in
theorem nX11_beside_0_ok (N : Nat) (a0 : Nat) (a1 : Int32) (h : ra_H) (r : (Int32 × ra_H)) (e : nX11_beside_0 N a0 a1 h = some r) : ra_Ru 5 mX11_beside 0 [some (.ref a0), some (.int a1)] [] h (ra_oI r) :=
  ra_sound (by omega) rfl ra_rI_ok (kX11_beside_0_ok N) (fun m av h h1 e => (tVX11_beside_ok N) m av h h1 e) (fun m av h x h1 e => (ra_c0_ok (ro := ra_oI)) m av h (x, h1) e) (fun m av h x h1 e => (ra_c0_ok (ro := ra_oJ)) m av h (x, h1) e) (fun m av h x h1 e => (ra_c0_ok (ro := ra_oR)) m av h (x, h1) e) (fun m av h x h1 e => (ra_c0_ok (ro := ra_oN)) m av h (x, h1) e) (fun m av h x h1 e => (ra_c0_ok (ro := ra_oF)) m av h (x, h1) e) 28 lX11_beside_0 _ _ _ _ lX11_beside_0_ck (show ra_run ra_rI (kX11_beside_0 N) (tVX11_beside N) ra_c0 ra_c0 ra_c0 ra_c0 ra_c0 28 lX11_beside_0 [some (.ref a0), some (.int a1)] [] h = some r from e) _ _ rfl
def fX11_beside (N : Nat) (p0 : Nat) (p1 : Int32) (h : ra_H) : Option (Int32 × ra_H) := match ra_isOb h p0 11 with
  | true => nX11_beside_0 N p0 p1 h
  | false => none
set_option maxRecDepth 100000 in
theorem mtX11_beside : ra_MT[177]? = some (mX11_beside, 1, 1, (1, 1), (5, 239), (6, 0)) := rfl
theorem fX11_beside_co (N : Nat) (p0 : Nat) (p1 : Int32) (h : ra_H) (r : (Int32 × ra_H)) (e : fX11_beside N p0 p1 h = some r) (D : Nat) (hD : 6 ≤ D) : ra_CO D 177 [.ref p0, .int p1] h (ra_oI r).1 (ra_oI r).2 := by
  have hw : ra_nw2 [.ref p0, .int p1] ≤ 2 := Nat.le_of_ble_eq_true rfl
  have hdb : ∀ v ∈ ([.ref p0, .int p1] : List Value), ∀ x, v ≠ .double x := by
    intro v hv x hx
    simp [hx] at hv
  unfold fX11_beside at e
  split at e
  · rename_i ho
    have e1 := e
    exact ⟨5, _, mtX11_beside, hD, ra_ev_of (by decide) hdb hw trivial (ra_Ru.weak (nX11_beside_0_ok N p0 p1 h _ e1) ⟨rfl, ⟨rfl, trivial⟩⟩), (fun _ => ⟨_, _, rfl, ra_rcv_of ho (by decide) rfl⟩), (fun h => absurd h (by decide))⟩
  · cases e
/-! RedMarks.best(I)I -/
def mX11_best : ra_M := (yX11_best, cX11_best, 2, (some .int))
def tIX11_best (N : Nat) : Nat → List Value → ra_H → Option (Int32 × ra_H) := (ra_c1 97 (fun av h => match av with
  | [.ref z0, .int z1] => fX1_bestOf N z0 z1 h
  | _ => none) ra_c0)
theorem tIX11_best_ok (N : Nat) : ra_cok 7 ra_oI (tIX11_best N) := (ra_c1_ok (by
  intro av h a e
  split at e
  · exact fX1_bestOf_co N _ _ _ _ e 7 (by omega)
  · cases e) ra_c0_ok)
def lX11_best_19 : List ra_I := [(19, .iconst (-1), 1, 0, 0, 0, (-1), 0, []),
  (20, .ireturn, 1, 0, 0, 0, 0, 0, [])]
set_option maxRecDepth 100000 in
theorem lX11_best_19_ck : lX11_best_19.all (ra_ck mX11_best 11) = true := by decide +kernel
def nX11_best_19 (N : Nat) (h : ra_H) : Option (Int32 × ra_H) :=
  some ((-1 : Int32), h)
def kX11_best_19 (N : Nat) : Nat → List (Option Value) → List Value → ra_H → Option (Int32 × ra_H) := ra_k0
theorem kX11_best_19_ok (N : Nat) : ra_kok 7 mX11_best ra_oI (kX11_best_19 N) := ra_k0_ok
set_option maxRecDepth 100000 in
theorem nX11_best_19_ok (N : Nat) (h : ra_H) (r : (Int32 × ra_H)) (e : nX11_best_19 N h = some r) : ra_Ru 7 mX11_best 19 [none, none] [] h (ra_oI r) :=
  ra_sound (by omega) rfl ra_rI_ok (kX11_best_19_ok N) (fun m av h h1 e => (ra_c0_ok (ro := ra_oV)) m av h h1 e) (fun m av h x h1 e => (tIX11_best_ok N) m av h (x, h1) e) (fun m av h x h1 e => (ra_c0_ok (ro := ra_oJ)) m av h (x, h1) e) (fun m av h x h1 e => (ra_c0_ok (ro := ra_oR)) m av h (x, h1) e) (fun m av h x h1 e => (ra_c0_ok (ro := ra_oN)) m av h (x, h1) e) (fun m av h x h1 e => (ra_c0_ok (ro := ra_oF)) m av h (x, h1) e) 3 lX11_best_19 _ _ _ _ lX11_best_19_ck (show ra_run ra_rI (kX11_best_19 N) ra_c0 (tIX11_best N) ra_c0 ra_c0 ra_c0 ra_c0 3 lX11_best_19 [none, none] [] h = some r from e) _ _ rfl
def lX11_best_0 : List ra_I := [(0, .aload_n 0, 1, 0, 0, 0, 0, 0, []),
  (1, .getfield 10, 3, 11, 0, 2, 0, 0, []),
  (4, .getfield 159, 3, 2, 14, 0, 0, 0, []),
  (7, .ifCond .eq (12), 3, 19, 0, 0, 0, 0, []),
  (10, .iload_n 1, 1, 1, 0, 0, 0, 0, []),
  (11, .ifCond .lt (8), 3, 19, 0, 0, 0, 0, []),
  (14, .iload_n 1, 1, 1, 0, 0, 0, 0, []),
  (15, .iconst (4), 1, 0, 0, 0, (4), 0, []),
  (16, .if_icmp .le (5), 3, 21, 0, 0, 0, 0, []),
  (21, .aload_n 0, 1, 0, 0, 0, 0, 0, []),
  (22, .getfield 39, 3, 11, 4, 2, 0, 0, []),
  (25, .iload_n 1, 1, 1, 0, 0, 0, 0, []),
  (26, .invokevirtual 192, 3, 97, 2, 1, 0, 0, []),
  (29, .ireturn, 1, 0, 0, 0, 0, 0, [])]
set_option maxRecDepth 100000 in
theorem lX11_best_0_ck : lX11_best_0.all (ra_ck mX11_best 11) = true := by decide +kernel
def nX11_best_0 (N : Nat) (a0 : Nat) (a1 : Int32) (h : ra_H) : Option (Int32 × ra_H) :=
  (ra_fR h 11 a0 0).bind fun x1 =>
  (ra_fI h 2 x1 14).bind fun x2 =>
  if x2 = 0 then
    nX11_best_19 N h
  else
    if a1 < 0 then
      nX11_best_19 N h
    else
      if a1 ≤ ((4 : Int32)) then
        (ra_fR h 11 a0 4).bind fun x3 =>
        (fX1_bestOf N x3 a1 h).bind fun q4 =>
        some (q4.1, q4.2)
      else
        nX11_best_19 N h
def kX11_best_0 (N : Nat) : Nat → List (Option Value) → List Value → ra_H → Option (Int32 × ra_H) := (ra_k1 19 (fun L S h => match L, S with
  | [_, _], [] => nX11_best_19 N h
  | _, _ => none) ra_k0)
theorem kX11_best_0_ok (N : Nat) : ra_kok 7 mX11_best ra_oI (kX11_best_0 N) := (ra_k1_ok (by
  intro L S h a e
  split at e
  · exact ra_Ru.weak (nX11_best_19_ok N _ _ e) trivial
  · cases e) ra_k0_ok)
set_option maxRecDepth 100000 in
theorem nX11_best_0_ok (N : Nat) (a0 : Nat) (a1 : Int32) (h : ra_H) (r : (Int32 × ra_H)) (e : nX11_best_0 N a0 a1 h = some r) : ra_Ru 7 mX11_best 0 [some (.ref a0), some (.int a1)] [] h (ra_oI r) :=
  ra_sound (by omega) rfl ra_rI_ok (kX11_best_0_ok N) (fun m av h h1 e => (ra_c0_ok (ro := ra_oV)) m av h h1 e) (fun m av h x h1 e => (tIX11_best_ok N) m av h (x, h1) e) (fun m av h x h1 e => (ra_c0_ok (ro := ra_oJ)) m av h (x, h1) e) (fun m av h x h1 e => (ra_c0_ok (ro := ra_oR)) m av h (x, h1) e) (fun m av h x h1 e => (ra_c0_ok (ro := ra_oN)) m av h (x, h1) e) (fun m av h x h1 e => (ra_c0_ok (ro := ra_oF)) m av h (x, h1) e) 15 lX11_best_0 _ _ _ _ lX11_best_0_ck (show ra_run ra_rI (kX11_best_0 N) ra_c0 (tIX11_best N) ra_c0 ra_c0 ra_c0 ra_c0 15 lX11_best_0 [some (.ref a0), some (.int a1)] [] h = some r from e) _ _ rfl
def fX11_best (N : Nat) (p0 : Nat) (p1 : Int32) (h : ra_H) : Option (Int32 × ra_H) := match ra_isOb h p0 11 with
  | true => nX11_best_0 N p0 p1 h
  | false => none
set_option maxRecDepth 100000 in
theorem mtX11_best : ra_MT[96]? = some (mX11_best, 1, 1, (1, 1), (4, 137), (4, 138)) := rfl
theorem fX11_best_co (N : Nat) (p0 : Nat) (p1 : Int32) (h : ra_H) (r : (Int32 × ra_H)) (e : fX11_best N p0 p1 h = some r) (D : Nat) (hD : 8 ≤ D) : ra_CO D 96 [.ref p0, .int p1] h (ra_oI r).1 (ra_oI r).2 := by
  have hw : ra_nw2 [.ref p0, .int p1] ≤ 2 := Nat.le_of_ble_eq_true rfl
  have hdb : ∀ v ∈ ([.ref p0, .int p1] : List Value), ∀ x, v ≠ .double x := by
    intro v hv x hx
    simp [hx] at hv
  unfold fX11_best at e
  split at e
  · rename_i ho
    have e1 := e
    exact ⟨7, _, mtX11_best, hD, ra_ev_of (by decide) hdb hw trivial (ra_Ru.weak (nX11_best_0_ok N p0 p1 h _ e1) ⟨rfl, ⟨rfl, trivial⟩⟩), (fun _ => ⟨_, _, rfl, ra_rcv_of ho (by decide) rfl⟩), (fun h => absurd h (by decide))⟩
  · cases e
/-! RedMarks.binder(III)I -/
def mX11_binder : ra_M := (yX11_binder, cX11_binder, 6, (some .int))
def tIX11_binder (N : Nat) : Nat → List Value → ra_H → Option (Int32 × ra_H) := (ra_c1 15 (fun av h => match av with
  | [.int z0, .int z1] => fX11_fits N z0 z1 h
  | _ => none) (ra_c1 17 (fun av h => match av with
  | [.ref z0, .int z1] => fX11_refuse N z0 z1 h
  | _ => none) (ra_c1 24 (fun av h => match av with
  | [.ref z0, .int z1] => fX11_accept N z0 z1 h
  | _ => none) (ra_c1 27 (fun av h => match av with
  | [.ref z0, .int z1, .int z2] => fX2_factOf N z0 z1 z2 h
  | _ => none) (ra_c1 158 (fun av h => match av with
  | [.ref z0, .int z1] => fX2_sideOfYears N z0 z1 h
  | _ => none) ra_c0)))))
theorem tIX11_binder_ok (N : Nat) : ra_cok 3 ra_oI (tIX11_binder N) := (ra_c1_ok (by
  intro av h a e
  split at e
  · exact fX11_fits_co N _ _ _ _ e 3 (by omega)
  · cases e) (ra_c1_ok (by
  intro av h a e
  split at e
  · exact fX11_refuse_co N _ _ _ _ e 3 (by omega)
  · cases e) (ra_c1_ok (by
  intro av h a e
  split at e
  · exact fX11_accept_co N _ _ _ _ e 3 (by omega)
  · cases e) (ra_c1_ok (by
  intro av h a e
  split at e
  · exact fX2_factOf_co N _ _ _ _ _ e 3 (by omega)
  · cases e) (ra_c1_ok (by
  intro av h a e
  split at e
  · exact fX2_sideOfYears_co N _ _ _ _ e 3 (by omega)
  · cases e) ra_c0_ok)))))
def lX11_binder_30 : List ra_I := [(30, .aload_n 0, 1, 0, 0, 0, 0, 0, []),
  (31, .iconst (-1), 1, 0, 0, 0, (-1), 0, []),
  (32, .invokevirtual 95, 3, 17, 2, 1, 0, 0, []),
  (35, .ireturn, 1, 0, 0, 0, 0, 0, [])]
set_option maxRecDepth 100000 in
theorem lX11_binder_30_ck : lX11_binder_30.all (ra_ck mX11_binder 11) = true := by decide +kernel
def nX11_binder_30 (N : Nat) (a0 : Nat) (h : ra_H) : Option (Int32 × ra_H) :=
  (fX11_refuse N a0 ((-1 : Int32)) h).bind fun q1 =>
  some (q1.1, q1.2)
def kX11_binder_30 (N : Nat) : Nat → List (Option Value) → List Value → ra_H → Option (Int32 × ra_H) := ra_k0
theorem kX11_binder_30_ok (N : Nat) : ra_kok 3 mX11_binder ra_oI (kX11_binder_30 N) := ra_k0_ok
set_option maxRecDepth 100000 in
theorem nX11_binder_30_ok (N : Nat) (a0 : Nat) (h : ra_H) (r : (Int32 × ra_H)) (e : nX11_binder_30 N a0 h = some r) : ra_Ru 3 mX11_binder 30 [some (.ref a0), none, none, none, none, none] [] h (ra_oI r) :=
  ra_sound (by omega) rfl ra_rI_ok (kX11_binder_30_ok N) (fun m av h h1 e => (ra_c0_ok (ro := ra_oV)) m av h h1 e) (fun m av h x h1 e => (tIX11_binder_ok N) m av h (x, h1) e) (fun m av h x h1 e => (ra_c0_ok (ro := ra_oJ)) m av h (x, h1) e) (fun m av h x h1 e => (ra_c0_ok (ro := ra_oR)) m av h (x, h1) e) (fun m av h x h1 e => (ra_c0_ok (ro := ra_oN)) m av h (x, h1) e) (fun m av h x h1 e => (ra_c0_ok (ro := ra_oF)) m av h (x, h1) e) 5 lX11_binder_30 _ _ _ _ lX11_binder_30_ck (show ra_run ra_rI (kX11_binder_30 N) ra_c0 (tIX11_binder N) ra_c0 ra_c0 ra_c0 ra_c0 5 lX11_binder_30 [some (.ref a0), none, none, none, none, none] [] h = some r from e) _ _ rfl
def lX11_binder_104 : List ra_I := [(104, .iinc 5 (1), 3, 5, 0, 0, (1), 0, []),
  (107, .goto (-45), 3, 62, 0, 0, 0, 0, [])]
set_option maxRecDepth 100000 in
theorem lX11_binder_104_ck : lX11_binder_104.all (ra_ck mX11_binder 11) = true := by decide +kernel
def nX11_binder_104 (N : Nat) (c62 : Nat → Int32 → Int32 → Int32 → ra_H → Option (Int32 × ra_H)) (a0 : Nat) (a1 : Int32) (a4 : Int32) (a5 : Int32) (h : ra_H) : Option (Int32 × ra_H) :=
  let y1 := a5 + (1 : Int32)
  c62 a0 a1 a4 y1 h
def kX11_binder_104 (N : Nat) (c62 : Nat → Int32 → Int32 → Int32 → ra_H → Option (Int32 × ra_H)) : Nat → List (Option Value) → List Value → ra_H → Option (Int32 × ra_H) := (ra_k1 62 (fun L S h => match L, S with
  | [some (.ref a0), some (.int a1), _, _, some (.int a4), some (.int a5)], [] => c62 a0 a1 a4 a5 h
  | _, _ => none) ra_k0)
theorem kX11_binder_104_ok (N : Nat) (c62 : Nat → Int32 → Int32 → Int32 → ra_H → Option (Int32 × ra_H)) (hc62 : ∀ a0 a1 a4 a5 h r, c62 a0 a1 a4 a5 h = some r → ra_Ru 3 mX11_binder 62 [some (.ref a0), some (.int a1), none, none, some (.int a4), some (.int a5)] [] h (ra_oI r)) : ra_kok 3 mX11_binder ra_oI (kX11_binder_104 N c62) := (ra_k1_ok (by
  intro L S h a e
  split at e
  · exact ra_Ru.weak (hc62 _ _ _ _ _ _ e) ⟨rfl, ⟨rfl, ⟨rfl, ⟨rfl, trivial⟩⟩⟩⟩
  · cases e) ra_k0_ok)
set_option maxRecDepth 100000 in
theorem nX11_binder_104_ok (N : Nat) (c62 : Nat → Int32 → Int32 → Int32 → ra_H → Option (Int32 × ra_H)) (hc62 : ∀ a0 a1 a4 a5 h r, c62 a0 a1 a4 a5 h = some r → ra_Ru 3 mX11_binder 62 [some (.ref a0), some (.int a1), none, none, some (.int a4), some (.int a5)] [] h (ra_oI r)) (a0 : Nat) (a1 : Int32) (a4 : Int32) (a5 : Int32) (h : ra_H) (r : (Int32 × ra_H)) (e : nX11_binder_104 N c62 a0 a1 a4 a5 h = some r) : ra_Ru 3 mX11_binder 104 [some (.ref a0), some (.int a1), none, none, some (.int a4), some (.int a5)] [] h (ra_oI r) :=
  ra_sound (by omega) rfl ra_rI_ok (kX11_binder_104_ok N c62 hc62) (fun m av h h1 e => (ra_c0_ok (ro := ra_oV)) m av h h1 e) (fun m av h x h1 e => (tIX11_binder_ok N) m av h (x, h1) e) (fun m av h x h1 e => (ra_c0_ok (ro := ra_oJ)) m av h (x, h1) e) (fun m av h x h1 e => (ra_c0_ok (ro := ra_oR)) m av h (x, h1) e) (fun m av h x h1 e => (ra_c0_ok (ro := ra_oN)) m av h (x, h1) e) (fun m av h x h1 e => (ra_c0_ok (ro := ra_oF)) m av h (x, h1) e) 3 lX11_binder_104 _ _ _ _ lX11_binder_104_ck (show ra_run ra_rI (kX11_binder_104 N c62) ra_c0 (tIX11_binder N) ra_c0 ra_c0 ra_c0 ra_c0 3 lX11_binder_104 [some (.ref a0), some (.int a1), none, none, some (.int a4), some (.int a5)] [] h = some r from e) _ _ rfl
def lX11_binder_62 : List ra_I := [(62, .iload 5, 2, 5, 0, 0, 0, 0, []),
  (64, .aload_n 0, 1, 0, 0, 0, 0, 0, []),
  (65, .getfield 10, 3, 11, 0, 2, 0, 0, []),
  (68, .getfield 99, 3, 2, 13, 0, 0, 0, []),
  (71, .if_icmp .ge (39), 3, 110, 0, 0, 0, 0, []),
  (74, .aload_n 0, 1, 0, 0, 0, 0, 0, []),
  (75, .getfield 10, 3, 11, 0, 2, 0, 0, []),
  (78, .iload 5, 2, 5, 0, 0, 0, 0, []),
  (80, .bipush (7), 2, 0, 0, 0, (7), 0, []),
  (82, .invokevirtual 116, 3, 27, 3, 1, 0, 0, []),
  (85, .iload_n 1, 1, 1, 0, 0, 0, 0, []),
  (86, .if_icmp .ne (18), 3, 104, 0, 0, 0, 0, []),
  (89, .aload_n 0, 1, 0, 0, 0, 0, 0, []),
  (90, .getfield 10, 3, 11, 0, 2, 0, 0, []),
  (93, .iload 5, 2, 5, 0, 0, 0, 0, []),
  (95, .invokevirtual 273, 3, 158, 2, 1, 0, 0, []),
  (98, .ifCond .eq (6), 3, 104, 0, 0, 0, 0, []),
  (101, .iinc 4 (1), 3, 4, 0, 0, (1), 0, []),
  (110, .aload_n 0, 1, 0, 0, 0, 0, 0, []),
  (111, .iload 4, 2, 4, 0, 0, 0, 0, []),
  (113, .invokevirtual 106, 3, 24, 2, 1, 0, 0, []),
  (116, .ireturn, 1, 0, 0, 0, 0, 0, [])]
set_option maxRecDepth 100000 in
theorem lX11_binder_62_ck : lX11_binder_62.all (ra_ck mX11_binder 11) = true := by decide +kernel
def nX11_binder_62 (N : Nat) : Nat → Nat → Int32 → Int32 → Int32 → ra_H → Option (Int32 × ra_H)
  | 0, _, _, _, _, _ => none
  | n + 1, a0, a1, a4, a5, h =>
  (ra_fR h 11 a0 0).bind fun x1 =>
  (ra_fI h 2 x1 13).bind fun x2 =>
  if a5 < x2 then
    (ra_fR h 11 a0 0).bind fun x4 =>
    (fX2_factOf N x4 a5 ((7 : Int32)) h).bind fun q5 =>
    if q5.1 = a1 then
      (ra_fR q5.2 11 a0 0).bind fun x6 =>
      (fX2_sideOfYears N x6 a5 q5.2).bind fun q7 =>
      if q7.1 = 0 then
        nX11_binder_104 N (nX11_binder_62 N n) a0 a1 a4 a5 q7.2
      else
        let y8 := a4 + (1 : Int32)
        nX11_binder_104 N (nX11_binder_62 N n) a0 a1 y8 a5 q7.2
    else
      nX11_binder_104 N (nX11_binder_62 N n) a0 a1 a4 a5 q5.2
  else
    (fX11_accept N a0 a4 h).bind fun q3 =>
    some (q3.1, q3.2)
def kX11_binder_62 (N : Nat) (cs : Nat → Int32 → Int32 → Int32 → ra_H → Option (Int32 × ra_H)) : Nat → List (Option Value) → List Value → ra_H → Option (Int32 × ra_H) := (ra_k1 104 (fun L S h => match L, S with
  | [some (.ref a0), some (.int a1), _, _, some (.int a4), some (.int a5)], [] => nX11_binder_104 N cs a0 a1 a4 a5 h
  | _, _ => none) ra_k0)
theorem kX11_binder_62_ok (N : Nat) (cs : Nat → Int32 → Int32 → Int32 → ra_H → Option (Int32 × ra_H)) (hcs : ∀ a0 a1 a4 a5 h r, cs a0 a1 a4 a5 h = some r → ra_Ru 3 mX11_binder 62 [some (.ref a0), some (.int a1), none, none, some (.int a4), some (.int a5)] [] h (ra_oI r)) : ra_kok 3 mX11_binder ra_oI (kX11_binder_62 N cs) := (ra_k1_ok (by
  intro L S h a e
  split at e
  · exact ra_Ru.weak (nX11_binder_104_ok N cs hcs _ _ _ _ _ _ e) ⟨rfl, ⟨rfl, ⟨rfl, ⟨rfl, trivial⟩⟩⟩⟩
  · cases e) ra_k0_ok)
set_option maxRecDepth 100000 in
theorem nX11_binder_62_ok (N : Nat) : ∀ n a0 a1 a4 a5 h r, nX11_binder_62 N n a0 a1 a4 a5 h = some r → ra_Ru 3 mX11_binder 62 [some (.ref a0), some (.int a1), none, none, some (.int a4), some (.int a5)] [] h (ra_oI r) := by
  intro n
  induction n with
  | zero => intro a0 a1 a4 a5 h r e; cases e
  | succ n ih =>
    intro a0 a1 a4 a5 h r e
    exact ra_sound (by omega) rfl ra_rI_ok (kX11_binder_62_ok N (nX11_binder_62 N n) ih) (fun m av h h1 e => (ra_c0_ok (ro := ra_oV)) m av h h1 e) (fun m av h x h1 e => (tIX11_binder_ok N) m av h (x, h1) e) (fun m av h x h1 e => (ra_c0_ok (ro := ra_oJ)) m av h (x, h1) e) (fun m av h x h1 e => (ra_c0_ok (ro := ra_oR)) m av h (x, h1) e) (fun m av h x h1 e => (ra_c0_ok (ro := ra_oN)) m av h (x, h1) e) (fun m av h x h1 e => (ra_c0_ok (ro := ra_oF)) m av h (x, h1) e) 23 lX11_binder_62 _ _ _ _ lX11_binder_62_ck (show ra_run ra_rI (kX11_binder_62 N (nX11_binder_62 N n)) ra_c0 (tIX11_binder N) ra_c0 ra_c0 ra_c0 ra_c0 23 lX11_binder_62 [some (.ref a0), some (.int a1), none, none, some (.int a4), some (.int a5)] [] h = some r from e) _ _ rfl
def lX11_binder_0 : List ra_I := [(0, .bipush (7), 2, 0, 0, 0, (7), 0, []),
  (2, .iload_n 1, 1, 1, 0, 0, 0, 0, []),
  (3, .invokestatic 109, 3, 15, 2, 1, 0, 0, []),
  (6, .ifCond .eq (24), 3, 30, 0, 0, 0, 0, []),
  (9, .iconst (2), 1, 0, 0, 0, (2), 0, []),
  (10, .iload_n 2, 1, 2, 0, 0, 0, 0, []),
  (11, .invokestatic 109, 3, 15, 2, 1, 0, 0, []),
  (14, .ifCond .eq (16), 3, 30, 0, 0, 0, 0, []),
  (17, .iconst (2), 1, 0, 0, 0, (2), 0, []),
  (18, .iload_n 3, 1, 3, 0, 0, 0, 0, []),
  (19, .invokestatic 109, 3, 15, 2, 1, 0, 0, []),
  (22, .ifCond .eq (8), 3, 30, 0, 0, 0, 0, []),
  (25, .iload_n 3, 1, 3, 0, 0, 0, 0, []),
  (26, .iload_n 2, 1, 2, 0, 0, 0, 0, []),
  (27, .if_icmp .ge (9), 3, 36, 0, 0, 0, 0, []),
  (36, .aload_n 0, 1, 0, 0, 0, 0, 0, []),
  (37, .getfield 10, 3, 11, 0, 2, 0, 0, []),
  (40, .getfield 267, 3, 2, 7, 2, 0, 0, []),
  (43, .iload_n 1, 1, 1, 0, 0, 0, 0, []),
  (44, .iload_n 2, 1, 2, 0, 0, 0, 0, []),
  (45, .iastore, 1, 0, 0, 0, 0, 0, []),
  (46, .aload_n 0, 1, 0, 0, 0, 0, 0, []),
  (47, .getfield 10, 3, 11, 0, 2, 0, 0, []),
  (50, .getfield 270, 3, 2, 8, 2, 0, 0, []),
  (53, .iload_n 1, 1, 1, 0, 0, 0, 0, []),
  (54, .iload_n 3, 1, 3, 0, 0, 0, 0, []),
  (55, .iastore, 1, 0, 0, 0, 0, 0, []),
  (56, .iconst (0), 1, 0, 0, 0, (0), 0, []),
  (57, .istore 4, 2, 4, 0, 0, 0, 0, []),
  (59, .iconst (0), 1, 0, 0, 0, (0), 0, []),
  (60, .istore 5, 2, 5, 0, 0, 0, 0, [])]
set_option maxRecDepth 100000 in
theorem lX11_binder_0_ck : lX11_binder_0.all (ra_ck mX11_binder 11) = true := by decide +kernel
def nX11_binder_0 (N : Nat) (a0 : Nat) (a1 : Int32) (a2 : Int32) (a3 : Int32) (h : ra_H) : Option (Int32 × ra_H) :=
  (fX11_fits N ((7 : Int32)) a1 h).bind fun q1 =>
  if q1.1 = 0 then
    nX11_binder_30 N a0 q1.2
  else
    (fX11_fits N ((2 : Int32)) a2 q1.2).bind fun q2 =>
    if q2.1 = 0 then
      nX11_binder_30 N a0 q2.2
    else
      (fX11_fits N ((2 : Int32)) a3 q2.2).bind fun q3 =>
      if q3.1 = 0 then
        nX11_binder_30 N a0 q3.2
      else
        if a3 < a2 then
          nX11_binder_30 N a0 q3.2
        else
          (ra_fR q3.2 11 a0 0).bind fun x4 =>
          (ra_fR q3.2 2 x4 7).bind fun x5 =>
          (ra_aW q3.2 0 x5 a1 a2).bind fun h6 =>
          (ra_fR h6 11 a0 0).bind fun x7 =>
          (ra_fR h6 2 x7 8).bind fun x8 =>
          (ra_aW h6 0 x8 a1 a3).bind fun h9 =>
          nX11_binder_62 N N a0 a1 ((0 : Int32)) ((0 : Int32)) h9
def kX11_binder_0 (N : Nat) : Nat → List (Option Value) → List Value → ra_H → Option (Int32 × ra_H) := (ra_k1 30 (fun L S h => match L, S with
  | [some (.ref a0), _, _, _, _, _], [] => nX11_binder_30 N a0 h
  | _, _ => none) (ra_k1 62 (fun L S h => match L, S with
  | [some (.ref a0), some (.int a1), _, _, some (.int a4), some (.int a5)], [] => nX11_binder_62 N N a0 a1 a4 a5 h
  | _, _ => none) ra_k0))
theorem kX11_binder_0_ok (N : Nat) : ra_kok 3 mX11_binder ra_oI (kX11_binder_0 N) := (ra_k1_ok (by
  intro L S h a e
  split at e
  · exact ra_Ru.weak (nX11_binder_30_ok N _ _ _ e) ⟨rfl, trivial⟩
  · cases e) (ra_k1_ok (by
  intro L S h a e
  split at e
  · exact ra_Ru.weak (nX11_binder_62_ok N N _ _ _ _ _ _ e) ⟨rfl, ⟨rfl, ⟨rfl, ⟨rfl, trivial⟩⟩⟩⟩
  · cases e) ra_k0_ok))
set_option maxRecDepth 100000 in
theorem nX11_binder_0_ok (N : Nat) (a0 : Nat) (a1 : Int32) (a2 : Int32) (a3 : Int32) (h : ra_H) (r : (Int32 × ra_H)) (e : nX11_binder_0 N a0 a1 a2 a3 h = some r) : ra_Ru 3 mX11_binder 0 [some (.ref a0), some (.int a1), some (.int a2), some (.int a3), none, none] [] h (ra_oI r) :=
  ra_sound (by omega) rfl ra_rI_ok (kX11_binder_0_ok N) (fun m av h h1 e => (ra_c0_ok (ro := ra_oV)) m av h h1 e) (fun m av h x h1 e => (tIX11_binder_ok N) m av h (x, h1) e) (fun m av h x h1 e => (ra_c0_ok (ro := ra_oJ)) m av h (x, h1) e) (fun m av h x h1 e => (ra_c0_ok (ro := ra_oR)) m av h (x, h1) e) (fun m av h x h1 e => (ra_c0_ok (ro := ra_oN)) m av h (x, h1) e) (fun m av h x h1 e => (ra_c0_ok (ro := ra_oF)) m av h (x, h1) e) 32 lX11_binder_0 _ _ _ _ lX11_binder_0_ck (show ra_run ra_rI (kX11_binder_0 N) ra_c0 (tIX11_binder N) ra_c0 ra_c0 ra_c0 ra_c0 32 lX11_binder_0 [some (.ref a0), some (.int a1), some (.int a2), some (.int a3), none, none] [] h = some r from e) _ _ rfl
def fX11_binder (N : Nat) (p0 : Nat) (p1 : Int32) (p2 : Int32) (p3 : Int32) (h : ra_H) : Option (Int32 × ra_H) := match ra_isOb h p0 11 with
  | true => nX11_binder_0 N p0 p1 p2 p3 h
  | false => none
set_option maxRecDepth 100000 in
theorem mtX11_binder : ra_MT[157]? = some (mX11_binder, 1, 3, (1, 1), (5, 152), (5, 153)) := rfl
theorem fX11_binder_co (N : Nat) (p0 : Nat) (p1 : Int32) (p2 : Int32) (p3 : Int32) (h : ra_H) (r : (Int32 × ra_H)) (e : fX11_binder N p0 p1 p2 p3 h = some r) (D : Nat) (hD : 4 ≤ D) : ra_CO D 157 [.ref p0, .int p1, .int p2, .int p3] h (ra_oI r).1 (ra_oI r).2 := by
  have hw : ra_nw2 [.ref p0, .int p1, .int p2, .int p3] ≤ 6 := Nat.le_of_ble_eq_true rfl
  have hdb : ∀ v ∈ ([.ref p0, .int p1, .int p2, .int p3] : List Value), ∀ x, v ≠ .double x := by
    intro v hv x hx
    simp [hx] at hv
  unfold fX11_binder at e
  split at e
  · rename_i ho
    have e1 := e
    exact ⟨3, _, mtX11_binder, hD, ra_ev_of (by decide) hdb hw trivial (ra_Ru.weak (nX11_binder_0_ok N p0 p1 p2 p3 h _ e1) ⟨rfl, ⟨rfl, ⟨rfl, ⟨rfl, trivial⟩⟩⟩⟩), (fun _ => ⟨_, _, rfl, ra_rcv_of ho (by decide) rfl⟩), (fun h => absurd h (by decide))⟩
  · cases e
/-! RedMarks.book(IIIII)I -/
def mX11_book : ra_M := (yX11_book, cX11_book, 6, (some .int))
def tIX11_book (N : Nat) : Nat → List Value → ra_H → Option (Int32 × ra_H) := (ra_c1 14 (fun av h => match av with
  | [.int z0, .int z1] => fX11_isMarkOrNone N z0 z1 h
  | _ => none) (ra_c1 16 (fun av h => match av with
  | [.int z0, .int z1, .int z2] => fX11_areBookNumbers N z0 z1 z2 h
  | _ => none) (ra_c1 17 (fun av h => match av with
  | [.ref z0, .int z1] => fX11_refuse N z0 z1 h
  | _ => none) (ra_c1 18 (fun av h => match av with
  | [.ref z0, .int z1, .int z2, .int z3, .int z4, .int z5] => fX11_addBook N z0 z1 z2 z3 z4 z5 h
  | _ => none) (ra_c1 24 (fun av h => match av with
  | [.ref z0, .int z1] => fX11_accept N z0 z1 h
  | _ => none) ra_c0)))))
theorem tIX11_book_ok (N : Nat) : ra_cok 5 ra_oI (tIX11_book N) := (ra_c1_ok (by
  intro av h a e
  split at e
  · exact fX11_isMarkOrNone_co N _ _ _ _ e 5 (by omega)
  · cases e) (ra_c1_ok (by
  intro av h a e
  split at e
  · exact fX11_areBookNumbers_co N _ _ _ _ _ e 5 (by omega)
  · cases e) (ra_c1_ok (by
  intro av h a e
  split at e
  · exact fX11_refuse_co N _ _ _ _ e 5 (by omega)
  · cases e) (ra_c1_ok (by
  intro av h a e
  split at e
  · exact fX11_addBook_co N _ _ _ _ _ _ _ _ e 5 (by omega)
  · cases e) (ra_c1_ok (by
  intro av h a e
  split at e
  · exact fX11_accept_co N _ _ _ _ e 5 (by omega)
  · cases e) ra_c0_ok)))))
def lX11_book_19 : List ra_I := [(19, .aload_n 0, 1, 0, 0, 0, 0, 0, []),
  (20, .iconst (-1), 1, 0, 0, 0, (-1), 0, []),
  (21, .invokevirtual 95, 3, 17, 2, 1, 0, 0, []),
  (24, .ireturn, 1, 0, 0, 0, 0, 0, [])]
set_option maxRecDepth 100000 in
theorem lX11_book_19_ck : lX11_book_19.all (ra_ck mX11_book 11) = true := by decide +kernel
def nX11_book_19 (N : Nat) (a0 : Nat) (h : ra_H) : Option (Int32 × ra_H) :=
  (fX11_refuse N a0 ((-1 : Int32)) h).bind fun q1 =>
  some (q1.1, q1.2)
def kX11_book_19 (N : Nat) : Nat → List (Option Value) → List Value → ra_H → Option (Int32 × ra_H) := ra_k0
theorem kX11_book_19_ok (N : Nat) : ra_kok 5 mX11_book ra_oI (kX11_book_19 N) := ra_k0_ok
set_option maxRecDepth 100000 in
theorem nX11_book_19_ok (N : Nat) (a0 : Nat) (h : ra_H) (r : (Int32 × ra_H)) (e : nX11_book_19 N a0 h = some r) : ra_Ru 5 mX11_book 19 [some (.ref a0), none, none, none, none, none] [] h (ra_oI r) :=
  ra_sound (by omega) rfl ra_rI_ok (kX11_book_19_ok N) (fun m av h h1 e => (ra_c0_ok (ro := ra_oV)) m av h h1 e) (fun m av h x h1 e => (tIX11_book_ok N) m av h (x, h1) e) (fun m av h x h1 e => (ra_c0_ok (ro := ra_oJ)) m av h (x, h1) e) (fun m av h x h1 e => (ra_c0_ok (ro := ra_oR)) m av h (x, h1) e) (fun m av h x h1 e => (ra_c0_ok (ro := ra_oN)) m av h (x, h1) e) (fun m av h x h1 e => (ra_c0_ok (ro := ra_oF)) m av h (x, h1) e) 5 lX11_book_19 _ _ _ _ lX11_book_19_ck (show ra_run ra_rI (kX11_book_19 N) ra_c0 (tIX11_book N) ra_c0 ra_c0 ra_c0 ra_c0 5 lX11_book_19 [some (.ref a0), none, none, none, none, none] [] h = some r from e) _ _ rfl
def lX11_book_0 : List ra_I := [(0, .iload_n 1, 1, 1, 0, 0, 0, 0, []),
  (1, .iload_n 2, 1, 2, 0, 0, 0, 0, []),
  (2, .invokestatic 87, 3, 14, 2, 1, 0, 0, []),
  (5, .ifCond .eq (14), 3, 19, 0, 0, 0, 0, []),
  (8, .iload_n 3, 1, 3, 0, 0, 0, 0, []),
  (9, .iload 4, 2, 4, 0, 0, 0, 0, []),
  (11, .iload 5, 2, 5, 0, 0, 0, 0, []),
  (13, .invokestatic 91, 3, 16, 3, 1, 0, 0, []),
  (16, .ifCond .ne (9), 3, 25, 0, 0, 0, 0, []),
  (25, .aload_n 0, 1, 0, 0, 0, 0, 0, []),
  (26, .getfield 10, 3, 11, 0, 2, 0, 0, []),
  (29, .getfield 99, 3, 2, 13, 0, 0, 0, []),
  (32, .bipush (40), 2, 0, 0, 0, (40), 0, []),
  (34, .if_icmp .lt (10), 3, 44, 0, 0, 0, 0, []),
  (37, .aload_n 0, 1, 0, 0, 0, 0, 0, []),
  (38, .bipush (-5), 2, 0, 0, 0, (-5), 0, []),
  (40, .invokevirtual 95, 3, 17, 2, 1, 0, 0, []),
  (43, .ireturn, 1, 0, 0, 0, 0, 0, []),
  (44, .aload_n 0, 1, 0, 0, 0, 0, 0, []),
  (45, .aload_n 0, 1, 0, 0, 0, 0, 0, []),
  (46, .iload_n 1, 1, 1, 0, 0, 0, 0, []),
  (47, .iload_n 2, 1, 2, 0, 0, 0, 0, []),
  (48, .iload_n 3, 1, 3, 0, 0, 0, 0, []),
  (49, .iload 4, 2, 4, 0, 0, 0, 0, []),
  (51, .iload 5, 2, 5, 0, 0, 0, 0, []),
  (53, .invokevirtual 102, 3, 18, 6, 1, 0, 0, []),
  (56, .invokevirtual 106, 3, 24, 2, 1, 0, 0, []),
  (59, .ireturn, 1, 0, 0, 0, 0, 0, [])]
set_option maxRecDepth 100000 in
theorem lX11_book_0_ck : lX11_book_0.all (ra_ck mX11_book 11) = true := by decide +kernel
def nX11_book_0 (N : Nat) (a0 : Nat) (a1 : Int32) (a2 : Int32) (a3 : Int32) (a4 : Int32) (a5 : Int32) (h : ra_H) : Option (Int32 × ra_H) :=
  (fX11_isMarkOrNone N a1 a2 h).bind fun q1 =>
  if q1.1 = 0 then
    nX11_book_19 N a0 q1.2
  else
    (fX11_areBookNumbers N a3 a4 a5 q1.2).bind fun q2 =>
    if q2.1 = 0 then
      nX11_book_19 N a0 q2.2
    else
      (ra_fR q2.2 11 a0 0).bind fun x3 =>
      (ra_fI q2.2 2 x3 13).bind fun x4 =>
      if x4 < ((40 : Int32)) then
        (fX11_addBook N a0 a1 a2 a3 a4 a5 q2.2).bind fun q5 =>
        (fX11_accept N a0 q5.1 q5.2).bind fun q6 =>
        some (q6.1, q6.2)
      else
        (fX11_refuse N a0 ((-5 : Int32)) q2.2).bind fun q7 =>
        some (q7.1, q7.2)
def kX11_book_0 (N : Nat) : Nat → List (Option Value) → List Value → ra_H → Option (Int32 × ra_H) := (ra_k1 19 (fun L S h => match L, S with
  | [some (.ref a0), _, _, _, _, _], [] => nX11_book_19 N a0 h
  | _, _ => none) ra_k0)
theorem kX11_book_0_ok (N : Nat) : ra_kok 5 mX11_book ra_oI (kX11_book_0 N) := (ra_k1_ok (by
  intro L S h a e
  split at e
  · exact ra_Ru.weak (nX11_book_19_ok N _ _ _ e) ⟨rfl, trivial⟩
  · cases e) ra_k0_ok)
set_option maxRecDepth 100000 in
theorem nX11_book_0_ok (N : Nat) (a0 : Nat) (a1 : Int32) (a2 : Int32) (a3 : Int32) (a4 : Int32) (a5 : Int32) (h : ra_H) (r : (Int32 × ra_H)) (e : nX11_book_0 N a0 a1 a2 a3 a4 a5 h = some r) : ra_Ru 5 mX11_book 0 [some (.ref a0), some (.int a1), some (.int a2), some (.int a3), some (.int a4), some (.int a5)] [] h (ra_oI r) :=
  ra_sound (by omega) rfl ra_rI_ok (kX11_book_0_ok N) (fun m av h h1 e => (ra_c0_ok (ro := ra_oV)) m av h h1 e) (fun m av h x h1 e => (tIX11_book_ok N) m av h (x, h1) e) (fun m av h x h1 e => (ra_c0_ok (ro := ra_oJ)) m av h (x, h1) e) (fun m av h x h1 e => (ra_c0_ok (ro := ra_oR)) m av h (x, h1) e) (fun m av h x h1 e => (ra_c0_ok (ro := ra_oN)) m av h (x, h1) e) (fun m av h x h1 e => (ra_c0_ok (ro := ra_oF)) m av h (x, h1) e) 29 lX11_book_0 _ _ _ _ lX11_book_0_ck (show ra_run ra_rI (kX11_book_0 N) ra_c0 (tIX11_book N) ra_c0 ra_c0 ra_c0 ra_c0 29 lX11_book_0 [some (.ref a0), some (.int a1), some (.int a2), some (.int a3), some (.int a4), some (.int a5)] [] h = some r from e) _ _ rfl
def fX11_book (N : Nat) (p0 : Nat) (p1 : Int32) (p2 : Int32) (p3 : Int32) (p4 : Int32) (p5 : Int32) (h : ra_H) : Option (Int32 × ra_H) := match ra_isOb h p0 11 with
  | true => nX11_book_0 N p0 p1 p2 p3 p4 p5 h
  | false => none
set_option maxRecDepth 100000 in
theorem mtX11_book : ra_MT[13]? = some (mX11_book, 1, 5, (1, 1), (2, 232), (2, 233)) := rfl
theorem fX11_book_co (N : Nat) (p0 : Nat) (p1 : Int32) (p2 : Int32) (p3 : Int32) (p4 : Int32) (p5 : Int32) (h : ra_H) (r : (Int32 × ra_H)) (e : fX11_book N p0 p1 p2 p3 p4 p5 h = some r) (D : Nat) (hD : 6 ≤ D) : ra_CO D 13 [.ref p0, .int p1, .int p2, .int p3, .int p4, .int p5] h (ra_oI r).1 (ra_oI r).2 := by
  have hw : ra_nw2 [.ref p0, .int p1, .int p2, .int p3, .int p4, .int p5] ≤ 6 := Nat.le_of_ble_eq_true rfl
  have hdb : ∀ v ∈ ([.ref p0, .int p1, .int p2, .int p3, .int p4, .int p5] : List Value), ∀ x, v ≠ .double x := by
    intro v hv x hx
    simp [hx] at hv
  unfold fX11_book at e
  split at e
  · rename_i ho
    have e1 := e
    exact ⟨5, _, mtX11_book, hD, ra_ev_of (by decide) hdb hw trivial (ra_Ru.weak (nX11_book_0_ok N p0 p1 p2 p3 p4 p5 h _ e1) ⟨rfl, ⟨rfl, ⟨rfl, ⟨rfl, ⟨rfl, ⟨rfl, trivial⟩⟩⟩⟩⟩⟩), (fun _ => ⟨_, _, rfl, ra_rcv_of ho (by decide) rfl⟩), (fun h => absurd h (by decide))⟩
  · cases e
/-! RedMarks.bound(I)I -/
def mX11_bound : ra_M := (yX11_bound, cX11_bound, 2, (some .int))
def tIX11_bound (N : Nat) : Nat → List Value → ra_H → Option (Int32 × ra_H) := (ra_c1 26 (fun av h => match av with
  | [.ref z0, .int z1] => fX2_hasBook N z0 z1 h
  | _ => none) (ra_c1 158 (fun av h => match av with
  | [.ref z0, .int z1] => fX2_sideOfYears N z0 z1 h
  | _ => none) ra_c0))
theorem tIX11_bound_ok (N : Nat) : ra_cok 3 ra_oI (tIX11_bound N) := (ra_c1_ok (by
  intro av h a e
  split at e
  · exact fX2_hasBook_co N _ _ _ _ e 3 (by omega)
  · cases e) (ra_c1_ok (by
  intro av h a e
  split at e
  · exact fX2_sideOfYears_co N _ _ _ _ e 3 (by omega)
  · cases e) ra_c0_ok))
def lX11_bound_25 : List ra_I := [(25, .ireturn, 1, 0, 0, 0, 0, 0, [])]
set_option maxRecDepth 100000 in
theorem lX11_bound_25_ck : lX11_bound_25.all (ra_ck mX11_bound 11) = true := by decide +kernel
def nX11_bound_25 (N : Nat) (b0 : Int32) (h : ra_H) : Option (Int32 × ra_H) :=
  some (b0, h)
def kX11_bound_25 (N : Nat) : Nat → List (Option Value) → List Value → ra_H → Option (Int32 × ra_H) := ra_k0
theorem kX11_bound_25_ok (N : Nat) : ra_kok 3 mX11_bound ra_oI (kX11_bound_25 N) := ra_k0_ok
set_option maxRecDepth 100000 in
theorem nX11_bound_25_ok (N : Nat) (b0 : Int32) (h : ra_H) (r : (Int32 × ra_H)) (e : nX11_bound_25 N b0 h = some r) : ra_Ru 3 mX11_bound 25 [none, none] [.int b0] h (ra_oI r) :=
  ra_sound (by omega) rfl ra_rI_ok (kX11_bound_25_ok N) (fun m av h h1 e => (ra_c0_ok (ro := ra_oV)) m av h h1 e) (fun m av h x h1 e => (tIX11_bound_ok N) m av h (x, h1) e) (fun m av h x h1 e => (ra_c0_ok (ro := ra_oJ)) m av h (x, h1) e) (fun m av h x h1 e => (ra_c0_ok (ro := ra_oR)) m av h (x, h1) e) (fun m av h x h1 e => (ra_c0_ok (ro := ra_oN)) m av h (x, h1) e) (fun m av h x h1 e => (ra_c0_ok (ro := ra_oF)) m av h (x, h1) e) 2 lX11_bound_25 _ _ _ _ lX11_bound_25_ck (show ra_run ra_rI (kX11_bound_25 N) ra_c0 (tIX11_bound N) ra_c0 ra_c0 ra_c0 ra_c0 2 lX11_bound_25 [none, none] [.int b0] h = some r from e) _ _ rfl
def lX11_bound_0 : List ra_I := [(0, .aload_n 0, 1, 0, 0, 0, 0, 0, []),
  (1, .getfield 10, 3, 11, 0, 2, 0, 0, []),
  (4, .iload_n 1, 1, 1, 0, 0, 0, 0, []),
  (5, .invokevirtual 112, 3, 26, 2, 1, 0, 0, []),
  (8, .ifCond .eq (14), 3, 22, 0, 0, 0, 0, []),
  (11, .aload_n 0, 1, 0, 0, 0, 0, 0, []),
  (12, .getfield 10, 3, 11, 0, 2, 0, 0, []),
  (15, .iload_n 1, 1, 1, 0, 0, 0, 0, []),
  (16, .invokevirtual 273, 3, 158, 2, 1, 0, 0, []),
  (19, .goto (6), 3, 25, 0, 0, 0, 0, []),
  (22, .sipush (-1000), 3, 0, 0, 0, (-1000), 0, [])]
set_option maxRecDepth 100000 in
theorem lX11_bound_0_ck : lX11_bound_0.all (ra_ck mX11_bound 11) = true := by decide +kernel
def nX11_bound_0 (N : Nat) (a0 : Nat) (a1 : Int32) (h : ra_H) : Option (Int32 × ra_H) :=
  (ra_fR h 11 a0 0).bind fun x1 =>
  (fX2_hasBook N x1 a1 h).bind fun q2 =>
  if q2.1 = 0 then
    nX11_bound_25 N ((-1000 : Int32)) q2.2
  else
    (ra_fR q2.2 11 a0 0).bind fun x3 =>
    (fX2_sideOfYears N x3 a1 q2.2).bind fun q4 =>
    nX11_bound_25 N q4.1 q4.2
def kX11_bound_0 (N : Nat) : Nat → List (Option Value) → List Value → ra_H → Option (Int32 × ra_H) := (ra_k1 25 (fun L S h => match L, S with
  | [_, _], [.int b0] => nX11_bound_25 N b0 h
  | _, _ => none) ra_k0)
theorem kX11_bound_0_ok (N : Nat) : ra_kok 3 mX11_bound ra_oI (kX11_bound_0 N) := (ra_k1_ok (by
  intro L S h a e
  split at e
  · exact ra_Ru.weak (nX11_bound_25_ok N _ _ _ e) trivial
  · cases e) ra_k0_ok)
set_option maxRecDepth 100000 in
theorem nX11_bound_0_ok (N : Nat) (a0 : Nat) (a1 : Int32) (h : ra_H) (r : (Int32 × ra_H)) (e : nX11_bound_0 N a0 a1 h = some r) : ra_Ru 3 mX11_bound 0 [some (.ref a0), some (.int a1)] [] h (ra_oI r) :=
  ra_sound (by omega) rfl ra_rI_ok (kX11_bound_0_ok N) (fun m av h h1 e => (ra_c0_ok (ro := ra_oV)) m av h h1 e) (fun m av h x h1 e => (tIX11_bound_ok N) m av h (x, h1) e) (fun m av h x h1 e => (ra_c0_ok (ro := ra_oJ)) m av h (x, h1) e) (fun m av h x h1 e => (ra_c0_ok (ro := ra_oR)) m av h (x, h1) e) (fun m av h x h1 e => (ra_c0_ok (ro := ra_oN)) m av h (x, h1) e) (fun m av h x h1 e => (ra_c0_ok (ro := ra_oF)) m av h (x, h1) e) 12 lX11_bound_0 _ _ _ _ lX11_bound_0_ck (show ra_run ra_rI (kX11_bound_0 N) ra_c0 (tIX11_bound N) ra_c0 ra_c0 ra_c0 ra_c0 12 lX11_bound_0 [some (.ref a0), some (.int a1)] [] h = some r from e) _ _ rfl
def fX11_bound (N : Nat) (p0 : Nat) (p1 : Int32) (h : ra_H) : Option (Int32 × ra_H) := match ra_isOb h p0 11 with
  | true => nX11_bound_0 N p0 p1 h
  | false => none
set_option maxRecDepth 100000 in
theorem mtX11_bound : ra_MT[159]? = some (mX11_bound, 1, 1, (1, 1), (5, 160), (5, 161)) := rfl
theorem fX11_bound_co (N : Nat) (p0 : Nat) (p1 : Int32) (h : ra_H) (r : (Int32 × ra_H)) (e : fX11_bound N p0 p1 h = some r) (D : Nat) (hD : 4 ≤ D) : ra_CO D 159 [.ref p0, .int p1] h (ra_oI r).1 (ra_oI r).2 := by
  have hw : ra_nw2 [.ref p0, .int p1] ≤ 2 := Nat.le_of_ble_eq_true rfl
  have hdb : ∀ v ∈ ([.ref p0, .int p1] : List Value), ∀ x, v ≠ .double x := by
    intro v hv x hx
    simp [hx] at hv
  unfold fX11_bound at e
  split at e
  · rename_i ho
    have e1 := e
    exact ⟨3, _, mtX11_bound, hD, ra_ev_of (by decide) hdb hw trivial (ra_Ru.weak (nX11_bound_0_ok N p0 p1 h _ e1) ⟨rfl, ⟨rfl, trivial⟩⟩), (fun _ => ⟨_, _, rfl, ra_rcv_of ho (by decide) rfl⟩), (fun h => absurd h (by decide))⟩
  · cases e
/-! RedMarks.clear()I -/
def mX11_clear : ra_M := (yX11_clear, cX11_clear, 2, (some .int))
def tVX11_clear (N : Nat) : Nat → List Value → ra_H → Option ra_H := (ra_c1 29 (fun av h => match av with
  | [.ref z0] => fX6_forgetAll N z0 h
  | _ => none) ra_c0)
theorem tVX11_clear_ok (N : Nat) : ra_cok 2 ra_oV (tVX11_clear N) := (ra_c1_ok (by
  intro av h a e
  split at e
  · exact fX6_forgetAll_co N _ _ _ e 2 (by omega)
  · cases e) ra_c0_ok)
def lX11_clear_0 : List ra_I := [(0, .aload_n 0, 1, 0, 0, 0, 0, 0, []),
  (1, .getfield 10, 3, 11, 0, 2, 0, 0, []),
  (4, .getfield 331, 3, 2, 16, 0, 0, 0, []),
  (7, .istore_n 1, 1, 1, 0, 0, 0, 0, []),
  (8, .aload_n 0, 1, 0, 0, 0, 0, 0, []),
  (9, .getfield 10, 3, 11, 0, 2, 0, 0, []),
  (12, .iconst (0), 1, 0, 0, 0, (0), 0, []),
  (13, .putfield 331, 3, 2, 16, 0, 0, 0, []),
  (16, .aload_n 0, 1, 0, 0, 0, 0, 0, []),
  (17, .getfield 68, 3, 11, 7, 2, 0, 0, []),
  (20, .invokevirtual 337, 3, 29, 1, 0, 0, 0, []),
  (23, .iload_n 1, 1, 1, 0, 0, 0, 0, []),
  (24, .ireturn, 1, 0, 0, 0, 0, 0, [])]
set_option maxRecDepth 100000 in
theorem lX11_clear_0_ck : lX11_clear_0.all (ra_ck mX11_clear 11) = true := by decide +kernel
def nX11_clear_0 (N : Nat) (a0 : Nat) (h : ra_H) : Option (Int32 × ra_H) :=
  (ra_fR h 11 a0 0).bind fun x1 =>
  (ra_fI h 2 x1 16).bind fun x2 =>
  (ra_fR h 11 a0 0).bind fun x3 =>
  (ra_fW h 2 x3 16 (.int ((0 : Int32)))).bind fun h4 =>
  (ra_fR h4 11 a0 7).bind fun x5 =>
  (fX6_forgetAll N x5 h4).bind fun h6 =>
  some (x2, h6)
def kX11_clear_0 (N : Nat) : Nat → List (Option Value) → List Value → ra_H → Option (Int32 × ra_H) := ra_k0
theorem kX11_clear_0_ok (N : Nat) : ra_kok 2 mX11_clear ra_oI (kX11_clear_0 N) := ra_k0_ok
set_option maxRecDepth 100000 in
theorem nX11_clear_0_ok (N : Nat) (a0 : Nat) (h : ra_H) (r : (Int32 × ra_H)) (e : nX11_clear_0 N a0 h = some r) : ra_Ru 2 mX11_clear 0 [some (.ref a0), none] [] h (ra_oI r) :=
  ra_sound (by omega) rfl ra_rI_ok (kX11_clear_0_ok N) (fun m av h h1 e => (tVX11_clear_ok N) m av h h1 e) (fun m av h x h1 e => (ra_c0_ok (ro := ra_oI)) m av h (x, h1) e) (fun m av h x h1 e => (ra_c0_ok (ro := ra_oJ)) m av h (x, h1) e) (fun m av h x h1 e => (ra_c0_ok (ro := ra_oR)) m av h (x, h1) e) (fun m av h x h1 e => (ra_c0_ok (ro := ra_oN)) m av h (x, h1) e) (fun m av h x h1 e => (ra_c0_ok (ro := ra_oF)) m av h (x, h1) e) 14 lX11_clear_0 _ _ _ _ lX11_clear_0_ck (show ra_run ra_rI (kX11_clear_0 N) (tVX11_clear N) ra_c0 ra_c0 ra_c0 ra_c0 ra_c0 14 lX11_clear_0 [some (.ref a0), none] [] h = some r from e) _ _ rfl
def fX11_clear (N : Nat) (p0 : Nat) (h : ra_H) : Option (Int32 × ra_H) := match ra_isOb h p0 11 with
  | true => nX11_clear_0 N p0 h
  | false => none
set_option maxRecDepth 100000 in
theorem mtX11_clear : ra_MT[176]? = some (mX11_clear, 1, 0, (1, 1), (5, 235), (5, 236)) := rfl
theorem fX11_clear_co (N : Nat) (p0 : Nat) (h : ra_H) (r : (Int32 × ra_H)) (e : fX11_clear N p0 h = some r) (D : Nat) (hD : 3 ≤ D) : ra_CO D 176 [.ref p0] h (ra_oI r).1 (ra_oI r).2 := by
  have hw : ra_nw2 [.ref p0] ≤ 2 := Nat.le_of_ble_eq_true rfl
  have hdb : ∀ v ∈ ([.ref p0] : List Value), ∀ x, v ≠ .double x := by
    intro v hv x hx
    simp [hx] at hv
  unfold fX11_clear at e
  split at e
  · rename_i ho
    have e1 := e
    exact ⟨2, _, mtX11_clear, hD, ra_ev_of (by decide) hdb hw trivial (ra_Ru.weak (nX11_clear_0_ok N p0 h _ e1) ⟨rfl, trivial⟩), (fun _ => ⟨_, _, rfl, ra_rcv_of ho (by decide) rfl⟩), (fun h => absurd h (by decide))⟩
  · cases e
/-! RedMarks.close(II)I -/
def mX11_close : ra_M := (yX11_close, cX11_close, 6, (some .int))
def tIX11_close (N : Nat) : Nat → List Value → ra_H → Option (Int32 × ra_H) := (ra_c1 34 (fun av h => match av with
  | [.int z0, .int z1] => fX11_isShelf N z0 z1 h
  | _ => none) (ra_c1 105 (fun av h => match av with
  | [.ref z0] => fX1_settleKept N z0 h
  | _ => none) (ra_c1 165 (fun av h => match av with
  | [.ref z0, .int z1] => fX5_closeOn N z0 z1 h
  | _ => none) ra_c0)))
theorem tIX11_close_ok (N : Nat) : ra_cok 7 ra_oI (tIX11_close N) := (ra_c1_ok (by
  intro av h a e
  split at e
  · exact fX11_isShelf_co N _ _ _ _ e 7 (by omega)
  · cases e) (ra_c1_ok (by
  intro av h a e
  split at e
  · exact fX1_settleKept_co N _ _ _ e 7 (by omega)
  · cases e) (ra_c1_ok (by
  intro av h a e
  split at e
  · exact fX5_closeOn_co N _ _ _ _ e 7 (by omega)
  · cases e) ra_c0_ok)))
def lX11_close_38 : List ra_I := [(38, .iconst (-1), 1, 0, 0, 0, (-1), 0, []),
  (39, .ireturn, 1, 0, 0, 0, 0, 0, [])]
set_option maxRecDepth 100000 in
theorem lX11_close_38_ck : lX11_close_38.all (ra_ck mX11_close 11) = true := by decide +kernel
def nX11_close_38 (N : Nat) (h : ra_H) : Option (Int32 × ra_H) :=
  some ((-1 : Int32), h)
def kX11_close_38 (N : Nat) : Nat → List (Option Value) → List Value → ra_H → Option (Int32 × ra_H) := ra_k0
theorem kX11_close_38_ok (N : Nat) : ra_kok 7 mX11_close ra_oI (kX11_close_38 N) := ra_k0_ok
set_option maxRecDepth 100000 in
theorem nX11_close_38_ok (N : Nat) (h : ra_H) (r : (Int32 × ra_H)) (e : nX11_close_38 N h = some r) : ra_Ru 7 mX11_close 38 [none, none, none, none, none, none] [] h (ra_oI r) :=
  ra_sound (by omega) rfl ra_rI_ok (kX11_close_38_ok N) (fun m av h h1 e => (ra_c0_ok (ro := ra_oV)) m av h h1 e) (fun m av h x h1 e => (tIX11_close_ok N) m av h (x, h1) e) (fun m av h x h1 e => (ra_c0_ok (ro := ra_oJ)) m av h (x, h1) e) (fun m av h x h1 e => (ra_c0_ok (ro := ra_oR)) m av h (x, h1) e) (fun m av h x h1 e => (ra_c0_ok (ro := ra_oN)) m av h (x, h1) e) (fun m av h x h1 e => (ra_c0_ok (ro := ra_oF)) m av h (x, h1) e) 3 lX11_close_38 _ _ _ _ lX11_close_38_ck (show ra_run ra_rI (kX11_close_38 N) ra_c0 (tIX11_close N) ra_c0 ra_c0 ra_c0 ra_c0 3 lX11_close_38 [none, none, none, none, none, none] [] h = some r from e) _ _ rfl
def lX11_close_64 : List ra_I := [(64, .iload 5, 2, 5, 0, 0, 0, 0, []),
  (66, .bipush (54), 2, 0, 0, 0, (54), 0, []),
  (68, .if_icmp .ge (23), 3, 91, 0, 0, 0, 0, []),
  (71, .iload 4, 2, 4, 0, 0, 0, 0, []),
  (73, .aload_n 0, 1, 0, 0, 0, 0, 0, []),
  (74, .getfield 52, 3, 11, 5, 2, 0, 0, []),
  (77, .iload 5, 2, 5, 0, 0, 0, 0, []),
  (79, .invokevirtual 285, 3, 165, 2, 1, 0, 0, []),
  (82, .iadd, 1, 0, 0, 0, 0, 0, []),
  (83, .istore 4, 2, 4, 0, 0, 0, 0, []),
  (85, .iinc 5 (1), 3, 5, 0, 0, (1), 0, []),
  (88, .goto (-24), 3, 64, 0, 0, 0, 0, []),
  (91, .iload 4, 2, 4, 0, 0, 0, 0, []),
  (93, .ireturn, 1, 0, 0, 0, 0, 0, [])]
set_option maxRecDepth 100000 in
theorem lX11_close_64_ck : lX11_close_64.all (ra_ck mX11_close 11) = true := by decide +kernel
def nX11_close_64 (N : Nat) : Nat → Nat → Int32 → Int32 → ra_H → Option (Int32 × ra_H)
  | 0, _, _, _, _ => none
  | n + 1, a0, a4, a5, h =>
  if a5 < ((54 : Int32)) then
    (ra_fR h 11 a0 5).bind fun x1 =>
    (fX5_closeOn N x1 a5 h).bind fun q2 =>
    let y3 := a4 + q2.1
    let y4 := a5 + (1 : Int32)
    nX11_close_64 N n a0 y3 y4 q2.2
  else
    some (a4, h)
def kX11_close_64 (N : Nat) (cs : Nat → Int32 → Int32 → ra_H → Option (Int32 × ra_H)) : Nat → List (Option Value) → List Value → ra_H → Option (Int32 × ra_H) := (ra_k1 64 (fun L S h => match L, S with
  | [some (.ref a0), _, _, _, some (.int a4), some (.int a5)], [] => cs a0 a4 a5 h
  | _, _ => none) ra_k0)
theorem kX11_close_64_ok (N : Nat) (cs : Nat → Int32 → Int32 → ra_H → Option (Int32 × ra_H)) (hcs : ∀ a0 a4 a5 h r, cs a0 a4 a5 h = some r → ra_Ru 7 mX11_close 64 [some (.ref a0), none, none, none, some (.int a4), some (.int a5)] [] h (ra_oI r)) : ra_kok 7 mX11_close ra_oI (kX11_close_64 N cs) := (ra_k1_ok (by
  intro L S h a e
  split at e
  · exact ra_Ru.weak (hcs _ _ _ _ _ e) ⟨rfl, ⟨rfl, ⟨rfl, trivial⟩⟩⟩
  · cases e) ra_k0_ok)
set_option maxRecDepth 100000 in
theorem nX11_close_64_ok (N : Nat) : ∀ n a0 a4 a5 h r, nX11_close_64 N n a0 a4 a5 h = some r → ra_Ru 7 mX11_close 64 [some (.ref a0), none, none, none, some (.int a4), some (.int a5)] [] h (ra_oI r) := by
  intro n
  induction n with
  | zero => intro a0 a4 a5 h r e; cases e
  | succ n ih =>
    intro a0 a4 a5 h r e
    exact ra_sound (by omega) rfl ra_rI_ok (kX11_close_64_ok N (nX11_close_64 N n) ih) (fun m av h h1 e => (ra_c0_ok (ro := ra_oV)) m av h h1 e) (fun m av h x h1 e => (tIX11_close_ok N) m av h (x, h1) e) (fun m av h x h1 e => (ra_c0_ok (ro := ra_oJ)) m av h (x, h1) e) (fun m av h x h1 e => (ra_c0_ok (ro := ra_oR)) m av h (x, h1) e) (fun m av h x h1 e => (ra_c0_ok (ro := ra_oN)) m av h (x, h1) e) (fun m av h x h1 e => (ra_c0_ok (ro := ra_oF)) m av h (x, h1) e) 15 lX11_close_64 _ _ _ _ lX11_close_64_ck (show ra_run ra_rI (kX11_close_64 N (nX11_close_64 N n)) ra_c0 (tIX11_close N) ra_c0 ra_c0 ra_c0 ra_c0 15 lX11_close_64 [some (.ref a0), none, none, none, some (.int a4), some (.int a5)] [] h = some r from e) _ _ rfl
def lX11_close_28 : List ra_I := [(28, .aload_n 0, 1, 0, 0, 0, 0, 0, []),
  (29, .getfield 39, 3, 11, 4, 2, 0, 0, []),
  (32, .invokevirtual 204, 3, 105, 1, 1, 0, 0, []),
  (35, .ifCond .ne (5), 3, 40, 0, 0, 0, 0, []),
  (40, .iload_n 3, 1, 3, 0, 0, 0, 0, []),
  (41, .ifCond .ne (17), 3, 58, 0, 0, 0, 0, []),
  (44, .aload_n 0, 1, 0, 0, 0, 0, 0, []),
  (45, .getfield 52, 3, 11, 5, 2, 0, 0, []),
  (48, .iload_n 1, 1, 1, 0, 0, 0, 0, []),
  (49, .bipush (6), 2, 0, 0, 0, (6), 0, []),
  (51, .imul, 1, 0, 0, 0, 0, 0, []),
  (52, .iload_n 2, 1, 2, 0, 0, 0, 0, []),
  (53, .iadd, 1, 0, 0, 0, 0, 0, []),
  (54, .invokevirtual 285, 3, 165, 2, 1, 0, 0, []),
  (57, .ireturn, 1, 0, 0, 0, 0, 0, []),
  (58, .iconst (0), 1, 0, 0, 0, (0), 0, []),
  (59, .istore 4, 2, 4, 0, 0, 0, 0, []),
  (61, .iconst (0), 1, 0, 0, 0, (0), 0, []),
  (62, .istore 5, 2, 5, 0, 0, 0, 0, [])]
set_option maxRecDepth 100000 in
theorem lX11_close_28_ck : lX11_close_28.all (ra_ck mX11_close 11) = true := by decide +kernel
def nX11_close_28 (N : Nat) (a0 : Nat) (a1 : Int32) (a2 : Int32) (a3 : Int32) (h : ra_H) : Option (Int32 × ra_H) :=
  (ra_fR h 11 a0 4).bind fun x1 =>
  (fX1_settleKept N x1 h).bind fun q2 =>
  if q2.1 = 0 then
    nX11_close_38 N q2.2
  else
    if a3 = 0 then
      (ra_fR q2.2 11 a0 5).bind fun x3 =>
      (fX5_closeOn N x3 ((a1 * ((6 : Int32))) + a2) q2.2).bind fun q4 =>
      some (q4.1, q4.2)
    else
      nX11_close_64 N N a0 ((0 : Int32)) ((0 : Int32)) q2.2
def kX11_close_28 (N : Nat) : Nat → List (Option Value) → List Value → ra_H → Option (Int32 × ra_H) := (ra_k1 38 (fun L S h => match L, S with
  | [_, _, _, _, _, _], [] => nX11_close_38 N h
  | _, _ => none) (ra_k1 64 (fun L S h => match L, S with
  | [some (.ref a0), _, _, _, some (.int a4), some (.int a5)], [] => nX11_close_64 N N a0 a4 a5 h
  | _, _ => none) ra_k0))
theorem kX11_close_28_ok (N : Nat) : ra_kok 7 mX11_close ra_oI (kX11_close_28 N) := (ra_k1_ok (by
  intro L S h a e
  split at e
  · exact ra_Ru.weak (nX11_close_38_ok N _ _ e) trivial
  · cases e) (ra_k1_ok (by
  intro L S h a e
  split at e
  · exact ra_Ru.weak (nX11_close_64_ok N N _ _ _ _ _ e) ⟨rfl, ⟨rfl, ⟨rfl, trivial⟩⟩⟩
  · cases e) ra_k0_ok))
set_option maxRecDepth 100000 in
theorem nX11_close_28_ok (N : Nat) (a0 : Nat) (a1 : Int32) (a2 : Int32) (a3 : Int32) (h : ra_H) (r : (Int32 × ra_H)) (e : nX11_close_28 N a0 a1 a2 a3 h = some r) : ra_Ru 7 mX11_close 28 [some (.ref a0), some (.int a1), some (.int a2), some (.int a3), none, none] [] h (ra_oI r) :=
  ra_sound (by omega) rfl ra_rI_ok (kX11_close_28_ok N) (fun m av h h1 e => (ra_c0_ok (ro := ra_oV)) m av h h1 e) (fun m av h x h1 e => (tIX11_close_ok N) m av h (x, h1) e) (fun m av h x h1 e => (ra_c0_ok (ro := ra_oJ)) m av h (x, h1) e) (fun m av h x h1 e => (ra_c0_ok (ro := ra_oR)) m av h (x, h1) e) (fun m av h x h1 e => (ra_c0_ok (ro := ra_oN)) m av h (x, h1) e) (fun m av h x h1 e => (ra_c0_ok (ro := ra_oF)) m av h (x, h1) e) 20 lX11_close_28 _ _ _ _ lX11_close_28_ck (show ra_run ra_rI (kX11_close_28 N) ra_c0 (tIX11_close N) ra_c0 ra_c0 ra_c0 ra_c0 20 lX11_close_28 [some (.ref a0), some (.int a1), some (.int a2), some (.int a3), none, none] [] h = some r from e) _ _ rfl
def lX11_close_15 : List ra_I := [(15, .istore_n 3, 1, 3, 0, 0, 0, 0, []),
  (16, .iload_n 3, 1, 3, 0, 0, 0, 0, []),
  (17, .ifCond .ne (11), 3, 28, 0, 0, 0, 0, []),
  (20, .iload_n 1, 1, 1, 0, 0, 0, 0, []),
  (21, .iload_n 2, 1, 2, 0, 0, 0, 0, []),
  (22, .invokestatic 138, 3, 34, 2, 1, 0, 0, []),
  (25, .ifCond .eq (13), 3, 38, 0, 0, 0, 0, [])]
set_option maxRecDepth 100000 in
theorem lX11_close_15_ck : lX11_close_15.all (ra_ck mX11_close 11) = true := by decide +kernel
def nX11_close_15 (N : Nat) (a0 : Nat) (a1 : Int32) (a2 : Int32) (b0 : Int32) (h : ra_H) : Option (Int32 × ra_H) :=
  if b0 = 0 then
    (fX11_isShelf N a1 a2 h).bind fun q1 =>
    if q1.1 = 0 then
      nX11_close_38 N q1.2
    else
      nX11_close_28 N a0 a1 a2 b0 q1.2
  else
    nX11_close_28 N a0 a1 a2 b0 h
def kX11_close_15 (N : Nat) : Nat → List (Option Value) → List Value → ra_H → Option (Int32 × ra_H) := (ra_k1 28 (fun L S h => match L, S with
  | [some (.ref a0), some (.int a1), some (.int a2), some (.int a3), _, _], [] => nX11_close_28 N a0 a1 a2 a3 h
  | _, _ => none) (ra_k1 38 (fun L S h => match L, S with
  | [_, _, _, _, _, _], [] => nX11_close_38 N h
  | _, _ => none) ra_k0))
theorem kX11_close_15_ok (N : Nat) : ra_kok 7 mX11_close ra_oI (kX11_close_15 N) := (ra_k1_ok (by
  intro L S h a e
  split at e
  · exact ra_Ru.weak (nX11_close_28_ok N _ _ _ _ _ _ e) ⟨rfl, ⟨rfl, ⟨rfl, ⟨rfl, trivial⟩⟩⟩⟩
  · cases e) (ra_k1_ok (by
  intro L S h a e
  split at e
  · exact ra_Ru.weak (nX11_close_38_ok N _ _ e) trivial
  · cases e) ra_k0_ok))
set_option maxRecDepth 100000 in
theorem nX11_close_15_ok (N : Nat) (a0 : Nat) (a1 : Int32) (a2 : Int32) (b0 : Int32) (h : ra_H) (r : (Int32 × ra_H)) (e : nX11_close_15 N a0 a1 a2 b0 h = some r) : ra_Ru 7 mX11_close 15 [some (.ref a0), some (.int a1), some (.int a2), none, none, none] [.int b0] h (ra_oI r) :=
  ra_sound (by omega) rfl ra_rI_ok (kX11_close_15_ok N) (fun m av h h1 e => (ra_c0_ok (ro := ra_oV)) m av h h1 e) (fun m av h x h1 e => (tIX11_close_ok N) m av h (x, h1) e) (fun m av h x h1 e => (ra_c0_ok (ro := ra_oJ)) m av h (x, h1) e) (fun m av h x h1 e => (ra_c0_ok (ro := ra_oR)) m av h (x, h1) e) (fun m av h x h1 e => (ra_c0_ok (ro := ra_oN)) m av h (x, h1) e) (fun m av h x h1 e => (ra_c0_ok (ro := ra_oF)) m av h (x, h1) e) 8 lX11_close_15 _ _ _ _ lX11_close_15_ck (show ra_run ra_rI (kX11_close_15 N) ra_c0 (tIX11_close N) ra_c0 ra_c0 ra_c0 ra_c0 8 lX11_close_15 [some (.ref a0), some (.int a1), some (.int a2), none, none, none] [.int b0] h = some r from e) _ _ rfl
def lX11_close_14 : List ra_I := [(14, .iconst (0), 1, 0, 0, 0, (0), 0, [])]
set_option maxRecDepth 100000 in
theorem lX11_close_14_ck : lX11_close_14.all (ra_ck mX11_close 11) = true := by decide +kernel
def nX11_close_14 (N : Nat) (a0 : Nat) (a1 : Int32) (a2 : Int32) (h : ra_H) : Option (Int32 × ra_H) :=
  nX11_close_15 N a0 a1 a2 ((0 : Int32)) h
def kX11_close_14 (N : Nat) : Nat → List (Option Value) → List Value → ra_H → Option (Int32 × ra_H) := (ra_k1 15 (fun L S h => match L, S with
  | [some (.ref a0), some (.int a1), some (.int a2), _, _, _], [.int b0] => nX11_close_15 N a0 a1 a2 b0 h
  | _, _ => none) ra_k0)
theorem kX11_close_14_ok (N : Nat) : ra_kok 7 mX11_close ra_oI (kX11_close_14 N) := (ra_k1_ok (by
  intro L S h a e
  split at e
  · exact ra_Ru.weak (nX11_close_15_ok N _ _ _ _ _ _ e) ⟨rfl, ⟨rfl, ⟨rfl, trivial⟩⟩⟩
  · cases e) ra_k0_ok)
set_option maxRecDepth 100000 in
theorem nX11_close_14_ok (N : Nat) (a0 : Nat) (a1 : Int32) (a2 : Int32) (h : ra_H) (r : (Int32 × ra_H)) (e : nX11_close_14 N a0 a1 a2 h = some r) : ra_Ru 7 mX11_close 14 [some (.ref a0), some (.int a1), some (.int a2), none, none, none] [] h (ra_oI r) :=
  ra_sound (by omega) rfl ra_rI_ok (kX11_close_14_ok N) (fun m av h h1 e => (ra_c0_ok (ro := ra_oV)) m av h h1 e) (fun m av h x h1 e => (tIX11_close_ok N) m av h (x, h1) e) (fun m av h x h1 e => (ra_c0_ok (ro := ra_oJ)) m av h (x, h1) e) (fun m av h x h1 e => (ra_c0_ok (ro := ra_oR)) m av h (x, h1) e) (fun m av h x h1 e => (ra_c0_ok (ro := ra_oN)) m av h (x, h1) e) (fun m av h x h1 e => (ra_c0_ok (ro := ra_oF)) m av h (x, h1) e) 2 lX11_close_14 _ _ _ _ lX11_close_14_ck (show ra_run ra_rI (kX11_close_14 N) ra_c0 (tIX11_close N) ra_c0 ra_c0 ra_c0 ra_c0 2 lX11_close_14 [some (.ref a0), some (.int a1), some (.int a2), none, none, none] [] h = some r from e) _ _ rfl
def lX11_close_0 : List ra_I := [(0, .iload_n 1, 1, 1, 0, 0, 0, 0, []),
  (1, .iconst (-1), 1, 0, 0, 0, (-1), 0, []),
  (2, .if_icmp .ne (12), 3, 14, 0, 0, 0, 0, []),
  (5, .iload_n 2, 1, 2, 0, 0, 0, 0, []),
  (6, .iconst (-1), 1, 0, 0, 0, (-1), 0, []),
  (7, .if_icmp .ne (7), 3, 14, 0, 0, 0, 0, []),
  (10, .iconst (1), 1, 0, 0, 0, (1), 0, []),
  (11, .goto (4), 3, 15, 0, 0, 0, 0, [])]
set_option maxRecDepth 100000 in
theorem lX11_close_0_ck : lX11_close_0.all (ra_ck mX11_close 11) = true := by decide +kernel
def nX11_close_0 (N : Nat) (a0 : Nat) (a1 : Int32) (a2 : Int32) (h : ra_H) : Option (Int32 × ra_H) :=
  if a1 = ((-1 : Int32)) then
    if a2 = ((-1 : Int32)) then
      nX11_close_15 N a0 a1 a2 ((1 : Int32)) h
    else
      nX11_close_14 N a0 a1 a2 h
  else
    nX11_close_14 N a0 a1 a2 h
def kX11_close_0 (N : Nat) : Nat → List (Option Value) → List Value → ra_H → Option (Int32 × ra_H) := (ra_k1 14 (fun L S h => match L, S with
  | [some (.ref a0), some (.int a1), some (.int a2), _, _, _], [] => nX11_close_14 N a0 a1 a2 h
  | _, _ => none) (ra_k1 15 (fun L S h => match L, S with
  | [some (.ref a0), some (.int a1), some (.int a2), _, _, _], [.int b0] => nX11_close_15 N a0 a1 a2 b0 h
  | _, _ => none) ra_k0))
theorem kX11_close_0_ok (N : Nat) : ra_kok 7 mX11_close ra_oI (kX11_close_0 N) := (ra_k1_ok (by
  intro L S h a e
  split at e
  · exact ra_Ru.weak (nX11_close_14_ok N _ _ _ _ _ e) ⟨rfl, ⟨rfl, ⟨rfl, trivial⟩⟩⟩
  · cases e) (ra_k1_ok (by
  intro L S h a e
  split at e
  · exact ra_Ru.weak (nX11_close_15_ok N _ _ _ _ _ _ e) ⟨rfl, ⟨rfl, ⟨rfl, trivial⟩⟩⟩
  · cases e) ra_k0_ok))
set_option maxRecDepth 100000 in
theorem nX11_close_0_ok (N : Nat) (a0 : Nat) (a1 : Int32) (a2 : Int32) (h : ra_H) (r : (Int32 × ra_H)) (e : nX11_close_0 N a0 a1 a2 h = some r) : ra_Ru 7 mX11_close 0 [some (.ref a0), some (.int a1), some (.int a2), none, none, none] [] h (ra_oI r) :=
  ra_sound (by omega) rfl ra_rI_ok (kX11_close_0_ok N) (fun m av h h1 e => (ra_c0_ok (ro := ra_oV)) m av h h1 e) (fun m av h x h1 e => (tIX11_close_ok N) m av h (x, h1) e) (fun m av h x h1 e => (ra_c0_ok (ro := ra_oJ)) m av h (x, h1) e) (fun m av h x h1 e => (ra_c0_ok (ro := ra_oR)) m av h (x, h1) e) (fun m av h x h1 e => (ra_c0_ok (ro := ra_oN)) m av h (x, h1) e) (fun m av h x h1 e => (ra_c0_ok (ro := ra_oF)) m av h (x, h1) e) 9 lX11_close_0 _ _ _ _ lX11_close_0_ck (show ra_run ra_rI (kX11_close_0 N) ra_c0 (tIX11_close N) ra_c0 ra_c0 ra_c0 ra_c0 9 lX11_close_0 [some (.ref a0), some (.int a1), some (.int a2), none, none, none] [] h = some r from e) _ _ rfl
def fX11_close (N : Nat) (p0 : Nat) (p1 : Int32) (p2 : Int32) (h : ra_H) : Option (Int32 × ra_H) := match ra_isOb h p0 11 with
  | true => nX11_close_0 N p0 p1 p2 h
  | false => none
set_option maxRecDepth 100000 in
theorem mtX11_close : ra_MT[164]? = some (mX11_close, 1, 2, (1, 1), (5, 183), (5, 184)) := rfl
theorem fX11_close_co (N : Nat) (p0 : Nat) (p1 : Int32) (p2 : Int32) (h : ra_H) (r : (Int32 × ra_H)) (e : fX11_close N p0 p1 p2 h = some r) (D : Nat) (hD : 8 ≤ D) : ra_CO D 164 [.ref p0, .int p1, .int p2] h (ra_oI r).1 (ra_oI r).2 := by
  have hw : ra_nw2 [.ref p0, .int p1, .int p2] ≤ 6 := Nat.le_of_ble_eq_true rfl
  have hdb : ∀ v ∈ ([.ref p0, .int p1, .int p2] : List Value), ∀ x, v ≠ .double x := by
    intro v hv x hx
    simp [hx] at hv
  unfold fX11_close at e
  split at e
  · rename_i ho
    have e1 := e
    exact ⟨7, _, mtX11_close, hD, ra_ev_of (by decide) hdb hw trivial (ra_Ru.weak (nX11_close_0_ok N p0 p1 p2 h _ e1) ⟨rfl, ⟨rfl, ⟨rfl, trivial⟩⟩⟩), (fun _ => ⟨_, _, rfl, ra_rcv_of ho (by decide) rfl⟩), (fun h => absurd h (by decide))⟩
  · cases e
/-! RedMarks.could(IIII)I -/
def mX11_could : ra_M := (yX11_could, cX11_could, 5, (some .int))
def tVX11_could (N : Nat) : Nat → List Value → ra_H → Option ra_H := (ra_c1 119 (fun av h => match av with
  | [.ref z0] => fX3_weighAll N z0 h
  | _ => none) ra_c0)
theorem tVX11_could_ok (N : Nat) : ra_cok 7 ra_oV (tVX11_could N) := (ra_c1_ok (by
  intro av h a e
  split at e
  · exact fX3_weighAll_co N _ _ _ e 7 (by omega)
  · cases e) ra_c0_ok)
def tIX11_could (N : Nat) : Nat → List Value → ra_H → Option (Int32 × ra_H) := (ra_c1 34 (fun av h => match av with
  | [.int z0, .int z1] => fX11_isShelf N z0 z1 h
  | _ => none) (ra_c1 105 (fun av h => match av with
  | [.ref z0] => fX1_settleKept N z0 h
  | _ => none) (ra_c1 112 (fun av h => match av with
  | [.ref z0, .int z1] => fX5_freeOf N z0 z1 h
  | _ => none) (ra_c1 118 (fun av h => match av with
  | [.ref z0, .int z1] => fX2_hasLine N z0 z1 h
  | _ => none) (ra_c1 143 (fun av h => match av with
  | [.ref z0, .int z1, .int z2, .int z3] => fX3_countMissingSets N z0 z1 z2 z3 h
  | _ => none) ra_c0)))))
theorem tIX11_could_ok (N : Nat) : ra_cok 7 ra_oI (tIX11_could N) := (ra_c1_ok (by
  intro av h a e
  split at e
  · exact fX11_isShelf_co N _ _ _ _ e 7 (by omega)
  · cases e) (ra_c1_ok (by
  intro av h a e
  split at e
  · exact fX1_settleKept_co N _ _ _ e 7 (by omega)
  · cases e) (ra_c1_ok (by
  intro av h a e
  split at e
  · exact fX5_freeOf_co N _ _ _ _ e 7 (by omega)
  · cases e) (ra_c1_ok (by
  intro av h a e
  split at e
  · exact fX2_hasLine_co N _ _ _ _ e 7 (by omega)
  · cases e) (ra_c1_ok (by
  intro av h a e
  split at e
  · exact fX3_countMissingSets_co N _ _ _ _ _ _ e 7 (by omega)
  · cases e) ra_c0_ok)))))
def lX11_could_19 : List ra_I := [(19, .iconst (-1), 1, 0, 0, 0, (-1), 0, []),
  (20, .ireturn, 1, 0, 0, 0, 0, 0, [])]
set_option maxRecDepth 100000 in
theorem lX11_could_19_ck : lX11_could_19.all (ra_ck mX11_could 11) = true := by decide +kernel
def nX11_could_19 (N : Nat) (h : ra_H) : Option (Int32 × ra_H) :=
  some ((-1 : Int32), h)
def kX11_could_19 (N : Nat) : Nat → List (Option Value) → List Value → ra_H → Option (Int32 × ra_H) := ra_k0
theorem kX11_could_19_ok (N : Nat) : ra_kok 7 mX11_could ra_oI (kX11_could_19 N) := ra_k0_ok
set_option maxRecDepth 100000 in
theorem nX11_could_19_ok (N : Nat) (h : ra_H) (r : (Int32 × ra_H)) (e : nX11_could_19 N h = some r) : ra_Ru 7 mX11_could 19 [none, none, none, none, none] [] h (ra_oI r) :=
  ra_sound (by omega) rfl ra_rI_ok (kX11_could_19_ok N) (fun m av h h1 e => (tVX11_could_ok N) m av h h1 e) (fun m av h x h1 e => (tIX11_could_ok N) m av h (x, h1) e) (fun m av h x h1 e => (ra_c0_ok (ro := ra_oJ)) m av h (x, h1) e) (fun m av h x h1 e => (ra_c0_ok (ro := ra_oR)) m av h (x, h1) e) (fun m av h x h1 e => (ra_c0_ok (ro := ra_oN)) m av h (x, h1) e) (fun m av h x h1 e => (ra_c0_ok (ro := ra_oF)) m av h (x, h1) e) 3 lX11_could_19 _ _ _ _ lX11_could_19_ck (show ra_run ra_rI (kX11_could_19 N) (tVX11_could N) (tIX11_could N) ra_c0 ra_c0 ra_c0 ra_c0 3 lX11_could_19 [none, none, none, none, none] [] h = some r from e) _ _ rfl
def lX11_could_49 : List ra_I := [(49, .iconst (-1), 1, 0, 0, 0, (-1), 0, []),
  (50, .ireturn, 1, 0, 0, 0, 0, 0, [])]
set_option maxRecDepth 100000 in
theorem lX11_could_49_ck : lX11_could_49.all (ra_ck mX11_could 11) = true := by decide +kernel
def nX11_could_49 (N : Nat) (h : ra_H) : Option (Int32 × ra_H) :=
  some ((-1 : Int32), h)
def kX11_could_49 (N : Nat) : Nat → List (Option Value) → List Value → ra_H → Option (Int32 × ra_H) := ra_k0
theorem kX11_could_49_ok (N : Nat) : ra_kok 7 mX11_could ra_oI (kX11_could_49 N) := ra_k0_ok
set_option maxRecDepth 100000 in
theorem nX11_could_49_ok (N : Nat) (h : ra_H) (r : (Int32 × ra_H)) (e : nX11_could_49 N h = some r) : ra_Ru 7 mX11_could 49 [none, none, none, none, none] [] h (ra_oI r) :=
  ra_sound (by omega) rfl ra_rI_ok (kX11_could_49_ok N) (fun m av h h1 e => (tVX11_could_ok N) m av h h1 e) (fun m av h x h1 e => (tIX11_could_ok N) m av h (x, h1) e) (fun m av h x h1 e => (ra_c0_ok (ro := ra_oJ)) m av h (x, h1) e) (fun m av h x h1 e => (ra_c0_ok (ro := ra_oR)) m av h (x, h1) e) (fun m av h x h1 e => (ra_c0_ok (ro := ra_oN)) m av h (x, h1) e) (fun m av h x h1 e => (ra_c0_ok (ro := ra_oF)) m av h (x, h1) e) 3 lX11_could_49 _ _ _ _ lX11_could_49_ck (show ra_run ra_rI (kX11_could_49 N) (tVX11_could N) (tIX11_could N) ra_c0 ra_c0 ra_c0 ra_c0 3 lX11_could_49 [none, none, none, none, none] [] h = some r from e) _ _ rfl
def lX11_could_39 : List ra_I := [(39, .aload_n 0, 1, 0, 0, 0, 0, 0, []),
  (40, .getfield 39, 3, 11, 4, 2, 0, 0, []),
  (43, .invokevirtual 204, 3, 105, 1, 1, 0, 0, []),
  (46, .ifCond .ne (5), 3, 51, 0, 0, 0, 0, []),
  (51, .aload_n 0, 1, 0, 0, 0, 0, 0, []),
  (52, .getfield 61, 3, 11, 6, 2, 0, 0, []),
  (55, .invokevirtual 231, 3, 119, 1, 0, 0, 0, []),
  (58, .aload_n 0, 1, 0, 0, 0, 0, 0, []),
  (59, .getfield 61, 3, 11, 6, 2, 0, 0, []),
  (62, .aload_n 0, 1, 0, 0, 0, 0, 0, []),
  (63, .getfield 52, 3, 11, 5, 2, 0, 0, []),
  (66, .iload_n 1, 1, 1, 0, 0, 0, 0, []),
  (67, .bipush (6), 2, 0, 0, 0, (6), 0, []),
  (69, .imul, 1, 0, 0, 0, 0, 0, []),
  (70, .iload_n 2, 1, 2, 0, 0, 0, 0, []),
  (71, .iadd, 1, 0, 0, 0, 0, 0, []),
  (72, .invokevirtual 219, 3, 112, 2, 1, 0, 0, []),
  (75, .iload_n 3, 1, 3, 0, 0, 0, 0, []),
  (76, .iload 4, 2, 4, 0, 0, 0, 0, []),
  (78, .invokevirtual 234, 3, 143, 4, 1, 0, 0, []),
  (81, .ireturn, 1, 0, 0, 0, 0, 0, [])]
set_option maxRecDepth 100000 in
theorem lX11_could_39_ck : lX11_could_39.all (ra_ck mX11_could 11) = true := by decide +kernel
def nX11_could_39 (N : Nat) (a0 : Nat) (a1 : Int32) (a2 : Int32) (a3 : Int32) (a4 : Int32) (h : ra_H) : Option (Int32 × ra_H) :=
  (ra_fR h 11 a0 4).bind fun x1 =>
  (fX1_settleKept N x1 h).bind fun q2 =>
  if q2.1 = 0 then
    nX11_could_49 N q2.2
  else
    (ra_fR q2.2 11 a0 6).bind fun x3 =>
    (fX3_weighAll N x3 q2.2).bind fun h4 =>
    (ra_fR h4 11 a0 6).bind fun x5 =>
    (ra_fR h4 11 a0 5).bind fun x6 =>
    (fX5_freeOf N x6 ((a1 * ((6 : Int32))) + a2) h4).bind fun q7 =>
    (fX3_countMissingSets N x5 q7.1 a3 a4 q7.2).bind fun q8 =>
    some (q8.1, q8.2)
def kX11_could_39 (N : Nat) : Nat → List (Option Value) → List Value → ra_H → Option (Int32 × ra_H) := (ra_k1 49 (fun L S h => match L, S with
  | [_, _, _, _, _], [] => nX11_could_49 N h
  | _, _ => none) ra_k0)
theorem kX11_could_39_ok (N : Nat) : ra_kok 7 mX11_could ra_oI (kX11_could_39 N) := (ra_k1_ok (by
  intro L S h a e
  split at e
  · exact ra_Ru.weak (nX11_could_49_ok N _ _ e) trivial
  · cases e) ra_k0_ok)
set_option maxRecDepth 100000 in
theorem nX11_could_39_ok (N : Nat) (a0 : Nat) (a1 : Int32) (a2 : Int32) (a3 : Int32) (a4 : Int32) (h : ra_H) (r : (Int32 × ra_H)) (e : nX11_could_39 N a0 a1 a2 a3 a4 h = some r) : ra_Ru 7 mX11_could 39 [some (.ref a0), some (.int a1), some (.int a2), some (.int a3), some (.int a4)] [] h (ra_oI r) :=
  ra_sound (by omega) rfl ra_rI_ok (kX11_could_39_ok N) (fun m av h h1 e => (tVX11_could_ok N) m av h h1 e) (fun m av h x h1 e => (tIX11_could_ok N) m av h (x, h1) e) (fun m av h x h1 e => (ra_c0_ok (ro := ra_oJ)) m av h (x, h1) e) (fun m av h x h1 e => (ra_c0_ok (ro := ra_oR)) m av h (x, h1) e) (fun m av h x h1 e => (ra_c0_ok (ro := ra_oN)) m av h (x, h1) e) (fun m av h x h1 e => (ra_c0_ok (ro := ra_oF)) m av h (x, h1) e) 22 lX11_could_39 _ _ _ _ lX11_could_39_ck (show ra_run ra_rI (kX11_could_39 N) (tVX11_could N) (tIX11_could N) ra_c0 ra_c0 ra_c0 ra_c0 22 lX11_could_39 [some (.ref a0), some (.int a1), some (.int a2), some (.int a3), some (.int a4)] [] h = some r from e) _ _ rfl
def lX11_could_0 : List ra_I := [(0, .iload_n 1, 1, 1, 0, 0, 0, 0, []),
  (1, .iload_n 2, 1, 2, 0, 0, 0, 0, []),
  (2, .invokestatic 138, 3, 34, 2, 1, 0, 0, []),
  (5, .ifCond .eq (14), 3, 19, 0, 0, 0, 0, []),
  (8, .iload_n 3, 1, 3, 0, 0, 0, 0, []),
  (9, .ifCond .lt (10), 3, 19, 0, 0, 0, 0, []),
  (12, .iload_n 3, 1, 3, 0, 0, 0, 0, []),
  (13, .sipush (400), 3, 0, 0, 0, (400), 0, []),
  (16, .if_icmp .le (5), 3, 21, 0, 0, 0, 0, []),
  (21, .iload 4, 2, 4, 0, 0, 0, 0, []),
  (23, .iconst (-1), 1, 0, 0, 0, (-1), 0, []),
  (24, .if_icmp .eq (15), 3, 39, 0, 0, 0, 0, []),
  (27, .aload_n 0, 1, 0, 0, 0, 0, 0, []),
  (28, .getfield 10, 3, 11, 0, 2, 0, 0, []),
  (31, .iload 4, 2, 4, 0, 0, 0, 0, []),
  (33, .invokevirtual 228, 3, 118, 2, 1, 0, 0, []),
  (36, .ifCond .eq (13), 3, 49, 0, 0, 0, 0, [])]
set_option maxRecDepth 100000 in
theorem lX11_could_0_ck : lX11_could_0.all (ra_ck mX11_could 11) = true := by decide +kernel
def nX11_could_0 (N : Nat) (a0 : Nat) (a1 : Int32) (a2 : Int32) (a3 : Int32) (a4 : Int32) (h : ra_H) : Option (Int32 × ra_H) :=
  (fX11_isShelf N a1 a2 h).bind fun q1 =>
  if q1.1 = 0 then
    nX11_could_19 N q1.2
  else
    if a3 < 0 then
      nX11_could_19 N q1.2
    else
      if a3 ≤ ((400 : Int32)) then
        if a4 = ((-1 : Int32)) then
          nX11_could_39 N a0 a1 a2 a3 a4 q1.2
        else
          (ra_fR q1.2 11 a0 0).bind fun x2 =>
          (fX2_hasLine N x2 a4 q1.2).bind fun q3 =>
          if q3.1 = 0 then
            nX11_could_49 N q3.2
          else
            nX11_could_39 N a0 a1 a2 a3 a4 q3.2
      else
        nX11_could_19 N q1.2
def kX11_could_0 (N : Nat) : Nat → List (Option Value) → List Value → ra_H → Option (Int32 × ra_H) := (ra_k1 19 (fun L S h => match L, S with
  | [_, _, _, _, _], [] => nX11_could_19 N h
  | _, _ => none) (ra_k1 39 (fun L S h => match L, S with
  | [some (.ref a0), some (.int a1), some (.int a2), some (.int a3), some (.int a4)], [] => nX11_could_39 N a0 a1 a2 a3 a4 h
  | _, _ => none) (ra_k1 49 (fun L S h => match L, S with
  | [_, _, _, _, _], [] => nX11_could_49 N h
  | _, _ => none) ra_k0)))
theorem kX11_could_0_ok (N : Nat) : ra_kok 7 mX11_could ra_oI (kX11_could_0 N) := (ra_k1_ok (by
  intro L S h a e
  split at e
  · exact ra_Ru.weak (nX11_could_19_ok N _ _ e) trivial
  · cases e) (ra_k1_ok (by
  intro L S h a e
  split at e
  · exact ra_Ru.weak (nX11_could_39_ok N _ _ _ _ _ _ _ e) ⟨rfl, ⟨rfl, ⟨rfl, ⟨rfl, ⟨rfl, trivial⟩⟩⟩⟩⟩
  · cases e) (ra_k1_ok (by
  intro L S h a e
  split at e
  · exact ra_Ru.weak (nX11_could_49_ok N _ _ e) trivial
  · cases e) ra_k0_ok)))
set_option maxRecDepth 100000 in
theorem nX11_could_0_ok (N : Nat) (a0 : Nat) (a1 : Int32) (a2 : Int32) (a3 : Int32) (a4 : Int32) (h : ra_H) (r : (Int32 × ra_H)) (e : nX11_could_0 N a0 a1 a2 a3 a4 h = some r) : ra_Ru 7 mX11_could 0 [some (.ref a0), some (.int a1), some (.int a2), some (.int a3), some (.int a4)] [] h (ra_oI r) :=
  ra_sound (by omega) rfl ra_rI_ok (kX11_could_0_ok N) (fun m av h h1 e => (tVX11_could_ok N) m av h h1 e) (fun m av h x h1 e => (tIX11_could_ok N) m av h (x, h1) e) (fun m av h x h1 e => (ra_c0_ok (ro := ra_oJ)) m av h (x, h1) e) (fun m av h x h1 e => (ra_c0_ok (ro := ra_oR)) m av h (x, h1) e) (fun m av h x h1 e => (ra_c0_ok (ro := ra_oN)) m av h (x, h1) e) (fun m av h x h1 e => (ra_c0_ok (ro := ra_oF)) m av h (x, h1) e) 18 lX11_could_0 _ _ _ _ lX11_could_0_ck (show ra_run ra_rI (kX11_could_0 N) (tVX11_could N) (tIX11_could N) ra_c0 ra_c0 ra_c0 ra_c0 18 lX11_could_0 [some (.ref a0), some (.int a1), some (.int a2), some (.int a3), some (.int a4)] [] h = some r from e) _ _ rfl
def fX11_could (N : Nat) (p0 : Nat) (p1 : Int32) (p2 : Int32) (p3 : Int32) (p4 : Int32) (h : ra_H) : Option (Int32 × ra_H) := match ra_isOb h p0 11 with
  | true => nX11_could_0 N p0 p1 p2 p3 p4 h
  | false => none
set_option maxRecDepth 100000 in
theorem mtX11_could : ra_MT[117]? = some (mX11_could, 1, 4, (1, 1), (4, 221), (4, 222)) := rfl
theorem fX11_could_co (N : Nat) (p0 : Nat) (p1 : Int32) (p2 : Int32) (p3 : Int32) (p4 : Int32) (h : ra_H) (r : (Int32 × ra_H)) (e : fX11_could N p0 p1 p2 p3 p4 h = some r) (D : Nat) (hD : 8 ≤ D) : ra_CO D 117 [.ref p0, .int p1, .int p2, .int p3, .int p4] h (ra_oI r).1 (ra_oI r).2 := by
  have hw : ra_nw2 [.ref p0, .int p1, .int p2, .int p3, .int p4] ≤ 5 := Nat.le_of_ble_eq_true rfl
  have hdb : ∀ v ∈ ([.ref p0, .int p1, .int p2, .int p3, .int p4] : List Value), ∀ x, v ≠ .double x := by
    intro v hv x hx
    simp [hx] at hv
  unfold fX11_could at e
  split at e
  · rename_i ho
    have e1 := e
    exact ⟨7, _, mtX11_could, hD, ra_ev_of (by decide) hdb hw trivial (ra_Ru.weak (nX11_could_0_ok N p0 p1 p2 p3 p4 h _ e1) ⟨rfl, ⟨rfl, ⟨rfl, ⟨rfl, ⟨rfl, trivial⟩⟩⟩⟩⟩), (fun _ => ⟨_, _, rfl, ra_rcv_of ho (by decide) rfl⟩), (fun h => absurd h (by decide))⟩
  · cases e
/-! RedMarks.refusalsAsked(I)I -/
def mX11_refusalsAsked : ra_M := (yX11_refusalsAsked, cX11_refusalsAsked, 2, (some .int))
def lX11_refusalsAsked_0 : List ra_I := [(0, .iload_n 1, 1, 1, 0, 0, 0, 0, []),
  (1, .tableswitch (71) (7) (11) #[35, 42, 49, 56, 63], 35, 72, 0, 0, 0, 0, [(7, 36), (8, 43), (9, 50), (10, 57), (11, 64)]),
  (36, .aload_n 0, 1, 0, 0, 0, 0, 0, []),
  (37, .getfield 79, 3, 11, 9, 2, 0, 0, []),
  (40, .iconst (1), 1, 0, 0, 0, (1), 0, []),
  (41, .iaload, 1, 0, 0, 0, 0, 0, []),
  (42, .ireturn, 1, 0, 0, 0, 0, 0, []),
  (43, .aload_n 0, 1, 0, 0, 0, 0, 0, []),
  (44, .getfield 79, 3, 11, 9, 2, 0, 0, []),
  (47, .iconst (2), 1, 0, 0, 0, (2), 0, []),
  (48, .iaload, 1, 0, 0, 0, 0, 0, []),
  (49, .ireturn, 1, 0, 0, 0, 0, 0, []),
  (50, .aload_n 0, 1, 0, 0, 0, 0, 0, []),
  (51, .getfield 79, 3, 11, 9, 2, 0, 0, []),
  (54, .iconst (3), 1, 0, 0, 0, (3), 0, []),
  (55, .iaload, 1, 0, 0, 0, 0, 0, []),
  (56, .ireturn, 1, 0, 0, 0, 0, 0, []),
  (57, .aload_n 0, 1, 0, 0, 0, 0, 0, []),
  (58, .getfield 79, 3, 11, 9, 2, 0, 0, []),
  (61, .iconst (5), 1, 0, 0, 0, (5), 0, []),
  (62, .iaload, 1, 0, 0, 0, 0, 0, []),
  (63, .ireturn, 1, 0, 0, 0, 0, 0, []),
  (64, .aload_n 0, 1, 0, 0, 0, 0, 0, []),
  (65, .getfield 79, 3, 11, 9, 2, 0, 0, []),
  (68, .bipush (6), 2, 0, 0, 0, (6), 0, []),
  (70, .iaload, 1, 0, 0, 0, 0, 0, []),
  (71, .ireturn, 1, 0, 0, 0, 0, 0, []),
  (72, .iconst (-1), 1, 0, 0, 0, (-1), 0, []),
  (73, .ireturn, 1, 0, 0, 0, 0, 0, [])]
set_option maxRecDepth 100000 in
theorem lX11_refusalsAsked_0_ck : lX11_refusalsAsked_0.all (ra_ck mX11_refusalsAsked 11) = true := by decide +kernel
def nX11_refusalsAsked_0 (N : Nat) (a0 : Nat) (a1 : Int32) (h : ra_H) : Option (Int32 × ra_H) :=
  if a1 = (7 : Int32) then
    (ra_fR h 11 a0 9).bind fun x1 =>
    (ra_aI h 0 x1 ((1 : Int32))).bind fun x2 =>
    some (x2, h)
  else
  if a1 = (8 : Int32) then
    (ra_fR h 11 a0 9).bind fun x3 =>
    (ra_aI h 0 x3 ((2 : Int32))).bind fun x4 =>
    some (x4, h)
  else
  if a1 = (9 : Int32) then
    (ra_fR h 11 a0 9).bind fun x5 =>
    (ra_aI h 0 x5 ((3 : Int32))).bind fun x6 =>
    some (x6, h)
  else
  if a1 = (10 : Int32) then
    (ra_fR h 11 a0 9).bind fun x7 =>
    (ra_aI h 0 x7 ((5 : Int32))).bind fun x8 =>
    some (x8, h)
  else
  if a1 = (11 : Int32) then
    (ra_fR h 11 a0 9).bind fun x9 =>
    (ra_aI h 0 x9 ((6 : Int32))).bind fun x10 =>
    some (x10, h)
  else
  some ((-1 : Int32), h)
def kX11_refusalsAsked_0 (N : Nat) : Nat → List (Option Value) → List Value → ra_H → Option (Int32 × ra_H) := ra_k0
theorem kX11_refusalsAsked_0_ok (N : Nat) : ra_kok 1 mX11_refusalsAsked ra_oI (kX11_refusalsAsked_0 N) := ra_k0_ok
set_option maxRecDepth 100000 in
theorem nX11_refusalsAsked_0_ok (N : Nat) (a0 : Nat) (a1 : Int32) (h : ra_H) (r : (Int32 × ra_H)) (e : nX11_refusalsAsked_0 N a0 a1 h = some r) : ra_Ru 1 mX11_refusalsAsked 0 [some (.ref a0), some (.int a1)] [] h (ra_oI r) :=
  ra_sound (by omega) rfl ra_rI_ok (kX11_refusalsAsked_0_ok N) (fun m av h h1 e => (ra_c0_ok (ro := ra_oV)) m av h h1 e) (fun m av h x h1 e => (ra_c0_ok (ro := ra_oI)) m av h (x, h1) e) (fun m av h x h1 e => (ra_c0_ok (ro := ra_oJ)) m av h (x, h1) e) (fun m av h x h1 e => (ra_c0_ok (ro := ra_oR)) m av h (x, h1) e) (fun m av h x h1 e => (ra_c0_ok (ro := ra_oN)) m av h (x, h1) e) (fun m av h x h1 e => (ra_c0_ok (ro := ra_oF)) m av h (x, h1) e) 30 lX11_refusalsAsked_0 _ _ _ _ lX11_refusalsAsked_0_ck (show ra_run ra_rI (kX11_refusalsAsked_0 N) ra_c0 ra_c0 ra_c0 ra_c0 ra_c0 ra_c0 30 lX11_refusalsAsked_0 [some (.ref a0), some (.int a1)] [] h = some r from e) _ _ rfl
def fX11_refusalsAsked (N : Nat) (p0 : Nat) (p1 : Int32) (h : ra_H) : Option (Int32 × ra_H) := match ra_isOb h p0 11 with
  | true => nX11_refusalsAsked_0 N p0 p1 h
  | false => none
set_option maxRecDepth 100000 in
theorem mtX11_refusalsAsked : ra_MT[205]? = some (mX11_refusalsAsked, 1, 1, (1, 1), (6, 118), (0, 61)) := rfl
theorem fX11_refusalsAsked_co (N : Nat) (p0 : Nat) (p1 : Int32) (h : ra_H) (r : (Int32 × ra_H)) (e : fX11_refusalsAsked N p0 p1 h = some r) (D : Nat) (hD : 2 ≤ D) : ra_CO D 205 [.ref p0, .int p1] h (ra_oI r).1 (ra_oI r).2 := by
  have hw : ra_nw2 [.ref p0, .int p1] ≤ 2 := Nat.le_of_ble_eq_true rfl
  have hdb : ∀ v ∈ ([.ref p0, .int p1] : List Value), ∀ x, v ≠ .double x := by
    intro v hv x hx
    simp [hx] at hv
  unfold fX11_refusalsAsked at e
  split at e
  · rename_i ho
    have e1 := e
    exact ⟨1, _, mtX11_refusalsAsked, hD, ra_ev_of (by decide) hdb hw trivial (ra_Ru.weak (nX11_refusalsAsked_0_ok N p0 p1 h _ e1) ⟨rfl, ⟨rfl, trivial⟩⟩), (fun _ => ⟨_, _, rfl, ra_rcv_of ho (by decide) rfl⟩), (fun h => absurd h (by decide))⟩
  · cases e
/-! RedMarks.count(I)I -/
def mX11_count : ra_M := (yX11_count, cX11_count, 2, (some .int))
def tIX11_count (N : Nat) : Nat → List Value → ra_H → Option (Int32 × ra_H) := (ra_c1 105 (fun av h => match av with
  | [.ref z0] => fX1_settleKept N z0 h
  | _ => none) (ra_c1 189 (fun av h => match av with
  | [.ref z0] => fX2_markedCount N z0 h
  | _ => none) (ra_c1 205 (fun av h => match av with
  | [.ref z0, .int z1] => fX11_refusalsAsked N z0 z1 h
  | _ => none) ra_c0)))
theorem tIX11_count_ok (N : Nat) : ra_cok 7 ra_oI (tIX11_count N) := (ra_c1_ok (by
  intro av h a e
  split at e
  · exact fX1_settleKept_co N _ _ _ e 7 (by omega)
  · cases e) (ra_c1_ok (by
  intro av h a e
  split at e
  · exact fX2_markedCount_co N _ _ _ e 7 (by omega)
  · cases e) (ra_c1_ok (by
  intro av h a e
  split at e
  · exact fX11_refusalsAsked_co N _ _ _ _ e 7 (by omega)
  · cases e) ra_c0_ok)))
def lX11_count_108 : List ra_I := [(108, .ireturn, 1, 0, 0, 0, 0, 0, [])]
set_option maxRecDepth 100000 in
theorem lX11_count_108_ck : lX11_count_108.all (ra_ck mX11_count 11) = true := by decide +kernel
def nX11_count_108 (N : Nat) (b0 : Int32) (h : ra_H) : Option (Int32 × ra_H) :=
  some (b0, h)
def kX11_count_108 (N : Nat) : Nat → List (Option Value) → List Value → ra_H → Option (Int32 × ra_H) := ra_k0
theorem kX11_count_108_ok (N : Nat) : ra_kok 7 mX11_count ra_oI (kX11_count_108 N) := ra_k0_ok
set_option maxRecDepth 100000 in
theorem nX11_count_108_ok (N : Nat) (b0 : Int32) (h : ra_H) (r : (Int32 × ra_H)) (e : nX11_count_108 N b0 h = some r) : ra_Ru 7 mX11_count 108 [none, none] [.int b0] h (ra_oI r) :=
  ra_sound (by omega) rfl ra_rI_ok (kX11_count_108_ok N) (fun m av h h1 e => (ra_c0_ok (ro := ra_oV)) m av h h1 e) (fun m av h x h1 e => (tIX11_count_ok N) m av h (x, h1) e) (fun m av h x h1 e => (ra_c0_ok (ro := ra_oJ)) m av h (x, h1) e) (fun m av h x h1 e => (ra_c0_ok (ro := ra_oR)) m av h (x, h1) e) (fun m av h x h1 e => (ra_c0_ok (ro := ra_oN)) m av h (x, h1) e) (fun m av h x h1 e => (ra_c0_ok (ro := ra_oF)) m av h (x, h1) e) 2 lX11_count_108 _ _ _ _ lX11_count_108_ck (show ra_run ra_rI (kX11_count_108 N) ra_c0 (tIX11_count N) ra_c0 ra_c0 ra_c0 ra_c0 2 lX11_count_108 [none, none] [.int b0] h = some r from e) _ _ rfl
def lX11_count_0 : List ra_I := [(0, .iload_n 1, 1, 1, 0, 0, 0, 0, []),
  (1, .tableswitch (116) (0) (6) #[43, 51, 59, 67, 75, 83, 108], 43, 117, 0, 0, 0, 0, [(0, 44), (1, 52), (2, 60), (3, 68), (4, 76), (5, 84), (6, 109)]),
  (44, .aload_n 0, 1, 0, 0, 0, 0, 0, []),
  (45, .getfield 10, 3, 11, 0, 2, 0, 0, []),
  (48, .getfield 99, 3, 2, 13, 0, 0, 0, []),
  (51, .ireturn, 1, 0, 0, 0, 0, 0, []),
  (52, .aload_n 0, 1, 0, 0, 0, 0, 0, []),
  (53, .getfield 10, 3, 11, 0, 2, 0, 0, []),
  (56, .invokevirtual 359, 3, 189, 1, 1, 0, 0, []),
  (59, .ireturn, 1, 0, 0, 0, 0, 0, []),
  (60, .aload_n 0, 1, 0, 0, 0, 0, 0, []),
  (61, .getfield 10, 3, 11, 0, 2, 0, 0, []),
  (64, .getfield 159, 3, 2, 14, 0, 0, 0, []),
  (67, .ireturn, 1, 0, 0, 0, 0, 0, []),
  (68, .aload_n 0, 1, 0, 0, 0, 0, 0, []),
  (69, .getfield 10, 3, 11, 0, 2, 0, 0, []),
  (72, .getfield 237, 3, 2, 15, 0, 0, 0, []),
  (75, .ireturn, 1, 0, 0, 0, 0, 0, []),
  (76, .aload_n 0, 1, 0, 0, 0, 0, 0, []),
  (77, .getfield 10, 3, 11, 0, 2, 0, 0, []),
  (80, .getfield 331, 3, 2, 16, 0, 0, 0, []),
  (83, .ireturn, 1, 0, 0, 0, 0, 0, []),
  (84, .aload_n 0, 1, 0, 0, 0, 0, 0, []),
  (85, .getfield 39, 3, 11, 4, 2, 0, 0, []),
  (88, .invokevirtual 204, 3, 105, 1, 1, 0, 0, []),
  (91, .ifCond .eq (16), 3, 107, 0, 0, 0, 0, []),
  (94, .aload_n 0, 1, 0, 0, 0, 0, 0, []),
  (95, .getfield 39, 3, 11, 4, 2, 0, 0, []),
  (98, .getfield 45, 3, 1, 11, 2, 0, 0, []),
  (101, .getfield 208, 3, 7, 3, 0, 0, 0, []),
  (104, .goto (4), 3, 108, 0, 0, 0, 0, []),
  (107, .iconst (0), 1, 0, 0, 0, (0), 0, []),
  (109, .aload_n 0, 1, 0, 0, 0, 0, 0, []),
  (110, .getfield 23, 3, 11, 2, 2, 0, 0, []),
  (113, .getfield 147, 3, 8, 1, 0, 0, 0, []),
  (116, .ireturn, 1, 0, 0, 0, 0, 0, []),
  (117, .aload_n 0, 1, 0, 0, 0, 0, 0, []),
  (118, .iload_n 1, 1, 1, 0, 0, 0, 0, []),
  (119, .invokevirtual 385, 3, 205, 2, 1, 0, 0, []),
  (122, .ireturn, 1, 0, 0, 0, 0, 0, [])]
set_option maxRecDepth 100000 in
theorem lX11_count_0_ck : lX11_count_0.all (ra_ck mX11_count 11) = true := by decide +kernel
def nX11_count_0 (N : Nat) (a0 : Nat) (a1 : Int32) (h : ra_H) : Option (Int32 × ra_H) :=
  if a1 = (0 : Int32) then
    (ra_fR h 11 a0 0).bind fun x1 =>
    (ra_fI h 2 x1 13).bind fun x2 =>
    some (x2, h)
  else
  if a1 = (1 : Int32) then
    (ra_fR h 11 a0 0).bind fun x3 =>
    (fX2_markedCount N x3 h).bind fun q4 =>
    some (q4.1, q4.2)
  else
  if a1 = (2 : Int32) then
    (ra_fR h 11 a0 0).bind fun x5 =>
    (ra_fI h 2 x5 14).bind fun x6 =>
    some (x6, h)
  else
  if a1 = (3 : Int32) then
    (ra_fR h 11 a0 0).bind fun x7 =>
    (ra_fI h 2 x7 15).bind fun x8 =>
    some (x8, h)
  else
  if a1 = (4 : Int32) then
    (ra_fR h 11 a0 0).bind fun x9 =>
    (ra_fI h 2 x9 16).bind fun x10 =>
    some (x10, h)
  else
  if a1 = (5 : Int32) then
    (ra_fR h 11 a0 4).bind fun x11 =>
    (fX1_settleKept N x11 h).bind fun q12 =>
    if q12.1 = 0 then
      nX11_count_108 N ((0 : Int32)) q12.2
    else
      (ra_fR q12.2 11 a0 4).bind fun x13 =>
      (ra_fR q12.2 1 x13 11).bind fun x14 =>
      (ra_fI q12.2 7 x14 3).bind fun x15 =>
      nX11_count_108 N x15 q12.2
  else
  if a1 = (6 : Int32) then
    (ra_fR h 11 a0 2).bind fun x16 =>
    (ra_fI h 8 x16 1).bind fun x17 =>
    some (x17, h)
  else
  (fX11_refusalsAsked N a0 a1 h).bind fun q18 =>
  some (q18.1, q18.2)
def kX11_count_0 (N : Nat) : Nat → List (Option Value) → List Value → ra_H → Option (Int32 × ra_H) := (ra_k1 108 (fun L S h => match L, S with
  | [_, _], [.int b0] => nX11_count_108 N b0 h
  | _, _ => none) ra_k0)
theorem kX11_count_0_ok (N : Nat) : ra_kok 7 mX11_count ra_oI (kX11_count_0 N) := (ra_k1_ok (by
  intro L S h a e
  split at e
  · exact ra_Ru.weak (nX11_count_108_ok N _ _ _ e) trivial
  · cases e) ra_k0_ok)
set_option maxRecDepth 100000 in
theorem nX11_count_0_ok (N : Nat) (a0 : Nat) (a1 : Int32) (h : ra_H) (r : (Int32 × ra_H)) (e : nX11_count_0 N a0 a1 h = some r) : ra_Ru 7 mX11_count 0 [some (.ref a0), some (.int a1)] [] h (ra_oI r) :=
  ra_sound (by omega) rfl ra_rI_ok (kX11_count_0_ok N) (fun m av h h1 e => (ra_c0_ok (ro := ra_oV)) m av h h1 e) (fun m av h x h1 e => (tIX11_count_ok N) m av h (x, h1) e) (fun m av h x h1 e => (ra_c0_ok (ro := ra_oJ)) m av h (x, h1) e) (fun m av h x h1 e => (ra_c0_ok (ro := ra_oR)) m av h (x, h1) e) (fun m av h x h1 e => (ra_c0_ok (ro := ra_oN)) m av h (x, h1) e) (fun m av h x h1 e => (ra_c0_ok (ro := ra_oF)) m av h (x, h1) e) 41 lX11_count_0 _ _ _ _ lX11_count_0_ck (show ra_run ra_rI (kX11_count_0 N) ra_c0 (tIX11_count N) ra_c0 ra_c0 ra_c0 ra_c0 41 lX11_count_0 [some (.ref a0), some (.int a1)] [] h = some r from e) _ _ rfl
def fX11_count (N : Nat) (p0 : Nat) (p1 : Int32) (h : ra_H) : Option (Int32 × ra_H) := match ra_isOb h p0 11 with
  | true => nX11_count_0 N p0 p1 h
  | false => none
set_option maxRecDepth 100000 in
theorem mtX11_count : ra_MT[204]? = some (mX11_count, 1, 1, (1, 1), (6, 113), (6, 114)) := rfl
theorem fX11_count_co (N : Nat) (p0 : Nat) (p1 : Int32) (h : ra_H) (r : (Int32 × ra_H)) (e : fX11_count N p0 p1 h = some r) (D : Nat) (hD : 8 ≤ D) : ra_CO D 204 [.ref p0, .int p1] h (ra_oI r).1 (ra_oI r).2 := by
  have hw : ra_nw2 [.ref p0, .int p1] ≤ 2 := Nat.le_of_ble_eq_true rfl
  have hdb : ∀ v ∈ ([.ref p0, .int p1] : List Value), ∀ x, v ≠ .double x := by
    intro v hv x hx
    simp [hx] at hv
  unfold fX11_count at e
  split at e
  · rename_i ho
    have e1 := e
    exact ⟨7, _, mtX11_count, hD, ra_ev_of (by decide) hdb hw trivial (ra_Ru.weak (nX11_count_0_ok N p0 p1 h _ e1) ⟨rfl, ⟨rfl, trivial⟩⟩), (fun _ => ⟨_, _, rfl, ra_rcv_of ho (by decide) rfl⟩), (fun h => absurd h (by decide))⟩
  · cases e
/-! RedMarks.end(I)I -/
def mX11_end : ra_M := (yX11_end, cX11_end, 2, (some .int))
def lX11_end_15 : List ra_I := [(15, .iconst (-1), 1, 0, 0, 0, (-1), 0, []),
  (16, .ireturn, 1, 0, 0, 0, 0, 0, [])]
set_option maxRecDepth 100000 in
theorem lX11_end_15_ck : lX11_end_15.all (ra_ck mX11_end 11) = true := by decide +kernel
def nX11_end_15 (N : Nat) (h : ra_H) : Option (Int32 × ra_H) :=
  some ((-1 : Int32), h)
def kX11_end_15 (N : Nat) : Nat → List (Option Value) → List Value → ra_H → Option (Int32 × ra_H) := ra_k0
theorem kX11_end_15_ok (N : Nat) : ra_kok 1 mX11_end ra_oI (kX11_end_15 N) := ra_k0_ok
set_option maxRecDepth 100000 in
theorem nX11_end_15_ok (N : Nat) (h : ra_H) (r : (Int32 × ra_H)) (e : nX11_end_15 N h = some r) : ra_Ru 1 mX11_end 15 [none, none] [] h (ra_oI r) :=
  ra_sound (by omega) rfl ra_rI_ok (kX11_end_15_ok N) (fun m av h h1 e => (ra_c0_ok (ro := ra_oV)) m av h h1 e) (fun m av h x h1 e => (ra_c0_ok (ro := ra_oI)) m av h (x, h1) e) (fun m av h x h1 e => (ra_c0_ok (ro := ra_oJ)) m av h (x, h1) e) (fun m av h x h1 e => (ra_c0_ok (ro := ra_oR)) m av h (x, h1) e) (fun m av h x h1 e => (ra_c0_ok (ro := ra_oN)) m av h (x, h1) e) (fun m av h x h1 e => (ra_c0_ok (ro := ra_oF)) m av h (x, h1) e) 3 lX11_end_15 _ _ _ _ lX11_end_15_ck (show ra_run ra_rI (kX11_end_15 N) ra_c0 ra_c0 ra_c0 ra_c0 ra_c0 ra_c0 3 lX11_end_15 [none, none] [] h = some r from e) _ _ rfl
def lX11_end_0 : List ra_I := [(0, .iload_n 1, 1, 1, 0, 0, 0, 0, []),
  (1, .ifCond .lt (14), 3, 15, 0, 0, 0, 0, []),
  (4, .iload_n 1, 1, 1, 0, 0, 0, 0, []),
  (5, .aload_n 0, 1, 0, 0, 0, 0, 0, []),
  (6, .getfield 23, 3, 11, 2, 2, 0, 0, []),
  (9, .getfield 147, 3, 8, 1, 0, 0, 0, []),
  (12, .if_icmp .le (5), 3, 17, 0, 0, 0, 0, []),
  (17, .aload_n 0, 1, 0, 0, 0, 0, 0, []),
  (18, .getfield 23, 3, 11, 2, 2, 0, 0, []),
  (21, .iload_n 1, 1, 1, 0, 0, 0, 0, []),
  (22, .putfield 147, 3, 8, 1, 0, 0, 0, []),
  (25, .iload_n 1, 1, 1, 0, 0, 0, 0, []),
  (26, .ireturn, 1, 0, 0, 0, 0, 0, [])]
set_option maxRecDepth 100000 in
theorem lX11_end_0_ck : lX11_end_0.all (ra_ck mX11_end 11) = true := by decide +kernel
def nX11_end_0 (N : Nat) (a0 : Nat) (a1 : Int32) (h : ra_H) : Option (Int32 × ra_H) :=
  if a1 < 0 then
    nX11_end_15 N h
  else
    (ra_fR h 11 a0 2).bind fun x1 =>
    (ra_fI h 8 x1 1).bind fun x2 =>
    if a1 ≤ x2 then
      (ra_fR h 11 a0 2).bind fun x3 =>
      (ra_fW h 8 x3 1 (.int a1)).bind fun h4 =>
      some (a1, h4)
    else
      nX11_end_15 N h
def kX11_end_0 (N : Nat) : Nat → List (Option Value) → List Value → ra_H → Option (Int32 × ra_H) := (ra_k1 15 (fun L S h => match L, S with
  | [_, _], [] => nX11_end_15 N h
  | _, _ => none) ra_k0)
theorem kX11_end_0_ok (N : Nat) : ra_kok 1 mX11_end ra_oI (kX11_end_0 N) := (ra_k1_ok (by
  intro L S h a e
  split at e
  · exact ra_Ru.weak (nX11_end_15_ok N _ _ e) trivial
  · cases e) ra_k0_ok)
set_option maxRecDepth 100000 in
theorem nX11_end_0_ok (N : Nat) (a0 : Nat) (a1 : Int32) (h : ra_H) (r : (Int32 × ra_H)) (e : nX11_end_0 N a0 a1 h = some r) : ra_Ru 1 mX11_end 0 [some (.ref a0), some (.int a1)] [] h (ra_oI r) :=
  ra_sound (by omega) rfl ra_rI_ok (kX11_end_0_ok N) (fun m av h h1 e => (ra_c0_ok (ro := ra_oV)) m av h h1 e) (fun m av h x h1 e => (ra_c0_ok (ro := ra_oI)) m av h (x, h1) e) (fun m av h x h1 e => (ra_c0_ok (ro := ra_oJ)) m av h (x, h1) e) (fun m av h x h1 e => (ra_c0_ok (ro := ra_oR)) m av h (x, h1) e) (fun m av h x h1 e => (ra_c0_ok (ro := ra_oN)) m av h (x, h1) e) (fun m av h x h1 e => (ra_c0_ok (ro := ra_oF)) m av h (x, h1) e) 14 lX11_end_0 _ _ _ _ lX11_end_0_ck (show ra_run ra_rI (kX11_end_0 N) ra_c0 ra_c0 ra_c0 ra_c0 ra_c0 ra_c0 14 lX11_end_0 [some (.ref a0), some (.int a1)] [] h = some r from e) _ _ rfl
def fX11_end (N : Nat) (p0 : Nat) (p1 : Int32) (h : ra_H) : Option (Int32 × ra_H) := match ra_isOb h p0 11 with
  | true => nX11_end_0 N p0 p1 h
  | false => none
set_option maxRecDepth 100000 in
theorem mtX11_end : ra_MT[37]? = some (mX11_end, 1, 1, (1, 1), (3, 89), (3, 90)) := rfl
theorem fX11_end_co (N : Nat) (p0 : Nat) (p1 : Int32) (h : ra_H) (r : (Int32 × ra_H)) (e : fX11_end N p0 p1 h = some r) (D : Nat) (hD : 2 ≤ D) : ra_CO D 37 [.ref p0, .int p1] h (ra_oI r).1 (ra_oI r).2 := by
  have hw : ra_nw2 [.ref p0, .int p1] ≤ 2 := Nat.le_of_ble_eq_true rfl
  have hdb : ∀ v ∈ ([.ref p0, .int p1] : List Value), ∀ x, v ≠ .double x := by
    intro v hv x hx
    simp [hx] at hv
  unfold fX11_end at e
  split at e
  · rename_i ho
    have e1 := e
    exact ⟨1, _, mtX11_end, hD, ra_ev_of (by decide) hdb hw trivial (ra_Ru.weak (nX11_end_0_ok N p0 p1 h _ e1) ⟨rfl, ⟨rfl, trivial⟩⟩), (fun _ => ⟨_, _, rfl, ra_rcv_of ho (by decide) rfl⟩), (fun h => absurd h (by decide))⟩
  · cases e
/-! RedMarks.expect(I)I -/
def mX11_expect : ra_M := (yX11_expect, cX11_expect, 2, (some .int))
def tIX11_expect (N : Nat) : Nat → List Value → ra_H → Option (Int32 × ra_H) := (ra_c1 15 (fun av h => match av with
  | [.int z0, .int z1] => fX11_fits N z0 z1 h
  | _ => none) (ra_c1 186 (fun av h => match av with
  | [.ref z0, .int z1] => fX2_foundTimesUnseen N z0 z1 h
  | _ => none) ra_c0))
theorem tIX11_expect_ok (N : Nat) : ra_cok 3 ra_oI (tIX11_expect N) := (ra_c1_ok (by
  intro av h a e
  split at e
  · exact fX11_fits_co N _ _ _ _ e 3 (by omega)
  · cases e) (ra_c1_ok (by
  intro av h a e
  split at e
  · exact fX2_foundTimesUnseen_co N _ _ _ _ e 3 (by omega)
  · cases e) ra_c0_ok))
def lX11_expect_21 : List ra_I := [(21, .iconst (-1), 1, 0, 0, 0, (-1), 0, []),
  (22, .ireturn, 1, 0, 0, 0, 0, 0, [])]
set_option maxRecDepth 100000 in
theorem lX11_expect_21_ck : lX11_expect_21.all (ra_ck mX11_expect 11) = true := by decide +kernel
def nX11_expect_21 (N : Nat) (h : ra_H) : Option (Int32 × ra_H) :=
  some ((-1 : Int32), h)
def kX11_expect_21 (N : Nat) : Nat → List (Option Value) → List Value → ra_H → Option (Int32 × ra_H) := ra_k0
theorem kX11_expect_21_ok (N : Nat) : ra_kok 3 mX11_expect ra_oI (kX11_expect_21 N) := ra_k0_ok
set_option maxRecDepth 100000 in
theorem nX11_expect_21_ok (N : Nat) (h : ra_H) (r : (Int32 × ra_H)) (e : nX11_expect_21 N h = some r) : ra_Ru 3 mX11_expect 21 [none, none] [] h (ra_oI r) :=
  ra_sound (by omega) rfl ra_rI_ok (kX11_expect_21_ok N) (fun m av h h1 e => (ra_c0_ok (ro := ra_oV)) m av h h1 e) (fun m av h x h1 e => (tIX11_expect_ok N) m av h (x, h1) e) (fun m av h x h1 e => (ra_c0_ok (ro := ra_oJ)) m av h (x, h1) e) (fun m av h x h1 e => (ra_c0_ok (ro := ra_oR)) m av h (x, h1) e) (fun m av h x h1 e => (ra_c0_ok (ro := ra_oN)) m av h (x, h1) e) (fun m av h x h1 e => (ra_c0_ok (ro := ra_oF)) m av h (x, h1) e) 3 lX11_expect_21 _ _ _ _ lX11_expect_21_ck (show ra_run ra_rI (kX11_expect_21 N) ra_c0 (tIX11_expect N) ra_c0 ra_c0 ra_c0 ra_c0 3 lX11_expect_21 [none, none] [] h = some r from e) _ _ rfl
def lX11_expect_0 : List ra_I := [(0, .bipush (11), 2, 0, 0, 0, (11), 0, []),
  (2, .iload_n 1, 1, 1, 0, 0, 0, 0, []),
  (3, .invokestatic 109, 3, 15, 2, 1, 0, 0, []),
  (6, .ifCond .eq (15), 3, 21, 0, 0, 0, 0, []),
  (9, .aload_n 0, 1, 0, 0, 0, 0, 0, []),
  (10, .getfield 10, 3, 11, 0, 2, 0, 0, []),
  (13, .getfield 350, 3, 2, 11, 2, 0, 0, []),
  (16, .iload_n 1, 1, 1, 0, 0, 0, 0, []),
  (17, .iaload, 1, 0, 0, 0, 0, 0, []),
  (18, .ifCond .ne (5), 3, 23, 0, 0, 0, 0, []),
  (23, .aload_n 0, 1, 0, 0, 0, 0, 0, []),
  (24, .getfield 10, 3, 11, 0, 2, 0, 0, []),
  (27, .iload_n 1, 1, 1, 0, 0, 0, 0, []),
  (28, .invokevirtual 356, 3, 186, 2, 1, 0, 0, []),
  (31, .bipush (100), 2, 0, 0, 0, (100), 0, []),
  (33, .imul, 1, 0, 0, 0, 0, 0, []),
  (34, .aload_n 0, 1, 0, 0, 0, 0, 0, []),
  (35, .getfield 10, 3, 11, 0, 2, 0, 0, []),
  (38, .getfield 350, 3, 2, 11, 2, 0, 0, []),
  (41, .iload_n 1, 1, 1, 0, 0, 0, 0, []),
  (42, .iaload, 1, 0, 0, 0, 0, 0, []),
  (43, .idiv, 1, 0, 0, 0, 0, 0, []),
  (44, .ireturn, 1, 0, 0, 0, 0, 0, [])]
set_option maxRecDepth 100000 in
theorem lX11_expect_0_ck : lX11_expect_0.all (ra_ck mX11_expect 11) = true := by decide +kernel
def nX11_expect_0 (N : Nat) (a0 : Nat) (a1 : Int32) (h : ra_H) : Option (Int32 × ra_H) :=
  (fX11_fits N ((11 : Int32)) a1 h).bind fun q1 =>
  if q1.1 = 0 then
    nX11_expect_21 N q1.2
  else
    (ra_fR q1.2 11 a0 0).bind fun x2 =>
    (ra_fR q1.2 2 x2 11).bind fun x3 =>
    (ra_aI q1.2 0 x3 a1).bind fun x4 =>
    if x4 = 0 then
      nX11_expect_21 N q1.2
    else
      (ra_fR q1.2 11 a0 0).bind fun x5 =>
      (fX2_foundTimesUnseen N x5 a1 q1.2).bind fun q6 =>
      (ra_fR q6.2 11 a0 0).bind fun x7 =>
      (ra_fR q6.2 2 x7 11).bind fun x8 =>
      (ra_aI q6.2 0 x8 a1).bind fun x9 =>
      if x9 = 0 then none else
      some ((q6.1 * ((100 : Int32))) / x9, q6.2)
def kX11_expect_0 (N : Nat) : Nat → List (Option Value) → List Value → ra_H → Option (Int32 × ra_H) := (ra_k1 21 (fun L S h => match L, S with
  | [_, _], [] => nX11_expect_21 N h
  | _, _ => none) ra_k0)
theorem kX11_expect_0_ok (N : Nat) : ra_kok 3 mX11_expect ra_oI (kX11_expect_0 N) := (ra_k1_ok (by
  intro L S h a e
  split at e
  · exact ra_Ru.weak (nX11_expect_21_ok N _ _ e) trivial
  · cases e) ra_k0_ok)
set_option maxRecDepth 100000 in
theorem nX11_expect_0_ok (N : Nat) (a0 : Nat) (a1 : Int32) (h : ra_H) (r : (Int32 × ra_H)) (e : nX11_expect_0 N a0 a1 h = some r) : ra_Ru 3 mX11_expect 0 [some (.ref a0), some (.int a1)] [] h (ra_oI r) :=
  ra_sound (by omega) rfl ra_rI_ok (kX11_expect_0_ok N) (fun m av h h1 e => (ra_c0_ok (ro := ra_oV)) m av h h1 e) (fun m av h x h1 e => (tIX11_expect_ok N) m av h (x, h1) e) (fun m av h x h1 e => (ra_c0_ok (ro := ra_oJ)) m av h (x, h1) e) (fun m av h x h1 e => (ra_c0_ok (ro := ra_oR)) m av h (x, h1) e) (fun m av h x h1 e => (ra_c0_ok (ro := ra_oN)) m av h (x, h1) e) (fun m av h x h1 e => (ra_c0_ok (ro := ra_oF)) m av h (x, h1) e) 24 lX11_expect_0 _ _ _ _ lX11_expect_0_ck (show ra_run ra_rI (kX11_expect_0 N) ra_c0 (tIX11_expect N) ra_c0 ra_c0 ra_c0 ra_c0 24 lX11_expect_0 [some (.ref a0), some (.int a1)] [] h = some r from e) _ _ rfl
def fX11_expect (N : Nat) (p0 : Nat) (p1 : Int32) (h : ra_H) : Option (Int32 × ra_H) := match ra_isOb h p0 11 with
  | true => nX11_expect_0 N p0 p1 h
  | false => none
set_option maxRecDepth 100000 in
theorem mtX11_expect : ra_MT[185]? = some (mX11_expect, 1, 1, (1, 1), (6, 33), (6, 34)) := rfl
theorem fX11_expect_co (N : Nat) (p0 : Nat) (p1 : Int32) (h : ra_H) (r : (Int32 × ra_H)) (e : fX11_expect N p0 p1 h = some r) (D : Nat) (hD : 4 ≤ D) : ra_CO D 185 [.ref p0, .int p1] h (ra_oI r).1 (ra_oI r).2 := by
  have hw : ra_nw2 [.ref p0, .int p1] ≤ 2 := Nat.le_of_ble_eq_true rfl
  have hdb : ∀ v ∈ ([.ref p0, .int p1] : List Value), ∀ x, v ≠ .double x := by
    intro v hv x hx
    simp [hx] at hv
  unfold fX11_expect at e
  split at e
  · rename_i ho
    have e1 := e
    exact ⟨3, _, mtX11_expect, hD, ra_ev_of (by decide) hdb hw trivial (ra_Ru.weak (nX11_expect_0_ok N p0 p1 h _ e1) ⟨rfl, ⟨rfl, trivial⟩⟩), (fun _ => ⟨_, _, rfl, ra_rcv_of ho (by decide) rfl⟩), (fun h => absurd h (by decide))⟩
  · cases e
/-! RedMarks.forgetFact(II)V -/
def mX11_forgetFact : ra_M := (yX11_forgetFact, cX11_forgetFact, 3, none)
def tVX11_forgetFact (N : Nat) : Nat → List Value → ra_H → Option ra_H := (ra_c1 21 (fun av h => match av with
  | [.ref z0, .int z1] => fX1_forgetBook N z0 z1 h
  | _ => none) (ra_c1 23 (fun av h => match av with
  | [.ref z0] => fX3_forgetAll N z0 h
  | _ => none) (ra_c1 29 (fun av h => match av with
  | [.ref z0] => fX6_forgetAll N z0 h
  | _ => none) ra_c0)))
theorem tVX11_forgetFact_ok (N : Nat) : ra_cok 3 ra_oV (tVX11_forgetFact N) := (ra_c1_ok (by
  intro av h a e
  split at e
  · exact fX1_forgetBook_co N _ _ _ _ e 3 (by omega)
  · cases e) (ra_c1_ok (by
  intro av h a e
  split at e
  · exact fX3_forgetAll_co N _ _ _ e 3 (by omega)
  · cases e) (ra_c1_ok (by
  intro av h a e
  split at e
  · exact fX6_forgetAll_co N _ _ _ e 3 (by omega)
  · cases e) ra_c0_ok)))
def lX11_forgetFact_51 : List ra_I := [(51, .return_, 1, 0, 0, 0, 0, 0, [])]
set_option maxRecDepth 100000 in
theorem lX11_forgetFact_51_ck : lX11_forgetFact_51.all (ra_ck mX11_forgetFact 11) = true := by decide +kernel
def nX11_forgetFact_51 (N : Nat) (h : ra_H) : Option ra_H :=
  some h
def kX11_forgetFact_51 (N : Nat) : Nat → List (Option Value) → List Value → ra_H → Option ra_H := ra_k0
theorem kX11_forgetFact_51_ok (N : Nat) : ra_kok 3 mX11_forgetFact ra_oV (kX11_forgetFact_51 N) := ra_k0_ok
set_option maxRecDepth 100000 in
theorem nX11_forgetFact_51_ok (N : Nat) (h : ra_H) (r : ra_H) (e : nX11_forgetFact_51 N h = some r) : ra_Ru 3 mX11_forgetFact 51 [none, none, none] [] h (ra_oV r) :=
  ra_sound (by omega) rfl ra_rV_ok (kX11_forgetFact_51_ok N) (fun m av h h1 e => (tVX11_forgetFact_ok N) m av h h1 e) (fun m av h x h1 e => (ra_c0_ok (ro := ra_oI)) m av h (x, h1) e) (fun m av h x h1 e => (ra_c0_ok (ro := ra_oJ)) m av h (x, h1) e) (fun m av h x h1 e => (ra_c0_ok (ro := ra_oR)) m av h (x, h1) e) (fun m av h x h1 e => (ra_c0_ok (ro := ra_oN)) m av h (x, h1) e) (fun m av h x h1 e => (ra_c0_ok (ro := ra_oF)) m av h (x, h1) e) 2 lX11_forgetFact_51 _ _ _ _ lX11_forgetFact_51_ck (show ra_run ra_rV (kX11_forgetFact_51 N) (tVX11_forgetFact N) ra_c0 ra_c0 ra_c0 ra_c0 ra_c0 2 lX11_forgetFact_51 [none, none, none] [] h = some r from e) _ _ rfl
def lX11_forgetFact_44 : List ra_I := [(44, .aload_n 0, 1, 0, 0, 0, 0, 0, []),
  (45, .getfield 68, 3, 11, 7, 2, 0, 0, []),
  (48, .invokevirtual 337, 3, 29, 1, 0, 0, 0, [])]
set_option maxRecDepth 100000 in
theorem lX11_forgetFact_44_ck : lX11_forgetFact_44.all (ra_ck mX11_forgetFact 11) = true := by decide +kernel
def nX11_forgetFact_44 (N : Nat) (a0 : Nat) (h : ra_H) : Option ra_H :=
  (ra_fR h 11 a0 7).bind fun x1 =>
  (fX6_forgetAll N x1 h).bind fun h2 =>
  nX11_forgetFact_51 N h2
def kX11_forgetFact_44 (N : Nat) : Nat → List (Option Value) → List Value → ra_H → Option ra_H := (ra_k1 51 (fun L S h => match L, S with
  | [_, _, _], [] => nX11_forgetFact_51 N h
  | _, _ => none) ra_k0)
theorem kX11_forgetFact_44_ok (N : Nat) : ra_kok 3 mX11_forgetFact ra_oV (kX11_forgetFact_44 N) := (ra_k1_ok (by
  intro L S h a e
  split at e
  · exact ra_Ru.weak (nX11_forgetFact_51_ok N _ _ e) trivial
  · cases e) ra_k0_ok)
set_option maxRecDepth 100000 in
theorem nX11_forgetFact_44_ok (N : Nat) (a0 : Nat) (h : ra_H) (r : ra_H) (e : nX11_forgetFact_44 N a0 h = some r) : ra_Ru 3 mX11_forgetFact 44 [some (.ref a0), none, none] [] h (ra_oV r) :=
  ra_sound (by omega) rfl ra_rV_ok (kX11_forgetFact_44_ok N) (fun m av h h1 e => (tVX11_forgetFact_ok N) m av h h1 e) (fun m av h x h1 e => (ra_c0_ok (ro := ra_oI)) m av h (x, h1) e) (fun m av h x h1 e => (ra_c0_ok (ro := ra_oJ)) m av h (x, h1) e) (fun m av h x h1 e => (ra_c0_ok (ro := ra_oR)) m av h (x, h1) e) (fun m av h x h1 e => (ra_c0_ok (ro := ra_oN)) m av h (x, h1) e) (fun m av h x h1 e => (ra_c0_ok (ro := ra_oF)) m av h (x, h1) e) 4 lX11_forgetFact_44 _ _ _ _ lX11_forgetFact_44_ck (show ra_run ra_rV (kX11_forgetFact_44 N) (tVX11_forgetFact N) ra_c0 ra_c0 ra_c0 ra_c0 ra_c0 4 lX11_forgetFact_44 [some (.ref a0), none, none] [] h = some r from e) _ _ rfl
def lX11_forgetFact_32 : List ra_I := [(32, .iload_n 2, 1, 2, 0, 0, 0, 0, []),
  (33, .bipush (7), 2, 0, 0, 0, (7), 0, []),
  (35, .if_icmp .eq (9), 3, 44, 0, 0, 0, 0, []),
  (38, .iload_n 2, 1, 2, 0, 0, 0, 0, []),
  (39, .bipush (8), 2, 0, 0, 0, (8), 0, []),
  (41, .if_icmp .ne (10), 3, 51, 0, 0, 0, 0, [])]
set_option maxRecDepth 100000 in
theorem lX11_forgetFact_32_ck : lX11_forgetFact_32.all (ra_ck mX11_forgetFact 11) = true := by decide +kernel
def nX11_forgetFact_32 (N : Nat) (a0 : Nat) (a2 : Int32) (h : ra_H) : Option ra_H :=
  if a2 = ((7 : Int32)) then
    nX11_forgetFact_44 N a0 h
  else
    if a2 = ((8 : Int32)) then
      nX11_forgetFact_44 N a0 h
    else
      nX11_forgetFact_51 N h
def kX11_forgetFact_32 (N : Nat) : Nat → List (Option Value) → List Value → ra_H → Option ra_H := (ra_k1 44 (fun L S h => match L, S with
  | [some (.ref a0), _, _], [] => nX11_forgetFact_44 N a0 h
  | _, _ => none) (ra_k1 51 (fun L S h => match L, S with
  | [_, _, _], [] => nX11_forgetFact_51 N h
  | _, _ => none) ra_k0))
theorem kX11_forgetFact_32_ok (N : Nat) : ra_kok 3 mX11_forgetFact ra_oV (kX11_forgetFact_32 N) := (ra_k1_ok (by
  intro L S h a e
  split at e
  · exact ra_Ru.weak (nX11_forgetFact_44_ok N _ _ _ e) ⟨rfl, trivial⟩
  · cases e) (ra_k1_ok (by
  intro L S h a e
  split at e
  · exact ra_Ru.weak (nX11_forgetFact_51_ok N _ _ e) trivial
  · cases e) ra_k0_ok))
set_option maxRecDepth 100000 in
theorem nX11_forgetFact_32_ok (N : Nat) (a0 : Nat) (a2 : Int32) (h : ra_H) (r : ra_H) (e : nX11_forgetFact_32 N a0 a2 h = some r) : ra_Ru 3 mX11_forgetFact 32 [some (.ref a0), none, some (.int a2)] [] h (ra_oV r) :=
  ra_sound (by omega) rfl ra_rV_ok (kX11_forgetFact_32_ok N) (fun m av h h1 e => (tVX11_forgetFact_ok N) m av h h1 e) (fun m av h x h1 e => (ra_c0_ok (ro := ra_oI)) m av h (x, h1) e) (fun m av h x h1 e => (ra_c0_ok (ro := ra_oJ)) m av h (x, h1) e) (fun m av h x h1 e => (ra_c0_ok (ro := ra_oR)) m av h (x, h1) e) (fun m av h x h1 e => (ra_c0_ok (ro := ra_oN)) m av h (x, h1) e) (fun m av h x h1 e => (ra_c0_ok (ro := ra_oF)) m av h (x, h1) e) 7 lX11_forgetFact_32 _ _ _ _ lX11_forgetFact_32_ck (show ra_run ra_rV (kX11_forgetFact_32 N) (tVX11_forgetFact N) ra_c0 ra_c0 ra_c0 ra_c0 ra_c0 7 lX11_forgetFact_32 [some (.ref a0), none, some (.int a2)] [] h = some r from e) _ _ rfl
def lX11_forgetFact_25 : List ra_I := [(25, .aload_n 0, 1, 0, 0, 0, 0, 0, []),
  (26, .getfield 61, 3, 11, 6, 2, 0, 0, []),
  (29, .invokevirtual 243, 3, 23, 1, 0, 0, 0, [])]
set_option maxRecDepth 100000 in
theorem lX11_forgetFact_25_ck : lX11_forgetFact_25.all (ra_ck mX11_forgetFact 11) = true := by decide +kernel
def nX11_forgetFact_25 (N : Nat) (a0 : Nat) (a2 : Int32) (h : ra_H) : Option ra_H :=
  (ra_fR h 11 a0 6).bind fun x1 =>
  (fX3_forgetAll N x1 h).bind fun h2 =>
  nX11_forgetFact_32 N a0 a2 h2
def kX11_forgetFact_25 (N : Nat) : Nat → List (Option Value) → List Value → ra_H → Option ra_H := (ra_k1 32 (fun L S h => match L, S with
  | [some (.ref a0), _, some (.int a2)], [] => nX11_forgetFact_32 N a0 a2 h
  | _, _ => none) ra_k0)
theorem kX11_forgetFact_25_ok (N : Nat) : ra_kok 3 mX11_forgetFact ra_oV (kX11_forgetFact_25 N) := (ra_k1_ok (by
  intro L S h a e
  split at e
  · exact ra_Ru.weak (nX11_forgetFact_32_ok N _ _ _ _ e) ⟨rfl, ⟨rfl, trivial⟩⟩
  · cases e) ra_k0_ok)
set_option maxRecDepth 100000 in
theorem nX11_forgetFact_25_ok (N : Nat) (a0 : Nat) (a2 : Int32) (h : ra_H) (r : ra_H) (e : nX11_forgetFact_25 N a0 a2 h = some r) : ra_Ru 3 mX11_forgetFact 25 [some (.ref a0), none, some (.int a2)] [] h (ra_oV r) :=
  ra_sound (by omega) rfl ra_rV_ok (kX11_forgetFact_25_ok N) (fun m av h h1 e => (tVX11_forgetFact_ok N) m av h h1 e) (fun m av h x h1 e => (ra_c0_ok (ro := ra_oI)) m av h (x, h1) e) (fun m av h x h1 e => (ra_c0_ok (ro := ra_oJ)) m av h (x, h1) e) (fun m av h x h1 e => (ra_c0_ok (ro := ra_oR)) m av h (x, h1) e) (fun m av h x h1 e => (ra_c0_ok (ro := ra_oN)) m av h (x, h1) e) (fun m av h x h1 e => (ra_c0_ok (ro := ra_oF)) m av h (x, h1) e) 4 lX11_forgetFact_25 _ _ _ _ lX11_forgetFact_25_ck (show ra_run ra_rV (kX11_forgetFact_25 N) (tVX11_forgetFact N) ra_c0 ra_c0 ra_c0 ra_c0 ra_c0 4 lX11_forgetFact_25 [some (.ref a0), none, some (.int a2)] [] h = some r from e) _ _ rfl
def lX11_forgetFact_0 : List ra_I := [(0, .aload_n 0, 1, 0, 0, 0, 0, 0, []),
  (1, .getfield 39, 3, 11, 4, 2, 0, 0, []),
  (4, .iload_n 1, 1, 1, 0, 0, 0, 0, []),
  (5, .invokevirtual 394, 3, 21, 2, 0, 0, 0, []),
  (8, .iload_n 2, 1, 2, 0, 0, 0, 0, []),
  (9, .iconst (3), 1, 0, 0, 0, (3), 0, []),
  (10, .if_icmp .eq (15), 3, 25, 0, 0, 0, 0, []),
  (13, .iload_n 2, 1, 2, 0, 0, 0, 0, []),
  (14, .bipush (9), 2, 0, 0, 0, (9), 0, []),
  (16, .if_icmp .eq (9), 3, 25, 0, 0, 0, 0, []),
  (19, .iload_n 2, 1, 2, 0, 0, 0, 0, []),
  (20, .bipush (10), 2, 0, 0, 0, (10), 0, []),
  (22, .if_icmp .ne (10), 3, 32, 0, 0, 0, 0, [])]
set_option maxRecDepth 100000 in
theorem lX11_forgetFact_0_ck : lX11_forgetFact_0.all (ra_ck mX11_forgetFact 11) = true := by decide +kernel
def nX11_forgetFact_0 (N : Nat) (a0 : Nat) (a1 : Int32) (a2 : Int32) (h : ra_H) : Option ra_H :=
  (ra_fR h 11 a0 4).bind fun x1 =>
  (fX1_forgetBook N x1 a1 h).bind fun h2 =>
  if a2 = ((3 : Int32)) then
    nX11_forgetFact_25 N a0 a2 h2
  else
    if a2 = ((9 : Int32)) then
      nX11_forgetFact_25 N a0 a2 h2
    else
      if a2 = ((10 : Int32)) then
        nX11_forgetFact_25 N a0 a2 h2
      else
        nX11_forgetFact_32 N a0 a2 h2
def kX11_forgetFact_0 (N : Nat) : Nat → List (Option Value) → List Value → ra_H → Option ra_H := (ra_k1 25 (fun L S h => match L, S with
  | [some (.ref a0), _, some (.int a2)], [] => nX11_forgetFact_25 N a0 a2 h
  | _, _ => none) (ra_k1 32 (fun L S h => match L, S with
  | [some (.ref a0), _, some (.int a2)], [] => nX11_forgetFact_32 N a0 a2 h
  | _, _ => none) ra_k0))
theorem kX11_forgetFact_0_ok (N : Nat) : ra_kok 3 mX11_forgetFact ra_oV (kX11_forgetFact_0 N) := (ra_k1_ok (by
  intro L S h a e
  split at e
  · exact ra_Ru.weak (nX11_forgetFact_25_ok N _ _ _ _ e) ⟨rfl, ⟨rfl, trivial⟩⟩
  · cases e) (ra_k1_ok (by
  intro L S h a e
  split at e
  · exact ra_Ru.weak (nX11_forgetFact_32_ok N _ _ _ _ e) ⟨rfl, ⟨rfl, trivial⟩⟩
  · cases e) ra_k0_ok))
set_option maxRecDepth 100000 in
theorem nX11_forgetFact_0_ok (N : Nat) (a0 : Nat) (a1 : Int32) (a2 : Int32) (h : ra_H) (r : ra_H) (e : nX11_forgetFact_0 N a0 a1 a2 h = some r) : ra_Ru 3 mX11_forgetFact 0 [some (.ref a0), some (.int a1), some (.int a2)] [] h (ra_oV r) :=
  ra_sound (by omega) rfl ra_rV_ok (kX11_forgetFact_0_ok N) (fun m av h h1 e => (tVX11_forgetFact_ok N) m av h h1 e) (fun m av h x h1 e => (ra_c0_ok (ro := ra_oI)) m av h (x, h1) e) (fun m av h x h1 e => (ra_c0_ok (ro := ra_oJ)) m av h (x, h1) e) (fun m av h x h1 e => (ra_c0_ok (ro := ra_oR)) m av h (x, h1) e) (fun m av h x h1 e => (ra_c0_ok (ro := ra_oN)) m av h (x, h1) e) (fun m av h x h1 e => (ra_c0_ok (ro := ra_oF)) m av h (x, h1) e) 14 lX11_forgetFact_0 _ _ _ _ lX11_forgetFact_0_ck (show ra_run ra_rV (kX11_forgetFact_0 N) (tVX11_forgetFact N) ra_c0 ra_c0 ra_c0 ra_c0 ra_c0 14 lX11_forgetFact_0 [some (.ref a0), some (.int a1), some (.int a2)] [] h = some r from e) _ _ rfl
def fX11_forgetFact (N : Nat) (p0 : Nat) (p1 : Int32) (p2 : Int32) (h : ra_H) : Option ra_H := match ra_isOb h p0 11 with
  | true => nX11_forgetFact_0 N p0 p1 p2 h
  | false => none
set_option maxRecDepth 100000 in
theorem mtX11_forgetFact : ra_MT[28]? = some (mX11_forgetFact, 1, 2, (1, 1), (3, 54), (0, 4)) := rfl
theorem fX11_forgetFact_co (N : Nat) (p0 : Nat) (p1 : Int32) (p2 : Int32) (h : ra_H) (r : ra_H) (e : fX11_forgetFact N p0 p1 p2 h = some r) (D : Nat) (hD : 4 ≤ D) : ra_CO D 28 [.ref p0, .int p1, .int p2] h (ra_oV r).1 (ra_oV r).2 := by
  have hw : ra_nw2 [.ref p0, .int p1, .int p2] ≤ 3 := Nat.le_of_ble_eq_true rfl
  have hdb : ∀ v ∈ ([.ref p0, .int p1, .int p2] : List Value), ∀ x, v ≠ .double x := by
    intro v hv x hx
    simp [hx] at hv
  unfold fX11_forgetFact at e
  split at e
  · rename_i ho
    have e1 := e
    exact ⟨3, _, mtX11_forgetFact, hD, ra_ev_of (by decide) hdb hw trivial (ra_Ru.weak (nX11_forgetFact_0_ok N p0 p1 p2 h _ e1) ⟨rfl, ⟨rfl, ⟨rfl, trivial⟩⟩⟩), (fun _ => ⟨_, _, rfl, ra_rcv_of ho (by decide) rfl⟩), (fun h => absurd h (by decide))⟩
  · cases e
/-! RedMarks.fact(III)I -/
def mX11_fact : ra_M := (yX11_fact, cX11_fact, 5, (some .int))
def tVX11_fact (N : Nat) : Nat → List Value → ra_H → Option ra_H := (ra_c1 19 (fun av h => match av with
  | [.ref z0, .int z1, .int z2, .int z3] => fX2_setFact N z0 z1 z2 z3 h
  | _ => none) (ra_c1 28 (fun av h => match av with
  | [.ref z0, .int z1, .int z2] => fX11_forgetFact N z0 z1 z2 h
  | _ => none) ra_c0))
theorem tVX11_fact_ok (N : Nat) : ra_cok 4 ra_oV (tVX11_fact N) := (ra_c1_ok (by
  intro av h a e
  split at e
  · exact fX2_setFact_co N _ _ _ _ _ _ e 4 (by omega)
  · cases e) (ra_c1_ok (by
  intro av h a e
  split at e
  · exact fX11_forgetFact_co N _ _ _ _ _ e 4 (by omega)
  · cases e) ra_c0_ok))
def tIX11_fact (N : Nat) : Nat → List Value → ra_H → Option (Int32 × ra_H) := (ra_c1 15 (fun av h => match av with
  | [.int z0, .int z1] => fX11_fits N z0 z1 h
  | _ => none) (ra_c1 17 (fun av h => match av with
  | [.ref z0, .int z1] => fX11_refuse N z0 z1 h
  | _ => none) (ra_c1 24 (fun av h => match av with
  | [.ref z0, .int z1] => fX11_accept N z0 z1 h
  | _ => none) (ra_c1 26 (fun av h => match av with
  | [.ref z0, .int z1] => fX2_hasBook N z0 z1 h
  | _ => none) (ra_c1 27 (fun av h => match av with
  | [.ref z0, .int z1, .int z2] => fX2_factOf N z0 z1 z2 h
  | _ => none) ra_c0)))))
theorem tIX11_fact_ok (N : Nat) : ra_cok 4 ra_oI (tIX11_fact N) := (ra_c1_ok (by
  intro av h a e
  split at e
  · exact fX11_fits_co N _ _ _ _ e 4 (by omega)
  · cases e) (ra_c1_ok (by
  intro av h a e
  split at e
  · exact fX11_refuse_co N _ _ _ _ e 4 (by omega)
  · cases e) (ra_c1_ok (by
  intro av h a e
  split at e
  · exact fX11_accept_co N _ _ _ _ e 4 (by omega)
  · cases e) (ra_c1_ok (by
  intro av h a e
  split at e
  · exact fX2_hasBook_co N _ _ _ _ e 4 (by omega)
  · cases e) (ra_c1_ok (by
  intro av h a e
  split at e
  · exact fX2_factOf_co N _ _ _ _ _ e 4 (by omega)
  · cases e) ra_c0_ok)))))
def lX11_fact_13 : List ra_I := [(13, .aload_n 0, 1, 0, 0, 0, 0, 0, []),
  (14, .iconst (-1), 1, 0, 0, 0, (-1), 0, []),
  (15, .invokevirtual 95, 3, 17, 2, 1, 0, 0, []),
  (18, .ireturn, 1, 0, 0, 0, 0, 0, [])]
set_option maxRecDepth 100000 in
theorem lX11_fact_13_ck : lX11_fact_13.all (ra_ck mX11_fact 11) = true := by decide +kernel
def nX11_fact_13 (N : Nat) (a0 : Nat) (h : ra_H) : Option (Int32 × ra_H) :=
  (fX11_refuse N a0 ((-1 : Int32)) h).bind fun q1 =>
  some (q1.1, q1.2)
def kX11_fact_13 (N : Nat) : Nat → List (Option Value) → List Value → ra_H → Option (Int32 × ra_H) := ra_k0
theorem kX11_fact_13_ok (N : Nat) : ra_kok 4 mX11_fact ra_oI (kX11_fact_13 N) := ra_k0_ok
set_option maxRecDepth 100000 in
theorem nX11_fact_13_ok (N : Nat) (a0 : Nat) (h : ra_H) (r : (Int32 × ra_H)) (e : nX11_fact_13 N a0 h = some r) : ra_Ru 4 mX11_fact 13 [some (.ref a0), none, none, none, none] [] h (ra_oI r) :=
  ra_sound (by omega) rfl ra_rI_ok (kX11_fact_13_ok N) (fun m av h h1 e => (tVX11_fact_ok N) m av h h1 e) (fun m av h x h1 e => (tIX11_fact_ok N) m av h (x, h1) e) (fun m av h x h1 e => (ra_c0_ok (ro := ra_oJ)) m av h (x, h1) e) (fun m av h x h1 e => (ra_c0_ok (ro := ra_oR)) m av h (x, h1) e) (fun m av h x h1 e => (ra_c0_ok (ro := ra_oN)) m av h (x, h1) e) (fun m av h x h1 e => (ra_c0_ok (ro := ra_oF)) m av h (x, h1) e) 5 lX11_fact_13 _ _ _ _ lX11_fact_13_ck (show ra_run ra_rI (kX11_fact_13 N) (tVX11_fact N) (tIX11_fact N) ra_c0 ra_c0 ra_c0 ra_c0 5 lX11_fact_13 [some (.ref a0), none, none, none, none] [] h = some r from e) _ _ rfl
def lX11_fact_0 : List ra_I := [(0, .iload_n 2, 1, 2, 0, 0, 0, 0, []),
  (1, .iconst (2), 1, 0, 0, 0, (2), 0, []),
  (2, .if_icmp .lt (11), 3, 13, 0, 0, 0, 0, []),
  (5, .iload_n 2, 1, 2, 0, 0, 0, 0, []),
  (6, .iload_n 3, 1, 3, 0, 0, 0, 0, []),
  (7, .invokestatic 109, 3, 15, 2, 1, 0, 0, []),
  (10, .ifCond .ne (9), 3, 19, 0, 0, 0, 0, []),
  (19, .aload_n 0, 1, 0, 0, 0, 0, 0, []),
  (20, .getfield 10, 3, 11, 0, 2, 0, 0, []),
  (23, .iload_n 1, 1, 1, 0, 0, 0, 0, []),
  (24, .invokevirtual 112, 3, 26, 2, 1, 0, 0, []),
  (27, .ifCond .ne (10), 3, 37, 0, 0, 0, 0, []),
  (30, .aload_n 0, 1, 0, 0, 0, 0, 0, []),
  (31, .bipush (-2), 2, 0, 0, 0, (-2), 0, []),
  (33, .invokevirtual 95, 3, 17, 2, 1, 0, 0, []),
  (36, .ireturn, 1, 0, 0, 0, 0, 0, []),
  (37, .aload_n 0, 1, 0, 0, 0, 0, 0, []),
  (38, .getfield 10, 3, 11, 0, 2, 0, 0, []),
  (41, .iload_n 1, 1, 1, 0, 0, 0, 0, []),
  (42, .iload_n 2, 1, 2, 0, 0, 0, 0, []),
  (43, .invokevirtual 116, 3, 27, 3, 1, 0, 0, []),
  (46, .istore 4, 2, 4, 0, 0, 0, 0, []),
  (48, .aload_n 0, 1, 0, 0, 0, 0, 0, []),
  (49, .getfield 10, 3, 11, 0, 2, 0, 0, []),
  (52, .iload_n 1, 1, 1, 0, 0, 0, 0, []),
  (53, .iload_n 2, 1, 2, 0, 0, 0, 0, []),
  (54, .iload_n 3, 1, 3, 0, 0, 0, 0, []),
  (55, .invokevirtual 120, 3, 19, 4, 0, 0, 0, []),
  (58, .aload_n 0, 1, 0, 0, 0, 0, 0, []),
  (59, .iload_n 1, 1, 1, 0, 0, 0, 0, []),
  (60, .iload_n 2, 1, 2, 0, 0, 0, 0, []),
  (61, .invokevirtual 124, 3, 28, 3, 0, 0, 0, []),
  (64, .aload_n 0, 1, 0, 0, 0, 0, 0, []),
  (65, .iload 4, 2, 4, 0, 0, 0, 0, []),
  (67, .invokevirtual 106, 3, 24, 2, 1, 0, 0, []),
  (70, .ireturn, 1, 0, 0, 0, 0, 0, [])]
set_option maxRecDepth 100000 in
theorem lX11_fact_0_ck : lX11_fact_0.all (ra_ck mX11_fact 11) = true := by decide +kernel
def nX11_fact_0 (N : Nat) (a0 : Nat) (a1 : Int32) (a2 : Int32) (a3 : Int32) (h : ra_H) : Option (Int32 × ra_H) :=
  if a2 < ((2 : Int32)) then
    nX11_fact_13 N a0 h
  else
    (fX11_fits N a2 a3 h).bind fun q1 =>
    if q1.1 = 0 then
      nX11_fact_13 N a0 q1.2
    else
      (ra_fR q1.2 11 a0 0).bind fun x2 =>
      (fX2_hasBook N x2 a1 q1.2).bind fun q3 =>
      if q3.1 = 0 then
        (fX11_refuse N a0 ((-2 : Int32)) q3.2).bind fun q10 =>
        some (q10.1, q10.2)
      else
        (ra_fR q3.2 11 a0 0).bind fun x4 =>
        (fX2_factOf N x4 a1 a2 q3.2).bind fun q5 =>
        (ra_fR q5.2 11 a0 0).bind fun x6 =>
        (fX2_setFact N x6 a1 a2 a3 q5.2).bind fun h7 =>
        (fX11_forgetFact N a0 a1 a2 h7).bind fun h8 =>
        (fX11_accept N a0 q5.1 h8).bind fun q9 =>
        some (q9.1, q9.2)
def kX11_fact_0 (N : Nat) : Nat → List (Option Value) → List Value → ra_H → Option (Int32 × ra_H) := (ra_k1 13 (fun L S h => match L, S with
  | [some (.ref a0), _, _, _, _], [] => nX11_fact_13 N a0 h
  | _, _ => none) ra_k0)
theorem kX11_fact_0_ok (N : Nat) : ra_kok 4 mX11_fact ra_oI (kX11_fact_0 N) := (ra_k1_ok (by
  intro L S h a e
  split at e
  · exact ra_Ru.weak (nX11_fact_13_ok N _ _ _ e) ⟨rfl, trivial⟩
  · cases e) ra_k0_ok)
set_option maxRecDepth 100000 in
theorem nX11_fact_0_ok (N : Nat) (a0 : Nat) (a1 : Int32) (a2 : Int32) (a3 : Int32) (h : ra_H) (r : (Int32 × ra_H)) (e : nX11_fact_0 N a0 a1 a2 a3 h = some r) : ra_Ru 4 mX11_fact 0 [some (.ref a0), some (.int a1), some (.int a2), some (.int a3), none] [] h (ra_oI r) :=
  ra_sound (by omega) rfl ra_rI_ok (kX11_fact_0_ok N) (fun m av h h1 e => (tVX11_fact_ok N) m av h h1 e) (fun m av h x h1 e => (tIX11_fact_ok N) m av h (x, h1) e) (fun m av h x h1 e => (ra_c0_ok (ro := ra_oJ)) m av h (x, h1) e) (fun m av h x h1 e => (ra_c0_ok (ro := ra_oR)) m av h (x, h1) e) (fun m av h x h1 e => (ra_c0_ok (ro := ra_oN)) m av h (x, h1) e) (fun m av h x h1 e => (ra_c0_ok (ro := ra_oF)) m av h (x, h1) e) 37 lX11_fact_0 _ _ _ _ lX11_fact_0_ck (show ra_run ra_rI (kX11_fact_0 N) (tVX11_fact N) (tIX11_fact N) ra_c0 ra_c0 ra_c0 ra_c0 37 lX11_fact_0 [some (.ref a0), some (.int a1), some (.int a2), some (.int a3), none] [] h = some r from e) _ _ rfl
def fX11_fact (N : Nat) (p0 : Nat) (p1 : Int32) (p2 : Int32) (p3 : Int32) (h : ra_H) : Option (Int32 × ra_H) := match ra_isOb h p0 11 with
  | true => nX11_fact_0 N p0 p1 p2 p3 h
  | false => none
set_option maxRecDepth 100000 in
theorem mtX11_fact : ra_MT[25]? = some (mX11_fact, 1, 3, (1, 1), (3, 41), (3, 42)) := rfl
theorem fX11_fact_co (N : Nat) (p0 : Nat) (p1 : Int32) (p2 : Int32) (p3 : Int32) (h : ra_H) (r : (Int32 × ra_H)) (e : fX11_fact N p0 p1 p2 p3 h = some r) (D : Nat) (hD : 5 ≤ D) : ra_CO D 25 [.ref p0, .int p1, .int p2, .int p3] h (ra_oI r).1 (ra_oI r).2 := by
  have hw : ra_nw2 [.ref p0, .int p1, .int p2, .int p3] ≤ 5 := Nat.le_of_ble_eq_true rfl
  have hdb : ∀ v ∈ ([.ref p0, .int p1, .int p2, .int p3] : List Value), ∀ x, v ≠ .double x := by
    intro v hv x hx
    simp [hx] at hv
  unfold fX11_fact at e
  split at e
  · rename_i ho
    have e1 := e
    exact ⟨4, _, mtX11_fact, hD, ra_ev_of (by decide) hdb hw trivial (ra_Ru.weak (nX11_fact_0_ok N p0 p1 p2 p3 h _ e1) ⟨rfl, ⟨rfl, ⟨rfl, ⟨rfl, trivial⟩⟩⟩⟩), (fun _ => ⟨_, _, rfl, ra_rcv_of ho (by decide) rfl⟩), (fun h => absurd h (by decide))⟩
  · cases e
/-! RedMarks.fault()I -/
def mX11_fault : ra_M := (yX11_fault, cX11_fault, 1, (some .int))
def lX11_fault_0 : List ra_I := [(0, .aload_n 0, 1, 0, 0, 0, 0, 0, []),
  (1, .getfield 83, 3, 11, 12, 0, 0, 0, []),
  (4, .ireturn, 1, 0, 0, 0, 0, 0, [])]
set_option maxRecDepth 100000 in
theorem lX11_fault_0_ck : lX11_fault_0.all (ra_ck mX11_fault 11) = true := by decide +kernel
def nX11_fault_0 (N : Nat) (a0 : Nat) (h : ra_H) : Option (Int32 × ra_H) :=
  (ra_fI h 11 a0 12).bind fun x1 =>
  some (x1, h)
def kX11_fault_0 (N : Nat) : Nat → List (Option Value) → List Value → ra_H → Option (Int32 × ra_H) := ra_k0
theorem kX11_fault_0_ok (N : Nat) : ra_kok 1 mX11_fault ra_oI (kX11_fault_0 N) := ra_k0_ok
set_option maxRecDepth 100000 in
theorem nX11_fault_0_ok (N : Nat) (a0 : Nat) (h : ra_H) (r : (Int32 × ra_H)) (e : nX11_fault_0 N a0 h = some r) : ra_Ru 1 mX11_fault 0 [some (.ref a0)] [] h (ra_oI r) :=
  ra_sound (by omega) rfl ra_rI_ok (kX11_fault_0_ok N) (fun m av h h1 e => (ra_c0_ok (ro := ra_oV)) m av h h1 e) (fun m av h x h1 e => (ra_c0_ok (ro := ra_oI)) m av h (x, h1) e) (fun m av h x h1 e => (ra_c0_ok (ro := ra_oJ)) m av h (x, h1) e) (fun m av h x h1 e => (ra_c0_ok (ro := ra_oR)) m av h (x, h1) e) (fun m av h x h1 e => (ra_c0_ok (ro := ra_oN)) m av h (x, h1) e) (fun m av h x h1 e => (ra_c0_ok (ro := ra_oF)) m av h (x, h1) e) 4 lX11_fault_0 _ _ _ _ lX11_fault_0_ck (show ra_run ra_rI (kX11_fault_0 N) ra_c0 ra_c0 ra_c0 ra_c0 ra_c0 ra_c0 4 lX11_fault_0 [some (.ref a0)] [] h = some r from e) _ _ rfl
def fX11_fault (N : Nat) (p0 : Nat) (h : ra_H) : Option (Int32 × ra_H) := match ra_isOb h p0 11 with
  | true => nX11_fault_0 N p0 h
  | false => none
set_option maxRecDepth 100000 in
theorem mtX11_fault : ra_MT[80]? = some (mX11_fault, 1, 0, (1, 1), (4, 67), (4, 68)) := rfl
theorem fX11_fault_co (N : Nat) (p0 : Nat) (h : ra_H) (r : (Int32 × ra_H)) (e : fX11_fault N p0 h = some r) (D : Nat) (hD : 2 ≤ D) : ra_CO D 80 [.ref p0] h (ra_oI r).1 (ra_oI r).2 := by
  have hw : ra_nw2 [.ref p0] ≤ 1 := Nat.le_of_ble_eq_true rfl
  have hdb : ∀ v ∈ ([.ref p0] : List Value), ∀ x, v ≠ .double x := by
    intro v hv x hx
    simp [hx] at hv
  unfold fX11_fault at e
  split at e
  · rename_i ho
    have e1 := e
    exact ⟨1, _, mtX11_fault, hD, ra_ev_of (by decide) hdb hw trivial (ra_Ru.weak (nX11_fault_0_ok N p0 h _ e1) ⟨rfl, trivial⟩), (fun _ => ⟨_, _, rfl, ra_rcv_of ho (by decide) rfl⟩), (fun h => absurd h (by decide))⟩
  · cases e
/-! RedMarks.feed(IIIII)I -/
def mX11_feed : ra_M := (yX11_feed, cX11_feed, 6, (some .int))
def tVX11_feed (N : Nat) : Nat → List Value → ra_H → Option ra_H := (ra_c1 36 (fun av h => match av with
  | [.ref z0, .int z1] => fX8_append N z0 z1 h
  | _ => none) ra_c0)
theorem tVX11_feed_ok (N : Nat) : ra_cok 2 ra_oV (tVX11_feed N) := (ra_c1_ok (by
  intro av h a e
  split at e
  · exact fX8_append_co N _ _ _ _ e 2 (by omega)
  · cases e) ra_c0_ok)
def lX11_feed_0 : List ra_I := [(0, .aload_n 0, 1, 0, 0, 0, 0, 0, []),
  (1, .getfield 23, 3, 11, 2, 2, 0, 0, []),
  (4, .getfield 147, 3, 8, 1, 0, 0, 0, []),
  (7, .bipush (20), 2, 0, 0, 0, (20), 0, []),
  (9, .iadd, 1, 0, 0, 0, 0, 0, []),
  (10, .sipush (400), 3, 0, 0, 0, (400), 0, []),
  (13, .if_icmp .le (5), 3, 18, 0, 0, 0, 0, []),
  (16, .iconst (-1), 1, 0, 0, 0, (-1), 0, []),
  (17, .ireturn, 1, 0, 0, 0, 0, 0, []),
  (18, .aload_n 0, 1, 0, 0, 0, 0, 0, []),
  (19, .getfield 23, 3, 11, 2, 2, 0, 0, []),
  (22, .iload_n 1, 1, 1, 0, 0, 0, 0, []),
  (23, .invokevirtual 150, 3, 36, 2, 0, 0, 0, []),
  (26, .aload_n 0, 1, 0, 0, 0, 0, 0, []),
  (27, .getfield 23, 3, 11, 2, 2, 0, 0, []),
  (30, .iload_n 2, 1, 2, 0, 0, 0, 0, []),
  (31, .invokevirtual 150, 3, 36, 2, 0, 0, 0, []),
  (34, .aload_n 0, 1, 0, 0, 0, 0, 0, []),
  (35, .getfield 23, 3, 11, 2, 2, 0, 0, []),
  (38, .iload_n 3, 1, 3, 0, 0, 0, 0, []),
  (39, .invokevirtual 150, 3, 36, 2, 0, 0, 0, []),
  (42, .aload_n 0, 1, 0, 0, 0, 0, 0, []),
  (43, .getfield 23, 3, 11, 2, 2, 0, 0, []),
  (46, .iload 4, 2, 4, 0, 0, 0, 0, []),
  (48, .invokevirtual 150, 3, 36, 2, 0, 0, 0, []),
  (51, .aload_n 0, 1, 0, 0, 0, 0, 0, []),
  (52, .getfield 23, 3, 11, 2, 2, 0, 0, []),
  (55, .iload 5, 2, 5, 0, 0, 0, 0, []),
  (57, .invokevirtual 150, 3, 36, 2, 0, 0, 0, []),
  (60, .aload_n 0, 1, 0, 0, 0, 0, 0, []),
  (61, .getfield 23, 3, 11, 2, 2, 0, 0, []),
  (64, .getfield 147, 3, 8, 1, 0, 0, 0, []),
  (67, .ireturn, 1, 0, 0, 0, 0, 0, [])]
set_option maxRecDepth 100000 in
theorem lX11_feed_0_ck : lX11_feed_0.all (ra_ck mX11_feed 11) = true := by decide +kernel
def nX11_feed_0 (N : Nat) (a0 : Nat) (a1 : Int32) (a2 : Int32) (a3 : Int32) (a4 : Int32) (a5 : Int32) (h : ra_H) : Option (Int32 × ra_H) :=
  (ra_fR h 11 a0 2).bind fun x1 =>
  (ra_fI h 8 x1 1).bind fun x2 =>
  if (x2 + ((20 : Int32))) ≤ ((400 : Int32)) then
    (ra_fR h 11 a0 2).bind fun x3 =>
    (fX8_append N x3 a1 h).bind fun h4 =>
    (ra_fR h4 11 a0 2).bind fun x5 =>
    (fX8_append N x5 a2 h4).bind fun h6 =>
    (ra_fR h6 11 a0 2).bind fun x7 =>
    (fX8_append N x7 a3 h6).bind fun h8 =>
    (ra_fR h8 11 a0 2).bind fun x9 =>
    (fX8_append N x9 a4 h8).bind fun h10 =>
    (ra_fR h10 11 a0 2).bind fun x11 =>
    (fX8_append N x11 a5 h10).bind fun h12 =>
    (ra_fR h12 11 a0 2).bind fun x13 =>
    (ra_fI h12 8 x13 1).bind fun x14 =>
    some (x14, h12)
  else
    some ((-1 : Int32), h)
def kX11_feed_0 (N : Nat) : Nat → List (Option Value) → List Value → ra_H → Option (Int32 × ra_H) := ra_k0
theorem kX11_feed_0_ok (N : Nat) : ra_kok 2 mX11_feed ra_oI (kX11_feed_0 N) := ra_k0_ok
set_option maxRecDepth 100000 in
theorem nX11_feed_0_ok (N : Nat) (a0 : Nat) (a1 : Int32) (a2 : Int32) (a3 : Int32) (a4 : Int32) (a5 : Int32) (h : ra_H) (r : (Int32 × ra_H)) (e : nX11_feed_0 N a0 a1 a2 a3 a4 a5 h = some r) : ra_Ru 2 mX11_feed 0 [some (.ref a0), some (.int a1), some (.int a2), some (.int a3), some (.int a4), some (.int a5)] [] h (ra_oI r) :=
  ra_sound (by omega) rfl ra_rI_ok (kX11_feed_0_ok N) (fun m av h h1 e => (tVX11_feed_ok N) m av h h1 e) (fun m av h x h1 e => (ra_c0_ok (ro := ra_oI)) m av h (x, h1) e) (fun m av h x h1 e => (ra_c0_ok (ro := ra_oJ)) m av h (x, h1) e) (fun m av h x h1 e => (ra_c0_ok (ro := ra_oR)) m av h (x, h1) e) (fun m av h x h1 e => (ra_c0_ok (ro := ra_oN)) m av h (x, h1) e) (fun m av h x h1 e => (ra_c0_ok (ro := ra_oF)) m av h (x, h1) e) 34 lX11_feed_0 _ _ _ _ lX11_feed_0_ck (show ra_run ra_rI (kX11_feed_0 N) (tVX11_feed N) ra_c0 ra_c0 ra_c0 ra_c0 ra_c0 34 lX11_feed_0 [some (.ref a0), some (.int a1), some (.int a2), some (.int a3), some (.int a4), some (.int a5)] [] h = some r from e) _ _ rfl
def fX11_feed (N : Nat) (p0 : Nat) (p1 : Int32) (p2 : Int32) (p3 : Int32) (p4 : Int32) (p5 : Int32) (h : ra_H) : Option (Int32 × ra_H) := match ra_isOb h p0 11 with
  | true => nX11_feed_0 N p0 p1 p2 p3 p4 p5 h
  | false => none
set_option maxRecDepth 100000 in
theorem mtX11_feed : ra_MT[35]? = some (mX11_feed, 1, 5, (1, 1), (3, 81), (3, 82)) := rfl
theorem fX11_feed_co (N : Nat) (p0 : Nat) (p1 : Int32) (p2 : Int32) (p3 : Int32) (p4 : Int32) (p5 : Int32) (h : ra_H) (r : (Int32 × ra_H)) (e : fX11_feed N p0 p1 p2 p3 p4 p5 h = some r) (D : Nat) (hD : 3 ≤ D) : ra_CO D 35 [.ref p0, .int p1, .int p2, .int p3, .int p4, .int p5] h (ra_oI r).1 (ra_oI r).2 := by
  have hw : ra_nw2 [.ref p0, .int p1, .int p2, .int p3, .int p4, .int p5] ≤ 6 := Nat.le_of_ble_eq_true rfl
  have hdb : ∀ v ∈ ([.ref p0, .int p1, .int p2, .int p3, .int p4, .int p5] : List Value), ∀ x, v ≠ .double x := by
    intro v hv x hx
    simp [hx] at hv
  unfold fX11_feed at e
  split at e
  · rename_i ho
    have e1 := e
    exact ⟨2, _, mtX11_feed, hD, ra_ev_of (by decide) hdb hw trivial (ra_Ru.weak (nX11_feed_0_ok N p0 p1 p2 p3 p4 p5 h _ e1) ⟨rfl, ⟨rfl, ⟨rfl, ⟨rfl, ⟨rfl, ⟨rfl, trivial⟩⟩⟩⟩⟩⟩), (fun _ => ⟨_, _, rfl, ra_rcv_of ho (by decide) rfl⟩), (fun h => absurd h (by decide))⟩
  · cases e
/-! RedMarks.fights(II)I -/
def mX11_fights : ra_M := (yX11_fights, cX11_fights, 6, (some .int))
def tIX11_fights (N : Nat) : Nat → List Value → ra_H → Option (Int32 × ra_H) := (ra_c1 148 (fun av h => match av with
  | [.ref z0, .int z1, .int z2] => fX2_linesFight N z0 z1 z2 h
  | _ => none) ra_c0)
theorem tIX11_fights_ok (N : Nat) : ra_cok 3 ra_oI (tIX11_fights N) := (ra_c1_ok (by
  intro av h a e
  split at e
  · exact fX2_linesFight_co N _ _ _ _ _ e 3 (by omega)
  · cases e) ra_c0_ok)
def lX11_fights_9 : List ra_I := [(9, .iconst (-1), 1, 0, 0, 0, (-1), 0, []),
  (10, .ireturn, 1, 0, 0, 0, 0, 0, [])]
set_option maxRecDepth 100000 in
theorem lX11_fights_9_ck : lX11_fights_9.all (ra_ck mX11_fights 11) = true := by decide +kernel
def nX11_fights_9 (N : Nat) (h : ra_H) : Option (Int32 × ra_H) :=
  some ((-1 : Int32), h)
def kX11_fights_9 (N : Nat) : Nat → List (Option Value) → List Value → ra_H → Option (Int32 × ra_H) := ra_k0
theorem kX11_fights_9_ok (N : Nat) : ra_kok 3 mX11_fights ra_oI (kX11_fights_9 N) := ra_k0_ok
set_option maxRecDepth 100000 in
theorem nX11_fights_9_ok (N : Nat) (h : ra_H) (r : (Int32 × ra_H)) (e : nX11_fights_9 N h = some r) : ra_Ru 3 mX11_fights 9 [none, none, none, none, none, none] [] h (ra_oI r) :=
  ra_sound (by omega) rfl ra_rI_ok (kX11_fights_9_ok N) (fun m av h h1 e => (ra_c0_ok (ro := ra_oV)) m av h h1 e) (fun m av h x h1 e => (tIX11_fights_ok N) m av h (x, h1) e) (fun m av h x h1 e => (ra_c0_ok (ro := ra_oJ)) m av h (x, h1) e) (fun m av h x h1 e => (ra_c0_ok (ro := ra_oR)) m av h (x, h1) e) (fun m av h x h1 e => (ra_c0_ok (ro := ra_oN)) m av h (x, h1) e) (fun m av h x h1 e => (ra_c0_ok (ro := ra_oF)) m av h (x, h1) e) 3 lX11_fights_9 _ _ _ _ lX11_fights_9_ck (show ra_run ra_rI (kX11_fights_9 N) ra_c0 (tIX11_fights N) ra_c0 ra_c0 ra_c0 ra_c0 3 lX11_fights_9 [none, none, none, none, none, none] [] h = some r from e) _ _ rfl
def lX11_fights_81 : List ra_I := [(81, .ireturn, 1, 0, 0, 0, 0, 0, [])]
set_option maxRecDepth 100000 in
theorem lX11_fights_81_ck : lX11_fights_81.all (ra_ck mX11_fights 11) = true := by decide +kernel
def nX11_fights_81 (N : Nat) (b0 : Int32) (h : ra_H) : Option (Int32 × ra_H) :=
  some (b0, h)
def kX11_fights_81 (N : Nat) : Nat → List (Option Value) → List Value → ra_H → Option (Int32 × ra_H) := ra_k0
theorem kX11_fights_81_ok (N : Nat) : ra_kok 3 mX11_fights ra_oI (kX11_fights_81 N) := ra_k0_ok
set_option maxRecDepth 100000 in
theorem nX11_fights_81_ok (N : Nat) (b0 : Int32) (h : ra_H) (r : (Int32 × ra_H)) (e : nX11_fights_81 N b0 h = some r) : ra_Ru 3 mX11_fights 81 [none, none, none, none, none, none] [.int b0] h (ra_oI r) :=
  ra_sound (by omega) rfl ra_rI_ok (kX11_fights_81_ok N) (fun m av h h1 e => (ra_c0_ok (ro := ra_oV)) m av h h1 e) (fun m av h x h1 e => (tIX11_fights_ok N) m av h (x, h1) e) (fun m av h x h1 e => (ra_c0_ok (ro := ra_oJ)) m av h (x, h1) e) (fun m av h x h1 e => (ra_c0_ok (ro := ra_oR)) m av h (x, h1) e) (fun m av h x h1 e => (ra_c0_ok (ro := ra_oN)) m av h (x, h1) e) (fun m av h x h1 e => (ra_c0_ok (ro := ra_oF)) m av h (x, h1) e) 2 lX11_fights_81 _ _ _ _ lX11_fights_81_ck (show ra_run ra_rI (kX11_fights_81 N) ra_c0 (tIX11_fights N) ra_c0 ra_c0 ra_c0 ra_c0 2 lX11_fights_81 [none, none, none, none, none, none] [.int b0] h = some r from e) _ _ rfl
def lX11_fights_85 : List ra_I := [(85, .iinc 5 (1), 3, 5, 0, 0, (1), 0, []),
  (88, .goto (-54), 3, 34, 0, 0, 0, 0, [])]
set_option maxRecDepth 100000 in
theorem lX11_fights_85_ck : lX11_fights_85.all (ra_ck mX11_fights 11) = true := by decide +kernel
def nX11_fights_85 (N : Nat) (c16 : Nat → Int32 → Int32 → Int32 → Int32 → ra_H → Option (Int32 × ra_H)) (c34 : Nat → Int32 → Int32 → Int32 → Int32 → Int32 → ra_H → Option (Int32 × ra_H)) (a0 : Nat) (a1 : Int32) (a2 : Int32) (a3 : Int32) (a4 : Int32) (a5 : Int32) (h : ra_H) : Option (Int32 × ra_H) :=
  let y1 := a5 + (1 : Int32)
  c34 a0 a1 a2 a3 a4 y1 h
def kX11_fights_85 (N : Nat) (c16 : Nat → Int32 → Int32 → Int32 → Int32 → ra_H → Option (Int32 × ra_H)) (c34 : Nat → Int32 → Int32 → Int32 → Int32 → Int32 → ra_H → Option (Int32 × ra_H)) : Nat → List (Option Value) → List Value → ra_H → Option (Int32 × ra_H) := (ra_k1 34 (fun L S h => match L, S with
  | [some (.ref a0), some (.int a1), some (.int a2), some (.int a3), some (.int a4), some (.int a5)], [] => c34 a0 a1 a2 a3 a4 a5 h
  | _, _ => none) ra_k0)
theorem kX11_fights_85_ok (N : Nat) (c16 : Nat → Int32 → Int32 → Int32 → Int32 → ra_H → Option (Int32 × ra_H)) (c34 : Nat → Int32 → Int32 → Int32 → Int32 → Int32 → ra_H → Option (Int32 × ra_H)) (hc16 : ∀ a0 a1 a2 a3 a4 h r, c16 a0 a1 a2 a3 a4 h = some r → ra_Ru 3 mX11_fights 16 [some (.ref a0), some (.int a1), some (.int a2), some (.int a3), some (.int a4), none] [] h (ra_oI r)) (hc34 : ∀ a0 a1 a2 a3 a4 a5 h r, c34 a0 a1 a2 a3 a4 a5 h = some r → ra_Ru 3 mX11_fights 34 [some (.ref a0), some (.int a1), some (.int a2), some (.int a3), some (.int a4), some (.int a5)] [] h (ra_oI r)) : ra_kok 3 mX11_fights ra_oI (kX11_fights_85 N c16 c34) := (ra_k1_ok (by
  intro L S h a e
  split at e
  · exact ra_Ru.weak (hc34 _ _ _ _ _ _ _ _ e) ⟨rfl, ⟨rfl, ⟨rfl, ⟨rfl, ⟨rfl, ⟨rfl, trivial⟩⟩⟩⟩⟩⟩
  · cases e) ra_k0_ok)
set_option maxRecDepth 100000 in
theorem nX11_fights_85_ok (N : Nat) (c16 : Nat → Int32 → Int32 → Int32 → Int32 → ra_H → Option (Int32 × ra_H)) (c34 : Nat → Int32 → Int32 → Int32 → Int32 → Int32 → ra_H → Option (Int32 × ra_H)) (hc16 : ∀ a0 a1 a2 a3 a4 h r, c16 a0 a1 a2 a3 a4 h = some r → ra_Ru 3 mX11_fights 16 [some (.ref a0), some (.int a1), some (.int a2), some (.int a3), some (.int a4), none] [] h (ra_oI r)) (hc34 : ∀ a0 a1 a2 a3 a4 a5 h r, c34 a0 a1 a2 a3 a4 a5 h = some r → ra_Ru 3 mX11_fights 34 [some (.ref a0), some (.int a1), some (.int a2), some (.int a3), some (.int a4), some (.int a5)] [] h (ra_oI r)) (a0 : Nat) (a1 : Int32) (a2 : Int32) (a3 : Int32) (a4 : Int32) (a5 : Int32) (h : ra_H) (r : (Int32 × ra_H)) (e : nX11_fights_85 N c16 c34 a0 a1 a2 a3 a4 a5 h = some r) : ra_Ru 3 mX11_fights 85 [some (.ref a0), some (.int a1), some (.int a2), some (.int a3), some (.int a4), some (.int a5)] [] h (ra_oI r) :=
  ra_sound (by omega) rfl ra_rI_ok (kX11_fights_85_ok N c16 c34 hc16 hc34) (fun m av h h1 e => (ra_c0_ok (ro := ra_oV)) m av h h1 e) (fun m av h x h1 e => (tIX11_fights_ok N) m av h (x, h1) e) (fun m av h x h1 e => (ra_c0_ok (ro := ra_oJ)) m av h (x, h1) e) (fun m av h x h1 e => (ra_c0_ok (ro := ra_oR)) m av h (x, h1) e) (fun m av h x h1 e => (ra_c0_ok (ro := ra_oN)) m av h (x, h1) e) (fun m av h x h1 e => (ra_c0_ok (ro := ra_oF)) m av h (x, h1) e) 3 lX11_fights_85 _ _ _ _ lX11_fights_85_ck (show ra_run ra_rI (kX11_fights_85 N c16 c34) ra_c0 (tIX11_fights N) ra_c0 ra_c0 ra_c0 ra_c0 3 lX11_fights_85 [some (.ref a0), some (.int a1), some (.int a2), some (.int a3), some (.int a4), some (.int a5)] [] h = some r from e) _ _ rfl
def lX11_fights_82 : List ra_I := [(82, .iinc 3 (1), 3, 3, 0, 0, (1), 0, [])]
set_option maxRecDepth 100000 in
theorem lX11_fights_82_ck : lX11_fights_82.all (ra_ck mX11_fights 11) = true := by decide +kernel
def nX11_fights_82 (N : Nat) (c16 : Nat → Int32 → Int32 → Int32 → Int32 → ra_H → Option (Int32 × ra_H)) (c34 : Nat → Int32 → Int32 → Int32 → Int32 → Int32 → ra_H → Option (Int32 × ra_H)) (a0 : Nat) (a1 : Int32) (a2 : Int32) (a3 : Int32) (a4 : Int32) (a5 : Int32) (h : ra_H) : Option (Int32 × ra_H) :=
  let y1 := a3 + (1 : Int32)
  nX11_fights_85 N c16 c34 a0 a1 a2 y1 a4 a5 h
def kX11_fights_82 (N : Nat) (c16 : Nat → Int32 → Int32 → Int32 → Int32 → ra_H → Option (Int32 × ra_H)) (c34 : Nat → Int32 → Int32 → Int32 → Int32 → Int32 → ra_H → Option (Int32 × ra_H)) : Nat → List (Option Value) → List Value → ra_H → Option (Int32 × ra_H) := (ra_k1 85 (fun L S h => match L, S with
  | [some (.ref a0), some (.int a1), some (.int a2), some (.int a3), some (.int a4), some (.int a5)], [] => nX11_fights_85 N c16 c34 a0 a1 a2 a3 a4 a5 h
  | _, _ => none) ra_k0)
theorem kX11_fights_82_ok (N : Nat) (c16 : Nat → Int32 → Int32 → Int32 → Int32 → ra_H → Option (Int32 × ra_H)) (c34 : Nat → Int32 → Int32 → Int32 → Int32 → Int32 → ra_H → Option (Int32 × ra_H)) (hc16 : ∀ a0 a1 a2 a3 a4 h r, c16 a0 a1 a2 a3 a4 h = some r → ra_Ru 3 mX11_fights 16 [some (.ref a0), some (.int a1), some (.int a2), some (.int a3), some (.int a4), none] [] h (ra_oI r)) (hc34 : ∀ a0 a1 a2 a3 a4 a5 h r, c34 a0 a1 a2 a3 a4 a5 h = some r → ra_Ru 3 mX11_fights 34 [some (.ref a0), some (.int a1), some (.int a2), some (.int a3), some (.int a4), some (.int a5)] [] h (ra_oI r)) : ra_kok 3 mX11_fights ra_oI (kX11_fights_82 N c16 c34) := (ra_k1_ok (by
  intro L S h a e
  split at e
  · exact ra_Ru.weak (nX11_fights_85_ok N c16 c34 hc16 hc34 _ _ _ _ _ _ _ _ e) ⟨rfl, ⟨rfl, ⟨rfl, ⟨rfl, ⟨rfl, ⟨rfl, trivial⟩⟩⟩⟩⟩⟩
  · cases e) ra_k0_ok)
set_option maxRecDepth 100000 in
theorem nX11_fights_82_ok (N : Nat) (c16 : Nat → Int32 → Int32 → Int32 → Int32 → ra_H → Option (Int32 × ra_H)) (c34 : Nat → Int32 → Int32 → Int32 → Int32 → Int32 → ra_H → Option (Int32 × ra_H)) (hc16 : ∀ a0 a1 a2 a3 a4 h r, c16 a0 a1 a2 a3 a4 h = some r → ra_Ru 3 mX11_fights 16 [some (.ref a0), some (.int a1), some (.int a2), some (.int a3), some (.int a4), none] [] h (ra_oI r)) (hc34 : ∀ a0 a1 a2 a3 a4 a5 h r, c34 a0 a1 a2 a3 a4 a5 h = some r → ra_Ru 3 mX11_fights 34 [some (.ref a0), some (.int a1), some (.int a2), some (.int a3), some (.int a4), some (.int a5)] [] h (ra_oI r)) (a0 : Nat) (a1 : Int32) (a2 : Int32) (a3 : Int32) (a4 : Int32) (a5 : Int32) (h : ra_H) (r : (Int32 × ra_H)) (e : nX11_fights_82 N c16 c34 a0 a1 a2 a3 a4 a5 h = some r) : ra_Ru 3 mX11_fights 82 [some (.ref a0), some (.int a1), some (.int a2), some (.int a3), some (.int a4), some (.int a5)] [] h (ra_oI r) :=
  ra_sound (by omega) rfl ra_rI_ok (kX11_fights_82_ok N c16 c34 hc16 hc34) (fun m av h h1 e => (ra_c0_ok (ro := ra_oV)) m av h h1 e) (fun m av h x h1 e => (tIX11_fights_ok N) m av h (x, h1) e) (fun m av h x h1 e => (ra_c0_ok (ro := ra_oJ)) m av h (x, h1) e) (fun m av h x h1 e => (ra_c0_ok (ro := ra_oR)) m av h (x, h1) e) (fun m av h x h1 e => (ra_c0_ok (ro := ra_oN)) m av h (x, h1) e) (fun m av h x h1 e => (ra_c0_ok (ro := ra_oF)) m av h (x, h1) e) 2 lX11_fights_82 _ _ _ _ lX11_fights_82_ck (show ra_run ra_rI (kX11_fights_82 N c16 c34) ra_c0 (tIX11_fights N) ra_c0 ra_c0 ra_c0 ra_c0 2 lX11_fights_82 [some (.ref a0), some (.int a1), some (.int a2), some (.int a3), some (.int a4), some (.int a5)] [] h = some r from e) _ _ rfl
def lX11_fights_34 : List ra_I := [(34, .iload 5, 2, 5, 0, 0, 0, 0, []),
  (36, .aload_n 0, 1, 0, 0, 0, 0, 0, []),
  (37, .getfield 10, 3, 11, 0, 2, 0, 0, []),
  (40, .getfield 237, 3, 2, 15, 0, 0, 0, []),
  (43, .if_icmp .ge (48), 3, 91, 0, 0, 0, 0, []),
  (46, .aload_n 0, 1, 0, 0, 0, 0, 0, []),
  (47, .getfield 10, 3, 11, 0, 2, 0, 0, []),
  (50, .iload 4, 2, 4, 0, 0, 0, 0, []),
  (52, .iload 5, 2, 5, 0, 0, 0, 0, []),
  (54, .invokevirtual 249, 3, 148, 3, 1, 0, 0, []),
  (57, .ifCond .eq (28), 3, 85, 0, 0, 0, 0, []),
  (60, .iload_n 1, 1, 1, 0, 0, 0, 0, []),
  (61, .ifCond .le (21), 3, 82, 0, 0, 0, 0, []),
  (64, .iload_n 3, 1, 3, 0, 0, 0, 0, []),
  (65, .iload_n 2, 1, 2, 0, 0, 0, 0, []),
  (66, .if_icmp .ne (16), 3, 82, 0, 0, 0, 0, []),
  (69, .iload_n 1, 1, 1, 0, 0, 0, 0, []),
  (70, .iconst (1), 1, 0, 0, 0, (1), 0, []),
  (71, .if_icmp .ne (8), 3, 79, 0, 0, 0, 0, []),
  (74, .iload 4, 2, 4, 0, 0, 0, 0, []),
  (76, .goto (5), 3, 81, 0, 0, 0, 0, []),
  (79, .iload 5, 2, 5, 0, 0, 0, 0, []),
  (91, .iinc 4 (1), 3, 4, 0, 0, (1), 0, []),
  (94, .goto (-78), 3, 16, 0, 0, 0, 0, [])]
set_option maxRecDepth 100000 in
theorem lX11_fights_34_ck : lX11_fights_34.all (ra_ck mX11_fights 11) = true := by decide +kernel
def nX11_fights_34 (N : Nat) (c16 : Nat → Int32 → Int32 → Int32 → Int32 → ra_H → Option (Int32 × ra_H)) : Nat → Nat → Int32 → Int32 → Int32 → Int32 → Int32 → ra_H → Option (Int32 × ra_H)
  | 0, _, _, _, _, _, _, _ => none
  | n + 1, a0, a1, a2, a3, a4, a5, h =>
  (ra_fR h 11 a0 0).bind fun x1 =>
  (ra_fI h 2 x1 15).bind fun x2 =>
  if a5 < x2 then
    (ra_fR h 11 a0 0).bind fun x4 =>
    (fX2_linesFight N x4 a4 a5 h).bind fun q5 =>
    if q5.1 = 0 then
      nX11_fights_85 N c16 (nX11_fights_34 N c16 n) a0 a1 a2 a3 a4 a5 q5.2
    else
      if a1 ≤ 0 then
        nX11_fights_82 N c16 (nX11_fights_34 N c16 n) a0 a1 a2 a3 a4 a5 q5.2
      else
        if a3 = a2 then
          if a1 = ((1 : Int32)) then
            nX11_fights_81 N a4 q5.2
          else
            nX11_fights_81 N a5 q5.2
        else
          nX11_fights_82 N c16 (nX11_fights_34 N c16 n) a0 a1 a2 a3 a4 a5 q5.2
  else
    let y3 := a4 + (1 : Int32)
    c16 a0 a1 a2 a3 y3 h
def kX11_fights_34 (N : Nat) (c16 : Nat → Int32 → Int32 → Int32 → Int32 → ra_H → Option (Int32 × ra_H)) (cs : Nat → Int32 → Int32 → Int32 → Int32 → Int32 → ra_H → Option (Int32 × ra_H)) : Nat → List (Option Value) → List Value → ra_H → Option (Int32 × ra_H) := (ra_k1 16 (fun L S h => match L, S with
  | [some (.ref a0), some (.int a1), some (.int a2), some (.int a3), some (.int a4), _], [] => c16 a0 a1 a2 a3 a4 h
  | _, _ => none) (ra_k1 81 (fun L S h => match L, S with
  | [_, _, _, _, _, _], [.int b0] => nX11_fights_81 N b0 h
  | _, _ => none) (ra_k1 82 (fun L S h => match L, S with
  | [some (.ref a0), some (.int a1), some (.int a2), some (.int a3), some (.int a4), some (.int a5)], [] => nX11_fights_82 N c16 cs a0 a1 a2 a3 a4 a5 h
  | _, _ => none) (ra_k1 85 (fun L S h => match L, S with
  | [some (.ref a0), some (.int a1), some (.int a2), some (.int a3), some (.int a4), some (.int a5)], [] => nX11_fights_85 N c16 cs a0 a1 a2 a3 a4 a5 h
  | _, _ => none) ra_k0))))
theorem kX11_fights_34_ok (N : Nat) (c16 : Nat → Int32 → Int32 → Int32 → Int32 → ra_H → Option (Int32 × ra_H)) (hc16 : ∀ a0 a1 a2 a3 a4 h r, c16 a0 a1 a2 a3 a4 h = some r → ra_Ru 3 mX11_fights 16 [some (.ref a0), some (.int a1), some (.int a2), some (.int a3), some (.int a4), none] [] h (ra_oI r)) (cs : Nat → Int32 → Int32 → Int32 → Int32 → Int32 → ra_H → Option (Int32 × ra_H)) (hcs : ∀ a0 a1 a2 a3 a4 a5 h r, cs a0 a1 a2 a3 a4 a5 h = some r → ra_Ru 3 mX11_fights 34 [some (.ref a0), some (.int a1), some (.int a2), some (.int a3), some (.int a4), some (.int a5)] [] h (ra_oI r)) : ra_kok 3 mX11_fights ra_oI (kX11_fights_34 N c16 cs) := (ra_k1_ok (by
  intro L S h a e
  split at e
  · exact ra_Ru.weak (hc16 _ _ _ _ _ _ _ e) ⟨rfl, ⟨rfl, ⟨rfl, ⟨rfl, ⟨rfl, trivial⟩⟩⟩⟩⟩
  · cases e) (ra_k1_ok (by
  intro L S h a e
  split at e
  · exact ra_Ru.weak (nX11_fights_81_ok N _ _ _ e) trivial
  · cases e) (ra_k1_ok (by
  intro L S h a e
  split at e
  · exact ra_Ru.weak (nX11_fights_82_ok N c16 cs hc16 hcs _ _ _ _ _ _ _ _ e) ⟨rfl, ⟨rfl, ⟨rfl, ⟨rfl, ⟨rfl, ⟨rfl, trivial⟩⟩⟩⟩⟩⟩
  · cases e) (ra_k1_ok (by
  intro L S h a e
  split at e
  · exact ra_Ru.weak (nX11_fights_85_ok N c16 cs hc16 hcs _ _ _ _ _ _ _ _ e) ⟨rfl, ⟨rfl, ⟨rfl, ⟨rfl, ⟨rfl, ⟨rfl, trivial⟩⟩⟩⟩⟩⟩
  · cases e) ra_k0_ok))))
set_option maxRecDepth 100000 in
theorem nX11_fights_34_ok (N : Nat) (c16 : Nat → Int32 → Int32 → Int32 → Int32 → ra_H → Option (Int32 × ra_H)) (hc16 : ∀ a0 a1 a2 a3 a4 h r, c16 a0 a1 a2 a3 a4 h = some r → ra_Ru 3 mX11_fights 16 [some (.ref a0), some (.int a1), some (.int a2), some (.int a3), some (.int a4), none] [] h (ra_oI r)) : ∀ n a0 a1 a2 a3 a4 a5 h r, nX11_fights_34 N c16 n a0 a1 a2 a3 a4 a5 h = some r → ra_Ru 3 mX11_fights 34 [some (.ref a0), some (.int a1), some (.int a2), some (.int a3), some (.int a4), some (.int a5)] [] h (ra_oI r) := by
  intro n
  induction n with
  | zero => intro a0 a1 a2 a3 a4 a5 h r e; cases e
  | succ n ih =>
    intro a0 a1 a2 a3 a4 a5 h r e
    exact ra_sound (by omega) rfl ra_rI_ok (kX11_fights_34_ok N c16 hc16 (nX11_fights_34 N c16 n) ih) (fun m av h h1 e => (ra_c0_ok (ro := ra_oV)) m av h h1 e) (fun m av h x h1 e => (tIX11_fights_ok N) m av h (x, h1) e) (fun m av h x h1 e => (ra_c0_ok (ro := ra_oJ)) m av h (x, h1) e) (fun m av h x h1 e => (ra_c0_ok (ro := ra_oR)) m av h (x, h1) e) (fun m av h x h1 e => (ra_c0_ok (ro := ra_oN)) m av h (x, h1) e) (fun m av h x h1 e => (ra_c0_ok (ro := ra_oF)) m av h (x, h1) e) 25 lX11_fights_34 _ _ _ _ lX11_fights_34_ck (show ra_run ra_rI (kX11_fights_34 N c16 (nX11_fights_34 N c16 n)) ra_c0 (tIX11_fights N) ra_c0 ra_c0 ra_c0 ra_c0 25 lX11_fights_34 [some (.ref a0), some (.int a1), some (.int a2), some (.int a3), some (.int a4), some (.int a5)] [] h = some r from e) _ _ rfl
def lX11_fights_106 : List ra_I := [(106, .ireturn, 1, 0, 0, 0, 0, 0, [])]
set_option maxRecDepth 100000 in
theorem lX11_fights_106_ck : lX11_fights_106.all (ra_ck mX11_fights 11) = true := by decide +kernel
def nX11_fights_106 (N : Nat) (b0 : Int32) (h : ra_H) : Option (Int32 × ra_H) :=
  some (b0, h)
def kX11_fights_106 (N : Nat) : Nat → List (Option Value) → List Value → ra_H → Option (Int32 × ra_H) := ra_k0
theorem kX11_fights_106_ok (N : Nat) : ra_kok 3 mX11_fights ra_oI (kX11_fights_106 N) := ra_k0_ok
set_option maxRecDepth 100000 in
theorem nX11_fights_106_ok (N : Nat) (b0 : Int32) (h : ra_H) (r : (Int32 × ra_H)) (e : nX11_fights_106 N b0 h = some r) : ra_Ru 3 mX11_fights 106 [none, none, none, none, none, none] [.int b0] h (ra_oI r) :=
  ra_sound (by omega) rfl ra_rI_ok (kX11_fights_106_ok N) (fun m av h h1 e => (ra_c0_ok (ro := ra_oV)) m av h h1 e) (fun m av h x h1 e => (tIX11_fights_ok N) m av h (x, h1) e) (fun m av h x h1 e => (ra_c0_ok (ro := ra_oJ)) m av h (x, h1) e) (fun m av h x h1 e => (ra_c0_ok (ro := ra_oR)) m av h (x, h1) e) (fun m av h x h1 e => (ra_c0_ok (ro := ra_oN)) m av h (x, h1) e) (fun m av h x h1 e => (ra_c0_ok (ro := ra_oF)) m av h (x, h1) e) 2 lX11_fights_106 _ _ _ _ lX11_fights_106_ck (show ra_run ra_rI (kX11_fights_106 N) ra_c0 (tIX11_fights N) ra_c0 ra_c0 ra_c0 ra_c0 2 lX11_fights_106 [none, none, none, none, none, none] [.int b0] h = some r from e) _ _ rfl
def lX11_fights_16 : List ra_I := [(16, .iload 4, 2, 4, 0, 0, 0, 0, []),
  (18, .aload_n 0, 1, 0, 0, 0, 0, 0, []),
  (19, .getfield 10, 3, 11, 0, 2, 0, 0, []),
  (22, .getfield 237, 3, 2, 15, 0, 0, 0, []),
  (25, .if_icmp .ge (72), 3, 97, 0, 0, 0, 0, []),
  (28, .iload 4, 2, 4, 0, 0, 0, 0, []),
  (30, .iconst (1), 1, 0, 0, 0, (1), 0, []),
  (31, .iadd, 1, 0, 0, 0, 0, 0, []),
  (32, .istore 5, 2, 5, 0, 0, 0, 0, []),
  (97, .iload_n 1, 1, 1, 0, 0, 0, 0, []),
  (98, .ifCond .ne (7), 3, 105, 0, 0, 0, 0, []),
  (101, .iload_n 3, 1, 3, 0, 0, 0, 0, []),
  (102, .goto (4), 3, 106, 0, 0, 0, 0, []),
  (105, .iconst (-1), 1, 0, 0, 0, (-1), 0, [])]
set_option maxRecDepth 100000 in
theorem lX11_fights_16_ck : lX11_fights_16.all (ra_ck mX11_fights 11) = true := by decide +kernel
def nX11_fights_16 (N : Nat) : Nat → Nat → Int32 → Int32 → Int32 → Int32 → ra_H → Option (Int32 × ra_H)
  | 0, _, _, _, _, _, _ => none
  | n + 1, a0, a1, a2, a3, a4, h =>
  (ra_fR h 11 a0 0).bind fun x1 =>
  (ra_fI h 2 x1 15).bind fun x2 =>
  if a4 < x2 then
    let y3 := a4 + ((1 : Int32))
    nX11_fights_34 N (nX11_fights_16 N n) N a0 a1 a2 a3 a4 y3 h
  else
    if a1 = 0 then
      nX11_fights_106 N a3 h
    else
      nX11_fights_106 N ((-1 : Int32)) h
def kX11_fights_16 (N : Nat) (cs : Nat → Int32 → Int32 → Int32 → Int32 → ra_H → Option (Int32 × ra_H)) : Nat → List (Option Value) → List Value → ra_H → Option (Int32 × ra_H) := (ra_k1 34 (fun L S h => match L, S with
  | [some (.ref a0), some (.int a1), some (.int a2), some (.int a3), some (.int a4), some (.int a5)], [] => nX11_fights_34 N cs N a0 a1 a2 a3 a4 a5 h
  | _, _ => none) (ra_k1 106 (fun L S h => match L, S with
  | [_, _, _, _, _, _], [.int b0] => nX11_fights_106 N b0 h
  | _, _ => none) ra_k0))
theorem kX11_fights_16_ok (N : Nat) (cs : Nat → Int32 → Int32 → Int32 → Int32 → ra_H → Option (Int32 × ra_H)) (hcs : ∀ a0 a1 a2 a3 a4 h r, cs a0 a1 a2 a3 a4 h = some r → ra_Ru 3 mX11_fights 16 [some (.ref a0), some (.int a1), some (.int a2), some (.int a3), some (.int a4), none] [] h (ra_oI r)) : ra_kok 3 mX11_fights ra_oI (kX11_fights_16 N cs) := (ra_k1_ok (by
  intro L S h a e
  split at e
  · exact ra_Ru.weak (nX11_fights_34_ok N cs hcs N _ _ _ _ _ _ _ _ e) ⟨rfl, ⟨rfl, ⟨rfl, ⟨rfl, ⟨rfl, ⟨rfl, trivial⟩⟩⟩⟩⟩⟩
  · cases e) (ra_k1_ok (by
  intro L S h a e
  split at e
  · exact ra_Ru.weak (nX11_fights_106_ok N _ _ _ e) trivial
  · cases e) ra_k0_ok))
set_option maxRecDepth 100000 in
theorem nX11_fights_16_ok (N : Nat) : ∀ n a0 a1 a2 a3 a4 h r, nX11_fights_16 N n a0 a1 a2 a3 a4 h = some r → ra_Ru 3 mX11_fights 16 [some (.ref a0), some (.int a1), some (.int a2), some (.int a3), some (.int a4), none] [] h (ra_oI r) := by
  intro n
  induction n with
  | zero => intro a0 a1 a2 a3 a4 h r e; cases e
  | succ n ih =>
    intro a0 a1 a2 a3 a4 h r e
    exact ra_sound (by omega) rfl ra_rI_ok (kX11_fights_16_ok N (nX11_fights_16 N n) ih) (fun m av h h1 e => (ra_c0_ok (ro := ra_oV)) m av h h1 e) (fun m av h x h1 e => (tIX11_fights_ok N) m av h (x, h1) e) (fun m av h x h1 e => (ra_c0_ok (ro := ra_oJ)) m av h (x, h1) e) (fun m av h x h1 e => (ra_c0_ok (ro := ra_oR)) m av h (x, h1) e) (fun m av h x h1 e => (ra_c0_ok (ro := ra_oN)) m av h (x, h1) e) (fun m av h x h1 e => (ra_c0_ok (ro := ra_oF)) m av h (x, h1) e) 15 lX11_fights_16 _ _ _ _ lX11_fights_16_ck (show ra_run ra_rI (kX11_fights_16 N (nX11_fights_16 N n)) ra_c0 (tIX11_fights N) ra_c0 ra_c0 ra_c0 ra_c0 15 lX11_fights_16 [some (.ref a0), some (.int a1), some (.int a2), some (.int a3), some (.int a4), none] [] h = some r from e) _ _ rfl
def lX11_fights_0 : List ra_I := [(0, .iload_n 1, 1, 1, 0, 0, 0, 0, []),
  (1, .ifCond .lt (8), 3, 9, 0, 0, 0, 0, []),
  (4, .iload_n 1, 1, 1, 0, 0, 0, 0, []),
  (5, .iconst (2), 1, 0, 0, 0, (2), 0, []),
  (6, .if_icmp .le (5), 3, 11, 0, 0, 0, 0, []),
  (11, .iconst (0), 1, 0, 0, 0, (0), 0, []),
  (12, .istore_n 3, 1, 3, 0, 0, 0, 0, []),
  (13, .iconst (0), 1, 0, 0, 0, (0), 0, []),
  (14, .istore 4, 2, 4, 0, 0, 0, 0, [])]
set_option maxRecDepth 100000 in
theorem lX11_fights_0_ck : lX11_fights_0.all (ra_ck mX11_fights 11) = true := by decide +kernel
def nX11_fights_0 (N : Nat) (a0 : Nat) (a1 : Int32) (a2 : Int32) (h : ra_H) : Option (Int32 × ra_H) :=
  if a1 < 0 then
    nX11_fights_9 N h
  else
    if a1 ≤ ((2 : Int32)) then
      nX11_fights_16 N N a0 a1 a2 ((0 : Int32)) ((0 : Int32)) h
    else
      nX11_fights_9 N h
def kX11_fights_0 (N : Nat) : Nat → List (Option Value) → List Value → ra_H → Option (Int32 × ra_H) := (ra_k1 9 (fun L S h => match L, S with
  | [_, _, _, _, _, _], [] => nX11_fights_9 N h
  | _, _ => none) (ra_k1 16 (fun L S h => match L, S with
  | [some (.ref a0), some (.int a1), some (.int a2), some (.int a3), some (.int a4), _], [] => nX11_fights_16 N N a0 a1 a2 a3 a4 h
  | _, _ => none) ra_k0))
theorem kX11_fights_0_ok (N : Nat) : ra_kok 3 mX11_fights ra_oI (kX11_fights_0 N) := (ra_k1_ok (by
  intro L S h a e
  split at e
  · exact ra_Ru.weak (nX11_fights_9_ok N _ _ e) trivial
  · cases e) (ra_k1_ok (by
  intro L S h a e
  split at e
  · exact ra_Ru.weak (nX11_fights_16_ok N N _ _ _ _ _ _ _ e) ⟨rfl, ⟨rfl, ⟨rfl, ⟨rfl, ⟨rfl, trivial⟩⟩⟩⟩⟩
  · cases e) ra_k0_ok))
set_option maxRecDepth 100000 in
theorem nX11_fights_0_ok (N : Nat) (a0 : Nat) (a1 : Int32) (a2 : Int32) (h : ra_H) (r : (Int32 × ra_H)) (e : nX11_fights_0 N a0 a1 a2 h = some r) : ra_Ru 3 mX11_fights 0 [some (.ref a0), some (.int a1), some (.int a2), none, none, none] [] h (ra_oI r) :=
  ra_sound (by omega) rfl ra_rI_ok (kX11_fights_0_ok N) (fun m av h h1 e => (ra_c0_ok (ro := ra_oV)) m av h h1 e) (fun m av h x h1 e => (tIX11_fights_ok N) m av h (x, h1) e) (fun m av h x h1 e => (ra_c0_ok (ro := ra_oJ)) m av h (x, h1) e) (fun m av h x h1 e => (ra_c0_ok (ro := ra_oR)) m av h (x, h1) e) (fun m av h x h1 e => (ra_c0_ok (ro := ra_oN)) m av h (x, h1) e) (fun m av h x h1 e => (ra_c0_ok (ro := ra_oF)) m av h (x, h1) e) 10 lX11_fights_0 _ _ _ _ lX11_fights_0_ck (show ra_run ra_rI (kX11_fights_0 N) ra_c0 (tIX11_fights N) ra_c0 ra_c0 ra_c0 ra_c0 10 lX11_fights_0 [some (.ref a0), some (.int a1), some (.int a2), none, none, none] [] h = some r from e) _ _ rfl
def fX11_fights (N : Nat) (p0 : Nat) (p1 : Int32) (p2 : Int32) (h : ra_H) : Option (Int32 × ra_H) := match ra_isOb h p0 11 with
  | true => nX11_fights_0 N p0 p1 p2 h
  | false => none
set_option maxRecDepth 100000 in
theorem mtX11_fights : ra_MT[147]? = some (mX11_fights, 1, 2, (1, 1), (5, 112), (5, 113)) := rfl
theorem fX11_fights_co (N : Nat) (p0 : Nat) (p1 : Int32) (p2 : Int32) (h : ra_H) (r : (Int32 × ra_H)) (e : fX11_fights N p0 p1 p2 h = some r) (D : Nat) (hD : 4 ≤ D) : ra_CO D 147 [.ref p0, .int p1, .int p2] h (ra_oI r).1 (ra_oI r).2 := by
  have hw : ra_nw2 [.ref p0, .int p1, .int p2] ≤ 6 := Nat.le_of_ble_eq_true rfl
  have hdb : ∀ v ∈ ([.ref p0, .int p1, .int p2] : List Value), ∀ x, v ≠ .double x := by
    intro v hv x hx
    simp [hx] at hv
  unfold fX11_fights at e
  split at e
  · rename_i ho
    have e1 := e
    exact ⟨3, _, mtX11_fights, hD, ra_ev_of (by decide) hdb hw trivial (ra_Ru.weak (nX11_fights_0_ok N p0 p1 p2 h _ e1) ⟨rfl, ⟨rfl, ⟨rfl, trivial⟩⟩⟩), (fun _ => ⟨_, _, rfl, ra_rcv_of ho (by decide) rfl⟩), (fun h => absurd h (by decide))⟩
  · cases e
/-! RedMarks.free(II)I -/
def mX11_free : ra_M := (yX11_free, cX11_free, 3, (some .int))
def tIX11_free (N : Nat) : Nat → List Value → ra_H → Option (Int32 × ra_H) := (ra_c1 34 (fun av h => match av with
  | [.int z0, .int z1] => fX11_isShelf N z0 z1 h
  | _ => none) (ra_c1 105 (fun av h => match av with
  | [.ref z0] => fX1_settleKept N z0 h
  | _ => none) (ra_c1 112 (fun av h => match av with
  | [.ref z0, .int z1] => fX5_freeOf N z0 z1 h
  | _ => none) ra_c0)))
theorem tIX11_free_ok (N : Nat) : ra_cok 7 ra_oI (tIX11_free N) := (ra_c1_ok (by
  intro av h a e
  split at e
  · exact fX11_isShelf_co N _ _ _ _ e 7 (by omega)
  · cases e) (ra_c1_ok (by
  intro av h a e
  split at e
  · exact fX1_settleKept_co N _ _ _ e 7 (by omega)
  · cases e) (ra_c1_ok (by
  intro av h a e
  split at e
  · exact fX5_freeOf_co N _ _ _ _ e 7 (by omega)
  · cases e) ra_c0_ok)))
def lX11_free_18 : List ra_I := [(18, .sipush (-1000), 3, 0, 0, 0, (-1000), 0, []),
  (21, .ireturn, 1, 0, 0, 0, 0, 0, [])]
set_option maxRecDepth 100000 in
theorem lX11_free_18_ck : lX11_free_18.all (ra_ck mX11_free 11) = true := by decide +kernel
def nX11_free_18 (N : Nat) (h : ra_H) : Option (Int32 × ra_H) :=
  some ((-1000 : Int32), h)
def kX11_free_18 (N : Nat) : Nat → List (Option Value) → List Value → ra_H → Option (Int32 × ra_H) := ra_k0
theorem kX11_free_18_ok (N : Nat) : ra_kok 7 mX11_free ra_oI (kX11_free_18 N) := ra_k0_ok
set_option maxRecDepth 100000 in
theorem nX11_free_18_ok (N : Nat) (h : ra_H) (r : (Int32 × ra_H)) (e : nX11_free_18 N h = some r) : ra_Ru 7 mX11_free 18 [none, none, none] [] h (ra_oI r) :=
  ra_sound (by omega) rfl ra_rI_ok (kX11_free_18_ok N) (fun m av h h1 e => (ra_c0_ok (ro := ra_oV)) m av h h1 e) (fun m av h x h1 e => (tIX11_free_ok N) m av h (x, h1) e) (fun m av h x h1 e => (ra_c0_ok (ro := ra_oJ)) m av h (x, h1) e) (fun m av h x h1 e => (ra_c0_ok (ro := ra_oR)) m av h (x, h1) e) (fun m av h x h1 e => (ra_c0_ok (ro := ra_oN)) m av h (x, h1) e) (fun m av h x h1 e => (ra_c0_ok (ro := ra_oF)) m av h (x, h1) e) 3 lX11_free_18 _ _ _ _ lX11_free_18_ck (show ra_run ra_rI (kX11_free_18 N) ra_c0 (tIX11_free N) ra_c0 ra_c0 ra_c0 ra_c0 3 lX11_free_18 [none, none, none] [] h = some r from e) _ _ rfl
def lX11_free_0 : List ra_I := [(0, .iload_n 1, 1, 1, 0, 0, 0, 0, []),
  (1, .iload_n 2, 1, 2, 0, 0, 0, 0, []),
  (2, .invokestatic 138, 3, 34, 2, 1, 0, 0, []),
  (5, .ifCond .eq (13), 3, 18, 0, 0, 0, 0, []),
  (8, .aload_n 0, 1, 0, 0, 0, 0, 0, []),
  (9, .getfield 39, 3, 11, 4, 2, 0, 0, []),
  (12, .invokevirtual 204, 3, 105, 1, 1, 0, 0, []),
  (15, .ifCond .ne (7), 3, 22, 0, 0, 0, 0, []),
  (22, .aload_n 0, 1, 0, 0, 0, 0, 0, []),
  (23, .getfield 52, 3, 11, 5, 2, 0, 0, []),
  (26, .iload_n 1, 1, 1, 0, 0, 0, 0, []),
  (27, .bipush (6), 2, 0, 0, 0, (6), 0, []),
  (29, .imul, 1, 0, 0, 0, 0, 0, []),
  (30, .iload_n 2, 1, 2, 0, 0, 0, 0, []),
  (31, .iadd, 1, 0, 0, 0, 0, 0, []),
  (32, .invokevirtual 219, 3, 112, 2, 1, 0, 0, []),
  (35, .ireturn, 1, 0, 0, 0, 0, 0, [])]
set_option maxRecDepth 100000 in
theorem lX11_free_0_ck : lX11_free_0.all (ra_ck mX11_free 11) = true := by decide +kernel
def nX11_free_0 (N : Nat) (a0 : Nat) (a1 : Int32) (a2 : Int32) (h : ra_H) : Option (Int32 × ra_H) :=
  (fX11_isShelf N a1 a2 h).bind fun q1 =>
  if q1.1 = 0 then
    nX11_free_18 N q1.2
  else
    (ra_fR q1.2 11 a0 4).bind fun x2 =>
    (fX1_settleKept N x2 q1.2).bind fun q3 =>
    if q3.1 = 0 then
      nX11_free_18 N q3.2
    else
      (ra_fR q3.2 11 a0 5).bind fun x4 =>
      (fX5_freeOf N x4 ((a1 * ((6 : Int32))) + a2) q3.2).bind fun q5 =>
      some (q5.1, q5.2)
def kX11_free_0 (N : Nat) : Nat → List (Option Value) → List Value → ra_H → Option (Int32 × ra_H) := (ra_k1 18 (fun L S h => match L, S with
  | [_, _, _], [] => nX11_free_18 N h
  | _, _ => none) ra_k0)
theorem kX11_free_0_ok (N : Nat) : ra_kok 7 mX11_free ra_oI (kX11_free_0 N) := (ra_k1_ok (by
  intro L S h a e
  split at e
  · exact ra_Ru.weak (nX11_free_18_ok N _ _ e) trivial
  · cases e) ra_k0_ok)
set_option maxRecDepth 100000 in
theorem nX11_free_0_ok (N : Nat) (a0 : Nat) (a1 : Int32) (a2 : Int32) (h : ra_H) (r : (Int32 × ra_H)) (e : nX11_free_0 N a0 a1 a2 h = some r) : ra_Ru 7 mX11_free 0 [some (.ref a0), some (.int a1), some (.int a2)] [] h (ra_oI r) :=
  ra_sound (by omega) rfl ra_rI_ok (kX11_free_0_ok N) (fun m av h h1 e => (ra_c0_ok (ro := ra_oV)) m av h h1 e) (fun m av h x h1 e => (tIX11_free_ok N) m av h (x, h1) e) (fun m av h x h1 e => (ra_c0_ok (ro := ra_oJ)) m av h (x, h1) e) (fun m av h x h1 e => (ra_c0_ok (ro := ra_oR)) m av h (x, h1) e) (fun m av h x h1 e => (ra_c0_ok (ro := ra_oN)) m av h (x, h1) e) (fun m av h x h1 e => (ra_c0_ok (ro := ra_oF)) m av h (x, h1) e) 18 lX11_free_0 _ _ _ _ lX11_free_0_ck (show ra_run ra_rI (kX11_free_0 N) ra_c0 (tIX11_free N) ra_c0 ra_c0 ra_c0 ra_c0 18 lX11_free_0 [some (.ref a0), some (.int a1), some (.int a2)] [] h = some r from e) _ _ rfl
def fX11_free (N : Nat) (p0 : Nat) (p1 : Int32) (p2 : Int32) (h : ra_H) : Option (Int32 × ra_H) := match ra_isOb h p0 11 with
  | true => nX11_free_0 N p0 p1 p2 h
  | false => none
set_option maxRecDepth 100000 in
theorem mtX11_free : ra_MT[111]? = some (mX11_free, 1, 2, (1, 1), (4, 197), (4, 198)) := rfl
theorem fX11_free_co (N : Nat) (p0 : Nat) (p1 : Int32) (p2 : Int32) (h : ra_H) (r : (Int32 × ra_H)) (e : fX11_free N p0 p1 p2 h = some r) (D : Nat) (hD : 8 ≤ D) : ra_CO D 111 [.ref p0, .int p1, .int p2] h (ra_oI r).1 (ra_oI r).2 := by
  have hw : ra_nw2 [.ref p0, .int p1, .int p2] ≤ 3 := Nat.le_of_ble_eq_true rfl
  have hdb : ∀ v ∈ ([.ref p0, .int p1, .int p2] : List Value), ∀ x, v ≠ .double x := by
    intro v hv x hx
    simp [hx] at hv
  unfold fX11_free at e
  split at e
  · rename_i ho
    have e1 := e
    exact ⟨7, _, mtX11_free, hD, ra_ev_of (by decide) hdb hw trivial (ra_Ru.weak (nX11_free_0_ok N p0 p1 p2 h _ e1) ⟨rfl, ⟨rfl, ⟨rfl, trivial⟩⟩⟩), (fun _ => ⟨_, _, rfl, ra_rcv_of ho (by decide) rfl⟩), (fun h => absurd h (by decide))⟩
  · cases e
/-! RedMarks.gap(IIII)I -/
def mX11_gap : ra_M := (yX11_gap, cX11_gap, 5, (some .int))
def tIX11_gap (N : Nat) : Nat → List Value → ra_H → Option (Int32 × ra_H) := (ra_c1 34 (fun av h => match av with
  | [.int z0, .int z1] => fX11_isShelf N z0 z1 h
  | _ => none) (ra_c1 105 (fun av h => match av with
  | [.ref z0] => fX1_settleKept N z0 h
  | _ => none) (ra_c1 114 (fun av h => match av with
  | [.ref z0, .int z1, .int z2] => fX5_gapsTogether N z0 z1 z2 h
  | _ => none) (ra_c1 116 (fun av h => match av with
  | [.ref z0, .int z1, .int z2, .int z3] => fX5_gapOf N z0 z1 z2 z3 h
  | _ => none) ra_c0))))
theorem tIX11_gap_ok (N : Nat) : ra_cok 7 ra_oI (tIX11_gap N) := (ra_c1_ok (by
  intro av h a e
  split at e
  · exact fX11_isShelf_co N _ _ _ _ e 7 (by omega)
  · cases e) (ra_c1_ok (by
  intro av h a e
  split at e
  · exact fX1_settleKept_co N _ _ _ e 7 (by omega)
  · cases e) (ra_c1_ok (by
  intro av h a e
  split at e
  · exact fX5_gapsTogether_co N _ _ _ _ _ e 7 (by omega)
  · cases e) (ra_c1_ok (by
  intro av h a e
  split at e
  · exact fX5_gapOf_co N _ _ _ _ _ _ e 7 (by omega)
  · cases e) ra_c0_ok))))
def lX11_gap_29 : List ra_I := [(29, .iconst (-1), 1, 0, 0, 0, (-1), 0, []),
  (30, .ireturn, 1, 0, 0, 0, 0, 0, [])]
set_option maxRecDepth 100000 in
theorem lX11_gap_29_ck : lX11_gap_29.all (ra_ck mX11_gap 11) = true := by decide +kernel
def nX11_gap_29 (N : Nat) (h : ra_H) : Option (Int32 × ra_H) :=
  some ((-1 : Int32), h)
def kX11_gap_29 (N : Nat) : Nat → List (Option Value) → List Value → ra_H → Option (Int32 × ra_H) := ra_k0
theorem kX11_gap_29_ok (N : Nat) : ra_kok 7 mX11_gap ra_oI (kX11_gap_29 N) := ra_k0_ok
set_option maxRecDepth 100000 in
theorem nX11_gap_29_ok (N : Nat) (h : ra_H) (r : (Int32 × ra_H)) (e : nX11_gap_29 N h = some r) : ra_Ru 7 mX11_gap 29 [none, none, none, none, none] [] h (ra_oI r) :=
  ra_sound (by omega) rfl ra_rI_ok (kX11_gap_29_ok N) (fun m av h h1 e => (ra_c0_ok (ro := ra_oV)) m av h h1 e) (fun m av h x h1 e => (tIX11_gap_ok N) m av h (x, h1) e) (fun m av h x h1 e => (ra_c0_ok (ro := ra_oJ)) m av h (x, h1) e) (fun m av h x h1 e => (ra_c0_ok (ro := ra_oR)) m av h (x, h1) e) (fun m av h x h1 e => (ra_c0_ok (ro := ra_oN)) m av h (x, h1) e) (fun m av h x h1 e => (ra_c0_ok (ro := ra_oF)) m av h (x, h1) e) 3 lX11_gap_29 _ _ _ _ lX11_gap_29_ck (show ra_run ra_rI (kX11_gap_29 N) ra_c0 (tIX11_gap N) ra_c0 ra_c0 ra_c0 ra_c0 3 lX11_gap_29 [none, none, none, none, none] [] h = some r from e) _ _ rfl
def lX11_gap_0 : List ra_I := [(0, .iload_n 1, 1, 1, 0, 0, 0, 0, []),
  (1, .iload_n 2, 1, 2, 0, 0, 0, 0, []),
  (2, .invokestatic 138, 3, 34, 2, 1, 0, 0, []),
  (5, .ifCond .eq (24), 3, 29, 0, 0, 0, 0, []),
  (8, .iload 4, 2, 4, 0, 0, 0, 0, []),
  (10, .ifCond .lt (19), 3, 29, 0, 0, 0, 0, []),
  (13, .iload 4, 2, 4, 0, 0, 0, 0, []),
  (15, .iconst (1), 1, 0, 0, 0, (1), 0, []),
  (16, .if_icmp .gt (13), 3, 29, 0, 0, 0, 0, []),
  (19, .aload_n 0, 1, 0, 0, 0, 0, 0, []),
  (20, .getfield 39, 3, 11, 4, 2, 0, 0, []),
  (23, .invokevirtual 204, 3, 105, 1, 1, 0, 0, []),
  (26, .ifCond .ne (5), 3, 31, 0, 0, 0, 0, []),
  (31, .iload_n 3, 1, 3, 0, 0, 0, 0, []),
  (32, .iconst (-1), 1, 0, 0, 0, (-1), 0, []),
  (33, .if_icmp .ne (19), 3, 52, 0, 0, 0, 0, []),
  (36, .aload_n 0, 1, 0, 0, 0, 0, 0, []),
  (37, .getfield 52, 3, 11, 5, 2, 0, 0, []),
  (40, .iload_n 1, 1, 1, 0, 0, 0, 0, []),
  (41, .bipush (6), 2, 0, 0, 0, (6), 0, []),
  (43, .imul, 1, 0, 0, 0, 0, 0, []),
  (44, .iload_n 2, 1, 2, 0, 0, 0, 0, []),
  (45, .iadd, 1, 0, 0, 0, 0, 0, []),
  (46, .iload 4, 2, 4, 0, 0, 0, 0, []),
  (48, .invokevirtual 222, 3, 114, 3, 1, 0, 0, []),
  (51, .ireturn, 1, 0, 0, 0, 0, 0, []),
  (52, .aload_n 0, 1, 0, 0, 0, 0, 0, []),
  (53, .getfield 52, 3, 11, 5, 2, 0, 0, []),
  (56, .iload_n 1, 1, 1, 0, 0, 0, 0, []),
  (57, .bipush (6), 2, 0, 0, 0, (6), 0, []),
  (59, .imul, 1, 0, 0, 0, 0, 0, []),
  (60, .iload_n 2, 1, 2, 0, 0, 0, 0, []),
  (61, .iadd, 1, 0, 0, 0, 0, 0, []),
  (62, .iload_n 3, 1, 3, 0, 0, 0, 0, []),
  (63, .iload 4, 2, 4, 0, 0, 0, 0, []),
  (65, .invokevirtual 225, 3, 116, 4, 1, 0, 0, []),
  (68, .ireturn, 1, 0, 0, 0, 0, 0, [])]
set_option maxRecDepth 100000 in
theorem lX11_gap_0_ck : lX11_gap_0.all (ra_ck mX11_gap 11) = true := by decide +kernel
def nX11_gap_0 (N : Nat) (a0 : Nat) (a1 : Int32) (a2 : Int32) (a3 : Int32) (a4 : Int32) (h : ra_H) : Option (Int32 × ra_H) :=
  (fX11_isShelf N a1 a2 h).bind fun q1 =>
  if q1.1 = 0 then
    nX11_gap_29 N q1.2
  else
    if a4 < 0 then
      nX11_gap_29 N q1.2
    else
      if a4 ≤ ((1 : Int32)) then
        (ra_fR q1.2 11 a0 4).bind fun x2 =>
        (fX1_settleKept N x2 q1.2).bind fun q3 =>
        if q3.1 = 0 then
          nX11_gap_29 N q3.2
        else
          if a3 = ((-1 : Int32)) then
            (ra_fR q3.2 11 a0 5).bind fun x6 =>
            (fX5_gapsTogether N x6 ((a1 * ((6 : Int32))) + a2) a4 q3.2).bind fun q7 =>
            some (q7.1, q7.2)
          else
            (ra_fR q3.2 11 a0 5).bind fun x4 =>
            (fX5_gapOf N x4 ((a1 * ((6 : Int32))) + a2) a3 a4 q3.2).bind fun q5 =>
            some (q5.1, q5.2)
      else
        nX11_gap_29 N q1.2
def kX11_gap_0 (N : Nat) : Nat → List (Option Value) → List Value → ra_H → Option (Int32 × ra_H) := (ra_k1 29 (fun L S h => match L, S with
  | [_, _, _, _, _], [] => nX11_gap_29 N h
  | _, _ => none) ra_k0)
theorem kX11_gap_0_ok (N : Nat) : ra_kok 7 mX11_gap ra_oI (kX11_gap_0 N) := (ra_k1_ok (by
  intro L S h a e
  split at e
  · exact ra_Ru.weak (nX11_gap_29_ok N _ _ e) trivial
  · cases e) ra_k0_ok)
set_option maxRecDepth 100000 in
theorem nX11_gap_0_ok (N : Nat) (a0 : Nat) (a1 : Int32) (a2 : Int32) (a3 : Int32) (a4 : Int32) (h : ra_H) (r : (Int32 × ra_H)) (e : nX11_gap_0 N a0 a1 a2 a3 a4 h = some r) : ra_Ru 7 mX11_gap 0 [some (.ref a0), some (.int a1), some (.int a2), some (.int a3), some (.int a4)] [] h (ra_oI r) :=
  ra_sound (by omega) rfl ra_rI_ok (kX11_gap_0_ok N) (fun m av h h1 e => (ra_c0_ok (ro := ra_oV)) m av h h1 e) (fun m av h x h1 e => (tIX11_gap_ok N) m av h (x, h1) e) (fun m av h x h1 e => (ra_c0_ok (ro := ra_oJ)) m av h (x, h1) e) (fun m av h x h1 e => (ra_c0_ok (ro := ra_oR)) m av h (x, h1) e) (fun m av h x h1 e => (ra_c0_ok (ro := ra_oN)) m av h (x, h1) e) (fun m av h x h1 e => (ra_c0_ok (ro := ra_oF)) m av h (x, h1) e) 38 lX11_gap_0 _ _ _ _ lX11_gap_0_ck (show ra_run ra_rI (kX11_gap_0 N) ra_c0 (tIX11_gap N) ra_c0 ra_c0 ra_c0 ra_c0 38 lX11_gap_0 [some (.ref a0), some (.int a1), some (.int a2), some (.int a3), some (.int a4)] [] h = some r from e) _ _ rfl
def fX11_gap (N : Nat) (p0 : Nat) (p1 : Int32) (p2 : Int32) (p3 : Int32) (p4 : Int32) (h : ra_H) : Option (Int32 × ra_H) := match ra_isOb h p0 11 with
  | true => nX11_gap_0 N p0 p1 p2 p3 p4 h
  | false => none
set_option maxRecDepth 100000 in
theorem mtX11_gap : ra_MT[113]? = some (mX11_gap, 1, 4, (1, 1), (4, 205), (4, 206)) := rfl
theorem fX11_gap_co (N : Nat) (p0 : Nat) (p1 : Int32) (p2 : Int32) (p3 : Int32) (p4 : Int32) (h : ra_H) (r : (Int32 × ra_H)) (e : fX11_gap N p0 p1 p2 p3 p4 h = some r) (D : Nat) (hD : 8 ≤ D) : ra_CO D 113 [.ref p0, .int p1, .int p2, .int p3, .int p4] h (ra_oI r).1 (ra_oI r).2 := by
  have hw : ra_nw2 [.ref p0, .int p1, .int p2, .int p3, .int p4] ≤ 5 := Nat.le_of_ble_eq_true rfl
  have hdb : ∀ v ∈ ([.ref p0, .int p1, .int p2, .int p3, .int p4] : List Value), ∀ x, v ≠ .double x := by
    intro v hv x hx
    simp [hx] at hv
  unfold fX11_gap at e
  split at e
  · rename_i ho
    have e1 := e
    exact ⟨7, _, mtX11_gap, hD, ra_ev_of (by decide) hdb hw trivial (ra_Ru.weak (nX11_gap_0_ok N p0 p1 p2 p3 p4 h _ e1) ⟨rfl, ⟨rfl, ⟨rfl, ⟨rfl, ⟨rfl, trivial⟩⟩⟩⟩⟩), (fun _ => ⟨_, _, rfl, ra_rcv_of ho (by decide) rfl⟩), (fun h => absurd h (by decide))⟩
  · cases e
/-! RedMarks.grew(III)I -/
def mX11_grew : ra_M := (yX11_grew, cX11_grew, 8, (some .int))
def tIX11_grew (N : Nat) : Nat → List Value → ra_H → Option (Int32 × ra_H) := (ra_c1 15 (fun av h => match av with
  | [.int z0, .int z1] => fX11_fits N z0 z1 h
  | _ => none) (ra_c1 27 (fun av h => match av with
  | [.ref z0, .int z1, .int z2] => fX2_factOf N z0 z1 z2 h
  | _ => none) ra_c0))
theorem tIX11_grew_ok (N : Nat) : ra_cok 2 ra_oI (tIX11_grew N) := (ra_c1_ok (by
  intro av h a e
  split at e
  · exact fX11_fits_co N _ _ _ _ e 2 (by omega)
  · cases e) (ra_c1_ok (by
  intro av h a e
  split at e
  · exact fX2_factOf_co N _ _ _ _ _ e 2 (by omega)
  · cases e) ra_c0_ok))
def lX11_grew_34 : List ra_I := [(34, .iconst (-1), 1, 0, 0, 0, (-1), 0, []),
  (35, .ireturn, 1, 0, 0, 0, 0, 0, [])]
set_option maxRecDepth 100000 in
theorem lX11_grew_34_ck : lX11_grew_34.all (ra_ck mX11_grew 11) = true := by decide +kernel
def nX11_grew_34 (N : Nat) (h : ra_H) : Option (Int32 × ra_H) :=
  some ((-1 : Int32), h)
def kX11_grew_34 (N : Nat) : Nat → List (Option Value) → List Value → ra_H → Option (Int32 × ra_H) := ra_k0
theorem kX11_grew_34_ok (N : Nat) : ra_kok 2 mX11_grew ra_oI (kX11_grew_34 N) := ra_k0_ok
set_option maxRecDepth 100000 in
theorem nX11_grew_34_ok (N : Nat) (h : ra_H) (r : (Int32 × ra_H)) (e : nX11_grew_34 N h = some r) : ra_Ru 2 mX11_grew 34 [none, none, none, none, none, none, none, none] [] h (ra_oI r) :=
  ra_sound (by omega) rfl ra_rI_ok (kX11_grew_34_ok N) (fun m av h h1 e => (ra_c0_ok (ro := ra_oV)) m av h h1 e) (fun m av h x h1 e => (tIX11_grew_ok N) m av h (x, h1) e) (fun m av h x h1 e => (ra_c0_ok (ro := ra_oJ)) m av h (x, h1) e) (fun m av h x h1 e => (ra_c0_ok (ro := ra_oR)) m av h (x, h1) e) (fun m av h x h1 e => (ra_c0_ok (ro := ra_oN)) m av h (x, h1) e) (fun m av h x h1 e => (ra_c0_ok (ro := ra_oF)) m av h (x, h1) e) 3 lX11_grew_34 _ _ _ _ lX11_grew_34_ck (show ra_run ra_rI (kX11_grew_34 N) ra_c0 (tIX11_grew N) ra_c0 ra_c0 ra_c0 ra_c0 3 lX11_grew_34 [none, none, none, none, none, none, none, none] [] h = some r from e) _ _ rfl
def lX11_grew_115 : List ra_I := [(115, .iinc 5 (1), 3, 5, 0, 0, (1), 0, []),
  (118, .goto (-76), 3, 42, 0, 0, 0, 0, [])]
set_option maxRecDepth 100000 in
theorem lX11_grew_115_ck : lX11_grew_115.all (ra_ck mX11_grew 11) = true := by decide +kernel
def nX11_grew_115 (N : Nat) (c42 : Nat → Int32 → Int32 → Int32 → Int32 → Int32 → ra_H → Option (Int32 × ra_H)) (a0 : Nat) (a1 : Int32) (a2 : Int32) (a3 : Int32) (a4 : Int32) (a5 : Int32) (h : ra_H) : Option (Int32 × ra_H) :=
  let y1 := a5 + (1 : Int32)
  c42 a0 a1 a2 a3 a4 y1 h
def kX11_grew_115 (N : Nat) (c42 : Nat → Int32 → Int32 → Int32 → Int32 → Int32 → ra_H → Option (Int32 × ra_H)) : Nat → List (Option Value) → List Value → ra_H → Option (Int32 × ra_H) := (ra_k1 42 (fun L S h => match L, S with
  | [some (.ref a0), some (.int a1), some (.int a2), some (.int a3), some (.int a4), some (.int a5), _, _], [] => c42 a0 a1 a2 a3 a4 a5 h
  | _, _ => none) ra_k0)
theorem kX11_grew_115_ok (N : Nat) (c42 : Nat → Int32 → Int32 → Int32 → Int32 → Int32 → ra_H → Option (Int32 × ra_H)) (hc42 : ∀ a0 a1 a2 a3 a4 a5 h r, c42 a0 a1 a2 a3 a4 a5 h = some r → ra_Ru 2 mX11_grew 42 [some (.ref a0), some (.int a1), some (.int a2), some (.int a3), some (.int a4), some (.int a5), none, none] [] h (ra_oI r)) : ra_kok 2 mX11_grew ra_oI (kX11_grew_115 N c42) := (ra_k1_ok (by
  intro L S h a e
  split at e
  · exact ra_Ru.weak (hc42 _ _ _ _ _ _ _ _ e) ⟨rfl, ⟨rfl, ⟨rfl, ⟨rfl, ⟨rfl, ⟨rfl, trivial⟩⟩⟩⟩⟩⟩
  · cases e) ra_k0_ok)
set_option maxRecDepth 100000 in
theorem nX11_grew_115_ok (N : Nat) (c42 : Nat → Int32 → Int32 → Int32 → Int32 → Int32 → ra_H → Option (Int32 × ra_H)) (hc42 : ∀ a0 a1 a2 a3 a4 a5 h r, c42 a0 a1 a2 a3 a4 a5 h = some r → ra_Ru 2 mX11_grew 42 [some (.ref a0), some (.int a1), some (.int a2), some (.int a3), some (.int a4), some (.int a5), none, none] [] h (ra_oI r)) (a0 : Nat) (a1 : Int32) (a2 : Int32) (a3 : Int32) (a4 : Int32) (a5 : Int32) (h : ra_H) (r : (Int32 × ra_H)) (e : nX11_grew_115 N c42 a0 a1 a2 a3 a4 a5 h = some r) : ra_Ru 2 mX11_grew 115 [some (.ref a0), some (.int a1), some (.int a2), some (.int a3), some (.int a4), some (.int a5), none, none] [] h (ra_oI r) :=
  ra_sound (by omega) rfl ra_rI_ok (kX11_grew_115_ok N c42 hc42) (fun m av h h1 e => (ra_c0_ok (ro := ra_oV)) m av h h1 e) (fun m av h x h1 e => (tIX11_grew_ok N) m av h (x, h1) e) (fun m av h x h1 e => (ra_c0_ok (ro := ra_oJ)) m av h (x, h1) e) (fun m av h x h1 e => (ra_c0_ok (ro := ra_oR)) m av h (x, h1) e) (fun m av h x h1 e => (ra_c0_ok (ro := ra_oN)) m av h (x, h1) e) (fun m av h x h1 e => (ra_c0_ok (ro := ra_oF)) m av h (x, h1) e) 3 lX11_grew_115 _ _ _ _ lX11_grew_115_ck (show ra_run ra_rI (kX11_grew_115 N c42) ra_c0 (tIX11_grew N) ra_c0 ra_c0 ra_c0 ra_c0 3 lX11_grew_115 [some (.ref a0), some (.int a1), some (.int a2), some (.int a3), some (.int a4), some (.int a5), none, none] [] h = some r from e) _ _ rfl
def lX11_grew_91 : List ra_I := [(91, .istore 7, 2, 7, 0, 0, 0, 0, []),
  (93, .iload 7, 2, 7, 0, 0, 0, 0, []),
  (95, .ifCond .eq (20), 3, 115, 0, 0, 0, 0, []),
  (98, .iload 6, 2, 6, 0, 0, 0, 0, []),
  (100, .iload_n 1, 1, 1, 0, 0, 0, 0, []),
  (101, .if_icmp .lt (14), 3, 115, 0, 0, 0, 0, []),
  (104, .iload 6, 2, 6, 0, 0, 0, 0, []),
  (106, .iload_n 1, 1, 1, 0, 0, 0, 0, []),
  (107, .iload_n 2, 1, 2, 0, 0, 0, 0, []),
  (108, .iadd, 1, 0, 0, 0, 0, 0, []),
  (109, .if_icmp .ge (6), 3, 115, 0, 0, 0, 0, []),
  (112, .iinc 4 (1), 3, 4, 0, 0, (1), 0, [])]
set_option maxRecDepth 100000 in
theorem lX11_grew_91_ck : lX11_grew_91.all (ra_ck mX11_grew 11) = true := by decide +kernel
def nX11_grew_91 (N : Nat) (c42 : Nat → Int32 → Int32 → Int32 → Int32 → Int32 → ra_H → Option (Int32 × ra_H)) (a0 : Nat) (a1 : Int32) (a2 : Int32) (a3 : Int32) (a4 : Int32) (a5 : Int32) (a6 : Int32) (b0 : Int32) (h : ra_H) : Option (Int32 × ra_H) :=
  if b0 = 0 then
    nX11_grew_115 N c42 a0 a1 a2 a3 a4 a5 h
  else
    if a6 < a1 then
      nX11_grew_115 N c42 a0 a1 a2 a3 a4 a5 h
    else
      if a6 < (a1 + a2) then
        let y1 := a4 + (1 : Int32)
        nX11_grew_115 N c42 a0 a1 a2 a3 y1 a5 h
      else
        nX11_grew_115 N c42 a0 a1 a2 a3 a4 a5 h
def kX11_grew_91 (N : Nat) (c42 : Nat → Int32 → Int32 → Int32 → Int32 → Int32 → ra_H → Option (Int32 × ra_H)) : Nat → List (Option Value) → List Value → ra_H → Option (Int32 × ra_H) := (ra_k1 115 (fun L S h => match L, S with
  | [some (.ref a0), some (.int a1), some (.int a2), some (.int a3), some (.int a4), some (.int a5), _, _], [] => nX11_grew_115 N c42 a0 a1 a2 a3 a4 a5 h
  | _, _ => none) ra_k0)
theorem kX11_grew_91_ok (N : Nat) (c42 : Nat → Int32 → Int32 → Int32 → Int32 → Int32 → ra_H → Option (Int32 × ra_H)) (hc42 : ∀ a0 a1 a2 a3 a4 a5 h r, c42 a0 a1 a2 a3 a4 a5 h = some r → ra_Ru 2 mX11_grew 42 [some (.ref a0), some (.int a1), some (.int a2), some (.int a3), some (.int a4), some (.int a5), none, none] [] h (ra_oI r)) : ra_kok 2 mX11_grew ra_oI (kX11_grew_91 N c42) := (ra_k1_ok (by
  intro L S h a e
  split at e
  · exact ra_Ru.weak (nX11_grew_115_ok N c42 hc42 _ _ _ _ _ _ _ _ e) ⟨rfl, ⟨rfl, ⟨rfl, ⟨rfl, ⟨rfl, ⟨rfl, trivial⟩⟩⟩⟩⟩⟩
  · cases e) ra_k0_ok)
set_option maxRecDepth 100000 in
theorem nX11_grew_91_ok (N : Nat) (c42 : Nat → Int32 → Int32 → Int32 → Int32 → Int32 → ra_H → Option (Int32 × ra_H)) (hc42 : ∀ a0 a1 a2 a3 a4 a5 h r, c42 a0 a1 a2 a3 a4 a5 h = some r → ra_Ru 2 mX11_grew 42 [some (.ref a0), some (.int a1), some (.int a2), some (.int a3), some (.int a4), some (.int a5), none, none] [] h (ra_oI r)) (a0 : Nat) (a1 : Int32) (a2 : Int32) (a3 : Int32) (a4 : Int32) (a5 : Int32) (a6 : Int32) (b0 : Int32) (h : ra_H) (r : (Int32 × ra_H)) (e : nX11_grew_91 N c42 a0 a1 a2 a3 a4 a5 a6 b0 h = some r) : ra_Ru 2 mX11_grew 91 [some (.ref a0), some (.int a1), some (.int a2), some (.int a3), some (.int a4), some (.int a5), some (.int a6), none] [.int b0] h (ra_oI r) :=
  ra_sound (by omega) rfl ra_rI_ok (kX11_grew_91_ok N c42 hc42) (fun m av h h1 e => (ra_c0_ok (ro := ra_oV)) m av h h1 e) (fun m av h x h1 e => (tIX11_grew_ok N) m av h (x, h1) e) (fun m av h x h1 e => (ra_c0_ok (ro := ra_oJ)) m av h (x, h1) e) (fun m av h x h1 e => (ra_c0_ok (ro := ra_oR)) m av h (x, h1) e) (fun m av h x h1 e => (ra_c0_ok (ro := ra_oN)) m av h (x, h1) e) (fun m av h x h1 e => (ra_c0_ok (ro := ra_oF)) m av h (x, h1) e) 13 lX11_grew_91 _ _ _ _ lX11_grew_91_ck (show ra_run ra_rI (kX11_grew_91 N c42) ra_c0 (tIX11_grew N) ra_c0 ra_c0 ra_c0 ra_c0 13 lX11_grew_91 [some (.ref a0), some (.int a1), some (.int a2), some (.int a3), some (.int a4), some (.int a5), some (.int a6), none] [.int b0] h = some r from e) _ _ rfl
def lX11_grew_86 : List ra_I := [(86, .iconst (1), 1, 0, 0, 0, (1), 0, []),
  (87, .goto (4), 3, 91, 0, 0, 0, 0, [])]
set_option maxRecDepth 100000 in
theorem lX11_grew_86_ck : lX11_grew_86.all (ra_ck mX11_grew 11) = true := by decide +kernel
def nX11_grew_86 (N : Nat) (c42 : Nat → Int32 → Int32 → Int32 → Int32 → Int32 → ra_H → Option (Int32 × ra_H)) (a0 : Nat) (a1 : Int32) (a2 : Int32) (a3 : Int32) (a4 : Int32) (a5 : Int32) (a6 : Int32) (h : ra_H) : Option (Int32 × ra_H) :=
  nX11_grew_91 N c42 a0 a1 a2 a3 a4 a5 a6 ((1 : Int32)) h
def kX11_grew_86 (N : Nat) (c42 : Nat → Int32 → Int32 → Int32 → Int32 → Int32 → ra_H → Option (Int32 × ra_H)) : Nat → List (Option Value) → List Value → ra_H → Option (Int32 × ra_H) := (ra_k1 91 (fun L S h => match L, S with
  | [some (.ref a0), some (.int a1), some (.int a2), some (.int a3), some (.int a4), some (.int a5), some (.int a6), _], [.int b0] => nX11_grew_91 N c42 a0 a1 a2 a3 a4 a5 a6 b0 h
  | _, _ => none) ra_k0)
theorem kX11_grew_86_ok (N : Nat) (c42 : Nat → Int32 → Int32 → Int32 → Int32 → Int32 → ra_H → Option (Int32 × ra_H)) (hc42 : ∀ a0 a1 a2 a3 a4 a5 h r, c42 a0 a1 a2 a3 a4 a5 h = some r → ra_Ru 2 mX11_grew 42 [some (.ref a0), some (.int a1), some (.int a2), some (.int a3), some (.int a4), some (.int a5), none, none] [] h (ra_oI r)) : ra_kok 2 mX11_grew ra_oI (kX11_grew_86 N c42) := (ra_k1_ok (by
  intro L S h a e
  split at e
  · exact ra_Ru.weak (nX11_grew_91_ok N c42 hc42 _ _ _ _ _ _ _ _ _ _ e) ⟨rfl, ⟨rfl, ⟨rfl, ⟨rfl, ⟨rfl, ⟨rfl, ⟨rfl, trivial⟩⟩⟩⟩⟩⟩⟩
  · cases e) ra_k0_ok)
set_option maxRecDepth 100000 in
theorem nX11_grew_86_ok (N : Nat) (c42 : Nat → Int32 → Int32 → Int32 → Int32 → Int32 → ra_H → Option (Int32 × ra_H)) (hc42 : ∀ a0 a1 a2 a3 a4 a5 h r, c42 a0 a1 a2 a3 a4 a5 h = some r → ra_Ru 2 mX11_grew 42 [some (.ref a0), some (.int a1), some (.int a2), some (.int a3), some (.int a4), some (.int a5), none, none] [] h (ra_oI r)) (a0 : Nat) (a1 : Int32) (a2 : Int32) (a3 : Int32) (a4 : Int32) (a5 : Int32) (a6 : Int32) (h : ra_H) (r : (Int32 × ra_H)) (e : nX11_grew_86 N c42 a0 a1 a2 a3 a4 a5 a6 h = some r) : ra_Ru 2 mX11_grew 86 [some (.ref a0), some (.int a1), some (.int a2), some (.int a3), some (.int a4), some (.int a5), some (.int a6), none] [] h (ra_oI r) :=
  ra_sound (by omega) rfl ra_rI_ok (kX11_grew_86_ok N c42 hc42) (fun m av h h1 e => (ra_c0_ok (ro := ra_oV)) m av h h1 e) (fun m av h x h1 e => (tIX11_grew_ok N) m av h (x, h1) e) (fun m av h x h1 e => (ra_c0_ok (ro := ra_oJ)) m av h (x, h1) e) (fun m av h x h1 e => (ra_c0_ok (ro := ra_oR)) m av h (x, h1) e) (fun m av h x h1 e => (ra_c0_ok (ro := ra_oN)) m av h (x, h1) e) (fun m av h x h1 e => (ra_c0_ok (ro := ra_oF)) m av h (x, h1) e) 3 lX11_grew_86 _ _ _ _ lX11_grew_86_ck (show ra_run ra_rI (kX11_grew_86 N c42) ra_c0 (tIX11_grew N) ra_c0 ra_c0 ra_c0 ra_c0 3 lX11_grew_86 [some (.ref a0), some (.int a1), some (.int a2), some (.int a3), some (.int a4), some (.int a5), some (.int a6), none] [] h = some r from e) _ _ rfl
def lX11_grew_42 : List ra_I := [(42, .iload 5, 2, 5, 0, 0, 0, 0, []),
  (44, .aload_n 0, 1, 0, 0, 0, 0, 0, []),
  (45, .getfield 10, 3, 11, 0, 2, 0, 0, []),
  (48, .getfield 99, 3, 2, 13, 0, 0, 0, []),
  (51, .if_icmp .ge (70), 3, 121, 0, 0, 0, 0, []),
  (54, .aload_n 0, 1, 0, 0, 0, 0, 0, []),
  (55, .getfield 10, 3, 11, 0, 2, 0, 0, []),
  (58, .iload 5, 2, 5, 0, 0, 0, 0, []),
  (60, .iconst (2), 1, 0, 0, 0, (2), 0, []),
  (61, .invokevirtual 116, 3, 27, 3, 1, 0, 0, []),
  (64, .istore 6, 2, 6, 0, 0, 0, 0, []),
  (66, .iload_n 3, 1, 3, 0, 0, 0, 0, []),
  (67, .iconst (-1), 1, 0, 0, 0, (-1), 0, []),
  (68, .if_icmp .eq (18), 3, 86, 0, 0, 0, 0, []),
  (71, .aload_n 0, 1, 0, 0, 0, 0, 0, []),
  (72, .getfield 10, 3, 11, 0, 2, 0, 0, []),
  (75, .iload 5, 2, 5, 0, 0, 0, 0, []),
  (77, .bipush (10), 2, 0, 0, 0, (10), 0, []),
  (79, .invokevirtual 116, 3, 27, 3, 1, 0, 0, []),
  (82, .iload_n 3, 1, 3, 0, 0, 0, 0, []),
  (83, .if_icmp .ne (7), 3, 90, 0, 0, 0, 0, []),
  (90, .iconst (0), 1, 0, 0, 0, (0), 0, []),
  (121, .iload 4, 2, 4, 0, 0, 0, 0, []),
  (123, .ireturn, 1, 0, 0, 0, 0, 0, [])]
set_option maxRecDepth 100000 in
theorem lX11_grew_42_ck : lX11_grew_42.all (ra_ck mX11_grew 11) = true := by decide +kernel
def nX11_grew_42 (N : Nat) : Nat → Nat → Int32 → Int32 → Int32 → Int32 → Int32 → ra_H → Option (Int32 × ra_H)
  | 0, _, _, _, _, _, _, _ => none
  | n + 1, a0, a1, a2, a3, a4, a5, h =>
  (ra_fR h 11 a0 0).bind fun x1 =>
  (ra_fI h 2 x1 13).bind fun x2 =>
  if a5 < x2 then
    (ra_fR h 11 a0 0).bind fun x3 =>
    (fX2_factOf N x3 a5 ((2 : Int32)) h).bind fun q4 =>
    if a3 = ((-1 : Int32)) then
      nX11_grew_86 N (nX11_grew_42 N n) a0 a1 a2 a3 a4 a5 q4.1 q4.2
    else
      (ra_fR q4.2 11 a0 0).bind fun x5 =>
      (fX2_factOf N x5 a5 ((10 : Int32)) q4.2).bind fun q6 =>
      if q6.1 = a3 then
        nX11_grew_86 N (nX11_grew_42 N n) a0 a1 a2 a3 a4 a5 q4.1 q6.2
      else
        nX11_grew_91 N (nX11_grew_42 N n) a0 a1 a2 a3 a4 a5 q4.1 ((0 : Int32)) q6.2
  else
    some (a4, h)
def kX11_grew_42 (N : Nat) (cs : Nat → Int32 → Int32 → Int32 → Int32 → Int32 → ra_H → Option (Int32 × ra_H)) : Nat → List (Option Value) → List Value → ra_H → Option (Int32 × ra_H) := (ra_k1 86 (fun L S h => match L, S with
  | [some (.ref a0), some (.int a1), some (.int a2), some (.int a3), some (.int a4), some (.int a5), some (.int a6), _], [] => nX11_grew_86 N cs a0 a1 a2 a3 a4 a5 a6 h
  | _, _ => none) (ra_k1 91 (fun L S h => match L, S with
  | [some (.ref a0), some (.int a1), some (.int a2), some (.int a3), some (.int a4), some (.int a5), some (.int a6), _], [.int b0] => nX11_grew_91 N cs a0 a1 a2 a3 a4 a5 a6 b0 h
  | _, _ => none) ra_k0))
theorem kX11_grew_42_ok (N : Nat) (cs : Nat → Int32 → Int32 → Int32 → Int32 → Int32 → ra_H → Option (Int32 × ra_H)) (hcs : ∀ a0 a1 a2 a3 a4 a5 h r, cs a0 a1 a2 a3 a4 a5 h = some r → ra_Ru 2 mX11_grew 42 [some (.ref a0), some (.int a1), some (.int a2), some (.int a3), some (.int a4), some (.int a5), none, none] [] h (ra_oI r)) : ra_kok 2 mX11_grew ra_oI (kX11_grew_42 N cs) := (ra_k1_ok (by
  intro L S h a e
  split at e
  · exact ra_Ru.weak (nX11_grew_86_ok N cs hcs _ _ _ _ _ _ _ _ _ e) ⟨rfl, ⟨rfl, ⟨rfl, ⟨rfl, ⟨rfl, ⟨rfl, ⟨rfl, trivial⟩⟩⟩⟩⟩⟩⟩
  · cases e) (ra_k1_ok (by
  intro L S h a e
  split at e
  · exact ra_Ru.weak (nX11_grew_91_ok N cs hcs _ _ _ _ _ _ _ _ _ _ e) ⟨rfl, ⟨rfl, ⟨rfl, ⟨rfl, ⟨rfl, ⟨rfl, ⟨rfl, trivial⟩⟩⟩⟩⟩⟩⟩
  · cases e) ra_k0_ok))
def bX11_grew_42 (u27 : Nat → Int32 → Int32 → ra_H → Option (Int32 × ra_H)) (g86 : Nat → Int32 → Int32 → Int32 → Int32 → Int32 → Int32 → ra_H → Option (Int32 × ra_H)) (g91 : Nat → Int32 → Int32 → Int32 → Int32 → Int32 → Int32 → Int32 → ra_H → Option (Int32 × ra_H)) (a0 : Nat) (a1 : Int32) (a2 : Int32) (a3 : Int32) (a4 : Int32) (a5 : Int32) (h : ra_H) : Option (Int32 × ra_H) :=
  (ra_fR h 11 a0 0).bind fun x1 =>
  (ra_fI h 2 x1 13).bind fun x2 =>
  if a5 < x2 then
    (ra_fR h 11 a0 0).bind fun x3 =>
    (u27 x3 a5 ((2 : Int32)) h).bind fun q4 =>
    if a3 = ((-1 : Int32)) then
      g86 a0 a1 a2 a3 a4 a5 q4.1 q4.2
    else
      (ra_fR q4.2 11 a0 0).bind fun x5 =>
      (u27 x5 a5 ((10 : Int32)) q4.2).bind fun q6 =>
      if q6.1 = a3 then
        g86 a0 a1 a2 a3 a4 a5 q4.1 q6.2
      else
        g91 a0 a1 a2 a3 a4 a5 q4.1 ((0 : Int32)) q6.2
  else
    some (a4, h)
def kbX11_grew_42 (g86 : Nat → Int32 → Int32 → Int32 → Int32 → Int32 → Int32 → ra_H → Option (Int32 × ra_H)) (g91 : Nat → Int32 → Int32 → Int32 → Int32 → Int32 → Int32 → Int32 → ra_H → Option (Int32 × ra_H)) : Nat → List (Option Value) → List Value → ra_H → Option (Int32 × ra_H) := (ra_k1 86 (fun L S h => match L, S with
  | [some (.ref a0), some (.int a1), some (.int a2), some (.int a3), some (.int a4), some (.int a5), some (.int a6), _], [] => g86 a0 a1 a2 a3 a4 a5 a6 h
  | _, _ => none) (ra_k1 91 (fun L S h => match L, S with
  | [some (.ref a0), some (.int a1), some (.int a2), some (.int a3), some (.int a4), some (.int a5), some (.int a6), _], [.int b0] => g91 a0 a1 a2 a3 a4 a5 a6 b0 h
  | _, _ => none) ra_k0))
set_option maxRecDepth 100000 in
theorem bX11_grew_42_eq (u27 : Nat → Int32 → Int32 → ra_H → Option (Int32 × ra_H)) (g86 : Nat → Int32 → Int32 → Int32 → Int32 → Int32 → Int32 → ra_H → Option (Int32 × ra_H)) (g91 : Nat → Int32 → Int32 → Int32 → Int32 → Int32 → Int32 → Int32 → ra_H → Option (Int32 × ra_H)) (a0 : Nat) (a1 : Int32) (a2 : Int32) (a3 : Int32) (a4 : Int32) (a5 : Int32) (h : ra_H) : bX11_grew_42 u27 g86 g91 a0 a1 a2 a3 a4 a5 h = ra_run ra_rI (kbX11_grew_42 g86 g91) ra_c0 (ra_c1 27 (fun av h => match av with
  | [.ref z0, .int z1, .int z2] => u27 z0 z1 z2 h
  | _ => none) ra_c0) ra_c0 ra_c0 ra_c0 ra_c0 25 lX11_grew_42 [some (.ref a0), some (.int a1), some (.int a2), some (.int a3), some (.int a4), some (.int a5), none, none] [] h := rfl
set_option maxRecDepth 100000 in
theorem nX11_grew_42_ok (N : Nat) : ∀ n a0 a1 a2 a3 a4 a5 h r, nX11_grew_42 N n a0 a1 a2 a3 a4 a5 h = some r → ra_Ru 2 mX11_grew 42 [some (.ref a0), some (.int a1), some (.int a2), some (.int a3), some (.int a4), some (.int a5), none, none] [] h (ra_oI r) := by
  intro n
  induction n with
  | zero => intro a0 a1 a2 a3 a4 a5 h r e; cases e
  | succ n ih =>
    intro a0 a1 a2 a3 a4 a5 h r e
    exact ra_sound (by omega) rfl ra_rI_ok (show ra_kok 2 mX11_grew ra_oI (kbX11_grew_42 (nX11_grew_86 N (nX11_grew_42 N n)) (nX11_grew_91 N (nX11_grew_42 N n))) from kX11_grew_42_ok N (nX11_grew_42 N n) ih) (fun m av h h1 e => (show ra_cok 2 ra_oV ra_c0 from ra_c0_ok) m av h h1 e) (fun m av h x h1 e => (show ra_cok 2 ra_oI (ra_c1 27 (fun av h => match av with
  | [.ref z0, .int z1, .int z2] => (fX2_factOf N) z0 z1 z2 h
  | _ => none) ra_c0) from (ra_c1_ok (by
  intro av h a e
  split at e
  · exact fX2_factOf_co N _ _ _ _ _ e 2 (by omega)
  · cases e) ra_c0_ok)) m av h (x, h1) e) (fun m av h x h1 e => (show ra_cok 2 ra_oJ ra_c0 from ra_c0_ok) m av h (x, h1) e) (fun m av h x h1 e => (show ra_cok 2 ra_oR ra_c0 from ra_c0_ok) m av h (x, h1) e) (fun m av h x h1 e => (show ra_cok 2 ra_oN ra_c0 from ra_c0_ok) m av h (x, h1) e) (fun m av h x h1 e => (show ra_cok 2 ra_oF ra_c0 from ra_c0_ok) m av h (x, h1) e) 25 lX11_grew_42 _ _ _ _ lX11_grew_42_ck ((bX11_grew_42_eq (fX2_factOf N) (nX11_grew_86 N (nX11_grew_42 N n)) (nX11_grew_91 N (nX11_grew_42 N n)) a0 a1 a2 a3 a4 a5 h).symm.trans (show bX11_grew_42 (fX2_factOf N) (nX11_grew_86 N (nX11_grew_42 N n)) (nX11_grew_91 N (nX11_grew_42 N n)) a0 a1 a2 a3 a4 a5 h = some r from e)) _ _ rfl
def lX11_grew_36 : List ra_I := [(36, .iconst (0), 1, 0, 0, 0, (0), 0, []),
  (37, .istore 4, 2, 4, 0, 0, 0, 0, []),
  (39, .iconst (0), 1, 0, 0, 0, (0), 0, []),
  (40, .istore 5, 2, 5, 0, 0, 0, 0, [])]
set_option maxRecDepth 100000 in
theorem lX11_grew_36_ck : lX11_grew_36.all (ra_ck mX11_grew 11) = true := by decide +kernel
def nX11_grew_36 (N : Nat) (a0 : Nat) (a1 : Int32) (a2 : Int32) (a3 : Int32) (h : ra_H) : Option (Int32 × ra_H) :=
  nX11_grew_42 N N a0 a1 a2 a3 ((0 : Int32)) ((0 : Int32)) h
def kX11_grew_36 (N : Nat) : Nat → List (Option Value) → List Value → ra_H → Option (Int32 × ra_H) := (ra_k1 42 (fun L S h => match L, S with
  | [some (.ref a0), some (.int a1), some (.int a2), some (.int a3), some (.int a4), some (.int a5), _, _], [] => nX11_grew_42 N N a0 a1 a2 a3 a4 a5 h
  | _, _ => none) ra_k0)
theorem kX11_grew_36_ok (N : Nat) : ra_kok 2 mX11_grew ra_oI (kX11_grew_36 N) := (ra_k1_ok (by
  intro L S h a e
  split at e
  · exact ra_Ru.weak (nX11_grew_42_ok N N _ _ _ _ _ _ _ _ e) ⟨rfl, ⟨rfl, ⟨rfl, ⟨rfl, ⟨rfl, ⟨rfl, trivial⟩⟩⟩⟩⟩⟩
  · cases e) ra_k0_ok)
set_option maxRecDepth 100000 in
theorem nX11_grew_36_ok (N : Nat) (a0 : Nat) (a1 : Int32) (a2 : Int32) (a3 : Int32) (h : ra_H) (r : (Int32 × ra_H)) (e : nX11_grew_36 N a0 a1 a2 a3 h = some r) : ra_Ru 2 mX11_grew 36 [some (.ref a0), some (.int a1), some (.int a2), some (.int a3), none, none, none, none] [] h (ra_oI r) :=
  ra_sound (by omega) rfl ra_rI_ok (kX11_grew_36_ok N) (fun m av h h1 e => (ra_c0_ok (ro := ra_oV)) m av h h1 e) (fun m av h x h1 e => (tIX11_grew_ok N) m av h (x, h1) e) (fun m av h x h1 e => (ra_c0_ok (ro := ra_oJ)) m av h (x, h1) e) (fun m av h x h1 e => (ra_c0_ok (ro := ra_oR)) m av h (x, h1) e) (fun m av h x h1 e => (ra_c0_ok (ro := ra_oN)) m av h (x, h1) e) (fun m av h x h1 e => (ra_c0_ok (ro := ra_oF)) m av h (x, h1) e) 5 lX11_grew_36 _ _ _ _ lX11_grew_36_ck (show ra_run ra_rI (kX11_grew_36 N) ra_c0 (tIX11_grew N) ra_c0 ra_c0 ra_c0 ra_c0 5 lX11_grew_36 [some (.ref a0), some (.int a1), some (.int a2), some (.int a3), none, none, none, none] [] h = some r from e) _ _ rfl
def lX11_grew_0 : List ra_I := [(0, .iconst (2), 1, 0, 0, 0, (2), 0, []),
  (1, .iload_n 1, 1, 1, 0, 0, 0, 0, []),
  (2, .invokestatic 109, 3, 15, 2, 1, 0, 0, []),
  (5, .ifCond .eq (29), 3, 34, 0, 0, 0, 0, []),
  (8, .iload_n 2, 1, 2, 0, 0, 0, 0, []),
  (9, .iconst (1), 1, 0, 0, 0, (1), 0, []),
  (10, .if_icmp .lt (24), 3, 34, 0, 0, 0, 0, []),
  (13, .iload_n 2, 1, 2, 0, 0, 0, 0, []),
  (14, .sipush (200), 3, 0, 0, 0, (200), 0, []),
  (17, .if_icmp .gt (17), 3, 34, 0, 0, 0, 0, []),
  (20, .iload_n 3, 1, 3, 0, 0, 0, 0, []),
  (21, .iconst (-1), 1, 0, 0, 0, (-1), 0, []),
  (22, .if_icmp .eq (14), 3, 36, 0, 0, 0, 0, []),
  (25, .bipush (10), 2, 0, 0, 0, (10), 0, []),
  (27, .iload_n 3, 1, 3, 0, 0, 0, 0, []),
  (28, .invokestatic 109, 3, 15, 2, 1, 0, 0, []),
  (31, .ifCond .ne (5), 3, 36, 0, 0, 0, 0, [])]
set_option maxRecDepth 100000 in
theorem lX11_grew_0_ck : lX11_grew_0.all (ra_ck mX11_grew 11) = true := by decide +kernel
def nX11_grew_0 (N : Nat) (a0 : Nat) (a1 : Int32) (a2 : Int32) (a3 : Int32) (h : ra_H) : Option (Int32 × ra_H) :=
  (fX11_fits N ((2 : Int32)) a1 h).bind fun q1 =>
  if q1.1 = 0 then
    nX11_grew_34 N q1.2
  else
    if a2 < ((1 : Int32)) then
      nX11_grew_34 N q1.2
    else
      if a2 ≤ ((200 : Int32)) then
        if a3 = ((-1 : Int32)) then
          nX11_grew_36 N a0 a1 a2 a3 q1.2
        else
          (fX11_fits N ((10 : Int32)) a3 q1.2).bind fun q2 =>
          if q2.1 = 0 then
            nX11_grew_34 N q2.2
          else
            nX11_grew_36 N a0 a1 a2 a3 q2.2
      else
        nX11_grew_34 N q1.2
def kX11_grew_0 (N : Nat) : Nat → List (Option Value) → List Value → ra_H → Option (Int32 × ra_H) := (ra_k1 34 (fun L S h => match L, S with
  | [_, _, _, _, _, _, _, _], [] => nX11_grew_34 N h
  | _, _ => none) (ra_k1 36 (fun L S h => match L, S with
  | [some (.ref a0), some (.int a1), some (.int a2), some (.int a3), _, _, _, _], [] => nX11_grew_36 N a0 a1 a2 a3 h
  | _, _ => none) ra_k0))
theorem kX11_grew_0_ok (N : Nat) : ra_kok 2 mX11_grew ra_oI (kX11_grew_0 N) := (ra_k1_ok (by
  intro L S h a e
  split at e
  · exact ra_Ru.weak (nX11_grew_34_ok N _ _ e) trivial
  · cases e) (ra_k1_ok (by
  intro L S h a e
  split at e
  · exact ra_Ru.weak (nX11_grew_36_ok N _ _ _ _ _ _ e) ⟨rfl, ⟨rfl, ⟨rfl, ⟨rfl, trivial⟩⟩⟩⟩
  · cases e) ra_k0_ok))
set_option maxRecDepth 100000 in
theorem nX11_grew_0_ok (N : Nat) (a0 : Nat) (a1 : Int32) (a2 : Int32) (a3 : Int32) (h : ra_H) (r : (Int32 × ra_H)) (e : nX11_grew_0 N a0 a1 a2 a3 h = some r) : ra_Ru 2 mX11_grew 0 [some (.ref a0), some (.int a1), some (.int a2), some (.int a3), none, none, none, none] [] h (ra_oI r) :=
  ra_sound (by omega) rfl ra_rI_ok (kX11_grew_0_ok N) (fun m av h h1 e => (ra_c0_ok (ro := ra_oV)) m av h h1 e) (fun m av h x h1 e => (tIX11_grew_ok N) m av h (x, h1) e) (fun m av h x h1 e => (ra_c0_ok (ro := ra_oJ)) m av h (x, h1) e) (fun m av h x h1 e => (ra_c0_ok (ro := ra_oR)) m av h (x, h1) e) (fun m av h x h1 e => (ra_c0_ok (ro := ra_oN)) m av h (x, h1) e) (fun m av h x h1 e => (ra_c0_ok (ro := ra_oF)) m av h (x, h1) e) 18 lX11_grew_0 _ _ _ _ lX11_grew_0_ck (show ra_run ra_rI (kX11_grew_0 N) ra_c0 (tIX11_grew N) ra_c0 ra_c0 ra_c0 ra_c0 18 lX11_grew_0 [some (.ref a0), some (.int a1), some (.int a2), some (.int a3), none, none, none, none] [] h = some r from e) _ _ rfl
def fX11_grew (N : Nat) (p0 : Nat) (p1 : Int32) (p2 : Int32) (p3 : Int32) (h : ra_H) : Option (Int32 × ra_H) := match ra_isOb h p0 11 with
  | true => nX11_grew_0 N p0 p1 p2 p3 h
  | false => none
set_option maxRecDepth 100000 in
theorem mtX11_grew : ra_MT[190]? = some (mX11_grew, 1, 3, (1, 1), (6, 53), (6, 54)) := rfl
theorem fX11_grew_co (N : Nat) (p0 : Nat) (p1 : Int32) (p2 : Int32) (p3 : Int32) (h : ra_H) (r : (Int32 × ra_H)) (e : fX11_grew N p0 p1 p2 p3 h = some r) (D : Nat) (hD : 3 ≤ D) : ra_CO D 190 [.ref p0, .int p1, .int p2, .int p3] h (ra_oI r).1 (ra_oI r).2 := by
  have hw : ra_nw2 [.ref p0, .int p1, .int p2, .int p3] ≤ 8 := Nat.le_of_ble_eq_true rfl
  have hdb : ∀ v ∈ ([.ref p0, .int p1, .int p2, .int p3] : List Value), ∀ x, v ≠ .double x := by
    intro v hv x hx
    simp [hx] at hv
  unfold fX11_grew at e
  split at e
  · rename_i ho
    have e1 := e
    exact ⟨2, _, mtX11_grew, hD, ra_ev_of (by decide) hdb hw trivial (ra_Ru.weak (nX11_grew_0_ok N p0 p1 p2 p3 h _ e1) ⟨rfl, ⟨rfl, ⟨rfl, ⟨rfl, trivial⟩⟩⟩⟩), (fun _ => ⟨_, _, rfl, ra_rcv_of ho (by decide) rfl⟩), (fun h => absurd h (by decide))⟩
  · cases e
/-! RedMarks.house(IIII)I -/
def mX11_house : ra_M := (yX11_house, cX11_house, 5, (some .int))
def tIX11_house (N : Nat) : Nat → List Value → ra_H → Option (Int32 × ra_H) := (ra_c1 15 (fun av h => match av with
  | [.int z0, .int z1] => fX11_fits N z0 z1 h
  | _ => none) (ra_c1 17 (fun av h => match av with
  | [.ref z0, .int z1] => fX11_refuse N z0 z1 h
  | _ => none) (ra_c1 24 (fun av h => match av with
  | [.ref z0, .int z1] => fX11_accept N z0 z1 h
  | _ => none) ra_c0)))
theorem tIX11_house_ok (N : Nat) : ra_cok 2 ra_oI (tIX11_house N) := (ra_c1_ok (by
  intro av h a e
  split at e
  · exact fX11_fits_co N _ _ _ _ e 2 (by omega)
  · cases e) (ra_c1_ok (by
  intro av h a e
  split at e
  · exact fX11_refuse_co N _ _ _ _ e 2 (by omega)
  · cases e) (ra_c1_ok (by
  intro av h a e
  split at e
  · exact fX11_accept_co N _ _ _ _ e 2 (by omega)
  · cases e) ra_c0_ok)))
def lX11_house_42 : List ra_I := [(42, .aload_n 0, 1, 0, 0, 0, 0, 0, []),
  (43, .iconst (-1), 1, 0, 0, 0, (-1), 0, []),
  (44, .invokevirtual 95, 3, 17, 2, 1, 0, 0, []),
  (47, .ireturn, 1, 0, 0, 0, 0, 0, [])]
set_option maxRecDepth 100000 in
theorem lX11_house_42_ck : lX11_house_42.all (ra_ck mX11_house 11) = true := by decide +kernel
def nX11_house_42 (N : Nat) (a0 : Nat) (h : ra_H) : Option (Int32 × ra_H) :=
  (fX11_refuse N a0 ((-1 : Int32)) h).bind fun q1 =>
  some (q1.1, q1.2)
def kX11_house_42 (N : Nat) : Nat → List (Option Value) → List Value → ra_H → Option (Int32 × ra_H) := ra_k0
theorem kX11_house_42_ok (N : Nat) : ra_kok 2 mX11_house ra_oI (kX11_house_42 N) := ra_k0_ok
set_option maxRecDepth 100000 in
theorem nX11_house_42_ok (N : Nat) (a0 : Nat) (h : ra_H) (r : (Int32 × ra_H)) (e : nX11_house_42 N a0 h = some r) : ra_Ru 2 mX11_house 42 [some (.ref a0), none, none, none, none] [] h (ra_oI r) :=
  ra_sound (by omega) rfl ra_rI_ok (kX11_house_42_ok N) (fun m av h h1 e => (ra_c0_ok (ro := ra_oV)) m av h h1 e) (fun m av h x h1 e => (tIX11_house_ok N) m av h (x, h1) e) (fun m av h x h1 e => (ra_c0_ok (ro := ra_oJ)) m av h (x, h1) e) (fun m av h x h1 e => (ra_c0_ok (ro := ra_oR)) m av h (x, h1) e) (fun m av h x h1 e => (ra_c0_ok (ro := ra_oN)) m av h (x, h1) e) (fun m av h x h1 e => (ra_c0_ok (ro := ra_oF)) m av h (x, h1) e) 5 lX11_house_42 _ _ _ _ lX11_house_42_ck (show ra_run ra_rI (kX11_house_42 N) ra_c0 (tIX11_house N) ra_c0 ra_c0 ra_c0 ra_c0 5 lX11_house_42 [some (.ref a0), none, none, none, none] [] h = some r from e) _ _ rfl
def lX11_house_0 : List ra_I := [(0, .bipush (11), 2, 0, 0, 0, (11), 0, []),
  (2, .iload_n 1, 1, 1, 0, 0, 0, 0, []),
  (3, .invokestatic 109, 3, 15, 2, 1, 0, 0, []),
  (6, .ifCond .eq (36), 3, 42, 0, 0, 0, 0, []),
  (9, .iload_n 2, 1, 2, 0, 0, 0, 0, []),
  (10, .ifCond .lt (32), 3, 42, 0, 0, 0, 0, []),
  (13, .iload_n 2, 1, 2, 0, 0, 0, 0, []),
  (14, .sipush (5000), 3, 0, 0, 0, (5000), 0, []),
  (17, .if_icmp .gt (25), 3, 42, 0, 0, 0, 0, []),
  (20, .iload_n 3, 1, 3, 0, 0, 0, 0, []),
  (21, .ifCond .lt (21), 3, 42, 0, 0, 0, 0, []),
  (24, .iload_n 3, 1, 3, 0, 0, 0, 0, []),
  (25, .iload_n 2, 1, 2, 0, 0, 0, 0, []),
  (26, .if_icmp .gt (16), 3, 42, 0, 0, 0, 0, []),
  (29, .iload 4, 2, 4, 0, 0, 0, 0, []),
  (31, .iconst (1), 1, 0, 0, 0, (1), 0, []),
  (32, .if_icmp .lt (10), 3, 42, 0, 0, 0, 0, []),
  (35, .iload 4, 2, 4, 0, 0, 0, 0, []),
  (37, .bipush (100), 2, 0, 0, 0, (100), 0, []),
  (39, .if_icmp .le (9), 3, 48, 0, 0, 0, 0, []),
  (48, .aload_n 0, 1, 0, 0, 0, 0, 0, []),
  (49, .getfield 10, 3, 11, 0, 2, 0, 0, []),
  (52, .getfield 347, 3, 2, 10, 2, 0, 0, []),
  (55, .iload_n 1, 1, 1, 0, 0, 0, 0, []),
  (56, .iload_n 2, 1, 2, 0, 0, 0, 0, []),
  (57, .iastore, 1, 0, 0, 0, 0, 0, []),
  (58, .aload_n 0, 1, 0, 0, 0, 0, 0, []),
  (59, .getfield 10, 3, 11, 0, 2, 0, 0, []),
  (62, .getfield 350, 3, 2, 11, 2, 0, 0, []),
  (65, .iload_n 1, 1, 1, 0, 0, 0, 0, []),
  (66, .iload_n 3, 1, 3, 0, 0, 0, 0, []),
  (67, .iastore, 1, 0, 0, 0, 0, 0, []),
  (68, .aload_n 0, 1, 0, 0, 0, 0, 0, []),
  (69, .getfield 10, 3, 11, 0, 2, 0, 0, []),
  (72, .getfield 353, 3, 2, 12, 2, 0, 0, []),
  (75, .iload_n 1, 1, 1, 0, 0, 0, 0, []),
  (76, .iload 4, 2, 4, 0, 0, 0, 0, []),
  (78, .iastore, 1, 0, 0, 0, 0, 0, []),
  (79, .aload_n 0, 1, 0, 0, 0, 0, 0, []),
  (80, .iconst (0), 1, 0, 0, 0, (0), 0, []),
  (81, .invokevirtual 106, 3, 24, 2, 1, 0, 0, []),
  (84, .ireturn, 1, 0, 0, 0, 0, 0, [])]
set_option maxRecDepth 100000 in
theorem lX11_house_0_ck : lX11_house_0.all (ra_ck mX11_house 11) = true := by decide +kernel
def nX11_house_0 (N : Nat) (a0 : Nat) (a1 : Int32) (a2 : Int32) (a3 : Int32) (a4 : Int32) (h : ra_H) : Option (Int32 × ra_H) :=
  (fX11_fits N ((11 : Int32)) a1 h).bind fun q1 =>
  if q1.1 = 0 then
    nX11_house_42 N a0 q1.2
  else
    if a2 < 0 then
      nX11_house_42 N a0 q1.2
    else
      if a2 ≤ ((5000 : Int32)) then
        if a3 < 0 then
          nX11_house_42 N a0 q1.2
        else
          if a3 ≤ a2 then
            if a4 < ((1 : Int32)) then
              nX11_house_42 N a0 q1.2
            else
              if a4 ≤ ((100 : Int32)) then
                (ra_fR q1.2 11 a0 0).bind fun x2 =>
                (ra_fR q1.2 2 x2 10).bind fun x3 =>
                (ra_aW q1.2 0 x3 a1 a2).bind fun h4 =>
                (ra_fR h4 11 a0 0).bind fun x5 =>
                (ra_fR h4 2 x5 11).bind fun x6 =>
                (ra_aW h4 0 x6 a1 a3).bind fun h7 =>
                (ra_fR h7 11 a0 0).bind fun x8 =>
                (ra_fR h7 2 x8 12).bind fun x9 =>
                (ra_aW h7 0 x9 a1 a4).bind fun h10 =>
                (fX11_accept N a0 ((0 : Int32)) h10).bind fun q11 =>
                some (q11.1, q11.2)
              else
                nX11_house_42 N a0 q1.2
          else
            nX11_house_42 N a0 q1.2
      else
        nX11_house_42 N a0 q1.2
def kX11_house_0 (N : Nat) : Nat → List (Option Value) → List Value → ra_H → Option (Int32 × ra_H) := (ra_k1 42 (fun L S h => match L, S with
  | [some (.ref a0), _, _, _, _], [] => nX11_house_42 N a0 h
  | _, _ => none) ra_k0)
theorem kX11_house_0_ok (N : Nat) : ra_kok 2 mX11_house ra_oI (kX11_house_0 N) := (ra_k1_ok (by
  intro L S h a e
  split at e
  · exact ra_Ru.weak (nX11_house_42_ok N _ _ _ e) ⟨rfl, trivial⟩
  · cases e) ra_k0_ok)
set_option maxRecDepth 100000 in
theorem nX11_house_0_ok (N : Nat) (a0 : Nat) (a1 : Int32) (a2 : Int32) (a3 : Int32) (a4 : Int32) (h : ra_H) (r : (Int32 × ra_H)) (e : nX11_house_0 N a0 a1 a2 a3 a4 h = some r) : ra_Ru 2 mX11_house 0 [some (.ref a0), some (.int a1), some (.int a2), some (.int a3), some (.int a4)] [] h (ra_oI r) :=
  ra_sound (by omega) rfl ra_rI_ok (kX11_house_0_ok N) (fun m av h h1 e => (ra_c0_ok (ro := ra_oV)) m av h h1 e) (fun m av h x h1 e => (tIX11_house_ok N) m av h (x, h1) e) (fun m av h x h1 e => (ra_c0_ok (ro := ra_oJ)) m av h (x, h1) e) (fun m av h x h1 e => (ra_c0_ok (ro := ra_oR)) m av h (x, h1) e) (fun m av h x h1 e => (ra_c0_ok (ro := ra_oN)) m av h (x, h1) e) (fun m av h x h1 e => (ra_c0_ok (ro := ra_oF)) m av h (x, h1) e) 43 lX11_house_0 _ _ _ _ lX11_house_0_ck (show ra_run ra_rI (kX11_house_0 N) ra_c0 (tIX11_house N) ra_c0 ra_c0 ra_c0 ra_c0 43 lX11_house_0 [some (.ref a0), some (.int a1), some (.int a2), some (.int a3), some (.int a4)] [] h = some r from e) _ _ rfl
def fX11_house (N : Nat) (p0 : Nat) (p1 : Int32) (p2 : Int32) (p3 : Int32) (p4 : Int32) (h : ra_H) : Option (Int32 × ra_H) := match ra_isOb h p0 11 with
  | true => nX11_house_0 N p0 p1 p2 p3 p4 h
  | false => none
set_option maxRecDepth 100000 in
theorem mtX11_house : ra_MT[184]? = some (mX11_house, 1, 4, (1, 1), (6, 29), (6, 30)) := rfl
theorem fX11_house_co (N : Nat) (p0 : Nat) (p1 : Int32) (p2 : Int32) (p3 : Int32) (p4 : Int32) (h : ra_H) (r : (Int32 × ra_H)) (e : fX11_house N p0 p1 p2 p3 p4 h = some r) (D : Nat) (hD : 3 ≤ D) : ra_CO D 184 [.ref p0, .int p1, .int p2, .int p3, .int p4] h (ra_oI r).1 (ra_oI r).2 := by
  have hw : ra_nw2 [.ref p0, .int p1, .int p2, .int p3, .int p4] ≤ 5 := Nat.le_of_ble_eq_true rfl
  have hdb : ∀ v ∈ ([.ref p0, .int p1, .int p2, .int p3, .int p4] : List Value), ∀ x, v ≠ .double x := by
    intro v hv x hx
    simp [hx] at hv
  unfold fX11_house at e
  split at e
  · rename_i ho
    have e1 := e
    exact ⟨2, _, mtX11_house, hD, ra_ev_of (by decide) hdb hw trivial (ra_Ru.weak (nX11_house_0_ok N p0 p1 p2 p3 p4 h _ e1) ⟨rfl, ⟨rfl, ⟨rfl, ⟨rfl, ⟨rfl, trivial⟩⟩⟩⟩⟩), (fun _ => ⟨_, _, rfl, ra_rcv_of ho (by decide) rfl⟩), (fun h => absurd h (by decide))⟩
  · cases e
/-! RedMarks.how(I)I -/
def mX11_how : ra_M := (yX11_how, cX11_how, 2, (some .int))
def tIX11_how (N : Nat) : Nat → List Value → ra_H → Option (Int32 × ra_H) := (ra_c1 26 (fun av h => match av with
  | [.ref z0, .int z1] => fX2_hasBook N z0 z1 h
  | _ => none) (ra_c1 105 (fun av h => match av with
  | [.ref z0] => fX1_settleKept N z0 h
  | _ => none) ra_c0))
theorem tIX11_how_ok (N : Nat) : ra_cok 7 ra_oI (tIX11_how N) := (ra_c1_ok (by
  intro av h a e
  split at e
  · exact fX2_hasBook_co N _ _ _ _ e 7 (by omega)
  · cases e) (ra_c1_ok (by
  intro av h a e
  split at e
  · exact fX1_settleKept_co N _ _ _ e 7 (by omega)
  · cases e) ra_c0_ok))
def lX11_how_21 : List ra_I := [(21, .iconst (-1), 1, 0, 0, 0, (-1), 0, []),
  (22, .ireturn, 1, 0, 0, 0, 0, 0, [])]
set_option maxRecDepth 100000 in
theorem lX11_how_21_ck : lX11_how_21.all (ra_ck mX11_how 11) = true := by decide +kernel
def nX11_how_21 (N : Nat) (h : ra_H) : Option (Int32 × ra_H) :=
  some ((-1 : Int32), h)
def kX11_how_21 (N : Nat) : Nat → List (Option Value) → List Value → ra_H → Option (Int32 × ra_H) := ra_k0
theorem kX11_how_21_ok (N : Nat) : ra_kok 7 mX11_how ra_oI (kX11_how_21 N) := ra_k0_ok
set_option maxRecDepth 100000 in
theorem nX11_how_21_ok (N : Nat) (h : ra_H) (r : (Int32 × ra_H)) (e : nX11_how_21 N h = some r) : ra_Ru 7 mX11_how 21 [none, none] [] h (ra_oI r) :=
  ra_sound (by omega) rfl ra_rI_ok (kX11_how_21_ok N) (fun m av h h1 e => (ra_c0_ok (ro := ra_oV)) m av h h1 e) (fun m av h x h1 e => (tIX11_how_ok N) m av h (x, h1) e) (fun m av h x h1 e => (ra_c0_ok (ro := ra_oJ)) m av h (x, h1) e) (fun m av h x h1 e => (ra_c0_ok (ro := ra_oR)) m av h (x, h1) e) (fun m av h x h1 e => (ra_c0_ok (ro := ra_oN)) m av h (x, h1) e) (fun m av h x h1 e => (ra_c0_ok (ro := ra_oF)) m av h (x, h1) e) 3 lX11_how_21 _ _ _ _ lX11_how_21_ck (show ra_run ra_rI (kX11_how_21 N) ra_c0 (tIX11_how N) ra_c0 ra_c0 ra_c0 ra_c0 3 lX11_how_21 [none, none] [] h = some r from e) _ _ rfl
def lX11_how_0 : List ra_I := [(0, .aload_n 0, 1, 0, 0, 0, 0, 0, []),
  (1, .getfield 10, 3, 11, 0, 2, 0, 0, []),
  (4, .iload_n 1, 1, 1, 0, 0, 0, 0, []),
  (5, .invokevirtual 112, 3, 26, 2, 1, 0, 0, []),
  (8, .ifCond .eq (13), 3, 21, 0, 0, 0, 0, []),
  (11, .aload_n 0, 1, 0, 0, 0, 0, 0, []),
  (12, .getfield 39, 3, 11, 4, 2, 0, 0, []),
  (15, .invokevirtual 204, 3, 105, 1, 1, 0, 0, []),
  (18, .ifCond .ne (5), 3, 23, 0, 0, 0, 0, []),
  (23, .aload_n 0, 1, 0, 0, 0, 0, 0, []),
  (24, .getfield 39, 3, 11, 4, 2, 0, 0, []),
  (27, .getfield 45, 3, 1, 11, 2, 0, 0, []),
  (30, .getfield 213, 3, 7, 0, 2, 0, 0, []),
  (33, .iload_n 1, 1, 1, 0, 0, 0, 0, []),
  (34, .iaload, 1, 0, 0, 0, 0, 0, []),
  (35, .ireturn, 1, 0, 0, 0, 0, 0, [])]
set_option maxRecDepth 100000 in
theorem lX11_how_0_ck : lX11_how_0.all (ra_ck mX11_how 11) = true := by decide +kernel
def nX11_how_0 (N : Nat) (a0 : Nat) (a1 : Int32) (h : ra_H) : Option (Int32 × ra_H) :=
  (ra_fR h 11 a0 0).bind fun x1 =>
  (fX2_hasBook N x1 a1 h).bind fun q2 =>
  if q2.1 = 0 then
    nX11_how_21 N q2.2
  else
    (ra_fR q2.2 11 a0 4).bind fun x3 =>
    (fX1_settleKept N x3 q2.2).bind fun q4 =>
    if q4.1 = 0 then
      nX11_how_21 N q4.2
    else
      (ra_fR q4.2 11 a0 4).bind fun x5 =>
      (ra_fR q4.2 1 x5 11).bind fun x6 =>
      (ra_fR q4.2 7 x6 0).bind fun x7 =>
      (ra_aI q4.2 0 x7 a1).bind fun x8 =>
      some (x8, q4.2)
def kX11_how_0 (N : Nat) : Nat → List (Option Value) → List Value → ra_H → Option (Int32 × ra_H) := (ra_k1 21 (fun L S h => match L, S with
  | [_, _], [] => nX11_how_21 N h
  | _, _ => none) ra_k0)
theorem kX11_how_0_ok (N : Nat) : ra_kok 7 mX11_how ra_oI (kX11_how_0 N) := (ra_k1_ok (by
  intro L S h a e
  split at e
  · exact ra_Ru.weak (nX11_how_21_ok N _ _ e) trivial
  · cases e) ra_k0_ok)
set_option maxRecDepth 100000 in
theorem nX11_how_0_ok (N : Nat) (a0 : Nat) (a1 : Int32) (h : ra_H) (r : (Int32 × ra_H)) (e : nX11_how_0 N a0 a1 h = some r) : ra_Ru 7 mX11_how 0 [some (.ref a0), some (.int a1)] [] h (ra_oI r) :=
  ra_sound (by omega) rfl ra_rI_ok (kX11_how_0_ok N) (fun m av h h1 e => (ra_c0_ok (ro := ra_oV)) m av h h1 e) (fun m av h x h1 e => (tIX11_how_ok N) m av h (x, h1) e) (fun m av h x h1 e => (ra_c0_ok (ro := ra_oJ)) m av h (x, h1) e) (fun m av h x h1 e => (ra_c0_ok (ro := ra_oR)) m av h (x, h1) e) (fun m av h x h1 e => (ra_c0_ok (ro := ra_oN)) m av h (x, h1) e) (fun m av h x h1 e => (ra_c0_ok (ro := ra_oF)) m av h (x, h1) e) 17 lX11_how_0 _ _ _ _ lX11_how_0_ck (show ra_run ra_rI (kX11_how_0 N) ra_c0 (tIX11_how N) ra_c0 ra_c0 ra_c0 ra_c0 17 lX11_how_0 [some (.ref a0), some (.int a1)] [] h = some r from e) _ _ rfl
def fX11_how (N : Nat) (p0 : Nat) (p1 : Int32) (h : ra_H) : Option (Int32 × ra_H) := match ra_isOb h p0 11 with
  | true => nX11_how_0 N p0 p1 h
  | false => none
set_option maxRecDepth 100000 in
theorem mtX11_how : ra_MT[106]? = some (mX11_how, 1, 1, (1, 1), (4, 177), (4, 178)) := rfl
theorem fX11_how_co (N : Nat) (p0 : Nat) (p1 : Int32) (h : ra_H) (r : (Int32 × ra_H)) (e : fX11_how N p0 p1 h = some r) (D : Nat) (hD : 8 ≤ D) : ra_CO D 106 [.ref p0, .int p1] h (ra_oI r).1 (ra_oI r).2 := by
  have hw : ra_nw2 [.ref p0, .int p1] ≤ 2 := Nat.le_of_ble_eq_true rfl
  have hdb : ∀ v ∈ ([.ref p0, .int p1] : List Value), ∀ x, v ≠ .double x := by
    intro v hv x hx
    simp [hx] at hv
  unfold fX11_how at e
  split at e
  · rename_i ho
    have e1 := e
    exact ⟨7, _, mtX11_how, hD, ra_ev_of (by decide) hdb hw trivial (ra_Ru.weak (nX11_how_0_ok N p0 p1 h _ e1) ⟨rfl, ⟨rfl, trivial⟩⟩), (fun _ => ⟨_, _, rfl, ra_rcv_of ho (by decide) rfl⟩), (fun h => absurd h (by decide))⟩
  · cases e
/-! RedMarks.image(I)I -/
def mX11_image : ra_M := (yX11_image, cX11_image, 2, (some .int))
def tVX11_image (N : Nat) : Nat → List Value → ra_H → Option ra_H := (ra_c1 2 (fun av h => match av with
  | [.ref z0] => fX2_init N z0 h
  | _ => none) (ra_c1 200 (fun av h => match av with
  | [.ref z0, .ref z1] => fX2_takeOver N z0 z1 h
  | _ => none) ra_c0))
theorem tVX11_image_ok (N : Nat) : ra_cok 3 ra_oV (tVX11_image N) := (ra_c1_ok (by
  intro av h a e
  split at e
  · exact fX2_init_co N _ _ _ e 3 (by omega)
  · cases e) (ra_c1_ok (by
  intro av h a e
  split at e
  · exact fX2_takeOver_co N _ _ _ _ e 3 (by omega)
  · cases e) ra_c0_ok))
def tIX11_image (N : Nat) : Nat → List Value → ra_H → Option (Int32 × ra_H) := (ra_c1 17 (fun av h => match av with
  | [.ref z0, .int z1] => fX11_refuse N z0 z1 h
  | _ => none) (ra_c1 24 (fun av h => match av with
  | [.ref z0, .int z1] => fX11_accept N z0 z1 h
  | _ => none) ra_c0))
theorem tIX11_image_ok (N : Nat) : ra_cok 3 ra_oI (tIX11_image N) := (ra_c1_ok (by
  intro av h a e
  split at e
  · exact fX11_refuse_co N _ _ _ _ e 3 (by omega)
  · cases e) (ra_c1_ok (by
  intro av h a e
  split at e
  · exact fX11_accept_co N _ _ _ _ e 3 (by omega)
  · cases e) ra_c0_ok))
def lX11_image_9 : List ra_I := [(9, .aload_n 0, 1, 0, 0, 0, 0, 0, []),
  (10, .iconst (-1), 1, 0, 0, 0, (-1), 0, []),
  (11, .invokevirtual 95, 3, 17, 2, 1, 0, 0, []),
  (14, .ireturn, 1, 0, 0, 0, 0, 0, [])]
set_option maxRecDepth 100000 in
theorem lX11_image_9_ck : lX11_image_9.all (ra_ck mX11_image 11) = true := by decide +kernel
def nX11_image_9 (N : Nat) (a0 : Nat) (h : ra_H) : Option (Int32 × ra_H) :=
  (fX11_refuse N a0 ((-1 : Int32)) h).bind fun q1 =>
  some (q1.1, q1.2)
def kX11_image_9 (N : Nat) : Nat → List (Option Value) → List Value → ra_H → Option (Int32 × ra_H) := ra_k0
theorem kX11_image_9_ok (N : Nat) : ra_kok 3 mX11_image ra_oI (kX11_image_9 N) := ra_k0_ok
set_option maxRecDepth 100000 in
theorem nX11_image_9_ok (N : Nat) (a0 : Nat) (h : ra_H) (r : (Int32 × ra_H)) (e : nX11_image_9 N a0 h = some r) : ra_Ru 3 mX11_image 9 [some (.ref a0), none] [] h (ra_oI r) :=
  ra_sound (by omega) rfl ra_rI_ok (kX11_image_9_ok N) (fun m av h h1 e => (tVX11_image_ok N) m av h h1 e) (fun m av h x h1 e => (tIX11_image_ok N) m av h (x, h1) e) (fun m av h x h1 e => (ra_c0_ok (ro := ra_oJ)) m av h (x, h1) e) (fun m av h x h1 e => (ra_c0_ok (ro := ra_oR)) m av h (x, h1) e) (fun m av h x h1 e => (ra_c0_ok (ro := ra_oN)) m av h (x, h1) e) (fun m av h x h1 e => (ra_c0_ok (ro := ra_oF)) m av h (x, h1) e) 5 lX11_image_9 _ _ _ _ lX11_image_9_ck (show ra_run ra_rI (kX11_image_9 N) (tVX11_image N) (tIX11_image N) ra_c0 ra_c0 ra_c0 ra_c0 5 lX11_image_9 [some (.ref a0), none] [] h = some r from e) _ _ rfl
def lX11_image_37 : List ra_I := [(37, .aload_n 0, 1, 0, 0, 0, 0, 0, []),
  (38, .getfield 16, 3, 11, 1, 2, 0, 0, []),
  (41, .iload_n 1, 1, 1, 0, 0, 0, 0, []),
  (42, .aaload, 1, 0, 0, 0, 0, 0, []),
  (43, .aload_n 0, 1, 0, 0, 0, 0, 0, []),
  (44, .getfield 10, 3, 11, 0, 2, 0, 0, []),
  (47, .invokevirtual 381, 3, 200, 2, 0, 0, 0, []),
  (50, .aload_n 0, 1, 0, 0, 0, 0, 0, []),
  (51, .iconst (0), 1, 0, 0, 0, (0), 0, []),
  (52, .invokevirtual 106, 3, 24, 2, 1, 0, 0, []),
  (55, .ireturn, 1, 0, 0, 0, 0, 0, [])]
set_option maxRecDepth 100000 in
theorem lX11_image_37_ck : lX11_image_37.all (ra_ck mX11_image 11) = true := by decide +kernel
def nX11_image_37 (N : Nat) (a0 : Nat) (a1 : Int32) (h : ra_H) : Option (Int32 × ra_H) :=
  (ra_fR h 11 a0 1).bind fun x1 =>
  (ra_aN h x1 a1).bind fun r2 => match r2 with
  | none =>
    (ra_fR h 11 a0 0).bind fun x4 =>
    none
  | some x3 =>
    (ra_fR h 11 a0 0).bind fun x5 =>
    (fX2_takeOver N x3 x5 h).bind fun h6 =>
    (fX11_accept N a0 ((0 : Int32)) h6).bind fun q7 =>
    some (q7.1, q7.2)
def kX11_image_37 (N : Nat) : Nat → List (Option Value) → List Value → ra_H → Option (Int32 × ra_H) := ra_k0
theorem kX11_image_37_ok (N : Nat) : ra_kok 3 mX11_image ra_oI (kX11_image_37 N) := ra_k0_ok
set_option maxRecDepth 100000 in
theorem nX11_image_37_ok (N : Nat) (a0 : Nat) (a1 : Int32) (h : ra_H) (r : (Int32 × ra_H)) (e : nX11_image_37 N a0 a1 h = some r) : ra_Ru 3 mX11_image 37 [some (.ref a0), some (.int a1)] [] h (ra_oI r) :=
  ra_sound (by omega) rfl ra_rI_ok (kX11_image_37_ok N) (fun m av h h1 e => (tVX11_image_ok N) m av h h1 e) (fun m av h x h1 e => (tIX11_image_ok N) m av h (x, h1) e) (fun m av h x h1 e => (ra_c0_ok (ro := ra_oJ)) m av h (x, h1) e) (fun m av h x h1 e => (ra_c0_ok (ro := ra_oR)) m av h (x, h1) e) (fun m av h x h1 e => (ra_c0_ok (ro := ra_oN)) m av h (x, h1) e) (fun m av h x h1 e => (ra_c0_ok (ro := ra_oF)) m av h (x, h1) e) 12 lX11_image_37 _ _ _ _ lX11_image_37_ck (show ra_run ra_rI (kX11_image_37 N) (tVX11_image N) (tIX11_image N) ra_c0 ra_c0 ra_c0 ra_c0 12 lX11_image_37 [some (.ref a0), some (.int a1)] [] h = some r from e) _ _ rfl
def lX11_image_0 : List ra_I := [(0, .iload_n 1, 1, 1, 0, 0, 0, 0, []),
  (1, .ifCond .lt (8), 3, 9, 0, 0, 0, 0, []),
  (4, .iload_n 1, 1, 1, 0, 0, 0, 0, []),
  (5, .iconst (2), 1, 0, 0, 0, (2), 0, []),
  (6, .if_icmp .lt (9), 3, 15, 0, 0, 0, 0, []),
  (15, .aload_n 0, 1, 0, 0, 0, 0, 0, []),
  (16, .getfield 16, 3, 11, 1, 2, 0, 0, []),
  (19, .iload_n 1, 1, 1, 0, 0, 0, 0, []),
  (20, .aaload, 1, 0, 0, 0, 0, 0, []),
  (21, .ifnonnull (16), 3, 37, 0, 0, 0, 0, []),
  (24, .aload_n 0, 1, 0, 0, 0, 0, 0, []),
  (25, .getfield 16, 3, 11, 1, 2, 0, 0, []),
  (28, .iload_n 1, 1, 1, 0, 0, 0, 0, []),
  (29, .new 7, 3, 2, 20, 0, 0, 0, []),
  (32, .dup, 1, 0, 0, 0, 0, 0, []),
  (33, .invokespecial 9, 3, 2, 1, 0, 0, 0, []),
  (36, .aastore, 1, 0, 0, 0, 0, 0, [])]
set_option maxRecDepth 100000 in
theorem lX11_image_0_ck : lX11_image_0.all (ra_ck mX11_image 11) = true := by decide +kernel
def nX11_image_0 (N : Nat) (a0 : Nat) (a1 : Int32) (h : ra_H) : Option (Int32 × ra_H) :=
  if a1 < 0 then
    nX11_image_9 N a0 h
  else
    if a1 < ((2 : Int32)) then
      (ra_fR h 11 a0 1).bind fun x1 =>
      (ra_aN h x1 a1).bind fun r2 => match r2 with
      | none =>
        (ra_fR h 11 a0 1).bind fun x4 =>
        let h5 := ra_mk h (.inr (2, ra_df 2)) 20
        (fX2_init N h.2.1 h5).bind fun h6 =>
        (ra_aWR h6 x4 a1 h.2.1).bind fun h7 =>
        nX11_image_37 N a0 a1 h7
      | some x3 =>
        nX11_image_37 N a0 a1 h
    else
      nX11_image_9 N a0 h
def kX11_image_0 (N : Nat) : Nat → List (Option Value) → List Value → ra_H → Option (Int32 × ra_H) := (ra_k1 9 (fun L S h => match L, S with
  | [some (.ref a0), _], [] => nX11_image_9 N a0 h
  | _, _ => none) (ra_k1 37 (fun L S h => match L, S with
  | [some (.ref a0), some (.int a1)], [] => nX11_image_37 N a0 a1 h
  | _, _ => none) ra_k0))
theorem kX11_image_0_ok (N : Nat) : ra_kok 3 mX11_image ra_oI (kX11_image_0 N) := (ra_k1_ok (by
  intro L S h a e
  split at e
  · exact ra_Ru.weak (nX11_image_9_ok N _ _ _ e) ⟨rfl, trivial⟩
  · cases e) (ra_k1_ok (by
  intro L S h a e
  split at e
  · exact ra_Ru.weak (nX11_image_37_ok N _ _ _ _ e) ⟨rfl, ⟨rfl, trivial⟩⟩
  · cases e) ra_k0_ok))
set_option maxRecDepth 100000 in
theorem nX11_image_0_ok (N : Nat) (a0 : Nat) (a1 : Int32) (h : ra_H) (r : (Int32 × ra_H)) (e : nX11_image_0 N a0 a1 h = some r) : ra_Ru 3 mX11_image 0 [some (.ref a0), some (.int a1)] [] h (ra_oI r) :=
  ra_sound (by omega) rfl ra_rI_ok (kX11_image_0_ok N) (fun m av h h1 e => (tVX11_image_ok N) m av h h1 e) (fun m av h x h1 e => (tIX11_image_ok N) m av h (x, h1) e) (fun m av h x h1 e => (ra_c0_ok (ro := ra_oJ)) m av h (x, h1) e) (fun m av h x h1 e => (ra_c0_ok (ro := ra_oR)) m av h (x, h1) e) (fun m av h x h1 e => (ra_c0_ok (ro := ra_oN)) m av h (x, h1) e) (fun m av h x h1 e => (ra_c0_ok (ro := ra_oF)) m av h (x, h1) e) 18 lX11_image_0 _ _ _ _ lX11_image_0_ck (show ra_run ra_rI (kX11_image_0 N) (tVX11_image N) (tIX11_image N) ra_c0 ra_c0 ra_c0 ra_c0 18 lX11_image_0 [some (.ref a0), some (.int a1)] [] h = some r from e) _ _ rfl
def fX11_image (N : Nat) (p0 : Nat) (p1 : Int32) (h : ra_H) : Option (Int32 × ra_H) := match ra_isOb h p0 11 with
  | true => nX11_image_0 N p0 p1 h
  | false => none
set_option maxRecDepth 100000 in
theorem mtX11_image : ra_MT[199]? = some (mX11_image, 1, 1, (1, 1), (6, 91), (6, 92)) := rfl
theorem fX11_image_co (N : Nat) (p0 : Nat) (p1 : Int32) (h : ra_H) (r : (Int32 × ra_H)) (e : fX11_image N p0 p1 h = some r) (D : Nat) (hD : 4 ≤ D) : ra_CO D 199 [.ref p0, .int p1] h (ra_oI r).1 (ra_oI r).2 := by
  have hw : ra_nw2 [.ref p0, .int p1] ≤ 2 := Nat.le_of_ble_eq_true rfl
  have hdb : ∀ v ∈ ([.ref p0, .int p1] : List Value), ∀ x, v ≠ .double x := by
    intro v hv x hx
    simp [hx] at hv
  unfold fX11_image at e
  split at e
  · rename_i ho
    have e1 := e
    exact ⟨3, _, mtX11_image, hD, ra_ev_of (by decide) hdb hw trivial (ra_Ru.weak (nX11_image_0_ok N p0 p1 h _ e1) ⟨rfl, ⟨rfl, trivial⟩⟩), (fun _ => ⟨_, _, rfl, ra_rcv_of ho (by decide) rfl⟩), (fun h => absurd h (by decide))⟩
  · cases e
/-! RedMarks.isTurn(I)Z -/
def mX11_isTurn : ra_M := (yX11_isTurn, cX11_isTurn, 1, (some .boolean))
def lX11_isTurn_16 : List ra_I := [(16, .ireturn, 1, 0, 0, 0, 0, 0, [])]
set_option maxRecDepth 100000 in
theorem lX11_isTurn_16_ck : lX11_isTurn_16.all (ra_ck mX11_isTurn 11) = true := by decide +kernel
def nX11_isTurn_16 (N : Nat) (b0 : Int32) (h : ra_H) : Option (Int32 × ra_H) :=
  some (b0, h)
def kX11_isTurn_16 (N : Nat) : Nat → List (Option Value) → List Value → ra_H → Option (Int32 × ra_H) := ra_k0
theorem kX11_isTurn_16_ok (N : Nat) : ra_kok 1 mX11_isTurn ra_oI (kX11_isTurn_16 N) := ra_k0_ok
set_option maxRecDepth 100000 in
theorem nX11_isTurn_16_ok (N : Nat) (b0 : Int32) (h : ra_H) (r : (Int32 × ra_H)) (e : nX11_isTurn_16 N b0 h = some r) : ra_Ru 1 mX11_isTurn 16 [none] [.int b0] h (ra_oI r) :=
  ra_sound (by omega) rfl ra_rI_ok (kX11_isTurn_16_ok N) (fun m av h h1 e => (ra_c0_ok (ro := ra_oV)) m av h h1 e) (fun m av h x h1 e => (ra_c0_ok (ro := ra_oI)) m av h (x, h1) e) (fun m av h x h1 e => (ra_c0_ok (ro := ra_oJ)) m av h (x, h1) e) (fun m av h x h1 e => (ra_c0_ok (ro := ra_oR)) m av h (x, h1) e) (fun m av h x h1 e => (ra_c0_ok (ro := ra_oN)) m av h (x, h1) e) (fun m av h x h1 e => (ra_c0_ok (ro := ra_oF)) m av h (x, h1) e) 2 lX11_isTurn_16 _ _ _ _ lX11_isTurn_16_ck (show ra_run ra_rI (kX11_isTurn_16 N) ra_c0 ra_c0 ra_c0 ra_c0 ra_c0 ra_c0 2 lX11_isTurn_16 [none] [.int b0] h = some r from e) _ _ rfl
def lX11_isTurn_15 : List ra_I := [(15, .iconst (0), 1, 0, 0, 0, (0), 0, [])]
set_option maxRecDepth 100000 in
theorem lX11_isTurn_15_ck : lX11_isTurn_15.all (ra_ck mX11_isTurn 11) = true := by decide +kernel
def nX11_isTurn_15 (N : Nat) (h : ra_H) : Option (Int32 × ra_H) :=
  nX11_isTurn_16 N ((0 : Int32)) h
def kX11_isTurn_15 (N : Nat) : Nat → List (Option Value) → List Value → ra_H → Option (Int32 × ra_H) := (ra_k1 16 (fun L S h => match L, S with
  | [_], [.int b0] => nX11_isTurn_16 N b0 h
  | _, _ => none) ra_k0)
theorem kX11_isTurn_15_ok (N : Nat) : ra_kok 1 mX11_isTurn ra_oI (kX11_isTurn_15 N) := (ra_k1_ok (by
  intro L S h a e
  split at e
  · exact ra_Ru.weak (nX11_isTurn_16_ok N _ _ _ e) trivial
  · cases e) ra_k0_ok)
set_option maxRecDepth 100000 in
theorem nX11_isTurn_15_ok (N : Nat) (h : ra_H) (r : (Int32 × ra_H)) (e : nX11_isTurn_15 N h = some r) : ra_Ru 1 mX11_isTurn 15 [none] [] h (ra_oI r) :=
  ra_sound (by omega) rfl ra_rI_ok (kX11_isTurn_15_ok N) (fun m av h h1 e => (ra_c0_ok (ro := ra_oV)) m av h h1 e) (fun m av h x h1 e => (ra_c0_ok (ro := ra_oI)) m av h (x, h1) e) (fun m av h x h1 e => (ra_c0_ok (ro := ra_oJ)) m av h (x, h1) e) (fun m av h x h1 e => (ra_c0_ok (ro := ra_oR)) m av h (x, h1) e) (fun m av h x h1 e => (ra_c0_ok (ro := ra_oN)) m av h (x, h1) e) (fun m av h x h1 e => (ra_c0_ok (ro := ra_oF)) m av h (x, h1) e) 2 lX11_isTurn_15 _ _ _ _ lX11_isTurn_15_ck (show ra_run ra_rI (kX11_isTurn_15 N) ra_c0 ra_c0 ra_c0 ra_c0 ra_c0 ra_c0 2 lX11_isTurn_15 [none] [] h = some r from e) _ _ rfl
def lX11_isTurn_0 : List ra_I := [(0, .iload_n 0, 1, 0, 0, 0, 0, 0, []),
  (1, .ifCond .lt (14), 3, 15, 0, 0, 0, 0, []),
  (4, .iload_n 0, 1, 0, 0, 0, 0, 0, []),
  (5, .sipush (200), 3, 0, 0, 0, (200), 0, []),
  (8, .if_icmp .gt (7), 3, 15, 0, 0, 0, 0, []),
  (11, .iconst (1), 1, 0, 0, 0, (1), 0, []),
  (12, .goto (4), 3, 16, 0, 0, 0, 0, [])]
set_option maxRecDepth 100000 in
theorem lX11_isTurn_0_ck : lX11_isTurn_0.all (ra_ck mX11_isTurn 11) = true := by decide +kernel
def nX11_isTurn_0 (N : Nat) (a0 : Int32) (h : ra_H) : Option (Int32 × ra_H) :=
  if a0 < 0 then
    nX11_isTurn_15 N h
  else
    if a0 ≤ ((200 : Int32)) then
      nX11_isTurn_16 N ((1 : Int32)) h
    else
      nX11_isTurn_15 N h
def kX11_isTurn_0 (N : Nat) : Nat → List (Option Value) → List Value → ra_H → Option (Int32 × ra_H) := (ra_k1 15 (fun L S h => match L, S with
  | [_], [] => nX11_isTurn_15 N h
  | _, _ => none) (ra_k1 16 (fun L S h => match L, S with
  | [_], [.int b0] => nX11_isTurn_16 N b0 h
  | _, _ => none) ra_k0))
theorem kX11_isTurn_0_ok (N : Nat) : ra_kok 1 mX11_isTurn ra_oI (kX11_isTurn_0 N) := (ra_k1_ok (by
  intro L S h a e
  split at e
  · exact ra_Ru.weak (nX11_isTurn_15_ok N _ _ e) trivial
  · cases e) (ra_k1_ok (by
  intro L S h a e
  split at e
  · exact ra_Ru.weak (nX11_isTurn_16_ok N _ _ _ e) trivial
  · cases e) ra_k0_ok))
set_option maxRecDepth 100000 in
theorem nX11_isTurn_0_ok (N : Nat) (a0 : Int32) (h : ra_H) (r : (Int32 × ra_H)) (e : nX11_isTurn_0 N a0 h = some r) : ra_Ru 1 mX11_isTurn 0 [some (.int a0)] [] h (ra_oI r) :=
  ra_sound (by omega) rfl ra_rI_ok (kX11_isTurn_0_ok N) (fun m av h h1 e => (ra_c0_ok (ro := ra_oV)) m av h h1 e) (fun m av h x h1 e => (ra_c0_ok (ro := ra_oI)) m av h (x, h1) e) (fun m av h x h1 e => (ra_c0_ok (ro := ra_oJ)) m av h (x, h1) e) (fun m av h x h1 e => (ra_c0_ok (ro := ra_oR)) m av h (x, h1) e) (fun m av h x h1 e => (ra_c0_ok (ro := ra_oN)) m av h (x, h1) e) (fun m av h x h1 e => (ra_c0_ok (ro := ra_oF)) m av h (x, h1) e) 8 lX11_isTurn_0 _ _ _ _ lX11_isTurn_0_ck (show ra_run ra_rI (kX11_isTurn_0 N) ra_c0 ra_c0 ra_c0 ra_c0 ra_c0 ra_c0 8 lX11_isTurn_0 [some (.int a0)] [] h = some r from e) _ _ rfl
def fX11_isTurn (N : Nat) (p0 : Int32) (h : ra_H) : Option (Int32 × ra_H) := (nX11_isTurn_0 N p0 h).bind (fun q => ra_rz q.1 q.2)
set_option maxRecDepth 100000 in
theorem mtX11_isTurn : ra_MT[92]? = some (mX11_isTurn, 0, 1, (1, 1), (4, 118), (0, 0)) := rfl
theorem fX11_isTurn_co (N : Nat) (p0 : Int32) (h : ra_H) (r : (Int32 × ra_H)) (e : fX11_isTurn N p0 h = some r) (D : Nat) (hD : 2 ≤ D) : ra_CO D 92 [.int p0] h (ra_oI r).1 (ra_oI r).2 := by
  have hw : ra_nw2 [.int p0] ≤ 1 := Nat.le_of_ble_eq_true rfl
  have hdb : ∀ v ∈ ([.int p0] : List Value), ∀ x, v ≠ .double x := by
    intro v hv x hx
    simp [hx] at hv
  unfold fX11_isTurn at e
  obtain ⟨q, e1, e2⟩ := Option.bind_eq_some_iff.mp e
  obtain ⟨rfl, hz⟩ := ra_rz_of e2
  exact ⟨1, _, mtX11_isTurn, hD, ra_ev_of (by decide) hdb hw hz (ra_Ru.weak (nX11_isTurn_0_ok N p0 h _ e1) ⟨rfl, trivial⟩), (fun h => absurd h (by decide)), (fun h => absurd h (by decide))⟩
/-! RedMarks.keep(III)I -/
def mX11_keep : ra_M := (yX11_keep, cX11_keep, 4, (some .int))
def tVX11_keep (N : Nat) : Nat → List Value → ra_H → Option ra_H := (ra_c1 22 (fun av h => match av with
  | [.ref z0] => fX1_forgetStanding N z0 h
  | _ => none) ra_c0)
theorem tVX11_keep_ok (N : Nat) : ra_cok 7 ra_oV (tVX11_keep N) := (ra_c1_ok (by
  intro av h a e
  split at e
  · exact fX1_forgetStanding_co N _ _ _ e 7 (by omega)
  · cases e) ra_c0_ok)
def tIX11_keep (N : Nat) : Nat → List Value → ra_H → Option (Int32 × ra_H) := (ra_c1 17 (fun av h => match av with
  | [.ref z0, .int z1] => fX11_refuse N z0 z1 h
  | _ => none) (ra_c1 24 (fun av h => match av with
  | [.ref z0, .int z1] => fX11_accept N z0 z1 h
  | _ => none) (ra_c1 82 (fun av h => match av with
  | [.ref z0, .int z1] => fX2_hasScheme N z0 z1 h
  | _ => none) (ra_c1 92 (fun av h => match av with
  | [.int z0] => fX11_isTurn N z0 h
  | _ => none) (ra_c1 105 (fun av h => match av with
  | [.ref z0] => fX1_settleKept N z0 h
  | _ => none) ra_c0)))))
theorem tIX11_keep_ok (N : Nat) : ra_cok 7 ra_oI (tIX11_keep N) := (ra_c1_ok (by
  intro av h a e
  split at e
  · exact fX11_refuse_co N _ _ _ _ e 7 (by omega)
  · cases e) (ra_c1_ok (by
  intro av h a e
  split at e
  · exact fX11_accept_co N _ _ _ _ e 7 (by omega)
  · cases e) (ra_c1_ok (by
  intro av h a e
  split at e
  · exact fX2_hasScheme_co N _ _ _ _ e 7 (by omega)
  · cases e) (ra_c1_ok (by
  intro av h a e
  split at e
  · exact fX11_isTurn_co N _ _ _ e 7 (by omega)
  · cases e) (ra_c1_ok (by
  intro av h a e
  split at e
  · exact fX1_settleKept_co N _ _ _ e 7 (by omega)
  · cases e) ra_c0_ok)))))
def lX11_keep_35 : List ra_I := [(35, .aload_n 0, 1, 0, 0, 0, 0, 0, []),
  (36, .bipush (-2), 2, 0, 0, 0, (-2), 0, []),
  (38, .invokevirtual 95, 3, 17, 2, 1, 0, 0, []),
  (41, .ireturn, 1, 0, 0, 0, 0, 0, [])]
set_option maxRecDepth 100000 in
theorem lX11_keep_35_ck : lX11_keep_35.all (ra_ck mX11_keep 11) = true := by decide +kernel
def nX11_keep_35 (N : Nat) (a0 : Nat) (h : ra_H) : Option (Int32 × ra_H) :=
  (fX11_refuse N a0 ((-2 : Int32)) h).bind fun q1 =>
  some (q1.1, q1.2)
def kX11_keep_35 (N : Nat) : Nat → List (Option Value) → List Value → ra_H → Option (Int32 × ra_H) := ra_k0
theorem kX11_keep_35_ok (N : Nat) : ra_kok 7 mX11_keep ra_oI (kX11_keep_35 N) := ra_k0_ok
set_option maxRecDepth 100000 in
theorem nX11_keep_35_ok (N : Nat) (a0 : Nat) (h : ra_H) (r : (Int32 × ra_H)) (e : nX11_keep_35 N a0 h = some r) : ra_Ru 7 mX11_keep 35 [some (.ref a0), none, none, none] [] h (ra_oI r) :=
  ra_sound (by omega) rfl ra_rI_ok (kX11_keep_35_ok N) (fun m av h h1 e => (tVX11_keep_ok N) m av h h1 e) (fun m av h x h1 e => (tIX11_keep_ok N) m av h (x, h1) e) (fun m av h x h1 e => (ra_c0_ok (ro := ra_oJ)) m av h (x, h1) e) (fun m av h x h1 e => (ra_c0_ok (ro := ra_oR)) m av h (x, h1) e) (fun m av h x h1 e => (ra_c0_ok (ro := ra_oN)) m av h (x, h1) e) (fun m av h x h1 e => (ra_c0_ok (ro := ra_oF)) m av h (x, h1) e) 5 lX11_keep_35 _ _ _ _ lX11_keep_35_ck (show ra_run ra_rI (kX11_keep_35 N) (tVX11_keep N) (tIX11_keep N) ra_c0 ra_c0 ra_c0 ra_c0 5 lX11_keep_35 [some (.ref a0), none, none, none] [] h = some r from e) _ _ rfl
def lX11_keep_0 : List ra_I := [(0, .iload_n 3, 1, 3, 0, 0, 0, 0, []),
  (1, .invokestatic 185, 3, 92, 1, 1, 0, 0, []),
  (4, .ifCond .ne (9), 3, 13, 0, 0, 0, 0, []),
  (7, .aload_n 0, 1, 0, 0, 0, 0, 0, []),
  (8, .iconst (-1), 1, 0, 0, 0, (-1), 0, []),
  (9, .invokevirtual 95, 3, 17, 2, 1, 0, 0, []),
  (12, .ireturn, 1, 0, 0, 0, 0, 0, []),
  (13, .aload_n 0, 1, 0, 0, 0, 0, 0, []),
  (14, .getfield 10, 3, 11, 0, 2, 0, 0, []),
  (17, .iload_n 1, 1, 1, 0, 0, 0, 0, []),
  (18, .invokevirtual 176, 3, 82, 2, 1, 0, 0, []),
  (21, .ifCond .eq (14), 3, 35, 0, 0, 0, 0, []),
  (24, .aload_n 0, 1, 0, 0, 0, 0, 0, []),
  (25, .getfield 10, 3, 11, 0, 2, 0, 0, []),
  (28, .iload_n 2, 1, 2, 0, 0, 0, 0, []),
  (29, .invokevirtual 176, 3, 82, 2, 1, 0, 0, []),
  (32, .ifCond .ne (10), 3, 42, 0, 0, 0, 0, []),
  (42, .aload_n 0, 1, 0, 0, 0, 0, 0, []),
  (43, .getfield 10, 3, 11, 0, 2, 0, 0, []),
  (46, .iload_n 1, 1, 1, 0, 0, 0, 0, []),
  (47, .putfield 195, 3, 2, 17, 0, 0, 0, []),
  (50, .aload_n 0, 1, 0, 0, 0, 0, 0, []),
  (51, .getfield 10, 3, 11, 0, 2, 0, 0, []),
  (54, .iload_n 2, 1, 2, 0, 0, 0, 0, []),
  (55, .putfield 198, 3, 2, 18, 0, 0, 0, []),
  (58, .aload_n 0, 1, 0, 0, 0, 0, 0, []),
  (59, .getfield 10, 3, 11, 0, 2, 0, 0, []),
  (62, .iload_n 3, 1, 3, 0, 0, 0, 0, []),
  (63, .putfield 201, 3, 2, 19, 0, 0, 0, []),
  (66, .aload_n 0, 1, 0, 0, 0, 0, 0, []),
  (67, .getfield 39, 3, 11, 4, 2, 0, 0, []),
  (70, .invokevirtual 135, 3, 22, 1, 0, 0, 0, []),
  (73, .aload_n 0, 1, 0, 0, 0, 0, 0, []),
  (74, .getfield 39, 3, 11, 4, 2, 0, 0, []),
  (77, .invokevirtual 204, 3, 105, 1, 1, 0, 0, []),
  (80, .pop, 1, 0, 0, 0, 0, 0, []),
  (81, .aload_n 0, 1, 0, 0, 0, 0, 0, []),
  (82, .aload_n 0, 1, 0, 0, 0, 0, 0, []),
  (83, .getfield 39, 3, 11, 4, 2, 0, 0, []),
  (86, .getfield 45, 3, 1, 11, 2, 0, 0, []),
  (89, .getfield 208, 3, 7, 3, 0, 0, 0, []),
  (92, .invokevirtual 106, 3, 24, 2, 1, 0, 0, []),
  (95, .ireturn, 1, 0, 0, 0, 0, 0, [])]
set_option maxRecDepth 100000 in
theorem lX11_keep_0_ck : lX11_keep_0.all (ra_ck mX11_keep 11) = true := by decide +kernel
def nX11_keep_0 (N : Nat) (a0 : Nat) (a1 : Int32) (a2 : Int32) (a3 : Int32) (h : ra_H) : Option (Int32 × ra_H) :=
  (fX11_isTurn N a3 h).bind fun q1 =>
  if q1.1 = 0 then
    (fX11_refuse N a0 ((-1 : Int32)) q1.2).bind fun q20 =>
    some (q20.1, q20.2)
  else
    (ra_fR q1.2 11 a0 0).bind fun x2 =>
    (fX2_hasScheme N x2 a1 q1.2).bind fun q3 =>
    if q3.1 = 0 then
      nX11_keep_35 N a0 q3.2
    else
      (ra_fR q3.2 11 a0 0).bind fun x4 =>
      (fX2_hasScheme N x4 a2 q3.2).bind fun q5 =>
      if q5.1 = 0 then
        nX11_keep_35 N a0 q5.2
      else
        (ra_fR q5.2 11 a0 0).bind fun x6 =>
        (ra_fW q5.2 2 x6 17 (.int a1)).bind fun h7 =>
        (ra_fR h7 11 a0 0).bind fun x8 =>
        (ra_fW h7 2 x8 18 (.int a2)).bind fun h9 =>
        (ra_fR h9 11 a0 0).bind fun x10 =>
        (ra_fW h9 2 x10 19 (.int a3)).bind fun h11 =>
        (ra_fR h11 11 a0 4).bind fun x12 =>
        (fX1_forgetStanding N x12 h11).bind fun h13 =>
        (ra_fR h13 11 a0 4).bind fun x14 =>
        (fX1_settleKept N x14 h13).bind fun q15 =>
        (ra_fR q15.2 11 a0 4).bind fun x16 =>
        (ra_fR q15.2 1 x16 11).bind fun x17 =>
        (ra_fI q15.2 7 x17 3).bind fun x18 =>
        (fX11_accept N a0 x18 q15.2).bind fun q19 =>
        some (q19.1, q19.2)
def kX11_keep_0 (N : Nat) : Nat → List (Option Value) → List Value → ra_H → Option (Int32 × ra_H) := (ra_k1 35 (fun L S h => match L, S with
  | [some (.ref a0), _, _, _], [] => nX11_keep_35 N a0 h
  | _, _ => none) ra_k0)
theorem kX11_keep_0_ok (N : Nat) : ra_kok 7 mX11_keep ra_oI (kX11_keep_0 N) := (ra_k1_ok (by
  intro L S h a e
  split at e
  · exact ra_Ru.weak (nX11_keep_35_ok N _ _ _ e) ⟨rfl, trivial⟩
  · cases e) ra_k0_ok)
set_option maxRecDepth 100000 in
theorem nX11_keep_0_ok (N : Nat) (a0 : Nat) (a1 : Int32) (a2 : Int32) (a3 : Int32) (h : ra_H) (r : (Int32 × ra_H)) (e : nX11_keep_0 N a0 a1 a2 a3 h = some r) : ra_Ru 7 mX11_keep 0 [some (.ref a0), some (.int a1), some (.int a2), some (.int a3)] [] h (ra_oI r) :=
  ra_sound (by omega) rfl ra_rI_ok (kX11_keep_0_ok N) (fun m av h h1 e => (tVX11_keep_ok N) m av h h1 e) (fun m av h x h1 e => (tIX11_keep_ok N) m av h (x, h1) e) (fun m av h x h1 e => (ra_c0_ok (ro := ra_oJ)) m av h (x, h1) e) (fun m av h x h1 e => (ra_c0_ok (ro := ra_oR)) m av h (x, h1) e) (fun m av h x h1 e => (ra_c0_ok (ro := ra_oN)) m av h (x, h1) e) (fun m av h x h1 e => (ra_c0_ok (ro := ra_oF)) m av h (x, h1) e) 44 lX11_keep_0 _ _ _ _ lX11_keep_0_ck (show ra_run ra_rI (kX11_keep_0 N) (tVX11_keep N) (tIX11_keep N) ra_c0 ra_c0 ra_c0 ra_c0 44 lX11_keep_0 [some (.ref a0), some (.int a1), some (.int a2), some (.int a3)] [] h = some r from e) _ _ rfl
def fX11_keep (N : Nat) (p0 : Nat) (p1 : Int32) (p2 : Int32) (p3 : Int32) (h : ra_H) : Option (Int32 × ra_H) := match ra_isOb h p0 11 with
  | true => nX11_keep_0 N p0 p1 p2 p3 h
  | false => none
set_option maxRecDepth 100000 in
theorem mtX11_keep : ra_MT[104]? = some (mX11_keep, 1, 3, (1, 1), (4, 169), (4, 170)) := rfl
theorem fX11_keep_co (N : Nat) (p0 : Nat) (p1 : Int32) (p2 : Int32) (p3 : Int32) (h : ra_H) (r : (Int32 × ra_H)) (e : fX11_keep N p0 p1 p2 p3 h = some r) (D : Nat) (hD : 8 ≤ D) : ra_CO D 104 [.ref p0, .int p1, .int p2, .int p3] h (ra_oI r).1 (ra_oI r).2 := by
  have hw : ra_nw2 [.ref p0, .int p1, .int p2, .int p3] ≤ 4 := Nat.le_of_ble_eq_true rfl
  have hdb : ∀ v ∈ ([.ref p0, .int p1, .int p2, .int p3] : List Value), ∀ x, v ≠ .double x := by
    intro v hv x hx
    simp [hx] at hv
  unfold fX11_keep at e
  split at e
  · rename_i ho
    have e1 := e
    exact ⟨7, _, mtX11_keep, hD, ra_ev_of (by decide) hdb hw trivial (ra_Ru.weak (nX11_keep_0_ok N p0 p1 p2 p3 h _ e1) ⟨rfl, ⟨rfl, ⟨rfl, ⟨rfl, trivial⟩⟩⟩⟩), (fun _ => ⟨_, _, rfl, ra_rcv_of ho (by decide) rfl⟩), (fun h => absurd h (by decide))⟩
  · cases e
/-! RedMarks.left(I)I -/
def mX11_left : ra_M := (yX11_left, cX11_left, 4, (some .int))
def tVX11_left (N : Nat) : Nat → List Value → ra_H → Option ra_H := (ra_c1 119 (fun av h => match av with
  | [.ref z0] => fX3_weighAll N z0 h
  | _ => none) ra_c0)
theorem tVX11_left_ok (N : Nat) : ra_cok 6 ra_oV (tVX11_left N) := (ra_c1_ok (by
  intro av h a e
  split at e
  · exact fX3_weighAll_co N _ _ _ e 6 (by omega)
  · cases e) ra_c0_ok)
def tIX11_left (N : Nat) : Nat → List Value → ra_H → Option (Int32 × ra_H) := (ra_c1 134 (fun av h => match av with
  | [.int z0] => fJ6_bitCount_0f7a4 N z0 h
  | _ => none) (ra_c1 189 (fun av h => match av with
  | [.ref z0] => fX2_markedCount N z0 h
  | _ => none) ra_c0))
theorem tIX11_left_ok (N : Nat) : ra_cok 6 ra_oI (tIX11_left N) := (ra_c1_ok (by
  intro av h a e
  split at e
  · exact fJ6_bitCount_0f7a4_co N _ _ _ e 6 (by omega)
  · cases e) (ra_c1_ok (by
  intro av h a e
  split at e
  · exact fX2_markedCount_co N _ _ _ e 6 (by omega)
  · cases e) ra_c0_ok))
def lX11_left_9 : List ra_I := [(9, .iconst (-1), 1, 0, 0, 0, (-1), 0, []),
  (10, .ireturn, 1, 0, 0, 0, 0, 0, [])]
set_option maxRecDepth 100000 in
theorem lX11_left_9_ck : lX11_left_9.all (ra_ck mX11_left 11) = true := by decide +kernel
def nX11_left_9 (N : Nat) (h : ra_H) : Option (Int32 × ra_H) :=
  some ((-1 : Int32), h)
def kX11_left_9 (N : Nat) : Nat → List (Option Value) → List Value → ra_H → Option (Int32 × ra_H) := ra_k0
theorem kX11_left_9_ok (N : Nat) : ra_kok 6 mX11_left ra_oI (kX11_left_9 N) := ra_k0_ok
set_option maxRecDepth 100000 in
theorem nX11_left_9_ok (N : Nat) (h : ra_H) (r : (Int32 × ra_H)) (e : nX11_left_9 N h = some r) : ra_Ru 6 mX11_left 9 [none, none, none, none] [] h (ra_oI r) :=
  ra_sound (by omega) rfl ra_rI_ok (kX11_left_9_ok N) (fun m av h h1 e => (tVX11_left_ok N) m av h h1 e) (fun m av h x h1 e => (tIX11_left_ok N) m av h (x, h1) e) (fun m av h x h1 e => (ra_c0_ok (ro := ra_oJ)) m av h (x, h1) e) (fun m av h x h1 e => (ra_c0_ok (ro := ra_oR)) m av h (x, h1) e) (fun m av h x h1 e => (ra_c0_ok (ro := ra_oN)) m av h (x, h1) e) (fun m av h x h1 e => (ra_c0_ok (ro := ra_oF)) m av h (x, h1) e) 3 lX11_left_9 _ _ _ _ lX11_left_9_ck (show ra_run ra_rI (kX11_left_9 N) (tVX11_left N) (tIX11_left N) ra_c0 ra_c0 ra_c0 ra_c0 3 lX11_left_9 [none, none, none, none] [] h = some r from e) _ _ rfl
def lX11_left_73 : List ra_I := [(73, .ireturn, 1, 0, 0, 0, 0, 0, [])]
set_option maxRecDepth 100000 in
theorem lX11_left_73_ck : lX11_left_73.all (ra_ck mX11_left 11) = true := by decide +kernel
def nX11_left_73 (N : Nat) (b0 : Int32) (h : ra_H) : Option (Int32 × ra_H) :=
  some (b0, h)
def kX11_left_73 (N : Nat) : Nat → List (Option Value) → List Value → ra_H → Option (Int32 × ra_H) := ra_k0
theorem kX11_left_73_ok (N : Nat) : ra_kok 6 mX11_left ra_oI (kX11_left_73 N) := ra_k0_ok
set_option maxRecDepth 100000 in
theorem nX11_left_73_ok (N : Nat) (b0 : Int32) (h : ra_H) (r : (Int32 × ra_H)) (e : nX11_left_73 N b0 h = some r) : ra_Ru 6 mX11_left 73 [none, none, none, none] [.int b0] h (ra_oI r) :=
  ra_sound (by omega) rfl ra_rI_ok (kX11_left_73_ok N) (fun m av h h1 e => (tVX11_left_ok N) m av h h1 e) (fun m av h x h1 e => (tIX11_left_ok N) m av h (x, h1) e) (fun m av h x h1 e => (ra_c0_ok (ro := ra_oJ)) m av h (x, h1) e) (fun m av h x h1 e => (ra_c0_ok (ro := ra_oR)) m av h (x, h1) e) (fun m av h x h1 e => (ra_c0_ok (ro := ra_oN)) m av h (x, h1) e) (fun m av h x h1 e => (ra_c0_ok (ro := ra_oF)) m av h (x, h1) e) 2 lX11_left_73 _ _ _ _ lX11_left_73_ck (show ra_run ra_rI (kX11_left_73 N) (tVX11_left N) (tIX11_left N) ra_c0 ra_c0 ra_c0 ra_c0 2 lX11_left_73 [none, none, none, none] [.int b0] h = some r from e) _ _ rfl
def lX11_left_0 : List ra_I := [(0, .iload_n 1, 1, 1, 0, 0, 0, 0, []),
  (1, .ifCond .lt (8), 3, 9, 0, 0, 0, 0, []),
  (4, .iload_n 1, 1, 1, 0, 0, 0, 0, []),
  (5, .iconst (1), 1, 0, 0, 0, (1), 0, []),
  (6, .if_icmp .le (5), 3, 11, 0, 0, 0, 0, []),
  (11, .aload_n 0, 1, 0, 0, 0, 0, 0, []),
  (12, .getfield 61, 3, 11, 6, 2, 0, 0, []),
  (15, .invokevirtual 231, 3, 119, 1, 0, 0, 0, []),
  (18, .aload_n 0, 1, 0, 0, 0, 0, 0, []),
  (19, .getfield 61, 3, 11, 6, 2, 0, 0, []),
  (22, .getfield 297, 3, 3, 15, 0, 0, 0, []),
  (25, .invokestatic 300, 3, 134, 1, 1, 0, 0, []),
  (28, .istore_n 2, 1, 2, 0, 0, 0, 0, []),
  (29, .aload_n 0, 1, 0, 0, 0, 0, 0, []),
  (30, .getfield 10, 3, 11, 0, 2, 0, 0, []),
  (33, .invokevirtual 359, 3, 189, 1, 1, 0, 0, []),
  (36, .istore_n 3, 1, 3, 0, 0, 0, 0, []),
  (37, .iload_n 1, 1, 1, 0, 0, 0, 0, []),
  (38, .iconst (1), 1, 0, 0, 0, (1), 0, []),
  (39, .if_icmp .ne (15), 3, 54, 0, 0, 0, 0, []),
  (42, .iload_n 3, 1, 3, 0, 0, 0, 0, []),
  (43, .aload_n 0, 1, 0, 0, 0, 0, 0, []),
  (44, .getfield 10, 3, 11, 0, 2, 0, 0, []),
  (47, .getfield 237, 3, 2, 15, 0, 0, 0, []),
  (50, .iadd, 1, 0, 0, 0, 0, 0, []),
  (51, .iload_n 2, 1, 2, 0, 0, 0, 0, []),
  (52, .isub, 1, 0, 0, 0, 0, 0, []),
  (53, .ireturn, 1, 0, 0, 0, 0, 0, []),
  (54, .iload_n 2, 1, 2, 0, 0, 0, 0, []),
  (55, .ifCond .ne (7), 3, 62, 0, 0, 0, 0, []),
  (58, .iconst (-1), 1, 0, 0, 0, (-1), 0, []),
  (59, .goto (14), 3, 73, 0, 0, 0, 0, []),
  (62, .iload_n 3, 1, 3, 0, 0, 0, 0, []),
  (63, .aload_n 0, 1, 0, 0, 0, 0, 0, []),
  (64, .getfield 10, 3, 11, 0, 2, 0, 0, []),
  (67, .getfield 237, 3, 2, 15, 0, 0, 0, []),
  (70, .imul, 1, 0, 0, 0, 0, 0, []),
  (71, .iload_n 2, 1, 2, 0, 0, 0, 0, []),
  (72, .idiv, 1, 0, 0, 0, 0, 0, [])]
set_option maxRecDepth 100000 in
theorem lX11_left_0_ck : lX11_left_0.all (ra_ck mX11_left 11) = true := by decide +kernel
def nX11_left_0 (N : Nat) (a0 : Nat) (a1 : Int32) (h : ra_H) : Option (Int32 × ra_H) :=
  if a1 < 0 then
    nX11_left_9 N h
  else
    if a1 ≤ ((1 : Int32)) then
      (ra_fR h 11 a0 6).bind fun x1 =>
      (fX3_weighAll N x1 h).bind fun h2 =>
      (ra_fR h2 11 a0 6).bind fun x3 =>
      (ra_fI h2 3 x3 15).bind fun x4 =>
      (fJ6_bitCount_0f7a4 N x4 h2).bind fun q5 =>
      (ra_fR q5.2 11 a0 0).bind fun x6 =>
      (fX2_markedCount N x6 q5.2).bind fun q7 =>
      if a1 = ((1 : Int32)) then
        (ra_fR q7.2 11 a0 0).bind fun x10 =>
        (ra_fI q7.2 2 x10 15).bind fun x11 =>
        some ((q7.1 + x11) - q5.1, q7.2)
      else
        if q5.1 = 0 then
          nX11_left_73 N ((-1 : Int32)) q7.2
        else
          (ra_fR q7.2 11 a0 0).bind fun x8 =>
          (ra_fI q7.2 2 x8 15).bind fun x9 =>
          if q5.1 = 0 then none else
          nX11_left_73 N ((q7.1 * x9) / q5.1) q7.2
    else
      nX11_left_9 N h
def kX11_left_0 (N : Nat) : Nat → List (Option Value) → List Value → ra_H → Option (Int32 × ra_H) := (ra_k1 9 (fun L S h => match L, S with
  | [_, _, _, _], [] => nX11_left_9 N h
  | _, _ => none) (ra_k1 73 (fun L S h => match L, S with
  | [_, _, _, _], [.int b0] => nX11_left_73 N b0 h
  | _, _ => none) ra_k0))
theorem kX11_left_0_ok (N : Nat) : ra_kok 6 mX11_left ra_oI (kX11_left_0 N) := (ra_k1_ok (by
  intro L S h a e
  split at e
  · exact ra_Ru.weak (nX11_left_9_ok N _ _ e) trivial
  · cases e) (ra_k1_ok (by
  intro L S h a e
  split at e
  · exact ra_Ru.weak (nX11_left_73_ok N _ _ _ e) trivial
  · cases e) ra_k0_ok))
set_option maxRecDepth 100000 in
theorem nX11_left_0_ok (N : Nat) (a0 : Nat) (a1 : Int32) (h : ra_H) (r : (Int32 × ra_H)) (e : nX11_left_0 N a0 a1 h = some r) : ra_Ru 6 mX11_left 0 [some (.ref a0), some (.int a1), none, none] [] h (ra_oI r) :=
  ra_sound (by omega) rfl ra_rI_ok (kX11_left_0_ok N) (fun m av h h1 e => (tVX11_left_ok N) m av h h1 e) (fun m av h x h1 e => (tIX11_left_ok N) m av h (x, h1) e) (fun m av h x h1 e => (ra_c0_ok (ro := ra_oJ)) m av h (x, h1) e) (fun m av h x h1 e => (ra_c0_ok (ro := ra_oR)) m av h (x, h1) e) (fun m av h x h1 e => (ra_c0_ok (ro := ra_oN)) m av h (x, h1) e) (fun m av h x h1 e => (ra_c0_ok (ro := ra_oF)) m av h (x, h1) e) 40 lX11_left_0 _ _ _ _ lX11_left_0_ck (show ra_run ra_rI (kX11_left_0 N) (tVX11_left N) (tIX11_left N) ra_c0 ra_c0 ra_c0 ra_c0 40 lX11_left_0 [some (.ref a0), some (.int a1), none, none] [] h = some r from e) _ _ rfl
def fX11_left (N : Nat) (p0 : Nat) (p1 : Int32) (h : ra_H) : Option (Int32 × ra_H) := match ra_isOb h p0 11 with
  | true => nX11_left_0 N p0 p1 h
  | false => none
set_option maxRecDepth 100000 in
theorem mtX11_left : ra_MT[188]? = some (mX11_left, 1, 1, (1, 1), (6, 45), (6, 46)) := rfl
theorem fX11_left_co (N : Nat) (p0 : Nat) (p1 : Int32) (h : ra_H) (r : (Int32 × ra_H)) (e : fX11_left N p0 p1 h = some r) (D : Nat) (hD : 7 ≤ D) : ra_CO D 188 [.ref p0, .int p1] h (ra_oI r).1 (ra_oI r).2 := by
  have hw : ra_nw2 [.ref p0, .int p1] ≤ 4 := Nat.le_of_ble_eq_true rfl
  have hdb : ∀ v ∈ ([.ref p0, .int p1] : List Value), ∀ x, v ≠ .double x := by
    intro v hv x hx
    simp [hx] at hv
  unfold fX11_left at e
  split at e
  · rename_i ho
    have e1 := e
    exact ⟨6, _, mtX11_left, hD, ra_ev_of (by decide) hdb hw trivial (ra_Ru.weak (nX11_left_0_ok N p0 p1 h _ e1) ⟨rfl, ⟨rfl, trivial⟩⟩), (fun _ => ⟨_, _, rfl, ra_rcv_of ho (by decide) rfl⟩), (fun h => absurd h (by decide))⟩
  · cases e
/-! RedMarks.line(IIIII)I -/
def mX11_line : ra_M := (yX11_line, cX11_line, 7, (some .int))
def tVX11_line (N : Nat) : Nat → List Value → ra_H → Option ra_H := (ra_c1 23 (fun av h => match av with
  | [.ref z0] => fX3_forgetAll N z0 h
  | _ => none) ra_c0)
theorem tVX11_line_ok (N : Nat) : ra_cok 3 ra_oV (tVX11_line N) := (ra_c1_ok (by
  intro av h a e
  split at e
  · exact fX3_forgetAll_co N _ _ _ e 3 (by omega)
  · cases e) ra_c0_ok)
def tIX11_line (N : Nat) : Nat → List Value → ra_H → Option (Int32 × ra_H) := (ra_c1 14 (fun av h => match av with
  | [.int z0, .int z1] => fX11_isMarkOrNone N z0 z1 h
  | _ => none) (ra_c1 15 (fun av h => match av with
  | [.int z0, .int z1] => fX11_fits N z0 z1 h
  | _ => none) (ra_c1 17 (fun av h => match av with
  | [.ref z0, .int z1] => fX11_refuse N z0 z1 h
  | _ => none) (ra_c1 24 (fun av h => match av with
  | [.ref z0, .int z1] => fX11_accept N z0 z1 h
  | _ => none) ra_c0))))
theorem tIX11_line_ok (N : Nat) : ra_cok 3 ra_oI (tIX11_line N) := (ra_c1_ok (by
  intro av h a e
  split at e
  · exact fX11_isMarkOrNone_co N _ _ _ _ e 3 (by omega)
  · cases e) (ra_c1_ok (by
  intro av h a e
  split at e
  · exact fX11_fits_co N _ _ _ _ e 3 (by omega)
  · cases e) (ra_c1_ok (by
  intro av h a e
  split at e
  · exact fX11_refuse_co N _ _ _ _ e 3 (by omega)
  · cases e) (ra_c1_ok (by
  intro av h a e
  split at e
  · exact fX11_accept_co N _ _ _ _ e 3 (by omega)
  · cases e) ra_c0_ok))))
def lX11_line_36 : List ra_I := [(36, .aload_n 0, 1, 0, 0, 0, 0, 0, []),
  (37, .iconst (-1), 1, 0, 0, 0, (-1), 0, []),
  (38, .invokevirtual 95, 3, 17, 2, 1, 0, 0, []),
  (41, .ireturn, 1, 0, 0, 0, 0, 0, [])]
set_option maxRecDepth 100000 in
theorem lX11_line_36_ck : lX11_line_36.all (ra_ck mX11_line 11) = true := by decide +kernel
def nX11_line_36 (N : Nat) (a0 : Nat) (h : ra_H) : Option (Int32 × ra_H) :=
  (fX11_refuse N a0 ((-1 : Int32)) h).bind fun q1 =>
  some (q1.1, q1.2)
def kX11_line_36 (N : Nat) : Nat → List (Option Value) → List Value → ra_H → Option (Int32 × ra_H) := ra_k0
theorem kX11_line_36_ok (N : Nat) : ra_kok 3 mX11_line ra_oI (kX11_line_36 N) := ra_k0_ok
set_option maxRecDepth 100000 in
theorem nX11_line_36_ok (N : Nat) (a0 : Nat) (h : ra_H) (r : (Int32 × ra_H)) (e : nX11_line_36 N a0 h = some r) : ra_Ru 3 mX11_line 36 [some (.ref a0), none, none, none, none, none, none] [] h (ra_oI r) :=
  ra_sound (by omega) rfl ra_rI_ok (kX11_line_36_ok N) (fun m av h h1 e => (tVX11_line_ok N) m av h h1 e) (fun m av h x h1 e => (tIX11_line_ok N) m av h (x, h1) e) (fun m av h x h1 e => (ra_c0_ok (ro := ra_oJ)) m av h (x, h1) e) (fun m av h x h1 e => (ra_c0_ok (ro := ra_oR)) m av h (x, h1) e) (fun m av h x h1 e => (ra_c0_ok (ro := ra_oN)) m av h (x, h1) e) (fun m av h x h1 e => (ra_c0_ok (ro := ra_oF)) m av h (x, h1) e) 5 lX11_line_36 _ _ _ _ lX11_line_36_ck (show ra_run ra_rI (kX11_line_36 N) (tVX11_line N) (tIX11_line N) ra_c0 ra_c0 ra_c0 ra_c0 5 lX11_line_36 [some (.ref a0), none, none, none, none, none, none] [] h = some r from e) _ _ rfl
def lX11_line_0 : List ra_I := [(0, .bipush (9), 2, 0, 0, 0, (9), 0, []),
  (2, .iload_n 1, 1, 1, 0, 0, 0, 0, []),
  (3, .invokestatic 109, 3, 15, 2, 1, 0, 0, []),
  (6, .ifCond .eq (30), 3, 36, 0, 0, 0, 0, []),
  (9, .bipush (10), 2, 0, 0, 0, (10), 0, []),
  (11, .iload_n 2, 1, 2, 0, 0, 0, 0, []),
  (12, .invokestatic 109, 3, 15, 2, 1, 0, 0, []),
  (15, .ifCond .eq (21), 3, 36, 0, 0, 0, 0, []),
  (18, .iconst (3), 1, 0, 0, 0, (3), 0, []),
  (19, .iload_n 3, 1, 3, 0, 0, 0, 0, []),
  (20, .invokestatic 109, 3, 15, 2, 1, 0, 0, []),
  (23, .ifCond .eq (13), 3, 36, 0, 0, 0, 0, []),
  (26, .iload 4, 2, 4, 0, 0, 0, 0, []),
  (28, .iload 5, 2, 5, 0, 0, 0, 0, []),
  (30, .invokestatic 87, 3, 14, 2, 1, 0, 0, []),
  (33, .ifCond .ne (9), 3, 42, 0, 0, 0, 0, []),
  (42, .aload_n 0, 1, 0, 0, 0, 0, 0, []),
  (43, .getfield 10, 3, 11, 0, 2, 0, 0, []),
  (46, .getfield 237, 3, 2, 15, 0, 0, 0, []),
  (49, .bipush (12), 2, 0, 0, 0, (12), 0, []),
  (51, .if_icmp .lt (10), 3, 61, 0, 0, 0, 0, []),
  (54, .aload_n 0, 1, 0, 0, 0, 0, 0, []),
  (55, .bipush (-5), 2, 0, 0, 0, (-5), 0, []),
  (57, .invokevirtual 95, 3, 17, 2, 1, 0, 0, []),
  (60, .ireturn, 1, 0, 0, 0, 0, 0, []),
  (61, .aload_n 0, 1, 0, 0, 0, 0, 0, []),
  (62, .getfield 10, 3, 11, 0, 2, 0, 0, []),
  (65, .getfield 237, 3, 2, 15, 0, 0, 0, []),
  (68, .istore 6, 2, 6, 0, 0, 0, 0, []),
  (70, .aload_n 0, 1, 0, 0, 0, 0, 0, []),
  (71, .getfield 10, 3, 11, 0, 2, 0, 0, []),
  (74, .dup, 1, 0, 0, 0, 0, 0, []),
  (75, .getfield 237, 3, 2, 15, 0, 0, 0, []),
  (78, .iconst (1), 1, 0, 0, 0, (1), 0, []),
  (79, .iadd, 1, 0, 0, 0, 0, 0, []),
  (80, .putfield 237, 3, 2, 15, 0, 0, 0, []),
  (83, .aload_n 0, 1, 0, 0, 0, 0, 0, []),
  (84, .getfield 10, 3, 11, 0, 2, 0, 0, []),
  (87, .getfield 240, 3, 2, 5, 2, 0, 0, []),
  (90, .iload 6, 2, 6, 0, 0, 0, 0, []),
  (92, .bipush (12), 2, 0, 0, 0, (12), 0, []),
  (94, .imul, 1, 0, 0, 0, 0, 0, []),
  (95, .bipush (9), 2, 0, 0, 0, (9), 0, []),
  (97, .iadd, 1, 0, 0, 0, 0, 0, []),
  (98, .iload_n 1, 1, 1, 0, 0, 0, 0, []),
  (99, .iastore, 1, 0, 0, 0, 0, 0, []),
  (100, .aload_n 0, 1, 0, 0, 0, 0, 0, []),
  (101, .getfield 10, 3, 11, 0, 2, 0, 0, []),
  (104, .getfield 240, 3, 2, 5, 2, 0, 0, []),
  (107, .iload 6, 2, 6, 0, 0, 0, 0, []),
  (109, .bipush (12), 2, 0, 0, 0, (12), 0, []),
  (111, .imul, 1, 0, 0, 0, 0, 0, []),
  (112, .bipush (10), 2, 0, 0, 0, (10), 0, []),
  (114, .iadd, 1, 0, 0, 0, 0, 0, []),
  (115, .iload_n 2, 1, 2, 0, 0, 0, 0, []),
  (116, .iastore, 1, 0, 0, 0, 0, 0, []),
  (117, .aload_n 0, 1, 0, 0, 0, 0, 0, []),
  (118, .getfield 10, 3, 11, 0, 2, 0, 0, []),
  (121, .getfield 240, 3, 2, 5, 2, 0, 0, []),
  (124, .iload 6, 2, 6, 0, 0, 0, 0, []),
  (126, .bipush (12), 2, 0, 0, 0, (12), 0, []),
  (128, .imul, 1, 0, 0, 0, 0, 0, []),
  (129, .iconst (3), 1, 0, 0, 0, (3), 0, []),
  (130, .iadd, 1, 0, 0, 0, 0, 0, []),
  (131, .iload_n 3, 1, 3, 0, 0, 0, 0, []),
  (132, .iastore, 1, 0, 0, 0, 0, 0, []),
  (133, .aload_n 0, 1, 0, 0, 0, 0, 0, []),
  (134, .getfield 10, 3, 11, 0, 2, 0, 0, []),
  (137, .getfield 240, 3, 2, 5, 2, 0, 0, []),
  (140, .iload 6, 2, 6, 0, 0, 0, 0, []),
  (142, .bipush (12), 2, 0, 0, 0, (12), 0, []),
  (144, .imul, 1, 0, 0, 0, 0, 0, []),
  (145, .iconst (0), 1, 0, 0, 0, (0), 0, []),
  (146, .iadd, 1, 0, 0, 0, 0, 0, []),
  (147, .iload 4, 2, 4, 0, 0, 0, 0, []),
  (149, .iastore, 1, 0, 0, 0, 0, 0, []),
  (150, .aload_n 0, 1, 0, 0, 0, 0, 0, []),
  (151, .getfield 10, 3, 11, 0, 2, 0, 0, []),
  (154, .getfield 240, 3, 2, 5, 2, 0, 0, []),
  (157, .iload 6, 2, 6, 0, 0, 0, 0, []),
  (159, .bipush (12), 2, 0, 0, 0, (12), 0, []),
  (161, .imul, 1, 0, 0, 0, 0, 0, []),
  (162, .iconst (1), 1, 0, 0, 0, (1), 0, []),
  (163, .iadd, 1, 0, 0, 0, 0, 0, []),
  (164, .iload 5, 2, 5, 0, 0, 0, 0, []),
  (166, .iastore, 1, 0, 0, 0, 0, 0, []),
  (167, .aload_n 0, 1, 0, 0, 0, 0, 0, []),
  (168, .getfield 61, 3, 11, 6, 2, 0, 0, []),
  (171, .invokevirtual 243, 3, 23, 1, 0, 0, 0, []),
  (174, .aload_n 0, 1, 0, 0, 0, 0, 0, []),
  (175, .iload 6, 2, 6, 0, 0, 0, 0, []),
  (177, .invokevirtual 106, 3, 24, 2, 1, 0, 0, []),
  (180, .ireturn, 1, 0, 0, 0, 0, 0, [])]
set_option maxRecDepth 100000 in
theorem lX11_line_0_ck : lX11_line_0.all (ra_ck mX11_line 11) = true := by decide +kernel
def nX11_line_0 (N : Nat) (a0 : Nat) (a1 : Int32) (a2 : Int32) (a3 : Int32) (a4 : Int32) (a5 : Int32) (h : ra_H) : Option (Int32 × ra_H) :=
  (fX11_fits N ((9 : Int32)) a1 h).bind fun q1 =>
  if q1.1 = 0 then
    nX11_line_36 N a0 q1.2
  else
    (fX11_fits N ((10 : Int32)) a2 q1.2).bind fun q2 =>
    if q2.1 = 0 then
      nX11_line_36 N a0 q2.2
    else
      (fX11_fits N ((3 : Int32)) a3 q2.2).bind fun q3 =>
      if q3.1 = 0 then
        nX11_line_36 N a0 q3.2
      else
        (fX11_isMarkOrNone N a4 a5 q3.2).bind fun q4 =>
        if q4.1 = 0 then
          nX11_line_36 N a0 q4.2
        else
          (ra_fR q4.2 11 a0 0).bind fun x5 =>
          (ra_fI q4.2 2 x5 15).bind fun x6 =>
          if x6 < ((12 : Int32)) then
            (ra_fR q4.2 11 a0 0).bind fun x7 =>
            (ra_fI q4.2 2 x7 15).bind fun x8 =>
            (ra_fR q4.2 11 a0 0).bind fun x9 =>
            (ra_fI q4.2 2 x9 15).bind fun x10 =>
            (ra_fW q4.2 2 x9 15 (.int (x10 + ((1 : Int32))))).bind fun h11 =>
            (ra_fR h11 11 a0 0).bind fun x12 =>
            (ra_fR h11 2 x12 5).bind fun x13 =>
            (ra_aW h11 0 x13 ((x8 * ((12 : Int32))) + ((9 : Int32))) a1).bind fun h14 =>
            (ra_fR h14 11 a0 0).bind fun x15 =>
            (ra_fR h14 2 x15 5).bind fun x16 =>
            (ra_aW h14 0 x16 ((x8 * ((12 : Int32))) + ((10 : Int32))) a2).bind fun h17 =>
            (ra_fR h17 11 a0 0).bind fun x18 =>
            (ra_fR h17 2 x18 5).bind fun x19 =>
            (ra_aW h17 0 x19 ((x8 * ((12 : Int32))) + ((3 : Int32))) a3).bind fun h20 =>
            (ra_fR h20 11 a0 0).bind fun x21 =>
            (ra_fR h20 2 x21 5).bind fun x22 =>
            (ra_aW h20 0 x22 ((x8 * ((12 : Int32))) + ((0 : Int32))) a4).bind fun h23 =>
            (ra_fR h23 11 a0 0).bind fun x24 =>
            (ra_fR h23 2 x24 5).bind fun x25 =>
            (ra_aW h23 0 x25 ((x8 * ((12 : Int32))) + ((1 : Int32))) a5).bind fun h26 =>
            (ra_fR h26 11 a0 6).bind fun x27 =>
            (fX3_forgetAll N x27 h26).bind fun h28 =>
            (fX11_accept N a0 x8 h28).bind fun q29 =>
            some (q29.1, q29.2)
          else
            (fX11_refuse N a0 ((-5 : Int32)) q4.2).bind fun q30 =>
            some (q30.1, q30.2)
def kX11_line_0 (N : Nat) : Nat → List (Option Value) → List Value → ra_H → Option (Int32 × ra_H) := (ra_k1 36 (fun L S h => match L, S with
  | [some (.ref a0), _, _, _, _, _, _], [] => nX11_line_36 N a0 h
  | _, _ => none) ra_k0)
theorem kX11_line_0_ok (N : Nat) : ra_kok 3 mX11_line ra_oI (kX11_line_0 N) := (ra_k1_ok (by
  intro L S h a e
  split at e
  · exact ra_Ru.weak (nX11_line_36_ok N _ _ _ e) ⟨rfl, trivial⟩
  · cases e) ra_k0_ok)
set_option maxRecDepth 100000 in
theorem nX11_line_0_ok (N : Nat) (a0 : Nat) (a1 : Int32) (a2 : Int32) (a3 : Int32) (a4 : Int32) (a5 : Int32) (h : ra_H) (r : (Int32 × ra_H)) (e : nX11_line_0 N a0 a1 a2 a3 a4 a5 h = some r) : ra_Ru 3 mX11_line 0 [some (.ref a0), some (.int a1), some (.int a2), some (.int a3), some (.int a4), some (.int a5), none] [] h (ra_oI r) :=
  ra_sound (by omega) rfl ra_rI_ok (kX11_line_0_ok N) (fun m av h h1 e => (tVX11_line_ok N) m av h h1 e) (fun m av h x h1 e => (tIX11_line_ok N) m av h (x, h1) e) (fun m av h x h1 e => (ra_c0_ok (ro := ra_oJ)) m av h (x, h1) e) (fun m av h x h1 e => (ra_c0_ok (ro := ra_oR)) m av h (x, h1) e) (fun m av h x h1 e => (ra_c0_ok (ro := ra_oN)) m av h (x, h1) e) (fun m av h x h1 e => (ra_c0_ok (ro := ra_oF)) m av h (x, h1) e) 94 lX11_line_0 _ _ _ _ lX11_line_0_ck (show ra_run ra_rI (kX11_line_0 N) (tVX11_line N) (tIX11_line N) ra_c0 ra_c0 ra_c0 ra_c0 94 lX11_line_0 [some (.ref a0), some (.int a1), some (.int a2), some (.int a3), some (.int a4), some (.int a5), none] [] h = some r from e) _ _ rfl
def fX11_line (N : Nat) (p0 : Nat) (p1 : Int32) (p2 : Int32) (p3 : Int32) (p4 : Int32) (p5 : Int32) (h : ra_H) : Option (Int32 × ra_H) := match ra_isOb h p0 11 with
  | true => nX11_line_0 N p0 p1 p2 p3 p4 p5 h
  | false => none
set_option maxRecDepth 100000 in
theorem mtX11_line : ra_MT[145]? = some (mX11_line, 1, 5, (1, 1), (5, 104), (5, 105)) := rfl
theorem fX11_line_co (N : Nat) (p0 : Nat) (p1 : Int32) (p2 : Int32) (p3 : Int32) (p4 : Int32) (p5 : Int32) (h : ra_H) (r : (Int32 × ra_H)) (e : fX11_line N p0 p1 p2 p3 p4 p5 h = some r) (D : Nat) (hD : 4 ≤ D) : ra_CO D 145 [.ref p0, .int p1, .int p2, .int p3, .int p4, .int p5] h (ra_oI r).1 (ra_oI r).2 := by
  have hw : ra_nw2 [.ref p0, .int p1, .int p2, .int p3, .int p4, .int p5] ≤ 7 := Nat.le_of_ble_eq_true rfl
  have hdb : ∀ v ∈ ([.ref p0, .int p1, .int p2, .int p3, .int p4, .int p5] : List Value), ∀ x, v ≠ .double x := by
    intro v hv x hx
    simp [hx] at hv
  unfold fX11_line at e
  split at e
  · rename_i ho
    have e1 := e
    exact ⟨3, _, mtX11_line, hD, ra_ev_of (by decide) hdb hw trivial (ra_Ru.weak (nX11_line_0_ok N p0 p1 p2 p3 p4 p5 h _ e1) ⟨rfl, ⟨rfl, ⟨rfl, ⟨rfl, ⟨rfl, ⟨rfl, trivial⟩⟩⟩⟩⟩⟩), (fun _ => ⟨_, _, rfl, ra_rcv_of ho (by decide) rfl⟩), (fun h => absurd h (by decide))⟩
  · cases e
/-! RedMarks.list(II)I -/
def mX11_list : ra_M := (yX11_list, cX11_list, 4, (some .int))
def tIX11_list (N : Nat) : Nat → List Value → ra_H → Option (Int32 × ra_H) := (ra_c1 17 (fun av h => match av with
  | [.ref z0, .int z1] => fX11_refuse N z0 z1 h
  | _ => none) (ra_c1 24 (fun av h => match av with
  | [.ref z0, .int z1] => fX11_accept N z0 z1 h
  | _ => none) (ra_c1 118 (fun av h => match av with
  | [.ref z0, .int z1] => fX2_hasLine N z0 z1 h
  | _ => none) ra_c0)))
theorem tIX11_list_ok (N : Nat) : ra_cok 2 ra_oI (tIX11_list N) := (ra_c1_ok (by
  intro av h a e
  split at e
  · exact fX11_refuse_co N _ _ _ _ e 2 (by omega)
  · cases e) (ra_c1_ok (by
  intro av h a e
  split at e
  · exact fX11_accept_co N _ _ _ _ e 2 (by omega)
  · cases e) (ra_c1_ok (by
  intro av h a e
  split at e
  · exact fX2_hasLine_co N _ _ _ _ e 2 (by omega)
  · cases e) ra_c0_ok)))
def lX11_list_9 : List ra_I := [(9, .aload_n 0, 1, 0, 0, 0, 0, 0, []),
  (10, .iconst (-1), 1, 0, 0, 0, (-1), 0, []),
  (11, .invokevirtual 95, 3, 17, 2, 1, 0, 0, []),
  (14, .ireturn, 1, 0, 0, 0, 0, 0, [])]
set_option maxRecDepth 100000 in
theorem lX11_list_9_ck : lX11_list_9.all (ra_ck mX11_list 11) = true := by decide +kernel
def nX11_list_9 (N : Nat) (a0 : Nat) (h : ra_H) : Option (Int32 × ra_H) :=
  (fX11_refuse N a0 ((-1 : Int32)) h).bind fun q1 =>
  some (q1.1, q1.2)
def kX11_list_9 (N : Nat) : Nat → List (Option Value) → List Value → ra_H → Option (Int32 × ra_H) := ra_k0
theorem kX11_list_9_ok (N : Nat) : ra_kok 2 mX11_list ra_oI (kX11_list_9 N) := ra_k0_ok
set_option maxRecDepth 100000 in
theorem nX11_list_9_ok (N : Nat) (a0 : Nat) (h : ra_H) (r : (Int32 × ra_H)) (e : nX11_list_9 N a0 h = some r) : ra_Ru 2 mX11_list 9 [some (.ref a0), none, none, none] [] h (ra_oI r) :=
  ra_sound (by omega) rfl ra_rI_ok (kX11_list_9_ok N) (fun m av h h1 e => (ra_c0_ok (ro := ra_oV)) m av h h1 e) (fun m av h x h1 e => (tIX11_list_ok N) m av h (x, h1) e) (fun m av h x h1 e => (ra_c0_ok (ro := ra_oJ)) m av h (x, h1) e) (fun m av h x h1 e => (ra_c0_ok (ro := ra_oR)) m av h (x, h1) e) (fun m av h x h1 e => (ra_c0_ok (ro := ra_oN)) m av h (x, h1) e) (fun m av h x h1 e => (ra_c0_ok (ro := ra_oF)) m av h (x, h1) e) 5 lX11_list_9 _ _ _ _ lX11_list_9_ck (show ra_run ra_rI (kX11_list_9 N) ra_c0 (tIX11_list N) ra_c0 ra_c0 ra_c0 ra_c0 5 lX11_list_9 [some (.ref a0), none, none, none] [] h = some r from e) _ _ rfl
def lX11_list_0 : List ra_I := [(0, .iload_n 2, 1, 2, 0, 0, 0, 0, []),
  (1, .ifCond .lt (8), 3, 9, 0, 0, 0, 0, []),
  (4, .iload_n 2, 1, 2, 0, 0, 0, 0, []),
  (5, .iconst (3), 1, 0, 0, 0, (3), 0, []),
  (6, .if_icmp .le (9), 3, 15, 0, 0, 0, 0, []),
  (15, .aload_n 0, 1, 0, 0, 0, 0, 0, []),
  (16, .getfield 10, 3, 11, 0, 2, 0, 0, []),
  (19, .iload_n 1, 1, 1, 0, 0, 0, 0, []),
  (20, .invokevirtual 228, 3, 118, 2, 1, 0, 0, []),
  (23, .ifCond .ne (10), 3, 33, 0, 0, 0, 0, []),
  (26, .aload_n 0, 1, 0, 0, 0, 0, 0, []),
  (27, .bipush (-2), 2, 0, 0, 0, (-2), 0, []),
  (29, .invokevirtual 95, 3, 17, 2, 1, 0, 0, []),
  (32, .ireturn, 1, 0, 0, 0, 0, 0, []),
  (33, .aload_n 0, 1, 0, 0, 0, 0, 0, []),
  (34, .getfield 10, 3, 11, 0, 2, 0, 0, []),
  (37, .getfield 246, 3, 2, 6, 2, 0, 0, []),
  (40, .iload_n 1, 1, 1, 0, 0, 0, 0, []),
  (41, .iaload, 1, 0, 0, 0, 0, 0, []),
  (42, .istore_n 3, 1, 3, 0, 0, 0, 0, []),
  (43, .aload_n 0, 1, 0, 0, 0, 0, 0, []),
  (44, .getfield 10, 3, 11, 0, 2, 0, 0, []),
  (47, .getfield 246, 3, 2, 6, 2, 0, 0, []),
  (50, .iload_n 1, 1, 1, 0, 0, 0, 0, []),
  (51, .iload_n 2, 1, 2, 0, 0, 0, 0, []),
  (52, .iastore, 1, 0, 0, 0, 0, 0, []),
  (53, .aload_n 0, 1, 0, 0, 0, 0, 0, []),
  (54, .iload_n 3, 1, 3, 0, 0, 0, 0, []),
  (55, .invokevirtual 106, 3, 24, 2, 1, 0, 0, []),
  (58, .ireturn, 1, 0, 0, 0, 0, 0, [])]
set_option maxRecDepth 100000 in
theorem lX11_list_0_ck : lX11_list_0.all (ra_ck mX11_list 11) = true := by decide +kernel
def nX11_list_0 (N : Nat) (a0 : Nat) (a1 : Int32) (a2 : Int32) (h : ra_H) : Option (Int32 × ra_H) :=
  if a2 < 0 then
    nX11_list_9 N a0 h
  else
    if a2 ≤ ((3 : Int32)) then
      (ra_fR h 11 a0 0).bind fun x1 =>
      (fX2_hasLine N x1 a1 h).bind fun q2 =>
      if q2.1 = 0 then
        (fX11_refuse N a0 ((-2 : Int32)) q2.2).bind fun q10 =>
        some (q10.1, q10.2)
      else
        (ra_fR q2.2 11 a0 0).bind fun x3 =>
        (ra_fR q2.2 2 x3 6).bind fun x4 =>
        (ra_aI q2.2 0 x4 a1).bind fun x5 =>
        (ra_fR q2.2 11 a0 0).bind fun x6 =>
        (ra_fR q2.2 2 x6 6).bind fun x7 =>
        (ra_aW q2.2 0 x7 a1 a2).bind fun h8 =>
        (fX11_accept N a0 x5 h8).bind fun q9 =>
        some (q9.1, q9.2)
    else
      nX11_list_9 N a0 h
def kX11_list_0 (N : Nat) : Nat → List (Option Value) → List Value → ra_H → Option (Int32 × ra_H) := (ra_k1 9 (fun L S h => match L, S with
  | [some (.ref a0), _, _, _], [] => nX11_list_9 N a0 h
  | _, _ => none) ra_k0)
theorem kX11_list_0_ok (N : Nat) : ra_kok 2 mX11_list ra_oI (kX11_list_0 N) := (ra_k1_ok (by
  intro L S h a e
  split at e
  · exact ra_Ru.weak (nX11_list_9_ok N _ _ _ e) ⟨rfl, trivial⟩
  · cases e) ra_k0_ok)
set_option maxRecDepth 100000 in
theorem nX11_list_0_ok (N : Nat) (a0 : Nat) (a1 : Int32) (a2 : Int32) (h : ra_H) (r : (Int32 × ra_H)) (e : nX11_list_0 N a0 a1 a2 h = some r) : ra_Ru 2 mX11_list 0 [some (.ref a0), some (.int a1), some (.int a2), none] [] h (ra_oI r) :=
  ra_sound (by omega) rfl ra_rI_ok (kX11_list_0_ok N) (fun m av h h1 e => (ra_c0_ok (ro := ra_oV)) m av h h1 e) (fun m av h x h1 e => (tIX11_list_ok N) m av h (x, h1) e) (fun m av h x h1 e => (ra_c0_ok (ro := ra_oJ)) m av h (x, h1) e) (fun m av h x h1 e => (ra_c0_ok (ro := ra_oR)) m av h (x, h1) e) (fun m av h x h1 e => (ra_c0_ok (ro := ra_oN)) m av h (x, h1) e) (fun m av h x h1 e => (ra_c0_ok (ro := ra_oF)) m av h (x, h1) e) 31 lX11_list_0 _ _ _ _ lX11_list_0_ck (show ra_run ra_rI (kX11_list_0 N) ra_c0 (tIX11_list N) ra_c0 ra_c0 ra_c0 ra_c0 31 lX11_list_0 [some (.ref a0), some (.int a1), some (.int a2), none] [] h = some r from e) _ _ rfl
def fX11_list (N : Nat) (p0 : Nat) (p1 : Int32) (p2 : Int32) (h : ra_H) : Option (Int32 × ra_H) := match ra_isOb h p0 11 with
  | true => nX11_list_0 N p0 p1 p2 h
  | false => none
set_option maxRecDepth 100000 in
theorem mtX11_list : ra_MT[146]? = some (mX11_list, 1, 2, (1, 1), (5, 108), (5, 109)) := rfl
theorem fX11_list_co (N : Nat) (p0 : Nat) (p1 : Int32) (p2 : Int32) (h : ra_H) (r : (Int32 × ra_H)) (e : fX11_list N p0 p1 p2 h = some r) (D : Nat) (hD : 3 ≤ D) : ra_CO D 146 [.ref p0, .int p1, .int p2] h (ra_oI r).1 (ra_oI r).2 := by
  have hw : ra_nw2 [.ref p0, .int p1, .int p2] ≤ 4 := Nat.le_of_ble_eq_true rfl
  have hdb : ∀ v ∈ ([.ref p0, .int p1, .int p2] : List Value), ∀ x, v ≠ .double x := by
    intro v hv x hx
    simp [hx] at hv
  unfold fX11_list at e
  split at e
  · rename_i ho
    have e1 := e
    exact ⟨2, _, mtX11_list, hD, ra_ev_of (by decide) hdb hw trivial (ra_Ru.weak (nX11_list_0_ok N p0 p1 p2 h _ e1) ⟨rfl, ⟨rfl, ⟨rfl, trivial⟩⟩⟩), (fun _ => ⟨_, _, rfl, ra_rcv_of ho (by decide) rfl⟩), (fun h => absurd h (by decide))⟩
  · cases e
/-! RedMarks.mark(III)I -/
def mX11_mark : ra_M := (yX11_mark, cX11_mark, 4, (some .int))
def tVX11_mark (N : Nat) : Nat → List Value → ra_H → Option ra_H := (ra_c1 19 (fun av h => match av with
  | [.ref z0, .int z1, .int z2, .int z3] => fX2_setFact N z0 z1 z2 z3 h
  | _ => none) (ra_c1 20 (fun av h => match av with
  | [.ref z0, .int z1] => fX11_forgetBook N z0 z1 h
  | _ => none) ra_c0))
theorem tVX11_mark_ok (N : Nat) : ra_cok 4 ra_oV (tVX11_mark N) := (ra_c1_ok (by
  intro av h a e
  split at e
  · exact fX2_setFact_co N _ _ _ _ _ _ e 4 (by omega)
  · cases e) (ra_c1_ok (by
  intro av h a e
  split at e
  · exact fX11_forgetBook_co N _ _ _ _ e 4 (by omega)
  · cases e) ra_c0_ok))
def tIX11_mark (N : Nat) : Nat → List Value → ra_H → Option (Int32 × ra_H) := (ra_c1 14 (fun av h => match av with
  | [.int z0, .int z1] => fX11_isMarkOrNone N z0 z1 h
  | _ => none) (ra_c1 17 (fun av h => match av with
  | [.ref z0, .int z1] => fX11_refuse N z0 z1 h
  | _ => none) (ra_c1 24 (fun av h => match av with
  | [.ref z0, .int z1] => fX11_accept N z0 z1 h
  | _ => none) (ra_c1 26 (fun av h => match av with
  | [.ref z0, .int z1] => fX2_hasBook N z0 z1 h
  | _ => none) ra_c0))))
theorem tIX11_mark_ok (N : Nat) : ra_cok 4 ra_oI (tIX11_mark N) := (ra_c1_ok (by
  intro av h a e
  split at e
  · exact fX11_isMarkOrNone_co N _ _ _ _ e 4 (by omega)
  · cases e) (ra_c1_ok (by
  intro av h a e
  split at e
  · exact fX11_refuse_co N _ _ _ _ e 4 (by omega)
  · cases e) (ra_c1_ok (by
  intro av h a e
  split at e
  · exact fX11_accept_co N _ _ _ _ e 4 (by omega)
  · cases e) (ra_c1_ok (by
  intro av h a e
  split at e
  · exact fX2_hasBook_co N _ _ _ _ e 4 (by omega)
  · cases e) ra_c0_ok))))
def lX11_mark_0 : List ra_I := [(0, .iload_n 2, 1, 2, 0, 0, 0, 0, []),
  (1, .iload_n 3, 1, 3, 0, 0, 0, 0, []),
  (2, .invokestatic 87, 3, 14, 2, 1, 0, 0, []),
  (5, .ifCond .ne (9), 3, 14, 0, 0, 0, 0, []),
  (8, .aload_n 0, 1, 0, 0, 0, 0, 0, []),
  (9, .iconst (-1), 1, 0, 0, 0, (-1), 0, []),
  (10, .invokevirtual 95, 3, 17, 2, 1, 0, 0, []),
  (13, .ireturn, 1, 0, 0, 0, 0, 0, []),
  (14, .aload_n 0, 1, 0, 0, 0, 0, 0, []),
  (15, .getfield 10, 3, 11, 0, 2, 0, 0, []),
  (18, .iload_n 1, 1, 1, 0, 0, 0, 0, []),
  (19, .invokevirtual 112, 3, 26, 2, 1, 0, 0, []),
  (22, .ifCond .ne (10), 3, 32, 0, 0, 0, 0, []),
  (25, .aload_n 0, 1, 0, 0, 0, 0, 0, []),
  (26, .bipush (-2), 2, 0, 0, 0, (-2), 0, []),
  (28, .invokevirtual 95, 3, 17, 2, 1, 0, 0, []),
  (31, .ireturn, 1, 0, 0, 0, 0, 0, []),
  (32, .aload_n 0, 1, 0, 0, 0, 0, 0, []),
  (33, .getfield 10, 3, 11, 0, 2, 0, 0, []),
  (36, .iload_n 1, 1, 1, 0, 0, 0, 0, []),
  (37, .iconst (0), 1, 0, 0, 0, (0), 0, []),
  (38, .iload_n 2, 1, 2, 0, 0, 0, 0, []),
  (39, .invokevirtual 120, 3, 19, 4, 0, 0, 0, []),
  (42, .aload_n 0, 1, 0, 0, 0, 0, 0, []),
  (43, .getfield 10, 3, 11, 0, 2, 0, 0, []),
  (46, .iload_n 1, 1, 1, 0, 0, 0, 0, []),
  (47, .iconst (1), 1, 0, 0, 0, (1), 0, []),
  (48, .iload_n 3, 1, 3, 0, 0, 0, 0, []),
  (49, .invokevirtual 120, 3, 19, 4, 0, 0, 0, []),
  (52, .aload_n 0, 1, 0, 0, 0, 0, 0, []),
  (53, .iload_n 1, 1, 1, 0, 0, 0, 0, []),
  (54, .invokevirtual 128, 3, 20, 2, 0, 0, 0, []),
  (57, .aload_n 0, 1, 0, 0, 0, 0, 0, []),
  (58, .iconst (0), 1, 0, 0, 0, (0), 0, []),
  (59, .invokevirtual 106, 3, 24, 2, 1, 0, 0, []),
  (62, .ireturn, 1, 0, 0, 0, 0, 0, [])]
set_option maxRecDepth 100000 in
theorem lX11_mark_0_ck : lX11_mark_0.all (ra_ck mX11_mark 11) = true := by decide +kernel
def nX11_mark_0 (N : Nat) (a0 : Nat) (a1 : Int32) (a2 : Int32) (a3 : Int32) (h : ra_H) : Option (Int32 × ra_H) :=
  (fX11_isMarkOrNone N a2 a3 h).bind fun q1 =>
  if q1.1 = 0 then
    (fX11_refuse N a0 ((-1 : Int32)) q1.2).bind fun q11 =>
    some (q11.1, q11.2)
  else
    (ra_fR q1.2 11 a0 0).bind fun x2 =>
    (fX2_hasBook N x2 a1 q1.2).bind fun q3 =>
    if q3.1 = 0 then
      (fX11_refuse N a0 ((-2 : Int32)) q3.2).bind fun q10 =>
      some (q10.1, q10.2)
    else
      (ra_fR q3.2 11 a0 0).bind fun x4 =>
      (fX2_setFact N x4 a1 ((0 : Int32)) a2 q3.2).bind fun h5 =>
      (ra_fR h5 11 a0 0).bind fun x6 =>
      (fX2_setFact N x6 a1 ((1 : Int32)) a3 h5).bind fun h7 =>
      (fX11_forgetBook N a0 a1 h7).bind fun h8 =>
      (fX11_accept N a0 ((0 : Int32)) h8).bind fun q9 =>
      some (q9.1, q9.2)
def kX11_mark_0 (N : Nat) : Nat → List (Option Value) → List Value → ra_H → Option (Int32 × ra_H) := ra_k0
theorem kX11_mark_0_ok (N : Nat) : ra_kok 4 mX11_mark ra_oI (kX11_mark_0 N) := ra_k0_ok
set_option maxRecDepth 100000 in
theorem nX11_mark_0_ok (N : Nat) (a0 : Nat) (a1 : Int32) (a2 : Int32) (a3 : Int32) (h : ra_H) (r : (Int32 × ra_H)) (e : nX11_mark_0 N a0 a1 a2 a3 h = some r) : ra_Ru 4 mX11_mark 0 [some (.ref a0), some (.int a1), some (.int a2), some (.int a3)] [] h (ra_oI r) :=
  ra_sound (by omega) rfl ra_rI_ok (kX11_mark_0_ok N) (fun m av h h1 e => (tVX11_mark_ok N) m av h h1 e) (fun m av h x h1 e => (tIX11_mark_ok N) m av h (x, h1) e) (fun m av h x h1 e => (ra_c0_ok (ro := ra_oJ)) m av h (x, h1) e) (fun m av h x h1 e => (ra_c0_ok (ro := ra_oR)) m av h (x, h1) e) (fun m av h x h1 e => (ra_c0_ok (ro := ra_oN)) m av h (x, h1) e) (fun m av h x h1 e => (ra_c0_ok (ro := ra_oF)) m av h (x, h1) e) 37 lX11_mark_0 _ _ _ _ lX11_mark_0_ck (show ra_run ra_rI (kX11_mark_0 N) (tVX11_mark N) (tIX11_mark N) ra_c0 ra_c0 ra_c0 ra_c0 37 lX11_mark_0 [some (.ref a0), some (.int a1), some (.int a2), some (.int a3)] [] h = some r from e) _ _ rfl
def fX11_mark (N : Nat) (p0 : Nat) (p1 : Int32) (p2 : Int32) (p3 : Int32) (h : ra_H) : Option (Int32 × ra_H) := match ra_isOb h p0 11 with
  | true => nX11_mark_0 N p0 p1 p2 p3 h
  | false => none
set_option maxRecDepth 100000 in
theorem mtX11_mark : ra_MT[30]? = some (mX11_mark, 1, 3, (1, 1), (3, 61), (3, 62)) := rfl
theorem fX11_mark_co (N : Nat) (p0 : Nat) (p1 : Int32) (p2 : Int32) (p3 : Int32) (h : ra_H) (r : (Int32 × ra_H)) (e : fX11_mark N p0 p1 p2 p3 h = some r) (D : Nat) (hD : 5 ≤ D) : ra_CO D 30 [.ref p0, .int p1, .int p2, .int p3] h (ra_oI r).1 (ra_oI r).2 := by
  have hw : ra_nw2 [.ref p0, .int p1, .int p2, .int p3] ≤ 4 := Nat.le_of_ble_eq_true rfl
  have hdb : ∀ v ∈ ([.ref p0, .int p1, .int p2, .int p3] : List Value), ∀ x, v ≠ .double x := by
    intro v hv x hx
    simp [hx] at hv
  unfold fX11_mark at e
  split at e
  · rename_i ho
    have e1 := e
    exact ⟨4, _, mtX11_mark, hD, ra_ev_of (by decide) hdb hw trivial (ra_Ru.weak (nX11_mark_0_ok N p0 p1 p2 p3 h _ e1) ⟨rfl, ⟨rfl, ⟨rfl, ⟨rfl, trivial⟩⟩⟩⟩), (fun _ => ⟨_, _, rfl, ra_rcv_of ho (by decide) rfl⟩), (fun h => absurd h (by decide))⟩
  · cases e
/-! RedMarks.match(I)I -/
def mX11_match : ra_M := (yX11_match, cX11_match, 2, (some .int))
def tVX11_match (N : Nat) : Nat → List Value → ra_H → Option ra_H := (ra_c1 119 (fun av h => match av with
  | [.ref z0] => fX3_weighAll N z0 h
  | _ => none) ra_c0)
theorem tVX11_match_ok (N : Nat) : ra_cok 6 ra_oV (tVX11_match N) := (ra_c1_ok (by
  intro av h a e
  split at e
  · exact fX3_weighAll_co N _ _ _ e 6 (by omega)
  · cases e) ra_c0_ok)
def tIX11_match (N : Nat) : Nat → List Value → ra_H → Option (Int32 × ra_H) := (ra_c1 134 (fun av h => match av with
  | [.int z0] => fJ6_bitCount_0f7a4 N z0 h
  | _ => none) ra_c0)
theorem tIX11_match_ok (N : Nat) : ra_cok 6 ra_oI (tIX11_match N) := (ra_c1_ok (by
  intro av h a e
  split at e
  · exact fJ6_bitCount_0f7a4_co N _ _ _ e 6 (by omega)
  · cases e) ra_c0_ok)
def lX11_match_9 : List ra_I := [(9, .iconst (-1), 1, 0, 0, 0, (-1), 0, []),
  (10, .ireturn, 1, 0, 0, 0, 0, 0, [])]
set_option maxRecDepth 100000 in
theorem lX11_match_9_ck : lX11_match_9.all (ra_ck mX11_match 11) = true := by decide +kernel
def nX11_match_9 (N : Nat) (h : ra_H) : Option (Int32 × ra_H) :=
  some ((-1 : Int32), h)
def kX11_match_9 (N : Nat) : Nat → List (Option Value) → List Value → ra_H → Option (Int32 × ra_H) := ra_k0
theorem kX11_match_9_ok (N : Nat) : ra_kok 6 mX11_match ra_oI (kX11_match_9 N) := ra_k0_ok
set_option maxRecDepth 100000 in
theorem nX11_match_9_ok (N : Nat) (h : ra_H) (r : (Int32 × ra_H)) (e : nX11_match_9 N h = some r) : ra_Ru 6 mX11_match 9 [none, none] [] h (ra_oI r) :=
  ra_sound (by omega) rfl ra_rI_ok (kX11_match_9_ok N) (fun m av h h1 e => (tVX11_match_ok N) m av h h1 e) (fun m av h x h1 e => (tIX11_match_ok N) m av h (x, h1) e) (fun m av h x h1 e => (ra_c0_ok (ro := ra_oJ)) m av h (x, h1) e) (fun m av h x h1 e => (ra_c0_ok (ro := ra_oR)) m av h (x, h1) e) (fun m av h x h1 e => (ra_c0_ok (ro := ra_oN)) m av h (x, h1) e) (fun m av h x h1 e => (ra_c0_ok (ro := ra_oF)) m av h (x, h1) e) 3 lX11_match_9 _ _ _ _ lX11_match_9_ck (show ra_run ra_rI (kX11_match_9 N) (tVX11_match N) (tIX11_match N) ra_c0 ra_c0 ra_c0 ra_c0 3 lX11_match_9 [none, none] [] h = some r from e) _ _ rfl
def lX11_match_55 : List ra_I := [(55, .ireturn, 1, 0, 0, 0, 0, 0, [])]
set_option maxRecDepth 100000 in
theorem lX11_match_55_ck : lX11_match_55.all (ra_ck mX11_match 11) = true := by decide +kernel
def nX11_match_55 (N : Nat) (b0 : Int32) (h : ra_H) : Option (Int32 × ra_H) :=
  some (b0, h)
def kX11_match_55 (N : Nat) : Nat → List (Option Value) → List Value → ra_H → Option (Int32 × ra_H) := ra_k0
theorem kX11_match_55_ok (N : Nat) : ra_kok 6 mX11_match ra_oI (kX11_match_55 N) := ra_k0_ok
set_option maxRecDepth 100000 in
theorem nX11_match_55_ok (N : Nat) (b0 : Int32) (h : ra_H) (r : (Int32 × ra_H)) (e : nX11_match_55 N b0 h = some r) : ra_Ru 6 mX11_match 55 [none, none] [.int b0] h (ra_oI r) :=
  ra_sound (by omega) rfl ra_rI_ok (kX11_match_55_ok N) (fun m av h h1 e => (tVX11_match_ok N) m av h h1 e) (fun m av h x h1 e => (tIX11_match_ok N) m av h (x, h1) e) (fun m av h x h1 e => (ra_c0_ok (ro := ra_oJ)) m av h (x, h1) e) (fun m av h x h1 e => (ra_c0_ok (ro := ra_oR)) m av h (x, h1) e) (fun m av h x h1 e => (ra_c0_ok (ro := ra_oN)) m av h (x, h1) e) (fun m av h x h1 e => (ra_c0_ok (ro := ra_oF)) m av h (x, h1) e) 2 lX11_match_55 _ _ _ _ lX11_match_55_ck (show ra_run ra_rI (kX11_match_55 N) (tVX11_match N) (tIX11_match N) ra_c0 ra_c0 ra_c0 ra_c0 2 lX11_match_55 [none, none] [.int b0] h = some r from e) _ _ rfl
def lX11_match_0 : List ra_I := [(0, .iload_n 1, 1, 1, 0, 0, 0, 0, []),
  (1, .ifCond .lt (8), 3, 9, 0, 0, 0, 0, []),
  (4, .iload_n 1, 1, 1, 0, 0, 0, 0, []),
  (5, .iconst (2), 1, 0, 0, 0, (2), 0, []),
  (6, .if_icmp .le (5), 3, 11, 0, 0, 0, 0, []),
  (11, .aload_n 0, 1, 0, 0, 0, 0, 0, []),
  (12, .getfield 61, 3, 11, 6, 2, 0, 0, []),
  (15, .invokevirtual 231, 3, 119, 1, 0, 0, 0, []),
  (18, .iload_n 1, 1, 1, 0, 0, 0, 0, []),
  (19, .ifCond .ne (11), 3, 30, 0, 0, 0, 0, []),
  (22, .aload_n 0, 1, 0, 0, 0, 0, 0, []),
  (23, .getfield 61, 3, 11, 6, 2, 0, 0, []),
  (26, .getfield 291, 3, 3, 16, 0, 0, 0, []),
  (29, .ireturn, 1, 0, 0, 0, 0, 0, []),
  (30, .iload_n 1, 1, 1, 0, 0, 0, 0, []),
  (31, .iconst (1), 1, 0, 0, 0, (1), 0, []),
  (32, .if_icmp .ne (13), 3, 45, 0, 0, 0, 0, []),
  (35, .aload_n 0, 1, 0, 0, 0, 0, 0, []),
  (36, .getfield 61, 3, 11, 6, 2, 0, 0, []),
  (39, .getfield 294, 3, 3, 17, 0, 0, 0, []),
  (42, .goto (13), 3, 55, 0, 0, 0, 0, []),
  (45, .aload_n 0, 1, 0, 0, 0, 0, 0, []),
  (46, .getfield 61, 3, 11, 6, 2, 0, 0, []),
  (49, .getfield 297, 3, 3, 15, 0, 0, 0, []),
  (52, .invokestatic 300, 3, 134, 1, 1, 0, 0, [])]
set_option maxRecDepth 100000 in
theorem lX11_match_0_ck : lX11_match_0.all (ra_ck mX11_match 11) = true := by decide +kernel
def nX11_match_0 (N : Nat) (a0 : Nat) (a1 : Int32) (h : ra_H) : Option (Int32 × ra_H) :=
  if a1 < 0 then
    nX11_match_9 N h
  else
    if a1 ≤ ((2 : Int32)) then
      (ra_fR h 11 a0 6).bind fun x1 =>
      (fX3_weighAll N x1 h).bind fun h2 =>
      if a1 = 0 then
        (ra_fR h2 11 a0 6).bind fun x8 =>
        (ra_fI h2 3 x8 16).bind fun x9 =>
        some (x9, h2)
      else
        if a1 = ((1 : Int32)) then
          (ra_fR h2 11 a0 6).bind fun x6 =>
          (ra_fI h2 3 x6 17).bind fun x7 =>
          nX11_match_55 N x7 h2
        else
          (ra_fR h2 11 a0 6).bind fun x3 =>
          (ra_fI h2 3 x3 15).bind fun x4 =>
          (fJ6_bitCount_0f7a4 N x4 h2).bind fun q5 =>
          nX11_match_55 N q5.1 q5.2
    else
      nX11_match_9 N h
def kX11_match_0 (N : Nat) : Nat → List (Option Value) → List Value → ra_H → Option (Int32 × ra_H) := (ra_k1 9 (fun L S h => match L, S with
  | [_, _], [] => nX11_match_9 N h
  | _, _ => none) (ra_k1 55 (fun L S h => match L, S with
  | [_, _], [.int b0] => nX11_match_55 N b0 h
  | _, _ => none) ra_k0))
theorem kX11_match_0_ok (N : Nat) : ra_kok 6 mX11_match ra_oI (kX11_match_0 N) := (ra_k1_ok (by
  intro L S h a e
  split at e
  · exact ra_Ru.weak (nX11_match_9_ok N _ _ e) trivial
  · cases e) (ra_k1_ok (by
  intro L S h a e
  split at e
  · exact ra_Ru.weak (nX11_match_55_ok N _ _ _ e) trivial
  · cases e) ra_k0_ok))
set_option maxRecDepth 100000 in
theorem nX11_match_0_ok (N : Nat) (a0 : Nat) (a1 : Int32) (h : ra_H) (r : (Int32 × ra_H)) (e : nX11_match_0 N a0 a1 h = some r) : ra_Ru 6 mX11_match 0 [some (.ref a0), some (.int a1)] [] h (ra_oI r) :=
  ra_sound (by omega) rfl ra_rI_ok (kX11_match_0_ok N) (fun m av h h1 e => (tVX11_match_ok N) m av h h1 e) (fun m av h x h1 e => (tIX11_match_ok N) m av h (x, h1) e) (fun m av h x h1 e => (ra_c0_ok (ro := ra_oJ)) m av h (x, h1) e) (fun m av h x h1 e => (ra_c0_ok (ro := ra_oR)) m av h (x, h1) e) (fun m av h x h1 e => (ra_c0_ok (ro := ra_oN)) m av h (x, h1) e) (fun m av h x h1 e => (ra_c0_ok (ro := ra_oF)) m av h (x, h1) e) 26 lX11_match_0 _ _ _ _ lX11_match_0_ck (show ra_run ra_rI (kX11_match_0 N) (tVX11_match N) (tIX11_match N) ra_c0 ra_c0 ra_c0 ra_c0 26 lX11_match_0 [some (.ref a0), some (.int a1)] [] h = some r from e) _ _ rfl
def fX11_match (N : Nat) (p0 : Nat) (p1 : Int32) (h : ra_H) : Option (Int32 × ra_H) := match ra_isOb h p0 11 with
  | true => nX11_match_0 N p0 p1 h
  | false => none
set_option maxRecDepth 100000 in
theorem mtX11_match : ra_MT[167]? = some (mX11_match, 1, 1, (1, 1), (5, 196), (5, 197)) := rfl
theorem fX11_match_co (N : Nat) (p0 : Nat) (p1 : Int32) (h : ra_H) (r : (Int32 × ra_H)) (e : fX11_match N p0 p1 h = some r) (D : Nat) (hD : 7 ≤ D) : ra_CO D 167 [.ref p0, .int p1] h (ra_oI r).1 (ra_oI r).2 := by
  have hw : ra_nw2 [.ref p0, .int p1] ≤ 2 := Nat.le_of_ble_eq_true rfl
  have hdb : ∀ v ∈ ([.ref p0, .int p1] : List Value), ∀ x, v ≠ .double x := by
    intro v hv x hx
    simp [hx] at hv
  unfold fX11_match at e
  split at e
  · rename_i ho
    have e1 := e
    exact ⟨6, _, mtX11_match, hD, ra_ev_of (by decide) hdb hw trivial (ra_Ru.weak (nX11_match_0_ok N p0 p1 h _ e1) ⟨rfl, ⟨rfl, trivial⟩⟩), (fun _ => ⟨_, _, rfl, ra_rcv_of ho (by decide) rfl⟩), (fun h => absurd h (by decide))⟩
  · cases e
/-! RedMarks.matched(II)I -/
def mX11_matched : ra_M := (yX11_matched, cX11_matched, 3, (some .int))
def tVX11_matched (N : Nat) : Nat → List Value → ra_H → Option ra_H := (ra_c1 119 (fun av h => match av with
  | [.ref z0] => fX3_weighAll N z0 h
  | _ => none) ra_c0)
theorem tVX11_matched_ok (N : Nat) : ra_cok 6 ra_oV (tVX11_matched N) := (ra_c1_ok (by
  intro av h a e
  split at e
  · exact fX3_weighAll_co N _ _ _ e 6 (by omega)
  · cases e) ra_c0_ok)
def tIX11_matched (N : Nat) : Nat → List Value → ra_H → Option (Int32 × ra_H) := (ra_c1 26 (fun av h => match av with
  | [.ref z0, .int z1] => fX2_hasBook N z0 z1 h
  | _ => none) ra_c0)
theorem tIX11_matched_ok (N : Nat) : ra_cok 6 ra_oI (tIX11_matched N) := (ra_c1_ok (by
  intro av h a e
  split at e
  · exact fX2_hasBook_co N _ _ _ _ e 6 (by omega)
  · cases e) ra_c0_ok)
def lX11_matched_20 : List ra_I := [(20, .iconst (-1), 1, 0, 0, 0, (-1), 0, []),
  (21, .ireturn, 1, 0, 0, 0, 0, 0, [])]
set_option maxRecDepth 100000 in
theorem lX11_matched_20_ck : lX11_matched_20.all (ra_ck mX11_matched 11) = true := by decide +kernel
def nX11_matched_20 (N : Nat) (h : ra_H) : Option (Int32 × ra_H) :=
  some ((-1 : Int32), h)
def kX11_matched_20 (N : Nat) : Nat → List (Option Value) → List Value → ra_H → Option (Int32 × ra_H) := ra_k0
theorem kX11_matched_20_ok (N : Nat) : ra_kok 6 mX11_matched ra_oI (kX11_matched_20 N) := ra_k0_ok
set_option maxRecDepth 100000 in
theorem nX11_matched_20_ok (N : Nat) (h : ra_H) (r : (Int32 × ra_H)) (e : nX11_matched_20 N h = some r) : ra_Ru 6 mX11_matched 20 [none, none, none] [] h (ra_oI r) :=
  ra_sound (by omega) rfl ra_rI_ok (kX11_matched_20_ok N) (fun m av h h1 e => (tVX11_matched_ok N) m av h h1 e) (fun m av h x h1 e => (tIX11_matched_ok N) m av h (x, h1) e) (fun m av h x h1 e => (ra_c0_ok (ro := ra_oJ)) m av h (x, h1) e) (fun m av h x h1 e => (ra_c0_ok (ro := ra_oR)) m av h (x, h1) e) (fun m av h x h1 e => (ra_c0_ok (ro := ra_oN)) m av h (x, h1) e) (fun m av h x h1 e => (ra_c0_ok (ro := ra_oF)) m av h (x, h1) e) 3 lX11_matched_20 _ _ _ _ lX11_matched_20_ck (show ra_run ra_rI (kX11_matched_20 N) (tVX11_matched N) (tIX11_matched N) ra_c0 ra_c0 ra_c0 ra_c0 3 lX11_matched_20 [none, none, none] [] h = some r from e) _ _ rfl
def lX11_matched_60 : List ra_I := [(60, .ireturn, 1, 0, 0, 0, 0, 0, [])]
set_option maxRecDepth 100000 in
theorem lX11_matched_60_ck : lX11_matched_60.all (ra_ck mX11_matched 11) = true := by decide +kernel
def nX11_matched_60 (N : Nat) (b0 : Int32) (h : ra_H) : Option (Int32 × ra_H) :=
  some (b0, h)
def kX11_matched_60 (N : Nat) : Nat → List (Option Value) → List Value → ra_H → Option (Int32 × ra_H) := ra_k0
theorem kX11_matched_60_ok (N : Nat) : ra_kok 6 mX11_matched ra_oI (kX11_matched_60 N) := ra_k0_ok
set_option maxRecDepth 100000 in
theorem nX11_matched_60_ok (N : Nat) (b0 : Int32) (h : ra_H) (r : (Int32 × ra_H)) (e : nX11_matched_60 N b0 h = some r) : ra_Ru 6 mX11_matched 60 [none, none, none] [.int b0] h (ra_oI r) :=
  ra_sound (by omega) rfl ra_rI_ok (kX11_matched_60_ok N) (fun m av h h1 e => (tVX11_matched_ok N) m av h h1 e) (fun m av h x h1 e => (tIX11_matched_ok N) m av h (x, h1) e) (fun m av h x h1 e => (ra_c0_ok (ro := ra_oJ)) m av h (x, h1) e) (fun m av h x h1 e => (ra_c0_ok (ro := ra_oR)) m av h (x, h1) e) (fun m av h x h1 e => (ra_c0_ok (ro := ra_oN)) m av h (x, h1) e) (fun m av h x h1 e => (ra_c0_ok (ro := ra_oF)) m av h (x, h1) e) 2 lX11_matched_60 _ _ _ _ lX11_matched_60_ck (show ra_run ra_rI (kX11_matched_60 N) (tVX11_matched N) (tIX11_matched N) ra_c0 ra_c0 ra_c0 ra_c0 2 lX11_matched_60 [none, none, none] [.int b0] h = some r from e) _ _ rfl
def lX11_matched_0 : List ra_I := [(0, .aload_n 0, 1, 0, 0, 0, 0, 0, []),
  (1, .getfield 10, 3, 11, 0, 2, 0, 0, []),
  (4, .iload_n 1, 1, 1, 0, 0, 0, 0, []),
  (5, .invokevirtual 112, 3, 26, 2, 1, 0, 0, []),
  (8, .ifCond .eq (12), 3, 20, 0, 0, 0, 0, []),
  (11, .iload_n 2, 1, 2, 0, 0, 0, 0, []),
  (12, .ifCond .lt (8), 3, 20, 0, 0, 0, 0, []),
  (15, .iload_n 2, 1, 2, 0, 0, 0, 0, []),
  (16, .iconst (1), 1, 0, 0, 0, (1), 0, []),
  (17, .if_icmp .le (5), 3, 22, 0, 0, 0, 0, []),
  (22, .aload_n 0, 1, 0, 0, 0, 0, 0, []),
  (23, .getfield 61, 3, 11, 6, 2, 0, 0, []),
  (26, .invokevirtual 231, 3, 119, 1, 0, 0, 0, []),
  (29, .iload_n 2, 1, 2, 0, 0, 0, 0, []),
  (30, .ifCond .ne (13), 3, 43, 0, 0, 0, 0, []),
  (33, .aload_n 0, 1, 0, 0, 0, 0, 0, []),
  (34, .getfield 61, 3, 11, 6, 2, 0, 0, []),
  (37, .getfield 305, 3, 3, 13, 2, 0, 0, []),
  (40, .iload_n 1, 1, 1, 0, 0, 0, 0, []),
  (41, .iaload, 1, 0, 0, 0, 0, 0, []),
  (42, .ireturn, 1, 0, 0, 0, 0, 0, []),
  (43, .aload_n 0, 1, 0, 0, 0, 0, 0, []),
  (44, .getfield 61, 3, 11, 6, 2, 0, 0, []),
  (47, .getfield 308, 3, 3, 14, 2, 0, 0, []),
  (50, .iload_n 1, 1, 1, 0, 0, 0, 0, []),
  (51, .baload, 1, 0, 0, 0, 0, 0, []),
  (52, .ifCond .eq (7), 3, 59, 0, 0, 0, 0, []),
  (55, .iconst (2), 1, 0, 0, 0, (2), 0, []),
  (56, .goto (4), 3, 60, 0, 0, 0, 0, []),
  (59, .iconst (1), 1, 0, 0, 0, (1), 0, [])]
set_option maxRecDepth 100000 in
theorem lX11_matched_0_ck : lX11_matched_0.all (ra_ck mX11_matched 11) = true := by decide +kernel
def nX11_matched_0 (N : Nat) (a0 : Nat) (a1 : Int32) (a2 : Int32) (h : ra_H) : Option (Int32 × ra_H) :=
  (ra_fR h 11 a0 0).bind fun x1 =>
  (fX2_hasBook N x1 a1 h).bind fun q2 =>
  if q2.1 = 0 then
    nX11_matched_20 N q2.2
  else
    if a2 < 0 then
      nX11_matched_20 N q2.2
    else
      if a2 ≤ ((1 : Int32)) then
        (ra_fR q2.2 11 a0 6).bind fun x3 =>
        (fX3_weighAll N x3 q2.2).bind fun h4 =>
        if a2 = 0 then
          (ra_fR h4 11 a0 6).bind fun x8 =>
          (ra_fR h4 3 x8 13).bind fun x9 =>
          (ra_aI h4 0 x9 a1).bind fun x10 =>
          some (x10, h4)
        else
          (ra_fR h4 11 a0 6).bind fun x5 =>
          (ra_fR h4 3 x5 14).bind fun x6 =>
          (ra_aI h4 2 x6 a1).bind fun x7 =>
          if x7 = 0 then
            nX11_matched_60 N ((1 : Int32)) h4
          else
            nX11_matched_60 N ((2 : Int32)) h4
      else
        nX11_matched_20 N q2.2
def kX11_matched_0 (N : Nat) : Nat → List (Option Value) → List Value → ra_H → Option (Int32 × ra_H) := (ra_k1 20 (fun L S h => match L, S with
  | [_, _, _], [] => nX11_matched_20 N h
  | _, _ => none) (ra_k1 60 (fun L S h => match L, S with
  | [_, _, _], [.int b0] => nX11_matched_60 N b0 h
  | _, _ => none) ra_k0))
theorem kX11_matched_0_ok (N : Nat) : ra_kok 6 mX11_matched ra_oI (kX11_matched_0 N) := (ra_k1_ok (by
  intro L S h a e
  split at e
  · exact ra_Ru.weak (nX11_matched_20_ok N _ _ e) trivial
  · cases e) (ra_k1_ok (by
  intro L S h a e
  split at e
  · exact ra_Ru.weak (nX11_matched_60_ok N _ _ _ e) trivial
  · cases e) ra_k0_ok))
set_option maxRecDepth 100000 in
theorem nX11_matched_0_ok (N : Nat) (a0 : Nat) (a1 : Int32) (a2 : Int32) (h : ra_H) (r : (Int32 × ra_H)) (e : nX11_matched_0 N a0 a1 a2 h = some r) : ra_Ru 6 mX11_matched 0 [some (.ref a0), some (.int a1), some (.int a2)] [] h (ra_oI r) :=
  ra_sound (by omega) rfl ra_rI_ok (kX11_matched_0_ok N) (fun m av h h1 e => (tVX11_matched_ok N) m av h h1 e) (fun m av h x h1 e => (tIX11_matched_ok N) m av h (x, h1) e) (fun m av h x h1 e => (ra_c0_ok (ro := ra_oJ)) m av h (x, h1) e) (fun m av h x h1 e => (ra_c0_ok (ro := ra_oR)) m av h (x, h1) e) (fun m av h x h1 e => (ra_c0_ok (ro := ra_oN)) m av h (x, h1) e) (fun m av h x h1 e => (ra_c0_ok (ro := ra_oF)) m av h (x, h1) e) 31 lX11_matched_0 _ _ _ _ lX11_matched_0_ck (show ra_run ra_rI (kX11_matched_0 N) (tVX11_matched N) (tIX11_matched N) ra_c0 ra_c0 ra_c0 ra_c0 31 lX11_matched_0 [some (.ref a0), some (.int a1), some (.int a2)] [] h = some r from e) _ _ rfl
def fX11_matched (N : Nat) (p0 : Nat) (p1 : Int32) (p2 : Int32) (h : ra_H) : Option (Int32 × ra_H) := match ra_isOb h p0 11 with
  | true => nX11_matched_0 N p0 p1 p2 h
  | false => none
set_option maxRecDepth 100000 in
theorem mtX11_matched : ra_MT[168]? = some (mX11_matched, 1, 2, (1, 1), (5, 201), (5, 202)) := rfl
theorem fX11_matched_co (N : Nat) (p0 : Nat) (p1 : Int32) (p2 : Int32) (h : ra_H) (r : (Int32 × ra_H)) (e : fX11_matched N p0 p1 p2 h = some r) (D : Nat) (hD : 7 ≤ D) : ra_CO D 168 [.ref p0, .int p1, .int p2] h (ra_oI r).1 (ra_oI r).2 := by
  have hw : ra_nw2 [.ref p0, .int p1, .int p2] ≤ 3 := Nat.le_of_ble_eq_true rfl
  have hdb : ∀ v ∈ ([.ref p0, .int p1, .int p2] : List Value), ∀ x, v ≠ .double x := by
    intro v hv x hx
    simp [hx] at hv
  unfold fX11_matched at e
  split at e
  · rename_i ho
    have e1 := e
    exact ⟨6, _, mtX11_matched, hD, ra_ev_of (by decide) hdb hw trivial (ra_Ru.weak (nX11_matched_0_ok N p0 p1 p2 h _ e1) ⟨rfl, ⟨rfl, ⟨rfl, trivial⟩⟩⟩), (fun _ => ⟨_, _, rfl, ra_rcv_of ho (by decide) rfl⟩), (fun h => absurd h (by decide))⟩
  · cases e
/-! RedMarks.nearest(II)I -/
def mX11_nearest : ra_M := (yX11_nearest, cX11_nearest, 5, (some .int))
def tIX11_nearest (N : Nat) : Nat → List Value → ra_H → Option (Int32 × ra_H) := (ra_c1 26 (fun av h => match av with
  | [.ref z0, .int z1] => fX2_hasBook N z0 z1 h
  | _ => none) (ra_c1 105 (fun av h => match av with
  | [.ref z0] => fX1_settleKept N z0 h
  | _ => none) (ra_c1 161 (fun av h => match av with
  | [.ref z0, .int z1] => fX5_nearestTo N z0 z1 h
  | _ => none) (ra_c1 163 (fun av h => match av with
  | [.ref z0, .int z1, .int z2] => fX2_dampApart N z0 z1 z2 h
  | _ => none) ra_c0))))
theorem tIX11_nearest_ok (N : Nat) : ra_cok 7 ra_oI (tIX11_nearest N) := (ra_c1_ok (by
  intro av h a e
  split at e
  · exact fX2_hasBook_co N _ _ _ _ e 7 (by omega)
  · cases e) (ra_c1_ok (by
  intro av h a e
  split at e
  · exact fX1_settleKept_co N _ _ _ e 7 (by omega)
  · cases e) (ra_c1_ok (by
  intro av h a e
  split at e
  · exact fX5_nearestTo_co N _ _ _ _ e 7 (by omega)
  · cases e) (ra_c1_ok (by
  intro av h a e
  split at e
  · exact fX2_dampApart_co N _ _ _ _ _ e 7 (by omega)
  · cases e) ra_c0_ok))))
def lX11_nearest_30 : List ra_I := [(30, .iconst (-1), 1, 0, 0, 0, (-1), 0, []),
  (31, .ireturn, 1, 0, 0, 0, 0, 0, [])]
set_option maxRecDepth 100000 in
theorem lX11_nearest_30_ck : lX11_nearest_30.all (ra_ck mX11_nearest 11) = true := by decide +kernel
def nX11_nearest_30 (N : Nat) (h : ra_H) : Option (Int32 × ra_H) :=
  some ((-1 : Int32), h)
def kX11_nearest_30 (N : Nat) : Nat → List (Option Value) → List Value → ra_H → Option (Int32 × ra_H) := ra_k0
theorem kX11_nearest_30_ok (N : Nat) : ra_kok 7 mX11_nearest ra_oI (kX11_nearest_30 N) := ra_k0_ok
set_option maxRecDepth 100000 in
theorem nX11_nearest_30_ok (N : Nat) (h : ra_H) (r : (Int32 × ra_H)) (e : nX11_nearest_30 N h = some r) : ra_Ru 7 mX11_nearest 30 [none, none, none, none, none] [] h (ra_oI r) :=
  ra_sound (by omega) rfl ra_rI_ok (kX11_nearest_30_ok N) (fun m av h h1 e => (ra_c0_ok (ro := ra_oV)) m av h h1 e) (fun m av h x h1 e => (tIX11_nearest_ok N) m av h (x, h1) e) (fun m av h x h1 e => (ra_c0_ok (ro := ra_oJ)) m av h (x, h1) e) (fun m av h x h1 e => (ra_c0_ok (ro := ra_oR)) m av h (x, h1) e) (fun m av h x h1 e => (ra_c0_ok (ro := ra_oN)) m av h (x, h1) e) (fun m av h x h1 e => (ra_c0_ok (ro := ra_oF)) m av h (x, h1) e) 3 lX11_nearest_30 _ _ _ _ lX11_nearest_30_ck (show ra_run ra_rI (kX11_nearest_30 N) ra_c0 (tIX11_nearest N) ra_c0 ra_c0 ra_c0 ra_c0 3 lX11_nearest_30 [none, none, none, none, none] [] h = some r from e) _ _ rfl
def lX11_nearest_50 : List ra_I := [(50, .iload_n 3, 1, 3, 0, 0, 0, 0, []),
  (51, .ireturn, 1, 0, 0, 0, 0, 0, [])]
set_option maxRecDepth 100000 in
theorem lX11_nearest_50_ck : lX11_nearest_50.all (ra_ck mX11_nearest 11) = true := by decide +kernel
def nX11_nearest_50 (N : Nat) (a3 : Int32) (h : ra_H) : Option (Int32 × ra_H) :=
  some (a3, h)
def kX11_nearest_50 (N : Nat) : Nat → List (Option Value) → List Value → ra_H → Option (Int32 × ra_H) := ra_k0
theorem kX11_nearest_50_ok (N : Nat) : ra_kok 7 mX11_nearest ra_oI (kX11_nearest_50 N) := ra_k0_ok
set_option maxRecDepth 100000 in
theorem nX11_nearest_50_ok (N : Nat) (a3 : Int32) (h : ra_H) (r : (Int32 × ra_H)) (e : nX11_nearest_50 N a3 h = some r) : ra_Ru 7 mX11_nearest 50 [none, none, none, some (.int a3), none] [] h (ra_oI r) :=
  ra_sound (by omega) rfl ra_rI_ok (kX11_nearest_50_ok N) (fun m av h h1 e => (ra_c0_ok (ro := ra_oV)) m av h h1 e) (fun m av h x h1 e => (tIX11_nearest_ok N) m av h (x, h1) e) (fun m av h x h1 e => (ra_c0_ok (ro := ra_oJ)) m av h (x, h1) e) (fun m av h x h1 e => (ra_c0_ok (ro := ra_oR)) m av h (x, h1) e) (fun m av h x h1 e => (ra_c0_ok (ro := ra_oN)) m av h (x, h1) e) (fun m av h x h1 e => (ra_c0_ok (ro := ra_oF)) m av h (x, h1) e) 3 lX11_nearest_50 _ _ _ _ lX11_nearest_50_ck (show ra_run ra_rI (kX11_nearest_50 N) ra_c0 (tIX11_nearest N) ra_c0 ra_c0 ra_c0 ra_c0 3 lX11_nearest_50 [none, none, none, some (.int a3), none] [] h = some r from e) _ _ rfl
def lX11_nearest_102 : List ra_I := [(102, .ireturn, 1, 0, 0, 0, 0, 0, [])]
set_option maxRecDepth 100000 in
theorem lX11_nearest_102_ck : lX11_nearest_102.all (ra_ck mX11_nearest 11) = true := by decide +kernel
def nX11_nearest_102 (N : Nat) (b0 : Int32) (h : ra_H) : Option (Int32 × ra_H) :=
  some (b0, h)
def kX11_nearest_102 (N : Nat) : Nat → List (Option Value) → List Value → ra_H → Option (Int32 × ra_H) := ra_k0
theorem kX11_nearest_102_ok (N : Nat) : ra_kok 7 mX11_nearest ra_oI (kX11_nearest_102 N) := ra_k0_ok
set_option maxRecDepth 100000 in
theorem nX11_nearest_102_ok (N : Nat) (b0 : Int32) (h : ra_H) (r : (Int32 × ra_H)) (e : nX11_nearest_102 N b0 h = some r) : ra_Ru 7 mX11_nearest 102 [none, none, none, none, none] [.int b0] h (ra_oI r) :=
  ra_sound (by omega) rfl ra_rI_ok (kX11_nearest_102_ok N) (fun m av h h1 e => (ra_c0_ok (ro := ra_oV)) m av h h1 e) (fun m av h x h1 e => (tIX11_nearest_ok N) m av h (x, h1) e) (fun m av h x h1 e => (ra_c0_ok (ro := ra_oJ)) m av h (x, h1) e) (fun m av h x h1 e => (ra_c0_ok (ro := ra_oR)) m av h (x, h1) e) (fun m av h x h1 e => (ra_c0_ok (ro := ra_oN)) m av h (x, h1) e) (fun m av h x h1 e => (ra_c0_ok (ro := ra_oF)) m av h (x, h1) e) 2 lX11_nearest_102 _ _ _ _ lX11_nearest_102_ck (show ra_run ra_rI (kX11_nearest_102 N) ra_c0 (tIX11_nearest N) ra_c0 ra_c0 ra_c0 ra_c0 2 lX11_nearest_102 [none, none, none, none, none] [.int b0] h = some r from e) _ _ rfl
def lX11_nearest_0 : List ra_I := [(0, .aload_n 0, 1, 0, 0, 0, 0, 0, []),
  (1, .getfield 10, 3, 11, 0, 2, 0, 0, []),
  (4, .iload_n 1, 1, 1, 0, 0, 0, 0, []),
  (5, .invokevirtual 112, 3, 26, 2, 1, 0, 0, []),
  (8, .ifCond .eq (22), 3, 30, 0, 0, 0, 0, []),
  (11, .iload_n 2, 1, 2, 0, 0, 0, 0, []),
  (12, .ifCond .lt (18), 3, 30, 0, 0, 0, 0, []),
  (15, .iload_n 2, 1, 2, 0, 0, 0, 0, []),
  (16, .iconst (3), 1, 0, 0, 0, (3), 0, []),
  (17, .if_icmp .gt (13), 3, 30, 0, 0, 0, 0, []),
  (20, .aload_n 0, 1, 0, 0, 0, 0, 0, []),
  (21, .getfield 39, 3, 11, 4, 2, 0, 0, []),
  (24, .invokevirtual 204, 3, 105, 1, 1, 0, 0, []),
  (27, .ifCond .ne (5), 3, 32, 0, 0, 0, 0, []),
  (32, .aload_n 0, 1, 0, 0, 0, 0, 0, []),
  (33, .getfield 52, 3, 11, 5, 2, 0, 0, []),
  (36, .iload_n 1, 1, 1, 0, 0, 0, 0, []),
  (37, .invokevirtual 276, 3, 161, 2, 1, 0, 0, []),
  (40, .istore_n 3, 1, 3, 0, 0, 0, 0, []),
  (41, .iload_n 3, 1, 3, 0, 0, 0, 0, []),
  (42, .iconst (-1), 1, 0, 0, 0, (-1), 0, []),
  (43, .if_icmp .eq (7), 3, 50, 0, 0, 0, 0, []),
  (46, .iload_n 2, 1, 2, 0, 0, 0, 0, []),
  (47, .ifCond .ne (5), 3, 52, 0, 0, 0, 0, []),
  (52, .iload_n 2, 1, 2, 0, 0, 0, 0, []),
  (53, .iconst (3), 1, 0, 0, 0, (3), 0, []),
  (54, .if_icmp .ne (13), 3, 67, 0, 0, 0, 0, []),
  (57, .aload_n 0, 1, 0, 0, 0, 0, 0, []),
  (58, .getfield 10, 3, 11, 0, 2, 0, 0, []),
  (61, .iload_n 1, 1, 1, 0, 0, 0, 0, []),
  (62, .iload_n 3, 1, 3, 0, 0, 0, 0, []),
  (63, .invokevirtual 279, 3, 163, 3, 1, 0, 0, []),
  (66, .ireturn, 1, 0, 0, 0, 0, 0, []),
  (67, .aload_n 0, 1, 0, 0, 0, 0, 0, []),
  (68, .getfield 39, 3, 11, 4, 2, 0, 0, []),
  (71, .getfield 45, 3, 1, 11, 2, 0, 0, []),
  (74, .getfield 282, 3, 7, 1, 2, 0, 0, []),
  (77, .iload_n 3, 1, 3, 0, 0, 0, 0, []),
  (78, .iaload, 1, 0, 0, 0, 0, 0, []),
  (79, .bipush (99), 2, 0, 0, 0, (99), 0, []),
  (81, .idiv, 1, 0, 0, 0, 0, 0, []),
  (82, .istore 4, 2, 4, 0, 0, 0, 0, []),
  (84, .iload_n 2, 1, 2, 0, 0, 0, 0, []),
  (85, .iconst (1), 1, 0, 0, 0, (1), 0, []),
  (86, .if_icmp .ne (11), 3, 97, 0, 0, 0, 0, []),
  (89, .iload 4, 2, 4, 0, 0, 0, 0, []),
  (91, .bipush (6), 2, 0, 0, 0, (6), 0, []),
  (93, .idiv, 1, 0, 0, 0, 0, 0, []),
  (94, .goto (8), 3, 102, 0, 0, 0, 0, []),
  (97, .iload 4, 2, 4, 0, 0, 0, 0, []),
  (99, .bipush (6), 2, 0, 0, 0, (6), 0, []),
  (101, .irem, 1, 0, 0, 0, 0, 0, [])]
set_option maxRecDepth 100000 in
theorem lX11_nearest_0_ck : lX11_nearest_0.all (ra_ck mX11_nearest 11) = true := by decide +kernel
def nX11_nearest_0 (N : Nat) (a0 : Nat) (a1 : Int32) (a2 : Int32) (h : ra_H) : Option (Int32 × ra_H) :=
  (ra_fR h 11 a0 0).bind fun x1 =>
  (fX2_hasBook N x1 a1 h).bind fun q2 =>
  if q2.1 = 0 then
    nX11_nearest_30 N q2.2
  else
    if a2 < 0 then
      nX11_nearest_30 N q2.2
    else
      if a2 ≤ ((3 : Int32)) then
        (ra_fR q2.2 11 a0 4).bind fun x3 =>
        (fX1_settleKept N x3 q2.2).bind fun q4 =>
        if q4.1 = 0 then
          nX11_nearest_30 N q4.2
        else
          (ra_fR q4.2 11 a0 5).bind fun x5 =>
          (fX5_nearestTo N x5 a1 q4.2).bind fun q6 =>
          if q6.1 = ((-1 : Int32)) then
            nX11_nearest_50 N q6.1 q6.2
          else
            if a2 = 0 then
              nX11_nearest_50 N q6.1 q6.2
            else
              if a2 = ((3 : Int32)) then
                (ra_fR q6.2 11 a0 0).bind fun x12 =>
                (fX2_dampApart N x12 a1 q6.1 q6.2).bind fun q13 =>
                some (q13.1, q13.2)
              else
                (ra_fR q6.2 11 a0 4).bind fun x7 =>
                (ra_fR q6.2 1 x7 11).bind fun x8 =>
                (ra_fR q6.2 7 x8 1).bind fun x9 =>
                (ra_aI q6.2 0 x9 q6.1).bind fun x10 =>
                if ((99 : Int32)) = 0 then none else
                let y11 := x10 / ((99 : Int32))
                if a2 = ((1 : Int32)) then
                  if ((6 : Int32)) = 0 then none else
                  nX11_nearest_102 N (y11 / ((6 : Int32))) q6.2
                else
                  if ((6 : Int32)) = 0 then none else
                  nX11_nearest_102 N (y11 - y11 / ((6 : Int32)) * ((6 : Int32))) q6.2
      else
        nX11_nearest_30 N q2.2
def kX11_nearest_0 (N : Nat) : Nat → List (Option Value) → List Value → ra_H → Option (Int32 × ra_H) := (ra_k1 30 (fun L S h => match L, S with
  | [_, _, _, _, _], [] => nX11_nearest_30 N h
  | _, _ => none) (ra_k1 50 (fun L S h => match L, S with
  | [_, _, _, some (.int a3), _], [] => nX11_nearest_50 N a3 h
  | _, _ => none) (ra_k1 102 (fun L S h => match L, S with
  | [_, _, _, _, _], [.int b0] => nX11_nearest_102 N b0 h
  | _, _ => none) ra_k0)))
theorem kX11_nearest_0_ok (N : Nat) : ra_kok 7 mX11_nearest ra_oI (kX11_nearest_0 N) := (ra_k1_ok (by
  intro L S h a e
  split at e
  · exact ra_Ru.weak (nX11_nearest_30_ok N _ _ e) trivial
  · cases e) (ra_k1_ok (by
  intro L S h a e
  split at e
  · exact ra_Ru.weak (nX11_nearest_50_ok N _ _ _ e) ⟨rfl, trivial⟩
  · cases e) (ra_k1_ok (by
  intro L S h a e
  split at e
  · exact ra_Ru.weak (nX11_nearest_102_ok N _ _ _ e) trivial
  · cases e) ra_k0_ok)))
set_option maxRecDepth 100000 in
theorem nX11_nearest_0_ok (N : Nat) (a0 : Nat) (a1 : Int32) (a2 : Int32) (h : ra_H) (r : (Int32 × ra_H)) (e : nX11_nearest_0 N a0 a1 a2 h = some r) : ra_Ru 7 mX11_nearest 0 [some (.ref a0), some (.int a1), some (.int a2), none, none] [] h (ra_oI r) :=
  ra_sound (by omega) rfl ra_rI_ok (kX11_nearest_0_ok N) (fun m av h h1 e => (ra_c0_ok (ro := ra_oV)) m av h h1 e) (fun m av h x h1 e => (tIX11_nearest_ok N) m av h (x, h1) e) (fun m av h x h1 e => (ra_c0_ok (ro := ra_oJ)) m av h (x, h1) e) (fun m av h x h1 e => (ra_c0_ok (ro := ra_oR)) m av h (x, h1) e) (fun m av h x h1 e => (ra_c0_ok (ro := ra_oN)) m av h (x, h1) e) (fun m av h x h1 e => (ra_c0_ok (ro := ra_oF)) m av h (x, h1) e) 53 lX11_nearest_0 _ _ _ _ lX11_nearest_0_ck (show ra_run ra_rI (kX11_nearest_0 N) ra_c0 (tIX11_nearest N) ra_c0 ra_c0 ra_c0 ra_c0 53 lX11_nearest_0 [some (.ref a0), some (.int a1), some (.int a2), none, none] [] h = some r from e) _ _ rfl
def fX11_nearest (N : Nat) (p0 : Nat) (p1 : Int32) (p2 : Int32) (h : ra_H) : Option (Int32 × ra_H) := match ra_isOb h p0 11 with
  | true => nX11_nearest_0 N p0 p1 p2 h
  | false => none
set_option maxRecDepth 100000 in
theorem mtX11_nearest : ra_MT[160]? = some (mX11_nearest, 1, 2, (1, 1), (5, 164), (5, 165)) := rfl
theorem fX11_nearest_co (N : Nat) (p0 : Nat) (p1 : Int32) (p2 : Int32) (h : ra_H) (r : (Int32 × ra_H)) (e : fX11_nearest N p0 p1 p2 h = some r) (D : Nat) (hD : 8 ≤ D) : ra_CO D 160 [.ref p0, .int p1, .int p2] h (ra_oI r).1 (ra_oI r).2 := by
  have hw : ra_nw2 [.ref p0, .int p1, .int p2] ≤ 5 := Nat.le_of_ble_eq_true rfl
  have hdb : ∀ v ∈ ([.ref p0, .int p1, .int p2] : List Value), ∀ x, v ≠ .double x := by
    intro v hv x hx
    simp [hx] at hv
  unfold fX11_nearest at e
  split at e
  · rename_i ho
    have e1 := e
    exact ⟨7, _, mtX11_nearest, hD, ra_ev_of (by decide) hdb hw trivial (ra_Ru.weak (nX11_nearest_0_ok N p0 p1 p2 h _ e1) ⟨rfl, ⟨rfl, ⟨rfl, trivial⟩⟩⟩), (fun _ => ⟨_, _, rfl, ra_rcv_of ho (by decide) rfl⟩), (fun h => absurd h (by decide))⟩
  · cases e
/-! RedMarks.next()I -/
def mX11_next : ra_M := (yX11_next, cX11_next, 11, (some .int))
def tIX11_next (N : Nat) : Nat → List Value → ra_H → Option (Int32 × ra_H) := (ra_c1 186 (fun av h => match av with
  | [.ref z0, .int z1] => fX2_foundTimesUnseen N z0 z1 h
  | _ => none) ra_c0)
theorem tIX11_next_ok (N : Nat) : ra_cok 3 ra_oI (tIX11_next N) := (ra_c1_ok (by
  intro av h a e
  split at e
  · exact fX2_foundTimesUnseen_co N _ _ _ _ e 3 (by omega)
  · cases e) ra_c0_ok)
def lX11_next_89 : List ra_I := [(89, .iinc 6 (1), 3, 6, 0, 0, (1), 0, []),
  (92, .goto (-82), 3, 10, 0, 0, 0, 0, [])]
set_option maxRecDepth 100000 in
theorem lX11_next_89_ck : lX11_next_89.all (ra_ck mX11_next 11) = true := by decide +kernel
def nX11_next_89 (N : Nat) (c10 : Nat → Int32 → Int64 → Int64 → Int32 → ra_H → Option (Int32 × ra_H)) (a0 : Nat) (a1 : Int32) (a2 : Int64) (a4 : Int64) (a6 : Int32) (h : ra_H) : Option (Int32 × ra_H) :=
  let y1 := a6 + (1 : Int32)
  c10 a0 a1 a2 a4 y1 h
def kX11_next_89 (N : Nat) (c10 : Nat → Int32 → Int64 → Int64 → Int32 → ra_H → Option (Int32 × ra_H)) : Nat → List (Option Value) → List Value → ra_H → Option (Int32 × ra_H) := (ra_k1 10 (fun L S h => match L, S with
  | [some (.ref a0), some (.int a1), some (.long a2), _, some (.long a4), _, some (.int a6), _, _, _, _], [] => c10 a0 a1 a2 a4 a6 h
  | _, _ => none) ra_k0)
theorem kX11_next_89_ok (N : Nat) (c10 : Nat → Int32 → Int64 → Int64 → Int32 → ra_H → Option (Int32 × ra_H)) (hc10 : ∀ a0 a1 a2 a4 a6 h r, c10 a0 a1 a2 a4 a6 h = some r → ra_Ru 3 mX11_next 10 [some (.ref a0), some (.int a1), some (.long a2), none, some (.long a4), none, some (.int a6), none, none, none, none] [] h (ra_oI r)) : ra_kok 3 mX11_next ra_oI (kX11_next_89 N c10) := (ra_k1_ok (by
  intro L S h a e
  split at e
  · exact ra_Ru.weak (hc10 _ _ _ _ _ _ _ e) ⟨rfl, ⟨rfl, ⟨rfl, ⟨rfl, ⟨rfl, trivial⟩⟩⟩⟩⟩
  · cases e) ra_k0_ok)
set_option maxRecDepth 100000 in
theorem nX11_next_89_ok (N : Nat) (c10 : Nat → Int32 → Int64 → Int64 → Int32 → ra_H → Option (Int32 × ra_H)) (hc10 : ∀ a0 a1 a2 a4 a6 h r, c10 a0 a1 a2 a4 a6 h = some r → ra_Ru 3 mX11_next 10 [some (.ref a0), some (.int a1), some (.long a2), none, some (.long a4), none, some (.int a6), none, none, none, none] [] h (ra_oI r)) (a0 : Nat) (a1 : Int32) (a2 : Int64) (a4 : Int64) (a6 : Int32) (h : ra_H) (r : (Int32 × ra_H)) (e : nX11_next_89 N c10 a0 a1 a2 a4 a6 h = some r) : ra_Ru 3 mX11_next 89 [some (.ref a0), some (.int a1), some (.long a2), none, some (.long a4), none, some (.int a6), none, none, none, none] [] h (ra_oI r) :=
  ra_sound (by omega) rfl ra_rI_ok (kX11_next_89_ok N c10 hc10) (fun m av h h1 e => (ra_c0_ok (ro := ra_oV)) m av h h1 e) (fun m av h x h1 e => (tIX11_next_ok N) m av h (x, h1) e) (fun m av h x h1 e => (ra_c0_ok (ro := ra_oJ)) m av h (x, h1) e) (fun m av h x h1 e => (ra_c0_ok (ro := ra_oR)) m av h (x, h1) e) (fun m av h x h1 e => (ra_c0_ok (ro := ra_oN)) m av h (x, h1) e) (fun m av h x h1 e => (ra_c0_ok (ro := ra_oF)) m av h (x, h1) e) 3 lX11_next_89 _ _ _ _ lX11_next_89_ck (show ra_run ra_rI (kX11_next_89 N c10) ra_c0 (tIX11_next N) ra_c0 ra_c0 ra_c0 ra_c0 3 lX11_next_89 [some (.ref a0), some (.int a1), some (.long a2), none, some (.long a4), none, some (.int a6), none, none, none, none] [] h = some r from e) _ _ rfl
def lX11_next_79 : List ra_I := [(79, .iload 6, 2, 6, 0, 0, 0, 0, []),
  (81, .istore_n 1, 1, 1, 0, 0, 0, 0, []),
  (82, .lload 7, 2, 7, 0, 0, 0, 0, []),
  (84, .lstore_n 2, 1, 2, 0, 0, 0, 0, []),
  (85, .lload 9, 2, 9, 0, 0, 0, 0, []),
  (87, .lstore 4, 2, 4, 0, 0, 0, 0, [])]
set_option maxRecDepth 100000 in
theorem lX11_next_79_ck : lX11_next_79.all (ra_ck mX11_next 11) = true := by decide +kernel
def nX11_next_79 (N : Nat) (c10 : Nat → Int32 → Int64 → Int64 → Int32 → ra_H → Option (Int32 × ra_H)) (a0 : Nat) (a6 : Int32) (a7 : Int64) (a9 : Int64) (h : ra_H) : Option (Int32 × ra_H) :=
  nX11_next_89 N c10 a0 a6 a7 a9 a6 h
def kX11_next_79 (N : Nat) (c10 : Nat → Int32 → Int64 → Int64 → Int32 → ra_H → Option (Int32 × ra_H)) : Nat → List (Option Value) → List Value → ra_H → Option (Int32 × ra_H) := (ra_k1 89 (fun L S h => match L, S with
  | [some (.ref a0), some (.int a1), some (.long a2), _, some (.long a4), _, some (.int a6), _, _, _, _], [] => nX11_next_89 N c10 a0 a1 a2 a4 a6 h
  | _, _ => none) ra_k0)
theorem kX11_next_79_ok (N : Nat) (c10 : Nat → Int32 → Int64 → Int64 → Int32 → ra_H → Option (Int32 × ra_H)) (hc10 : ∀ a0 a1 a2 a4 a6 h r, c10 a0 a1 a2 a4 a6 h = some r → ra_Ru 3 mX11_next 10 [some (.ref a0), some (.int a1), some (.long a2), none, some (.long a4), none, some (.int a6), none, none, none, none] [] h (ra_oI r)) : ra_kok 3 mX11_next ra_oI (kX11_next_79 N c10) := (ra_k1_ok (by
  intro L S h a e
  split at e
  · exact ra_Ru.weak (nX11_next_89_ok N c10 hc10 _ _ _ _ _ _ _ e) ⟨rfl, ⟨rfl, ⟨rfl, ⟨rfl, ⟨rfl, trivial⟩⟩⟩⟩⟩
  · cases e) ra_k0_ok)
set_option maxRecDepth 100000 in
theorem nX11_next_79_ok (N : Nat) (c10 : Nat → Int32 → Int64 → Int64 → Int32 → ra_H → Option (Int32 × ra_H)) (hc10 : ∀ a0 a1 a2 a4 a6 h r, c10 a0 a1 a2 a4 a6 h = some r → ra_Ru 3 mX11_next 10 [some (.ref a0), some (.int a1), some (.long a2), none, some (.long a4), none, some (.int a6), none, none, none, none] [] h (ra_oI r)) (a0 : Nat) (a6 : Int32) (a7 : Int64) (a9 : Int64) (h : ra_H) (r : (Int32 × ra_H)) (e : nX11_next_79 N c10 a0 a6 a7 a9 h = some r) : ra_Ru 3 mX11_next 79 [some (.ref a0), none, none, none, none, none, some (.int a6), some (.long a7), none, some (.long a9), none] [] h (ra_oI r) :=
  ra_sound (by omega) rfl ra_rI_ok (kX11_next_79_ok N c10 hc10) (fun m av h h1 e => (ra_c0_ok (ro := ra_oV)) m av h h1 e) (fun m av h x h1 e => (tIX11_next_ok N) m av h (x, h1) e) (fun m av h x h1 e => (ra_c0_ok (ro := ra_oJ)) m av h (x, h1) e) (fun m av h x h1 e => (ra_c0_ok (ro := ra_oR)) m av h (x, h1) e) (fun m av h x h1 e => (ra_c0_ok (ro := ra_oN)) m av h (x, h1) e) (fun m av h x h1 e => (ra_c0_ok (ro := ra_oF)) m av h (x, h1) e) 7 lX11_next_79 _ _ _ _ lX11_next_79_ck (show ra_run ra_rI (kX11_next_79 N c10) ra_c0 (tIX11_next N) ra_c0 ra_c0 ra_c0 ra_c0 7 lX11_next_79 [some (.ref a0), none, none, none, none, none, some (.int a6), some (.long a7), none, some (.long a9), none] [] h = some r from e) _ _ rfl
def lX11_next_10 : List ra_I := [(10, .iload 6, 2, 6, 0, 0, 0, 0, []),
  (12, .bipush (12), 2, 0, 0, 0, (12), 0, []),
  (14, .if_icmp .ge (81), 3, 95, 0, 0, 0, 0, []),
  (17, .aload_n 0, 1, 0, 0, 0, 0, 0, []),
  (18, .getfield 10, 3, 11, 0, 2, 0, 0, []),
  (21, .iload 6, 2, 6, 0, 0, 0, 0, []),
  (23, .invokevirtual 356, 3, 186, 2, 1, 0, 0, []),
  (26, .i2l, 1, 0, 0, 0, 0, 0, []),
  (27, .lstore 7, 2, 7, 0, 0, 0, 0, []),
  (29, .aload_n 0, 1, 0, 0, 0, 0, 0, []),
  (30, .getfield 10, 3, 11, 0, 2, 0, 0, []),
  (33, .getfield 350, 3, 2, 11, 2, 0, 0, []),
  (36, .iload 6, 2, 6, 0, 0, 0, 0, []),
  (38, .iaload, 1, 0, 0, 0, 0, 0, []),
  (39, .i2l, 1, 0, 0, 0, 0, 0, []),
  (40, .aload_n 0, 1, 0, 0, 0, 0, 0, []),
  (41, .getfield 10, 3, 11, 0, 2, 0, 0, []),
  (44, .getfield 353, 3, 2, 12, 2, 0, 0, []),
  (47, .iload 6, 2, 6, 0, 0, 0, 0, []),
  (49, .iaload, 1, 0, 0, 0, 0, 0, []),
  (50, .i2l, 1, 0, 0, 0, 0, 0, []),
  (51, .lmul, 1, 0, 0, 0, 0, 0, []),
  (52, .lstore 9, 2, 9, 0, 0, 0, 0, []),
  (54, .lload 9, 2, 9, 0, 0, 0, 0, []),
  (56, .lconst 0, 1, 0, 0, 0, 0, 0, []),
  (57, .lcmp, 1, 0, 0, 0, 0, 0, []),
  (58, .ifCond .le (31), 3, 89, 0, 0, 0, 0, []),
  (61, .iload_n 1, 1, 1, 0, 0, 0, 0, []),
  (62, .iconst (-1), 1, 0, 0, 0, (-1), 0, []),
  (63, .if_icmp .eq (16), 3, 79, 0, 0, 0, 0, []),
  (66, .lload 7, 2, 7, 0, 0, 0, 0, []),
  (68, .lload 4, 2, 4, 0, 0, 0, 0, []),
  (70, .lmul, 1, 0, 0, 0, 0, 0, []),
  (71, .lload_n 2, 1, 2, 0, 0, 0, 0, []),
  (72, .lload 9, 2, 9, 0, 0, 0, 0, []),
  (74, .lmul, 1, 0, 0, 0, 0, 0, []),
  (75, .lcmp, 1, 0, 0, 0, 0, 0, []),
  (76, .ifCond .le (13), 3, 89, 0, 0, 0, 0, []),
  (95, .iload_n 1, 1, 1, 0, 0, 0, 0, []),
  (96, .ireturn, 1, 0, 0, 0, 0, 0, [])]
set_option maxRecDepth 100000 in
theorem lX11_next_10_ck : lX11_next_10.all (ra_ck mX11_next 11) = true := by decide +kernel
def nX11_next_10 (N : Nat) : Nat → Nat → Int32 → Int64 → Int64 → Int32 → ra_H → Option (Int32 × ra_H)
  | 0, _, _, _, _, _, _ => none
  | n + 1, a0, a1, a2, a4, a6, h =>
  if a6 < ((12 : Int32)) then
    (ra_fR h 11 a0 0).bind fun x1 =>
    (fX2_foundTimesUnseen N x1 a6 h).bind fun q2 =>
    let y3 := Int32.toInt64 q2.1
    (ra_fR q2.2 11 a0 0).bind fun x4 =>
    (ra_fR q2.2 2 x4 11).bind fun x5 =>
    (ra_aI q2.2 0 x5 a6).bind fun x6 =>
    (ra_fR q2.2 11 a0 0).bind fun x7 =>
    (ra_fR q2.2 2 x7 12).bind fun x8 =>
    (ra_aI q2.2 0 x8 a6).bind fun x9 =>
    let y10 := (Int32.toInt64 x6) * (Int32.toInt64 x9)
    if (lg_cmp y10 ((0 : Int64))) ≤ 0 then
      nX11_next_89 N (nX11_next_10 N n) a0 a1 a2 a4 a6 q2.2
    else
      if a1 = ((-1 : Int32)) then
        nX11_next_79 N (nX11_next_10 N n) a0 a6 y3 y10 q2.2
      else
        if (lg_cmp (y3 * a4) (a2 * y10)) ≤ 0 then
          nX11_next_89 N (nX11_next_10 N n) a0 a1 a2 a4 a6 q2.2
        else
          nX11_next_79 N (nX11_next_10 N n) a0 a6 y3 y10 q2.2
  else
    some (a1, h)
def kX11_next_10 (N : Nat) (cs : Nat → Int32 → Int64 → Int64 → Int32 → ra_H → Option (Int32 × ra_H)) : Nat → List (Option Value) → List Value → ra_H → Option (Int32 × ra_H) := (ra_k1 79 (fun L S h => match L, S with
  | [some (.ref a0), _, _, _, _, _, some (.int a6), some (.long a7), _, some (.long a9), _], [] => nX11_next_79 N cs a0 a6 a7 a9 h
  | _, _ => none) (ra_k1 89 (fun L S h => match L, S with
  | [some (.ref a0), some (.int a1), some (.long a2), _, some (.long a4), _, some (.int a6), _, _, _, _], [] => nX11_next_89 N cs a0 a1 a2 a4 a6 h
  | _, _ => none) ra_k0))
theorem kX11_next_10_ok (N : Nat) (cs : Nat → Int32 → Int64 → Int64 → Int32 → ra_H → Option (Int32 × ra_H)) (hcs : ∀ a0 a1 a2 a4 a6 h r, cs a0 a1 a2 a4 a6 h = some r → ra_Ru 3 mX11_next 10 [some (.ref a0), some (.int a1), some (.long a2), none, some (.long a4), none, some (.int a6), none, none, none, none] [] h (ra_oI r)) : ra_kok 3 mX11_next ra_oI (kX11_next_10 N cs) := (ra_k1_ok (by
  intro L S h a e
  split at e
  · exact ra_Ru.weak (nX11_next_79_ok N cs hcs _ _ _ _ _ _ e) ⟨rfl, ⟨rfl, ⟨rfl, ⟨rfl, trivial⟩⟩⟩⟩
  · cases e) (ra_k1_ok (by
  intro L S h a e
  split at e
  · exact ra_Ru.weak (nX11_next_89_ok N cs hcs _ _ _ _ _ _ _ e) ⟨rfl, ⟨rfl, ⟨rfl, ⟨rfl, ⟨rfl, trivial⟩⟩⟩⟩⟩
  · cases e) ra_k0_ok))
set_option maxRecDepth 100000 in
theorem nX11_next_10_ok (N : Nat) : ∀ n a0 a1 a2 a4 a6 h r, nX11_next_10 N n a0 a1 a2 a4 a6 h = some r → ra_Ru 3 mX11_next 10 [some (.ref a0), some (.int a1), some (.long a2), none, some (.long a4), none, some (.int a6), none, none, none, none] [] h (ra_oI r) := by
  intro n
  induction n with
  | zero => intro a0 a1 a2 a4 a6 h r e; cases e
  | succ n ih =>
    intro a0 a1 a2 a4 a6 h r e
    exact ra_sound (by omega) rfl ra_rI_ok (kX11_next_10_ok N (nX11_next_10 N n) ih) (fun m av h h1 e => (ra_c0_ok (ro := ra_oV)) m av h h1 e) (fun m av h x h1 e => (tIX11_next_ok N) m av h (x, h1) e) (fun m av h x h1 e => (ra_c0_ok (ro := ra_oJ)) m av h (x, h1) e) (fun m av h x h1 e => (ra_c0_ok (ro := ra_oR)) m av h (x, h1) e) (fun m av h x h1 e => (ra_c0_ok (ro := ra_oN)) m av h (x, h1) e) (fun m av h x h1 e => (ra_c0_ok (ro := ra_oF)) m av h (x, h1) e) 41 lX11_next_10 _ _ _ _ lX11_next_10_ck (show ra_run ra_rI (kX11_next_10 N (nX11_next_10 N n)) ra_c0 (tIX11_next N) ra_c0 ra_c0 ra_c0 ra_c0 41 lX11_next_10 [some (.ref a0), some (.int a1), some (.long a2), none, some (.long a4), none, some (.int a6), none, none, none, none] [] h = some r from e) _ _ rfl
def lX11_next_0 : List ra_I := [(0, .iconst (-1), 1, 0, 0, 0, (-1), 0, []),
  (1, .istore_n 1, 1, 1, 0, 0, 0, 0, []),
  (2, .lconst 0, 1, 0, 0, 0, 0, 0, []),
  (3, .lstore_n 2, 1, 2, 0, 0, 0, 0, []),
  (4, .lconst 1, 1, 0, 0, 0, 0, 1, []),
  (5, .lstore 4, 2, 4, 0, 0, 0, 0, []),
  (7, .iconst (0), 1, 0, 0, 0, (0), 0, []),
  (8, .istore 6, 2, 6, 0, 0, 0, 0, [])]
set_option maxRecDepth 100000 in
theorem lX11_next_0_ck : lX11_next_0.all (ra_ck mX11_next 11) = true := by decide +kernel
def nX11_next_0 (N : Nat) (a0 : Nat) (h : ra_H) : Option (Int32 × ra_H) :=
  nX11_next_10 N N a0 ((-1 : Int32)) ((0 : Int64)) ((1 : Int64)) ((0 : Int32)) h
def kX11_next_0 (N : Nat) : Nat → List (Option Value) → List Value → ra_H → Option (Int32 × ra_H) := (ra_k1 10 (fun L S h => match L, S with
  | [some (.ref a0), some (.int a1), some (.long a2), _, some (.long a4), _, some (.int a6), _, _, _, _], [] => nX11_next_10 N N a0 a1 a2 a4 a6 h
  | _, _ => none) ra_k0)
theorem kX11_next_0_ok (N : Nat) : ra_kok 3 mX11_next ra_oI (kX11_next_0 N) := (ra_k1_ok (by
  intro L S h a e
  split at e
  · exact ra_Ru.weak (nX11_next_10_ok N N _ _ _ _ _ _ _ e) ⟨rfl, ⟨rfl, ⟨rfl, ⟨rfl, ⟨rfl, trivial⟩⟩⟩⟩⟩
  · cases e) ra_k0_ok)
set_option maxRecDepth 100000 in
theorem nX11_next_0_ok (N : Nat) (a0 : Nat) (h : ra_H) (r : (Int32 × ra_H)) (e : nX11_next_0 N a0 h = some r) : ra_Ru 3 mX11_next 0 [some (.ref a0), none, none, none, none, none, none, none, none, none, none] [] h (ra_oI r) :=
  ra_sound (by omega) rfl ra_rI_ok (kX11_next_0_ok N) (fun m av h h1 e => (ra_c0_ok (ro := ra_oV)) m av h h1 e) (fun m av h x h1 e => (tIX11_next_ok N) m av h (x, h1) e) (fun m av h x h1 e => (ra_c0_ok (ro := ra_oJ)) m av h (x, h1) e) (fun m av h x h1 e => (ra_c0_ok (ro := ra_oR)) m av h (x, h1) e) (fun m av h x h1 e => (ra_c0_ok (ro := ra_oN)) m av h (x, h1) e) (fun m av h x h1 e => (ra_c0_ok (ro := ra_oF)) m av h (x, h1) e) 9 lX11_next_0 _ _ _ _ lX11_next_0_ck (show ra_run ra_rI (kX11_next_0 N) ra_c0 (tIX11_next N) ra_c0 ra_c0 ra_c0 ra_c0 9 lX11_next_0 [some (.ref a0), none, none, none, none, none, none, none, none, none, none] [] h = some r from e) _ _ rfl
def fX11_next (N : Nat) (p0 : Nat) (h : ra_H) : Option (Int32 × ra_H) := match ra_isOb h p0 11 with
  | true => nX11_next_0 N p0 h
  | false => none
set_option maxRecDepth 100000 in
theorem mtX11_next : ra_MT[187]? = some (mX11_next, 1, 0, (1, 1), (6, 41), (6, 42)) := rfl
theorem fX11_next_co (N : Nat) (p0 : Nat) (h : ra_H) (r : (Int32 × ra_H)) (e : fX11_next N p0 h = some r) (D : Nat) (hD : 4 ≤ D) : ra_CO D 187 [.ref p0] h (ra_oI r).1 (ra_oI r).2 := by
  have hw : ra_nw2 [.ref p0] ≤ 11 := Nat.le_of_ble_eq_true rfl
  have hdb : ∀ v ∈ ([.ref p0] : List Value), ∀ x, v ≠ .double x := by
    intro v hv x hx
    simp [hx] at hv
  unfold fX11_next at e
  split at e
  · rename_i ho
    have e1 := e
    exact ⟨3, _, mtX11_next, hD, ra_ev_of (by decide) hdb hw trivial (ra_Ru.weak (nX11_next_0_ok N p0 h _ e1) ⟨rfl, trivial⟩), (fun _ => ⟨_, _, rfl, ra_rcv_of ho (by decide) rfl⟩), (fun h => absurd h (by decide))⟩
  · cases e
/-! RedMarks.of(II)I -/
def mX11_of : ra_M := (yX11_of, cX11_of, 3, (some .int))
def tIX11_of (N : Nat) : Nat → List Value → ra_H → Option (Int32 × ra_H) := (ra_c1 26 (fun av h => match av with
  | [.ref z0, .int z1] => fX2_hasBook N z0 z1 h
  | _ => none) (ra_c1 27 (fun av h => match av with
  | [.ref z0, .int z1, .int z2] => fX2_factOf N z0 z1 z2 h
  | _ => none) ra_c0))
theorem tIX11_of_ok (N : Nat) : ra_cok 2 ra_oI (tIX11_of N) := (ra_c1_ok (by
  intro av h a e
  split at e
  · exact fX2_hasBook_co N _ _ _ _ e 2 (by omega)
  · cases e) (ra_c1_ok (by
  intro av h a e
  split at e
  · exact fX2_factOf_co N _ _ _ _ _ e 2 (by omega)
  · cases e) ra_c0_ok))
def lX11_of_21 : List ra_I := [(21, .sipush (-1000), 3, 0, 0, 0, (-1000), 0, []),
  (24, .ireturn, 1, 0, 0, 0, 0, 0, [])]
set_option maxRecDepth 100000 in
theorem lX11_of_21_ck : lX11_of_21.all (ra_ck mX11_of 11) = true := by decide +kernel
def nX11_of_21 (N : Nat) (h : ra_H) : Option (Int32 × ra_H) :=
  some ((-1000 : Int32), h)
def kX11_of_21 (N : Nat) : Nat → List (Option Value) → List Value → ra_H → Option (Int32 × ra_H) := ra_k0
theorem kX11_of_21_ok (N : Nat) : ra_kok 2 mX11_of ra_oI (kX11_of_21 N) := ra_k0_ok
set_option maxRecDepth 100000 in
theorem nX11_of_21_ok (N : Nat) (h : ra_H) (r : (Int32 × ra_H)) (e : nX11_of_21 N h = some r) : ra_Ru 2 mX11_of 21 [none, none, none] [] h (ra_oI r) :=
  ra_sound (by omega) rfl ra_rI_ok (kX11_of_21_ok N) (fun m av h h1 e => (ra_c0_ok (ro := ra_oV)) m av h h1 e) (fun m av h x h1 e => (tIX11_of_ok N) m av h (x, h1) e) (fun m av h x h1 e => (ra_c0_ok (ro := ra_oJ)) m av h (x, h1) e) (fun m av h x h1 e => (ra_c0_ok (ro := ra_oR)) m av h (x, h1) e) (fun m av h x h1 e => (ra_c0_ok (ro := ra_oN)) m av h (x, h1) e) (fun m av h x h1 e => (ra_c0_ok (ro := ra_oF)) m av h (x, h1) e) 3 lX11_of_21 _ _ _ _ lX11_of_21_ck (show ra_run ra_rI (kX11_of_21 N) ra_c0 (tIX11_of N) ra_c0 ra_c0 ra_c0 ra_c0 3 lX11_of_21 [none, none, none] [] h = some r from e) _ _ rfl
def lX11_of_0 : List ra_I := [(0, .aload_n 0, 1, 0, 0, 0, 0, 0, []),
  (1, .getfield 10, 3, 11, 0, 2, 0, 0, []),
  (4, .iload_n 1, 1, 1, 0, 0, 0, 0, []),
  (5, .invokevirtual 112, 3, 26, 2, 1, 0, 0, []),
  (8, .ifCond .eq (13), 3, 21, 0, 0, 0, 0, []),
  (11, .iload_n 2, 1, 2, 0, 0, 0, 0, []),
  (12, .ifCond .lt (9), 3, 21, 0, 0, 0, 0, []),
  (15, .iload_n 2, 1, 2, 0, 0, 0, 0, []),
  (16, .bipush (12), 2, 0, 0, 0, (12), 0, []),
  (18, .if_icmp .lt (7), 3, 25, 0, 0, 0, 0, []),
  (25, .aload_n 0, 1, 0, 0, 0, 0, 0, []),
  (26, .getfield 10, 3, 11, 0, 2, 0, 0, []),
  (29, .iload_n 1, 1, 1, 0, 0, 0, 0, []),
  (30, .iload_n 2, 1, 2, 0, 0, 0, 0, []),
  (31, .invokevirtual 116, 3, 27, 3, 1, 0, 0, []),
  (34, .ireturn, 1, 0, 0, 0, 0, 0, [])]
set_option maxRecDepth 100000 in
theorem lX11_of_0_ck : lX11_of_0.all (ra_ck mX11_of 11) = true := by decide +kernel
def nX11_of_0 (N : Nat) (a0 : Nat) (a1 : Int32) (a2 : Int32) (h : ra_H) : Option (Int32 × ra_H) :=
  (ra_fR h 11 a0 0).bind fun x1 =>
  (fX2_hasBook N x1 a1 h).bind fun q2 =>
  if q2.1 = 0 then
    nX11_of_21 N q2.2
  else
    if a2 < 0 then
      nX11_of_21 N q2.2
    else
      if a2 < ((12 : Int32)) then
        (ra_fR q2.2 11 a0 0).bind fun x3 =>
        (fX2_factOf N x3 a1 a2 q2.2).bind fun q4 =>
        some (q4.1, q4.2)
      else
        nX11_of_21 N q2.2
def kX11_of_0 (N : Nat) : Nat → List (Option Value) → List Value → ra_H → Option (Int32 × ra_H) := (ra_k1 21 (fun L S h => match L, S with
  | [_, _, _], [] => nX11_of_21 N h
  | _, _ => none) ra_k0)
theorem kX11_of_0_ok (N : Nat) : ra_kok 2 mX11_of ra_oI (kX11_of_0 N) := (ra_k1_ok (by
  intro L S h a e
  split at e
  · exact ra_Ru.weak (nX11_of_21_ok N _ _ e) trivial
  · cases e) ra_k0_ok)
set_option maxRecDepth 100000 in
theorem nX11_of_0_ok (N : Nat) (a0 : Nat) (a1 : Int32) (a2 : Int32) (h : ra_H) (r : (Int32 × ra_H)) (e : nX11_of_0 N a0 a1 a2 h = some r) : ra_Ru 2 mX11_of 0 [some (.ref a0), some (.int a1), some (.int a2)] [] h (ra_oI r) :=
  ra_sound (by omega) rfl ra_rI_ok (kX11_of_0_ok N) (fun m av h h1 e => (ra_c0_ok (ro := ra_oV)) m av h h1 e) (fun m av h x h1 e => (tIX11_of_ok N) m av h (x, h1) e) (fun m av h x h1 e => (ra_c0_ok (ro := ra_oJ)) m av h (x, h1) e) (fun m av h x h1 e => (ra_c0_ok (ro := ra_oR)) m av h (x, h1) e) (fun m av h x h1 e => (ra_c0_ok (ro := ra_oN)) m av h (x, h1) e) (fun m av h x h1 e => (ra_c0_ok (ro := ra_oF)) m av h (x, h1) e) 17 lX11_of_0 _ _ _ _ lX11_of_0_ck (show ra_run ra_rI (kX11_of_0 N) ra_c0 (tIX11_of N) ra_c0 ra_c0 ra_c0 ra_c0 17 lX11_of_0 [some (.ref a0), some (.int a1), some (.int a2)] [] h = some r from e) _ _ rfl
def fX11_of (N : Nat) (p0 : Nat) (p1 : Int32) (p2 : Int32) (h : ra_H) : Option (Int32 × ra_H) := match ra_isOb h p0 11 with
  | true => nX11_of_0 N p0 p1 p2 h
  | false => none
set_option maxRecDepth 100000 in
theorem mtX11_of : ra_MT[31]? = some (mX11_of, 1, 2, (1, 1), (3, 65), (3, 66)) := rfl
theorem fX11_of_co (N : Nat) (p0 : Nat) (p1 : Int32) (p2 : Int32) (h : ra_H) (r : (Int32 × ra_H)) (e : fX11_of N p0 p1 p2 h = some r) (D : Nat) (hD : 3 ≤ D) : ra_CO D 31 [.ref p0, .int p1, .int p2] h (ra_oI r).1 (ra_oI r).2 := by
  have hw : ra_nw2 [.ref p0, .int p1, .int p2] ≤ 3 := Nat.le_of_ble_eq_true rfl
  have hdb : ∀ v ∈ ([.ref p0, .int p1, .int p2] : List Value), ∀ x, v ≠ .double x := by
    intro v hv x hx
    simp [hx] at hv
  unfold fX11_of at e
  split at e
  · rename_i ho
    have e1 := e
    exact ⟨2, _, mtX11_of, hD, ra_ev_of (by decide) hdb hw trivial (ra_Ru.weak (nX11_of_0_ok N p0 p1 p2 h _ e1) ⟨rfl, ⟨rfl, ⟨rfl, trivial⟩⟩⟩), (fun _ => ⟨_, _, rfl, ra_rcv_of ho (by decide) rfl⟩), (fun h => absurd h (by decide))⟩
  · cases e
/-! RedMarks.on(III)I -/
def mX11_on : ra_M := (yX11_on, cX11_on, 4, (some .int))
def tIX11_on (N : Nat) : Nat → List Value → ra_H → Option (Int32 × ra_H) := (ra_c1 34 (fun av h => match av with
  | [.int z0, .int z1] => fX11_isShelf N z0 z1 h
  | _ => none) (ra_c1 105 (fun av h => match av with
  | [.ref z0] => fX1_settleKept N z0 h
  | _ => none) (ra_c1 108 (fun av h => match av with
  | [.ref z0, .int z1, .int z2] => fX5_bookAt N z0 z1 z2 h
  | _ => none) ra_c0)))
theorem tIX11_on_ok (N : Nat) : ra_cok 7 ra_oI (tIX11_on N) := (ra_c1_ok (by
  intro av h a e
  split at e
  · exact fX11_isShelf_co N _ _ _ _ e 7 (by omega)
  · cases e) (ra_c1_ok (by
  intro av h a e
  split at e
  · exact fX1_settleKept_co N _ _ _ e 7 (by omega)
  · cases e) (ra_c1_ok (by
  intro av h a e
  split at e
  · exact fX5_bookAt_co N _ _ _ _ _ e 7 (by omega)
  · cases e) ra_c0_ok)))
def lX11_on_18 : List ra_I := [(18, .iconst (-1), 1, 0, 0, 0, (-1), 0, []),
  (19, .ireturn, 1, 0, 0, 0, 0, 0, [])]
set_option maxRecDepth 100000 in
theorem lX11_on_18_ck : lX11_on_18.all (ra_ck mX11_on 11) = true := by decide +kernel
def nX11_on_18 (N : Nat) (h : ra_H) : Option (Int32 × ra_H) :=
  some ((-1 : Int32), h)
def kX11_on_18 (N : Nat) : Nat → List (Option Value) → List Value → ra_H → Option (Int32 × ra_H) := ra_k0
theorem kX11_on_18_ok (N : Nat) : ra_kok 7 mX11_on ra_oI (kX11_on_18 N) := ra_k0_ok
set_option maxRecDepth 100000 in
theorem nX11_on_18_ok (N : Nat) (h : ra_H) (r : (Int32 × ra_H)) (e : nX11_on_18 N h = some r) : ra_Ru 7 mX11_on 18 [none, none, none, none] [] h (ra_oI r) :=
  ra_sound (by omega) rfl ra_rI_ok (kX11_on_18_ok N) (fun m av h h1 e => (ra_c0_ok (ro := ra_oV)) m av h h1 e) (fun m av h x h1 e => (tIX11_on_ok N) m av h (x, h1) e) (fun m av h x h1 e => (ra_c0_ok (ro := ra_oJ)) m av h (x, h1) e) (fun m av h x h1 e => (ra_c0_ok (ro := ra_oR)) m av h (x, h1) e) (fun m av h x h1 e => (ra_c0_ok (ro := ra_oN)) m av h (x, h1) e) (fun m av h x h1 e => (ra_c0_ok (ro := ra_oF)) m av h (x, h1) e) 3 lX11_on_18 _ _ _ _ lX11_on_18_ck (show ra_run ra_rI (kX11_on_18 N) ra_c0 (tIX11_on N) ra_c0 ra_c0 ra_c0 ra_c0 3 lX11_on_18 [none, none, none, none] [] h = some r from e) _ _ rfl
def lX11_on_0 : List ra_I := [(0, .iload_n 1, 1, 1, 0, 0, 0, 0, []),
  (1, .iload_n 2, 1, 2, 0, 0, 0, 0, []),
  (2, .invokestatic 138, 3, 34, 2, 1, 0, 0, []),
  (5, .ifCond .eq (13), 3, 18, 0, 0, 0, 0, []),
  (8, .aload_n 0, 1, 0, 0, 0, 0, 0, []),
  (9, .getfield 39, 3, 11, 4, 2, 0, 0, []),
  (12, .invokevirtual 204, 3, 105, 1, 1, 0, 0, []),
  (15, .ifCond .ne (5), 3, 20, 0, 0, 0, 0, []),
  (20, .aload_n 0, 1, 0, 0, 0, 0, 0, []),
  (21, .getfield 52, 3, 11, 5, 2, 0, 0, []),
  (24, .iload_n 1, 1, 1, 0, 0, 0, 0, []),
  (25, .bipush (6), 2, 0, 0, 0, (6), 0, []),
  (27, .imul, 1, 0, 0, 0, 0, 0, []),
  (28, .iload_n 2, 1, 2, 0, 0, 0, 0, []),
  (29, .iadd, 1, 0, 0, 0, 0, 0, []),
  (30, .iload_n 3, 1, 3, 0, 0, 0, 0, []),
  (31, .invokevirtual 216, 3, 108, 3, 1, 0, 0, []),
  (34, .ireturn, 1, 0, 0, 0, 0, 0, [])]
set_option maxRecDepth 100000 in
theorem lX11_on_0_ck : lX11_on_0.all (ra_ck mX11_on 11) = true := by decide +kernel
def nX11_on_0 (N : Nat) (a0 : Nat) (a1 : Int32) (a2 : Int32) (a3 : Int32) (h : ra_H) : Option (Int32 × ra_H) :=
  (fX11_isShelf N a1 a2 h).bind fun q1 =>
  if q1.1 = 0 then
    nX11_on_18 N q1.2
  else
    (ra_fR q1.2 11 a0 4).bind fun x2 =>
    (fX1_settleKept N x2 q1.2).bind fun q3 =>
    if q3.1 = 0 then
      nX11_on_18 N q3.2
    else
      (ra_fR q3.2 11 a0 5).bind fun x4 =>
      (fX5_bookAt N x4 ((a1 * ((6 : Int32))) + a2) a3 q3.2).bind fun q5 =>
      some (q5.1, q5.2)
def kX11_on_0 (N : Nat) : Nat → List (Option Value) → List Value → ra_H → Option (Int32 × ra_H) := (ra_k1 18 (fun L S h => match L, S with
  | [_, _, _, _], [] => nX11_on_18 N h
  | _, _ => none) ra_k0)
theorem kX11_on_0_ok (N : Nat) : ra_kok 7 mX11_on ra_oI (kX11_on_0 N) := (ra_k1_ok (by
  intro L S h a e
  split at e
  · exact ra_Ru.weak (nX11_on_18_ok N _ _ e) trivial
  · cases e) ra_k0_ok)
set_option maxRecDepth 100000 in
theorem nX11_on_0_ok (N : Nat) (a0 : Nat) (a1 : Int32) (a2 : Int32) (a3 : Int32) (h : ra_H) (r : (Int32 × ra_H)) (e : nX11_on_0 N a0 a1 a2 a3 h = some r) : ra_Ru 7 mX11_on 0 [some (.ref a0), some (.int a1), some (.int a2), some (.int a3)] [] h (ra_oI r) :=
  ra_sound (by omega) rfl ra_rI_ok (kX11_on_0_ok N) (fun m av h h1 e => (ra_c0_ok (ro := ra_oV)) m av h h1 e) (fun m av h x h1 e => (tIX11_on_ok N) m av h (x, h1) e) (fun m av h x h1 e => (ra_c0_ok (ro := ra_oJ)) m av h (x, h1) e) (fun m av h x h1 e => (ra_c0_ok (ro := ra_oR)) m av h (x, h1) e) (fun m av h x h1 e => (ra_c0_ok (ro := ra_oN)) m av h (x, h1) e) (fun m av h x h1 e => (ra_c0_ok (ro := ra_oF)) m av h (x, h1) e) 19 lX11_on_0 _ _ _ _ lX11_on_0_ck (show ra_run ra_rI (kX11_on_0 N) ra_c0 (tIX11_on N) ra_c0 ra_c0 ra_c0 ra_c0 19 lX11_on_0 [some (.ref a0), some (.int a1), some (.int a2), some (.int a3)] [] h = some r from e) _ _ rfl
def fX11_on (N : Nat) (p0 : Nat) (p1 : Int32) (p2 : Int32) (p3 : Int32) (h : ra_H) : Option (Int32 × ra_H) := match ra_isOb h p0 11 with
  | true => nX11_on_0 N p0 p1 p2 p3 h
  | false => none
set_option maxRecDepth 100000 in
theorem mtX11_on : ra_MT[107]? = some (mX11_on, 1, 3, (1, 1), (4, 181), (4, 182)) := rfl
theorem fX11_on_co (N : Nat) (p0 : Nat) (p1 : Int32) (p2 : Int32) (p3 : Int32) (h : ra_H) (r : (Int32 × ra_H)) (e : fX11_on N p0 p1 p2 p3 h = some r) (D : Nat) (hD : 8 ≤ D) : ra_CO D 107 [.ref p0, .int p1, .int p2, .int p3] h (ra_oI r).1 (ra_oI r).2 := by
  have hw : ra_nw2 [.ref p0, .int p1, .int p2, .int p3] ≤ 4 := Nat.le_of_ble_eq_true rfl
  have hdb : ∀ v ∈ ([.ref p0, .int p1, .int p2, .int p3] : List Value), ∀ x, v ≠ .double x := by
    intro v hv x hx
    simp [hx] at hv
  unfold fX11_on at e
  split at e
  · rename_i ho
    have e1 := e
    exact ⟨7, _, mtX11_on, hD, ra_ev_of (by decide) hdb hw trivial (ra_Ru.weak (nX11_on_0_ok N p0 p1 p2 p3 h _ e1) ⟨rfl, ⟨rfl, ⟨rfl, ⟨rfl, trivial⟩⟩⟩⟩), (fun _ => ⟨_, _, rfl, ra_rcv_of ho (by decide) rfl⟩), (fun h => absurd h (by decide))⟩
  · cases e
/-! RedMarks.oursOf(II)I -/
def mX11_oursOf : ra_M := (yX11_oursOf, cX11_oursOf, 4, (some .int))
def tIX11_oursOf (N : Nat) : Nat → List Value → ra_H → Option (Int32 × ra_H) := (ra_c1 85 (fun av h => match av with
  | [.ref z0, .ref z1, .int z2, .ref z3, .int z4] => fX0_told N z0 z1 z2 z3 z4 h
  | _ => none) ra_c0)
theorem tIX11_oursOf_ok (N : Nat) : ra_cok 4 ra_oI (tIX11_oursOf N) := (ra_c1_ok (by
  intro av h a e
  split at e
  · exact fX0_told_co N _ _ _ _ _ _ _ e 4 (by omega)
  · cases e) ra_c0_ok)
def lX11_oursOf_40 : List ra_I := [(40, .iconst (0), 1, 0, 0, 0, (0), 0, []),
  (41, .ireturn, 1, 0, 0, 0, 0, 0, [])]
set_option maxRecDepth 100000 in
theorem lX11_oursOf_40_ck : lX11_oursOf_40.all (ra_ck mX11_oursOf 11) = true := by decide +kernel
def nX11_oursOf_40 (N : Nat) (h : ra_H) : Option (Int32 × ra_H) :=
  some ((0 : Int32), h)
def kX11_oursOf_40 (N : Nat) : Nat → List (Option Value) → List Value → ra_H → Option (Int32 × ra_H) := ra_k0
theorem kX11_oursOf_40_ok (N : Nat) : ra_kok 4 mX11_oursOf ra_oI (kX11_oursOf_40 N) := ra_k0_ok
set_option maxRecDepth 100000 in
theorem nX11_oursOf_40_ok (N : Nat) (h : ra_H) (r : (Int32 × ra_H)) (e : nX11_oursOf_40 N h = some r) : ra_Ru 4 mX11_oursOf 40 [none, none, none, none] [] h (ra_oI r) :=
  ra_sound (by omega) rfl ra_rI_ok (kX11_oursOf_40_ok N) (fun m av h h1 e => (ra_c0_ok (ro := ra_oV)) m av h h1 e) (fun m av h x h1 e => (tIX11_oursOf_ok N) m av h (x, h1) e) (fun m av h x h1 e => (ra_c0_ok (ro := ra_oJ)) m av h (x, h1) e) (fun m av h x h1 e => (ra_c0_ok (ro := ra_oR)) m av h (x, h1) e) (fun m av h x h1 e => (ra_c0_ok (ro := ra_oN)) m av h (x, h1) e) (fun m av h x h1 e => (ra_c0_ok (ro := ra_oF)) m av h (x, h1) e) 3 lX11_oursOf_40 _ _ _ _ lX11_oursOf_40_ck (show ra_run ra_rI (kX11_oursOf_40 N) ra_c0 (tIX11_oursOf N) ra_c0 ra_c0 ra_c0 ra_c0 3 lX11_oursOf_40 [none, none, none, none] [] h = some r from e) _ _ rfl
def lX11_oursOf_56 : List ra_I := [(56, .ireturn, 1, 0, 0, 0, 0, 0, [])]
set_option maxRecDepth 100000 in
theorem lX11_oursOf_56_ck : lX11_oursOf_56.all (ra_ck mX11_oursOf 11) = true := by decide +kernel
def nX11_oursOf_56 (N : Nat) (b0 : Int32) (h : ra_H) : Option (Int32 × ra_H) :=
  some (b0, h)
def kX11_oursOf_56 (N : Nat) : Nat → List (Option Value) → List Value → ra_H → Option (Int32 × ra_H) := ra_k0
theorem kX11_oursOf_56_ok (N : Nat) : ra_kok 4 mX11_oursOf ra_oI (kX11_oursOf_56 N) := ra_k0_ok
set_option maxRecDepth 100000 in
theorem nX11_oursOf_56_ok (N : Nat) (b0 : Int32) (h : ra_H) (r : (Int32 × ra_H)) (e : nX11_oursOf_56 N b0 h = some r) : ra_Ru 4 mX11_oursOf 56 [none, none, none, none] [.int b0] h (ra_oI r) :=
  ra_sound (by omega) rfl ra_rI_ok (kX11_oursOf_56_ok N) (fun m av h h1 e => (ra_c0_ok (ro := ra_oV)) m av h h1 e) (fun m av h x h1 e => (tIX11_oursOf_ok N) m av h (x, h1) e) (fun m av h x h1 e => (ra_c0_ok (ro := ra_oJ)) m av h (x, h1) e) (fun m av h x h1 e => (ra_c0_ok (ro := ra_oR)) m av h (x, h1) e) (fun m av h x h1 e => (ra_c0_ok (ro := ra_oN)) m av h (x, h1) e) (fun m av h x h1 e => (ra_c0_ok (ro := ra_oF)) m av h (x, h1) e) 2 lX11_oursOf_56 _ _ _ _ lX11_oursOf_56_ck (show ra_run ra_rI (kX11_oursOf_56 N) ra_c0 (tIX11_oursOf N) ra_c0 ra_c0 ra_c0 ra_c0 2 lX11_oursOf_56 [none, none, none, none] [.int b0] h = some r from e) _ _ rfl
def lX11_oursOf_0 : List ra_I := [(0, .aload_n 0, 1, 0, 0, 0, 0, 0, []),
  (1, .getfield 30, 3, 11, 3, 2, 0, 0, []),
  (4, .aload_n 0, 1, 0, 0, 0, 0, 0, []),
  (5, .getfield 10, 3, 11, 0, 2, 0, 0, []),
  (8, .getfield 169, 3, 2, 4, 2, 0, 0, []),
  (11, .iload_n 1, 1, 1, 0, 0, 0, 0, []),
  (12, .aaload, 1, 0, 0, 0, 0, 0, []),
  (13, .iconst (3), 1, 0, 0, 0, (3), 0, []),
  (14, .aload_n 0, 1, 0, 0, 0, 0, 0, []),
  (15, .getfield 10, 3, 11, 0, 2, 0, 0, []),
  (18, .getfield 317, 3, 2, 0, 2, 0, 0, []),
  (21, .iload_n 2, 1, 2, 0, 0, 0, 0, []),
  (22, .bipush (12), 2, 0, 0, 0, (12), 0, []),
  (24, .imul, 1, 0, 0, 0, 0, 0, []),
  (25, .invokevirtual 320, 3, 85, 5, 1, 0, 0, []),
  (28, .istore_n 3, 1, 3, 0, 0, 0, 0, []),
  (29, .iload_n 3, 1, 3, 0, 0, 0, 0, []),
  (30, .ldc_w 324, 3, 0, 0, 0, (-2000000000), 0, []),
  (33, .if_icmp .eq (7), 3, 40, 0, 0, 0, 0, []),
  (36, .iload_n 3, 1, 3, 0, 0, 0, 0, []),
  (37, .ifCond .ge (5), 3, 42, 0, 0, 0, 0, []),
  (42, .iload_n 3, 1, 3, 0, 0, 0, 0, []),
  (43, .sipush (1000), 3, 0, 0, 0, (1000), 0, []),
  (46, .if_icmp .le (9), 3, 55, 0, 0, 0, 0, []),
  (49, .sipush (1000), 3, 0, 0, 0, (1000), 0, []),
  (52, .goto (4), 3, 56, 0, 0, 0, 0, []),
  (55, .iload_n 3, 1, 3, 0, 0, 0, 0, [])]
set_option maxRecDepth 100000 in
theorem lX11_oursOf_0_ck : lX11_oursOf_0.all (ra_ck mX11_oursOf 11) = true := by decide +kernel
def nX11_oursOf_0 (N : Nat) (a0 : Nat) (a1 : Int32) (a2 : Int32) (h : ra_H) : Option (Int32 × ra_H) :=
  (ra_fR h 11 a0 3).bind fun x1 =>
  (ra_fR h 11 a0 0).bind fun x2 =>
  (ra_fR h 2 x2 4).bind fun x3 =>
  (ra_aN h x3 a1).bind fun r4 => match r4 with
  | none =>
    (ra_fR h 11 a0 0).bind fun x6 =>
    (ra_fR h 2 x6 0).bind fun x7 =>
    none
  | some x5 =>
    (ra_fR h 11 a0 0).bind fun x8 =>
    (ra_fR h 2 x8 0).bind fun x9 =>
    (fX0_told N x1 x5 ((3 : Int32)) x9 (a2 * ((12 : Int32))) h).bind fun q10 =>
    if q10.1 = ((-2000000000 : Int32)) then
      nX11_oursOf_40 N q10.2
    else
      if q10.1 < 0 then
        nX11_oursOf_40 N q10.2
      else
        if q10.1 ≤ ((1000 : Int32)) then
          nX11_oursOf_56 N q10.1 q10.2
        else
          nX11_oursOf_56 N ((1000 : Int32)) q10.2
def kX11_oursOf_0 (N : Nat) : Nat → List (Option Value) → List Value → ra_H → Option (Int32 × ra_H) := (ra_k1 40 (fun L S h => match L, S with
  | [_, _, _, _], [] => nX11_oursOf_40 N h
  | _, _ => none) (ra_k1 56 (fun L S h => match L, S with
  | [_, _, _, _], [.int b0] => nX11_oursOf_56 N b0 h
  | _, _ => none) ra_k0))
theorem kX11_oursOf_0_ok (N : Nat) : ra_kok 4 mX11_oursOf ra_oI (kX11_oursOf_0 N) := (ra_k1_ok (by
  intro L S h a e
  split at e
  · exact ra_Ru.weak (nX11_oursOf_40_ok N _ _ e) trivial
  · cases e) (ra_k1_ok (by
  intro L S h a e
  split at e
  · exact ra_Ru.weak (nX11_oursOf_56_ok N _ _ _ e) trivial
  · cases e) ra_k0_ok))
set_option maxRecDepth 100000 in
theorem nX11_oursOf_0_ok (N : Nat) (a0 : Nat) (a1 : Int32) (a2 : Int32) (h : ra_H) (r : (Int32 × ra_H)) (e : nX11_oursOf_0 N a0 a1 a2 h = some r) : ra_Ru 4 mX11_oursOf 0 [some (.ref a0), some (.int a1), some (.int a2), none] [] h (ra_oI r) :=
  ra_sound (by omega) rfl ra_rI_ok (kX11_oursOf_0_ok N) (fun m av h h1 e => (ra_c0_ok (ro := ra_oV)) m av h h1 e) (fun m av h x h1 e => (tIX11_oursOf_ok N) m av h (x, h1) e) (fun m av h x h1 e => (ra_c0_ok (ro := ra_oJ)) m av h (x, h1) e) (fun m av h x h1 e => (ra_c0_ok (ro := ra_oR)) m av h (x, h1) e) (fun m av h x h1 e => (ra_c0_ok (ro := ra_oN)) m av h (x, h1) e) (fun m av h x h1 e => (ra_c0_ok (ro := ra_oF)) m av h (x, h1) e) 28 lX11_oursOf_0 _ _ _ _ lX11_oursOf_0_ck (show ra_run ra_rI (kX11_oursOf_0 N) ra_c0 (tIX11_oursOf N) ra_c0 ra_c0 ra_c0 ra_c0 28 lX11_oursOf_0 [some (.ref a0), some (.int a1), some (.int a2), none] [] h = some r from e) _ _ rfl
def fX11_oursOf (N : Nat) (p0 : Nat) (p1 : Int32) (p2 : Int32) (h : ra_H) : Option (Int32 × ra_H) := match ra_isOb h p0 11 with
  | true => nX11_oursOf_0 N p0 p1 p2 h
  | false => none
set_option maxRecDepth 100000 in
theorem mtX11_oursOf : ra_MT[170]? = some (mX11_oursOf, 1, 2, (1, 1), (5, 210), (0, 53)) := rfl
theorem fX11_oursOf_co (N : Nat) (p0 : Nat) (p1 : Int32) (p2 : Int32) (h : ra_H) (r : (Int32 × ra_H)) (e : fX11_oursOf N p0 p1 p2 h = some r) (D : Nat) (hD : 5 ≤ D) : ra_CO D 170 [.ref p0, .int p1, .int p2] h (ra_oI r).1 (ra_oI r).2 := by
  have hw : ra_nw2 [.ref p0, .int p1, .int p2] ≤ 4 := Nat.le_of_ble_eq_true rfl
  have hdb : ∀ v ∈ ([.ref p0, .int p1, .int p2] : List Value), ∀ x, v ≠ .double x := by
    intro v hv x hx
    simp [hx] at hv
  unfold fX11_oursOf at e
  split at e
  · rename_i ho
    have e1 := e
    exact ⟨4, _, mtX11_oursOf, hD, ra_ev_of (by decide) hdb hw trivial (ra_Ru.weak (nX11_oursOf_0_ok N p0 p1 p2 h _ e1) ⟨rfl, ⟨rfl, ⟨rfl, trivial⟩⟩⟩), (fun _ => ⟨_, _, rfl, ra_rcv_of ho (by decide) rfl⟩), (fun h => absurd h (by decide))⟩
  · cases e
/-! RedMarks.ours(III)I -/
def mX11_ours : ra_M := (yX11_ours, cX11_ours, 6, (some .int))
def tIX11_ours (N : Nat) : Nat → List Value → ra_H → Option (Int32 × ra_H) := (ra_c1 26 (fun av h => match av with
  | [.ref z0, .int z1] => fX2_hasBook N z0 z1 h
  | _ => none) (ra_c1 82 (fun av h => match av with
  | [.ref z0, .int z1] => fX2_hasScheme N z0 z1 h
  | _ => none) (ra_c1 170 (fun av h => match av with
  | [.ref z0, .int z1, .int z2] => fX11_oursOf N z0 z1 z2 h
  | _ => none) ra_c0)))
theorem tIX11_ours_ok (N : Nat) : ra_cok 5 ra_oI (tIX11_ours N) := (ra_c1_ok (by
  intro av h a e
  split at e
  · exact fX2_hasBook_co N _ _ _ _ e 5 (by omega)
  · cases e) (ra_c1_ok (by
  intro av h a e
  split at e
  · exact fX2_hasScheme_co N _ _ _ _ e 5 (by omega)
  · cases e) (ra_c1_ok (by
  intro av h a e
  split at e
  · exact fX11_oursOf_co N _ _ _ _ _ e 5 (by omega)
  · cases e) ra_c0_ok)))
def lX11_ours_38 : List ra_I := [(38, .iconst (-1), 1, 0, 0, 0, (-1), 0, []),
  (39, .ireturn, 1, 0, 0, 0, 0, 0, [])]
set_option maxRecDepth 100000 in
theorem lX11_ours_38_ck : lX11_ours_38.all (ra_ck mX11_ours 11) = true := by decide +kernel
def nX11_ours_38 (N : Nat) (h : ra_H) : Option (Int32 × ra_H) :=
  some ((-1 : Int32), h)
def kX11_ours_38 (N : Nat) : Nat → List (Option Value) → List Value → ra_H → Option (Int32 × ra_H) := ra_k0
theorem kX11_ours_38_ok (N : Nat) : ra_kok 5 mX11_ours ra_oI (kX11_ours_38 N) := ra_k0_ok
set_option maxRecDepth 100000 in
theorem nX11_ours_38_ok (N : Nat) (h : ra_H) (r : (Int32 × ra_H)) (e : nX11_ours_38 N h = some r) : ra_Ru 5 mX11_ours 38 [none, none, none, none, none, none] [] h (ra_oI r) :=
  ra_sound (by omega) rfl ra_rI_ok (kX11_ours_38_ok N) (fun m av h h1 e => (ra_c0_ok (ro := ra_oV)) m av h h1 e) (fun m av h x h1 e => (tIX11_ours_ok N) m av h (x, h1) e) (fun m av h x h1 e => (ra_c0_ok (ro := ra_oJ)) m av h (x, h1) e) (fun m av h x h1 e => (ra_c0_ok (ro := ra_oR)) m av h (x, h1) e) (fun m av h x h1 e => (ra_c0_ok (ro := ra_oN)) m av h (x, h1) e) (fun m av h x h1 e => (ra_c0_ok (ro := ra_oF)) m av h (x, h1) e) 3 lX11_ours_38 _ _ _ _ lX11_ours_38_ck (show ra_run ra_rI (kX11_ours_38 N) ra_c0 (tIX11_ours N) ra_c0 ra_c0 ra_c0 ra_c0 3 lX11_ours_38 [none, none, none, none, none, none] [] h = some r from e) _ _ rfl
def lX11_ours_84 : List ra_I := [(84, .ireturn, 1, 0, 0, 0, 0, 0, [])]
set_option maxRecDepth 100000 in
theorem lX11_ours_84_ck : lX11_ours_84.all (ra_ck mX11_ours 11) = true := by decide +kernel
def nX11_ours_84 (N : Nat) (b0 : Int32) (h : ra_H) : Option (Int32 × ra_H) :=
  some (b0, h)
def kX11_ours_84 (N : Nat) : Nat → List (Option Value) → List Value → ra_H → Option (Int32 × ra_H) := ra_k0
theorem kX11_ours_84_ok (N : Nat) : ra_kok 5 mX11_ours ra_oI (kX11_ours_84 N) := ra_k0_ok
set_option maxRecDepth 100000 in
theorem nX11_ours_84_ok (N : Nat) (b0 : Int32) (h : ra_H) (r : (Int32 × ra_H)) (e : nX11_ours_84 N b0 h = some r) : ra_Ru 5 mX11_ours 84 [none, none, none, none, none, none] [.int b0] h (ra_oI r) :=
  ra_sound (by omega) rfl ra_rI_ok (kX11_ours_84_ok N) (fun m av h h1 e => (ra_c0_ok (ro := ra_oV)) m av h h1 e) (fun m av h x h1 e => (tIX11_ours_ok N) m av h (x, h1) e) (fun m av h x h1 e => (ra_c0_ok (ro := ra_oJ)) m av h (x, h1) e) (fun m av h x h1 e => (ra_c0_ok (ro := ra_oR)) m av h (x, h1) e) (fun m av h x h1 e => (ra_c0_ok (ro := ra_oN)) m av h (x, h1) e) (fun m av h x h1 e => (ra_c0_ok (ro := ra_oF)) m av h (x, h1) e) 2 lX11_ours_84 _ _ _ _ lX11_ours_84_ck (show ra_run ra_rI (kX11_ours_84 N) ra_c0 (tIX11_ours N) ra_c0 ra_c0 ra_c0 ra_c0 2 lX11_ours_84 [none, none, none, none, none, none] [.int b0] h = some r from e) _ _ rfl
def lX11_ours_40 : List ra_I := [(40, .aload_n 0, 1, 0, 0, 0, 0, 0, []),
  (41, .iload_n 1, 1, 1, 0, 0, 0, 0, []),
  (42, .iload_n 2, 1, 2, 0, 0, 0, 0, []),
  (43, .invokevirtual 312, 3, 170, 3, 1, 0, 0, []),
  (46, .istore 4, 2, 4, 0, 0, 0, 0, []),
  (48, .iload_n 3, 1, 3, 0, 0, 0, 0, []),
  (49, .iconst (-1), 1, 0, 0, 0, (-1), 0, []),
  (50, .if_icmp .ne (6), 3, 56, 0, 0, 0, 0, []),
  (53, .iload 4, 2, 4, 0, 0, 0, 0, []),
  (55, .ireturn, 1, 0, 0, 0, 0, 0, []),
  (56, .iload 4, 2, 4, 0, 0, 0, 0, []),
  (58, .aload_n 0, 1, 0, 0, 0, 0, 0, []),
  (59, .iload_n 1, 1, 1, 0, 0, 0, 0, []),
  (60, .iload_n 3, 1, 3, 0, 0, 0, 0, []),
  (61, .invokevirtual 312, 3, 170, 3, 1, 0, 0, []),
  (64, .iadd, 1, 0, 0, 0, 0, 0, []),
  (65, .istore 5, 2, 5, 0, 0, 0, 0, []),
  (67, .iload 5, 2, 5, 0, 0, 0, 0, []),
  (69, .ifCond .ne (7), 3, 76, 0, 0, 0, 0, []),
  (72, .iconst (0), 1, 0, 0, 0, (0), 0, []),
  (73, .goto (11), 3, 84, 0, 0, 0, 0, []),
  (76, .iload 4, 2, 4, 0, 0, 0, 0, []),
  (78, .bipush (100), 2, 0, 0, 0, (100), 0, []),
  (80, .imul, 1, 0, 0, 0, 0, 0, []),
  (81, .iload 5, 2, 5, 0, 0, 0, 0, []),
  (83, .idiv, 1, 0, 0, 0, 0, 0, [])]
set_option maxRecDepth 100000 in
theorem lX11_ours_40_ck : lX11_ours_40.all (ra_ck mX11_ours 11) = true := by decide +kernel
def nX11_ours_40 (N : Nat) (a0 : Nat) (a1 : Int32) (a2 : Int32) (a3 : Int32) (h : ra_H) : Option (Int32 × ra_H) :=
  (fX11_oursOf N a0 a1 a2 h).bind fun q1 =>
  if a3 = ((-1 : Int32)) then
    some (q1.1, q1.2)
  else
    (fX11_oursOf N a0 a1 a3 q1.2).bind fun q2 =>
    let y3 := q1.1 + q2.1
    if y3 = 0 then
      nX11_ours_84 N ((0 : Int32)) q2.2
    else
      if y3 = 0 then none else
      nX11_ours_84 N ((q1.1 * ((100 : Int32))) / y3) q2.2
def kX11_ours_40 (N : Nat) : Nat → List (Option Value) → List Value → ra_H → Option (Int32 × ra_H) := (ra_k1 84 (fun L S h => match L, S with
  | [_, _, _, _, _, _], [.int b0] => nX11_ours_84 N b0 h
  | _, _ => none) ra_k0)
theorem kX11_ours_40_ok (N : Nat) : ra_kok 5 mX11_ours ra_oI (kX11_ours_40 N) := (ra_k1_ok (by
  intro L S h a e
  split at e
  · exact ra_Ru.weak (nX11_ours_84_ok N _ _ _ e) trivial
  · cases e) ra_k0_ok)
set_option maxRecDepth 100000 in
theorem nX11_ours_40_ok (N : Nat) (a0 : Nat) (a1 : Int32) (a2 : Int32) (a3 : Int32) (h : ra_H) (r : (Int32 × ra_H)) (e : nX11_ours_40 N a0 a1 a2 a3 h = some r) : ra_Ru 5 mX11_ours 40 [some (.ref a0), some (.int a1), some (.int a2), some (.int a3), none, none] [] h (ra_oI r) :=
  ra_sound (by omega) rfl ra_rI_ok (kX11_ours_40_ok N) (fun m av h h1 e => (ra_c0_ok (ro := ra_oV)) m av h h1 e) (fun m av h x h1 e => (tIX11_ours_ok N) m av h (x, h1) e) (fun m av h x h1 e => (ra_c0_ok (ro := ra_oJ)) m av h (x, h1) e) (fun m av h x h1 e => (ra_c0_ok (ro := ra_oR)) m av h (x, h1) e) (fun m av h x h1 e => (ra_c0_ok (ro := ra_oN)) m av h (x, h1) e) (fun m av h x h1 e => (ra_c0_ok (ro := ra_oF)) m av h (x, h1) e) 27 lX11_ours_40 _ _ _ _ lX11_ours_40_ck (show ra_run ra_rI (kX11_ours_40 N) ra_c0 (tIX11_ours N) ra_c0 ra_c0 ra_c0 ra_c0 27 lX11_ours_40 [some (.ref a0), some (.int a1), some (.int a2), some (.int a3), none, none] [] h = some r from e) _ _ rfl
def lX11_ours_0 : List ra_I := [(0, .aload_n 0, 1, 0, 0, 0, 0, 0, []),
  (1, .getfield 10, 3, 11, 0, 2, 0, 0, []),
  (4, .iload_n 1, 1, 1, 0, 0, 0, 0, []),
  (5, .invokevirtual 176, 3, 82, 2, 1, 0, 0, []),
  (8, .ifCond .eq (30), 3, 38, 0, 0, 0, 0, []),
  (11, .aload_n 0, 1, 0, 0, 0, 0, 0, []),
  (12, .getfield 10, 3, 11, 0, 2, 0, 0, []),
  (15, .iload_n 2, 1, 2, 0, 0, 0, 0, []),
  (16, .invokevirtual 112, 3, 26, 2, 1, 0, 0, []),
  (19, .ifCond .eq (19), 3, 38, 0, 0, 0, 0, []),
  (22, .iload_n 3, 1, 3, 0, 0, 0, 0, []),
  (23, .iconst (-1), 1, 0, 0, 0, (-1), 0, []),
  (24, .if_icmp .eq (16), 3, 40, 0, 0, 0, 0, []),
  (27, .aload_n 0, 1, 0, 0, 0, 0, 0, []),
  (28, .getfield 10, 3, 11, 0, 2, 0, 0, []),
  (31, .iload_n 3, 1, 3, 0, 0, 0, 0, []),
  (32, .invokevirtual 112, 3, 26, 2, 1, 0, 0, []),
  (35, .ifCond .ne (5), 3, 40, 0, 0, 0, 0, [])]
set_option maxRecDepth 100000 in
theorem lX11_ours_0_ck : lX11_ours_0.all (ra_ck mX11_ours 11) = true := by decide +kernel
def nX11_ours_0 (N : Nat) (a0 : Nat) (a1 : Int32) (a2 : Int32) (a3 : Int32) (h : ra_H) : Option (Int32 × ra_H) :=
  (ra_fR h 11 a0 0).bind fun x1 =>
  (fX2_hasScheme N x1 a1 h).bind fun q2 =>
  if q2.1 = 0 then
    nX11_ours_38 N q2.2
  else
    (ra_fR q2.2 11 a0 0).bind fun x3 =>
    (fX2_hasBook N x3 a2 q2.2).bind fun q4 =>
    if q4.1 = 0 then
      nX11_ours_38 N q4.2
    else
      if a3 = ((-1 : Int32)) then
        nX11_ours_40 N a0 a1 a2 a3 q4.2
      else
        (ra_fR q4.2 11 a0 0).bind fun x5 =>
        (fX2_hasBook N x5 a3 q4.2).bind fun q6 =>
        if q6.1 = 0 then
          nX11_ours_38 N q6.2
        else
          nX11_ours_40 N a0 a1 a2 a3 q6.2
def kX11_ours_0 (N : Nat) : Nat → List (Option Value) → List Value → ra_H → Option (Int32 × ra_H) := (ra_k1 38 (fun L S h => match L, S with
  | [_, _, _, _, _, _], [] => nX11_ours_38 N h
  | _, _ => none) (ra_k1 40 (fun L S h => match L, S with
  | [some (.ref a0), some (.int a1), some (.int a2), some (.int a3), _, _], [] => nX11_ours_40 N a0 a1 a2 a3 h
  | _, _ => none) ra_k0))
theorem kX11_ours_0_ok (N : Nat) : ra_kok 5 mX11_ours ra_oI (kX11_ours_0 N) := (ra_k1_ok (by
  intro L S h a e
  split at e
  · exact ra_Ru.weak (nX11_ours_38_ok N _ _ e) trivial
  · cases e) (ra_k1_ok (by
  intro L S h a e
  split at e
  · exact ra_Ru.weak (nX11_ours_40_ok N _ _ _ _ _ _ e) ⟨rfl, ⟨rfl, ⟨rfl, ⟨rfl, trivial⟩⟩⟩⟩
  · cases e) ra_k0_ok))
set_option maxRecDepth 100000 in
theorem nX11_ours_0_ok (N : Nat) (a0 : Nat) (a1 : Int32) (a2 : Int32) (a3 : Int32) (h : ra_H) (r : (Int32 × ra_H)) (e : nX11_ours_0 N a0 a1 a2 a3 h = some r) : ra_Ru 5 mX11_ours 0 [some (.ref a0), some (.int a1), some (.int a2), some (.int a3), none, none] [] h (ra_oI r) :=
  ra_sound (by omega) rfl ra_rI_ok (kX11_ours_0_ok N) (fun m av h h1 e => (ra_c0_ok (ro := ra_oV)) m av h h1 e) (fun m av h x h1 e => (tIX11_ours_ok N) m av h (x, h1) e) (fun m av h x h1 e => (ra_c0_ok (ro := ra_oJ)) m av h (x, h1) e) (fun m av h x h1 e => (ra_c0_ok (ro := ra_oR)) m av h (x, h1) e) (fun m av h x h1 e => (ra_c0_ok (ro := ra_oN)) m av h (x, h1) e) (fun m av h x h1 e => (ra_c0_ok (ro := ra_oF)) m av h (x, h1) e) 19 lX11_ours_0 _ _ _ _ lX11_ours_0_ck (show ra_run ra_rI (kX11_ours_0 N) ra_c0 (tIX11_ours N) ra_c0 ra_c0 ra_c0 ra_c0 19 lX11_ours_0 [some (.ref a0), some (.int a1), some (.int a2), some (.int a3), none, none] [] h = some r from e) _ _ rfl
def fX11_ours (N : Nat) (p0 : Nat) (p1 : Int32) (p2 : Int32) (p3 : Int32) (h : ra_H) : Option (Int32 × ra_H) := match ra_isOb h p0 11 with
  | true => nX11_ours_0 N p0 p1 p2 p3 h
  | false => none
set_option maxRecDepth 100000 in
theorem mtX11_ours : ra_MT[169]? = some (mX11_ours, 1, 3, (1, 1), (5, 205), (5, 206)) := rfl
theorem fX11_ours_co (N : Nat) (p0 : Nat) (p1 : Int32) (p2 : Int32) (p3 : Int32) (h : ra_H) (r : (Int32 × ra_H)) (e : fX11_ours N p0 p1 p2 p3 h = some r) (D : Nat) (hD : 6 ≤ D) : ra_CO D 169 [.ref p0, .int p1, .int p2, .int p3] h (ra_oI r).1 (ra_oI r).2 := by
  have hw : ra_nw2 [.ref p0, .int p1, .int p2, .int p3] ≤ 6 := Nat.le_of_ble_eq_true rfl
  have hdb : ∀ v ∈ ([.ref p0, .int p1, .int p2, .int p3] : List Value), ∀ x, v ≠ .double x := by
    intro v hv x hx
    simp [hx] at hv
  unfold fX11_ours at e
  split at e
  · rename_i ho
    have e1 := e
    exact ⟨5, _, mtX11_ours, hD, ra_ev_of (by decide) hdb hw trivial (ra_Ru.weak (nX11_ours_0_ok N p0 p1 p2 p3 h _ e1) ⟨rfl, ⟨rfl, ⟨rfl, ⟨rfl, trivial⟩⟩⟩⟩), (fun _ => ⟨_, _, rfl, ra_rcv_of ho (by decide) rfl⟩), (fun h => absurd h (by decide))⟩
  · cases e
/-! RedMarks.rebound()I -/
def mX11_rebound : ra_M := (yX11_rebound, cX11_rebound, 1, (some .int))
def lX11_rebound_0 : List ra_I := [(0, .aload_n 0, 1, 0, 0, 0, 0, 0, []),
  (1, .getfield 156, 3, 11, 11, 0, 0, 0, []),
  (4, .ireturn, 1, 0, 0, 0, 0, 0, [])]
set_option maxRecDepth 100000 in
theorem lX11_rebound_0_ck : lX11_rebound_0.all (ra_ck mX11_rebound 11) = true := by decide +kernel
def nX11_rebound_0 (N : Nat) (a0 : Nat) (h : ra_H) : Option (Int32 × ra_H) :=
  (ra_fI h 11 a0 11).bind fun x1 =>
  some (x1, h)
def kX11_rebound_0 (N : Nat) : Nat → List (Option Value) → List Value → ra_H → Option (Int32 × ra_H) := ra_k0
theorem kX11_rebound_0_ok (N : Nat) : ra_kok 1 mX11_rebound ra_oI (kX11_rebound_0 N) := ra_k0_ok
set_option maxRecDepth 100000 in
theorem nX11_rebound_0_ok (N : Nat) (a0 : Nat) (h : ra_H) (r : (Int32 × ra_H)) (e : nX11_rebound_0 N a0 h = some r) : ra_Ru 1 mX11_rebound 0 [some (.ref a0)] [] h (ra_oI r) :=
  ra_sound (by omega) rfl ra_rI_ok (kX11_rebound_0_ok N) (fun m av h h1 e => (ra_c0_ok (ro := ra_oV)) m av h h1 e) (fun m av h x h1 e => (ra_c0_ok (ro := ra_oI)) m av h (x, h1) e) (fun m av h x h1 e => (ra_c0_ok (ro := ra_oJ)) m av h (x, h1) e) (fun m av h x h1 e => (ra_c0_ok (ro := ra_oR)) m av h (x, h1) e) (fun m av h x h1 e => (ra_c0_ok (ro := ra_oN)) m av h (x, h1) e) (fun m av h x h1 e => (ra_c0_ok (ro := ra_oF)) m av h (x, h1) e) 4 lX11_rebound_0 _ _ _ _ lX11_rebound_0_ck (show ra_run ra_rI (kX11_rebound_0 N) ra_c0 ra_c0 ra_c0 ra_c0 ra_c0 ra_c0 4 lX11_rebound_0 [some (.ref a0)] [] h = some r from e) _ _ rfl
def fX11_rebound (N : Nat) (p0 : Nat) (h : ra_H) : Option (Int32 × ra_H) := match ra_isOb h p0 11 with
  | true => nX11_rebound_0 N p0 h
  | false => none
set_option maxRecDepth 100000 in
theorem mtX11_rebound : ra_MT[40]? = some (mX11_rebound, 1, 0, (1, 1), (3, 101), (3, 102)) := rfl
theorem fX11_rebound_co (N : Nat) (p0 : Nat) (h : ra_H) (r : (Int32 × ra_H)) (e : fX11_rebound N p0 h = some r) (D : Nat) (hD : 2 ≤ D) : ra_CO D 40 [.ref p0] h (ra_oI r).1 (ra_oI r).2 := by
  have hw : ra_nw2 [.ref p0] ≤ 1 := Nat.le_of_ble_eq_true rfl
  have hdb : ∀ v ∈ ([.ref p0] : List Value), ∀ x, v ≠ .double x := by
    intro v hv x hx
    simp [hx] at hv
  unfold fX11_rebound at e
  split at e
  · rename_i ho
    have e1 := e
    exact ⟨1, _, mtX11_rebound, hD, ra_ev_of (by decide) hdb hw trivial (ra_Ru.weak (nX11_rebound_0_ok N p0 h _ e1) ⟨rfl, trivial⟩), (fun _ => ⟨_, _, rfl, ra_rcv_of ho (by decide) rfl⟩), (fun h => absurd h (by decide))⟩
  · cases e
/-! RedMarks.row()I -/
def mX11_row : ra_M := (yX11_row, cX11_row, 4, (some .int))
def tIX11_row (N : Nat) : Nat → List Value → ra_H → Option (Int32 × ra_H) := (ra_c1 17 (fun av h => match av with
  | [.ref z0, .int z1] => fX11_refuse N z0 z1 h
  | _ => none) (ra_c1 24 (fun av h => match av with
  | [.ref z0, .int z1] => fX11_accept N z0 z1 h
  | _ => none) (ra_c1 39 (fun av h => match av with
  | [.ref z0, .int z1] => fX11_addFromTape N z0 z1 h
  | _ => none) ra_c0)))
theorem tIX11_row_ok (N : Nat) : ra_cok 6 ra_oI (tIX11_row N) := (ra_c1_ok (by
  intro av h a e
  split at e
  · exact fX11_refuse_co N _ _ _ _ e 6 (by omega)
  · cases e) (ra_c1_ok (by
  intro av h a e
  split at e
  · exact fX11_accept_co N _ _ _ _ e 6 (by omega)
  · cases e) (ra_c1_ok (by
  intro av h a e
  split at e
  · exact fX11_addFromTape_co N _ _ _ _ e 6 (by omega)
  · cases e) ra_c0_ok)))
def lX11_row_51 : List ra_I := [(51, .iinc 3 (5), 3, 3, 0, 0, (5), 0, []),
  (54, .goto (-31), 3, 23, 0, 0, 0, 0, [])]
set_option maxRecDepth 100000 in
theorem lX11_row_51_ck : lX11_row_51.all (ra_ck mX11_row 11) = true := by decide +kernel
def nX11_row_51 (N : Nat) (c23 : Nat → Int32 → Int32 → Int32 → ra_H → Option (Int32 × ra_H)) (a0 : Nat) (a1 : Int32) (a2 : Int32) (a3 : Int32) (h : ra_H) : Option (Int32 × ra_H) :=
  let y1 := a3 + (5 : Int32)
  c23 a0 a1 a2 y1 h
def kX11_row_51 (N : Nat) (c23 : Nat → Int32 → Int32 → Int32 → ra_H → Option (Int32 × ra_H)) : Nat → List (Option Value) → List Value → ra_H → Option (Int32 × ra_H) := (ra_k1 23 (fun L S h => match L, S with
  | [some (.ref a0), some (.int a1), some (.int a2), some (.int a3)], [] => c23 a0 a1 a2 a3 h
  | _, _ => none) ra_k0)
theorem kX11_row_51_ok (N : Nat) (c23 : Nat → Int32 → Int32 → Int32 → ra_H → Option (Int32 × ra_H)) (hc23 : ∀ a0 a1 a2 a3 h r, c23 a0 a1 a2 a3 h = some r → ra_Ru 6 mX11_row 23 [some (.ref a0), some (.int a1), some (.int a2), some (.int a3)] [] h (ra_oI r)) : ra_kok 6 mX11_row ra_oI (kX11_row_51 N c23) := (ra_k1_ok (by
  intro L S h a e
  split at e
  · exact ra_Ru.weak (hc23 _ _ _ _ _ _ e) ⟨rfl, ⟨rfl, ⟨rfl, ⟨rfl, trivial⟩⟩⟩⟩
  · cases e) ra_k0_ok)
set_option maxRecDepth 100000 in
theorem nX11_row_51_ok (N : Nat) (c23 : Nat → Int32 → Int32 → Int32 → ra_H → Option (Int32 × ra_H)) (hc23 : ∀ a0 a1 a2 a3 h r, c23 a0 a1 a2 a3 h = some r → ra_Ru 6 mX11_row 23 [some (.ref a0), some (.int a1), some (.int a2), some (.int a3)] [] h (ra_oI r)) (a0 : Nat) (a1 : Int32) (a2 : Int32) (a3 : Int32) (h : ra_H) (r : (Int32 × ra_H)) (e : nX11_row_51 N c23 a0 a1 a2 a3 h = some r) : ra_Ru 6 mX11_row 51 [some (.ref a0), some (.int a1), some (.int a2), some (.int a3)] [] h (ra_oI r) :=
  ra_sound (by omega) rfl ra_rI_ok (kX11_row_51_ok N c23 hc23) (fun m av h h1 e => (ra_c0_ok (ro := ra_oV)) m av h h1 e) (fun m av h x h1 e => (tIX11_row_ok N) m av h (x, h1) e) (fun m av h x h1 e => (ra_c0_ok (ro := ra_oJ)) m av h (x, h1) e) (fun m av h x h1 e => (ra_c0_ok (ro := ra_oR)) m av h (x, h1) e) (fun m av h x h1 e => (ra_c0_ok (ro := ra_oN)) m av h (x, h1) e) (fun m av h x h1 e => (ra_c0_ok (ro := ra_oF)) m av h (x, h1) e) 3 lX11_row_51 _ _ _ _ lX11_row_51_ck (show ra_run ra_rI (kX11_row_51 N c23) ra_c0 (tIX11_row N) ra_c0 ra_c0 ra_c0 ra_c0 3 lX11_row_51 [some (.ref a0), some (.int a1), some (.int a2), some (.int a3)] [] h = some r from e) _ _ rfl
def lX11_row_23 : List ra_I := [(23, .iload_n 3, 1, 3, 0, 0, 0, 0, []),
  (24, .aload_n 0, 1, 0, 0, 0, 0, 0, []),
  (25, .getfield 23, 3, 11, 2, 2, 0, 0, []),
  (28, .getfield 147, 3, 8, 1, 0, 0, 0, []),
  (31, .if_icmp .ge (26), 3, 57, 0, 0, 0, 0, []),
  (34, .aload_n 0, 1, 0, 0, 0, 0, 0, []),
  (35, .iload_n 3, 1, 3, 0, 0, 0, 0, []),
  (36, .invokevirtual 153, 3, 39, 2, 1, 0, 0, []),
  (39, .ifCond .eq (9), 3, 48, 0, 0, 0, 0, []),
  (42, .iinc 1 (1), 3, 1, 0, 0, (1), 0, []),
  (45, .goto (6), 3, 51, 0, 0, 0, 0, []),
  (48, .iinc 2 (1), 3, 2, 0, 0, (1), 0, []),
  (57, .aload_n 0, 1, 0, 0, 0, 0, 0, []),
  (58, .getfield 23, 3, 11, 2, 2, 0, 0, []),
  (61, .iconst (0), 1, 0, 0, 0, (0), 0, []),
  (62, .putfield 147, 3, 8, 1, 0, 0, 0, []),
  (65, .aload_n 0, 1, 0, 0, 0, 0, 0, []),
  (66, .iload_n 2, 1, 2, 0, 0, 0, 0, []),
  (67, .putfield 156, 3, 11, 11, 0, 0, 0, []),
  (70, .aload_n 0, 1, 0, 0, 0, 0, 0, []),
  (71, .iload_n 1, 1, 1, 0, 0, 0, 0, []),
  (72, .invokevirtual 106, 3, 24, 2, 1, 0, 0, []),
  (75, .ireturn, 1, 0, 0, 0, 0, 0, [])]
set_option maxRecDepth 100000 in
theorem lX11_row_23_ck : lX11_row_23.all (ra_ck mX11_row 11) = true := by decide +kernel
def nX11_row_23 (N : Nat) : Nat → Nat → Int32 → Int32 → Int32 → ra_H → Option (Int32 × ra_H)
  | 0, _, _, _, _, _ => none
  | n + 1, a0, a1, a2, a3, h =>
  (ra_fR h 11 a0 2).bind fun x1 =>
  (ra_fI h 8 x1 1).bind fun x2 =>
  if a3 < x2 then
    (fX11_addFromTape N a0 a3 h).bind fun q7 =>
    if q7.1 = 0 then
      let y8 := a2 + (1 : Int32)
      nX11_row_51 N (nX11_row_23 N n) a0 a1 y8 a3 q7.2
    else
      let y9 := a1 + (1 : Int32)
      nX11_row_51 N (nX11_row_23 N n) a0 y9 a2 a3 q7.2
  else
    (ra_fR h 11 a0 2).bind fun x3 =>
    (ra_fW h 8 x3 1 (.int ((0 : Int32)))).bind fun h4 =>
    (ra_fW h4 11 a0 11 (.int a2)).bind fun h5 =>
    (fX11_accept N a0 a1 h5).bind fun q6 =>
    some (q6.1, q6.2)
def kX11_row_23 (N : Nat) (cs : Nat → Int32 → Int32 → Int32 → ra_H → Option (Int32 × ra_H)) : Nat → List (Option Value) → List Value → ra_H → Option (Int32 × ra_H) := (ra_k1 51 (fun L S h => match L, S with
  | [some (.ref a0), some (.int a1), some (.int a2), some (.int a3)], [] => nX11_row_51 N cs a0 a1 a2 a3 h
  | _, _ => none) ra_k0)
theorem kX11_row_23_ok (N : Nat) (cs : Nat → Int32 → Int32 → Int32 → ra_H → Option (Int32 × ra_H)) (hcs : ∀ a0 a1 a2 a3 h r, cs a0 a1 a2 a3 h = some r → ra_Ru 6 mX11_row 23 [some (.ref a0), some (.int a1), some (.int a2), some (.int a3)] [] h (ra_oI r)) : ra_kok 6 mX11_row ra_oI (kX11_row_23 N cs) := (ra_k1_ok (by
  intro L S h a e
  split at e
  · exact ra_Ru.weak (nX11_row_51_ok N cs hcs _ _ _ _ _ _ e) ⟨rfl, ⟨rfl, ⟨rfl, ⟨rfl, trivial⟩⟩⟩⟩
  · cases e) ra_k0_ok)
set_option maxRecDepth 100000 in
theorem nX11_row_23_ok (N : Nat) : ∀ n a0 a1 a2 a3 h r, nX11_row_23 N n a0 a1 a2 a3 h = some r → ra_Ru 6 mX11_row 23 [some (.ref a0), some (.int a1), some (.int a2), some (.int a3)] [] h (ra_oI r) := by
  intro n
  induction n with
  | zero => intro a0 a1 a2 a3 h r e; cases e
  | succ n ih =>
    intro a0 a1 a2 a3 h r e
    exact ra_sound (by omega) rfl ra_rI_ok (kX11_row_23_ok N (nX11_row_23 N n) ih) (fun m av h h1 e => (ra_c0_ok (ro := ra_oV)) m av h h1 e) (fun m av h x h1 e => (tIX11_row_ok N) m av h (x, h1) e) (fun m av h x h1 e => (ra_c0_ok (ro := ra_oJ)) m av h (x, h1) e) (fun m av h x h1 e => (ra_c0_ok (ro := ra_oR)) m av h (x, h1) e) (fun m av h x h1 e => (ra_c0_ok (ro := ra_oN)) m av h (x, h1) e) (fun m av h x h1 e => (ra_c0_ok (ro := ra_oF)) m av h (x, h1) e) 24 lX11_row_23 _ _ _ _ lX11_row_23_ck (show ra_run ra_rI (kX11_row_23 N (nX11_row_23 N n)) ra_c0 (tIX11_row N) ra_c0 ra_c0 ra_c0 ra_c0 24 lX11_row_23 [some (.ref a0), some (.int a1), some (.int a2), some (.int a3)] [] h = some r from e) _ _ rfl
def lX11_row_0 : List ra_I := [(0, .aload_n 0, 1, 0, 0, 0, 0, 0, []),
  (1, .getfield 23, 3, 11, 2, 2, 0, 0, []),
  (4, .getfield 147, 3, 8, 1, 0, 0, 0, []),
  (7, .ifCond .ne (10), 3, 17, 0, 0, 0, 0, []),
  (10, .aload_n 0, 1, 0, 0, 0, 0, 0, []),
  (11, .bipush (-6), 2, 0, 0, 0, (-6), 0, []),
  (13, .invokevirtual 95, 3, 17, 2, 1, 0, 0, []),
  (16, .ireturn, 1, 0, 0, 0, 0, 0, []),
  (17, .iconst (0), 1, 0, 0, 0, (0), 0, []),
  (18, .istore_n 1, 1, 1, 0, 0, 0, 0, []),
  (19, .iconst (0), 1, 0, 0, 0, (0), 0, []),
  (20, .istore_n 2, 1, 2, 0, 0, 0, 0, []),
  (21, .iconst (0), 1, 0, 0, 0, (0), 0, []),
  (22, .istore_n 3, 1, 3, 0, 0, 0, 0, [])]
set_option maxRecDepth 100000 in
theorem lX11_row_0_ck : lX11_row_0.all (ra_ck mX11_row 11) = true := by decide +kernel
def nX11_row_0 (N : Nat) (a0 : Nat) (h : ra_H) : Option (Int32 × ra_H) :=
  (ra_fR h 11 a0 2).bind fun x1 =>
  (ra_fI h 8 x1 1).bind fun x2 =>
  if x2 = 0 then
    (fX11_refuse N a0 ((-6 : Int32)) h).bind fun q3 =>
    some (q3.1, q3.2)
  else
    nX11_row_23 N N a0 ((0 : Int32)) ((0 : Int32)) ((0 : Int32)) h
def kX11_row_0 (N : Nat) : Nat → List (Option Value) → List Value → ra_H → Option (Int32 × ra_H) := (ra_k1 23 (fun L S h => match L, S with
  | [some (.ref a0), some (.int a1), some (.int a2), some (.int a3)], [] => nX11_row_23 N N a0 a1 a2 a3 h
  | _, _ => none) ra_k0)
theorem kX11_row_0_ok (N : Nat) : ra_kok 6 mX11_row ra_oI (kX11_row_0 N) := (ra_k1_ok (by
  intro L S h a e
  split at e
  · exact ra_Ru.weak (nX11_row_23_ok N N _ _ _ _ _ _ e) ⟨rfl, ⟨rfl, ⟨rfl, ⟨rfl, trivial⟩⟩⟩⟩
  · cases e) ra_k0_ok)
set_option maxRecDepth 100000 in
theorem nX11_row_0_ok (N : Nat) (a0 : Nat) (h : ra_H) (r : (Int32 × ra_H)) (e : nX11_row_0 N a0 h = some r) : ra_Ru 6 mX11_row 0 [some (.ref a0), none, none, none] [] h (ra_oI r) :=
  ra_sound (by omega) rfl ra_rI_ok (kX11_row_0_ok N) (fun m av h h1 e => (ra_c0_ok (ro := ra_oV)) m av h h1 e) (fun m av h x h1 e => (tIX11_row_ok N) m av h (x, h1) e) (fun m av h x h1 e => (ra_c0_ok (ro := ra_oJ)) m av h (x, h1) e) (fun m av h x h1 e => (ra_c0_ok (ro := ra_oR)) m av h (x, h1) e) (fun m av h x h1 e => (ra_c0_ok (ro := ra_oN)) m av h (x, h1) e) (fun m av h x h1 e => (ra_c0_ok (ro := ra_oF)) m av h (x, h1) e) 15 lX11_row_0 _ _ _ _ lX11_row_0_ck (show ra_run ra_rI (kX11_row_0 N) ra_c0 (tIX11_row N) ra_c0 ra_c0 ra_c0 ra_c0 15 lX11_row_0 [some (.ref a0), none, none, none] [] h = some r from e) _ _ rfl
def fX11_row (N : Nat) (p0 : Nat) (h : ra_H) : Option (Int32 × ra_H) := match ra_isOb h p0 11 with
  | true => nX11_row_0 N p0 h
  | false => none
set_option maxRecDepth 100000 in
theorem mtX11_row : ra_MT[38]? = some (mX11_row, 1, 0, (1, 1), (3, 93), (3, 94)) := rfl
theorem fX11_row_co (N : Nat) (p0 : Nat) (h : ra_H) (r : (Int32 × ra_H)) (e : fX11_row N p0 h = some r) (D : Nat) (hD : 7 ≤ D) : ra_CO D 38 [.ref p0] h (ra_oI r).1 (ra_oI r).2 := by
  have hw : ra_nw2 [.ref p0] ≤ 4 := Nat.le_of_ble_eq_true rfl
  have hdb : ∀ v ∈ ([.ref p0] : List Value), ∀ x, v ≠ .double x := by
    intro v hv x hx
    simp [hx] at hv
  unfold fX11_row at e
  split at e
  · rename_i ho
    have e1 := e
    exact ⟨6, _, mtX11_row, hD, ra_ev_of (by decide) hdb hw trivial (ra_Ru.weak (nX11_row_0_ok N p0 h _ e1) ⟨rfl, trivial⟩), (fun _ => ⟨_, _, rfl, ra_rcv_of ho (by decide) rfl⟩), (fun h => absurd h (by decide))⟩
  · cases e
/-! RedMarks.runs(I)I -/
def mX11_runs : ra_M := (yX11_runs, cX11_runs, 5, (some .int))
def tIX11_runs (N : Nat) : Nat → List Value → ra_H → Option (Int32 × ra_H) := (ra_c1 154 (fun av h => match av with
  | [.ref z0, .int z1, .int z2] => fX2_hasHoleAndLetter N z0 z1 z2 h
  | _ => none) (ra_c1 155 (fun av h => match av with
  | [.ref z0, .int z1, .int z2] => fX2_rise N z0 z1 z2 h
  | _ => none) ra_c0))
theorem tIX11_runs_ok (N : Nat) : ra_cok 3 ra_oI (tIX11_runs N) := (ra_c1_ok (by
  intro av h a e
  split at e
  · exact fX2_hasHoleAndLetter_co N _ _ _ _ _ e 3 (by omega)
  · cases e) (ra_c1_ok (by
  intro av h a e
  split at e
  · exact fX2_rise_co N _ _ _ _ _ e 3 (by omega)
  · cases e) ra_c0_ok))
def lX11_runs_10 : List ra_I := [(10, .sipush (-1000), 3, 0, 0, 0, (-1000), 0, []),
  (13, .ireturn, 1, 0, 0, 0, 0, 0, [])]
set_option maxRecDepth 100000 in
theorem lX11_runs_10_ck : lX11_runs_10.all (ra_ck mX11_runs 11) = true := by decide +kernel
def nX11_runs_10 (N : Nat) (h : ra_H) : Option (Int32 × ra_H) :=
  some ((-1000 : Int32), h)
def kX11_runs_10 (N : Nat) : Nat → List (Option Value) → List Value → ra_H → Option (Int32 × ra_H) := ra_k0
theorem kX11_runs_10_ok (N : Nat) : ra_kok 3 mX11_runs ra_oI (kX11_runs_10 N) := ra_k0_ok
set_option maxRecDepth 100000 in
theorem nX11_runs_10_ok (N : Nat) (h : ra_H) (r : (Int32 × ra_H)) (e : nX11_runs_10 N h = some r) : ra_Ru 3 mX11_runs 10 [none, none, none, none, none] [] h (ra_oI r) :=
  ra_sound (by omega) rfl ra_rI_ok (kX11_runs_10_ok N) (fun m av h h1 e => (ra_c0_ok (ro := ra_oV)) m av h h1 e) (fun m av h x h1 e => (tIX11_runs_ok N) m av h (x, h1) e) (fun m av h x h1 e => (ra_c0_ok (ro := ra_oJ)) m av h (x, h1) e) (fun m av h x h1 e => (ra_c0_ok (ro := ra_oR)) m av h (x, h1) e) (fun m av h x h1 e => (ra_c0_ok (ro := ra_oN)) m av h (x, h1) e) (fun m av h x h1 e => (ra_c0_ok (ro := ra_oF)) m av h (x, h1) e) 3 lX11_runs_10 _ _ _ _ lX11_runs_10_ck (show ra_run ra_rI (kX11_runs_10 N) ra_c0 (tIX11_runs N) ra_c0 ra_c0 ra_c0 ra_c0 3 lX11_runs_10 [none, none, none, none, none] [] h = some r from e) _ _ rfl
def lX11_runs_84 : List ra_I := [(84, .iinc 4 (1), 3, 4, 0, 0, (1), 0, []),
  (87, .goto (-53), 3, 34, 0, 0, 0, 0, [])]
set_option maxRecDepth 100000 in
theorem lX11_runs_84_ck : lX11_runs_84.all (ra_ck mX11_runs 11) = true := by decide +kernel
def nX11_runs_84 (N : Nat) (c18 : Nat → Int32 → Int32 → Int32 → ra_H → Option (Int32 × ra_H)) (c34 : Nat → Int32 → Int32 → Int32 → Int32 → ra_H → Option (Int32 × ra_H)) (a0 : Nat) (a1 : Int32) (a2 : Int32) (a3 : Int32) (a4 : Int32) (h : ra_H) : Option (Int32 × ra_H) :=
  let y1 := a4 + (1 : Int32)
  c34 a0 a1 a2 a3 y1 h
def kX11_runs_84 (N : Nat) (c18 : Nat → Int32 → Int32 → Int32 → ra_H → Option (Int32 × ra_H)) (c34 : Nat → Int32 → Int32 → Int32 → Int32 → ra_H → Option (Int32 × ra_H)) : Nat → List (Option Value) → List Value → ra_H → Option (Int32 × ra_H) := (ra_k1 34 (fun L S h => match L, S with
  | [some (.ref a0), some (.int a1), some (.int a2), some (.int a3), some (.int a4)], [] => c34 a0 a1 a2 a3 a4 h
  | _, _ => none) ra_k0)
theorem kX11_runs_84_ok (N : Nat) (c18 : Nat → Int32 → Int32 → Int32 → ra_H → Option (Int32 × ra_H)) (c34 : Nat → Int32 → Int32 → Int32 → Int32 → ra_H → Option (Int32 × ra_H)) (hc18 : ∀ a0 a1 a2 a3 h r, c18 a0 a1 a2 a3 h = some r → ra_Ru 3 mX11_runs 18 [some (.ref a0), some (.int a1), some (.int a2), some (.int a3), none] [] h (ra_oI r)) (hc34 : ∀ a0 a1 a2 a3 a4 h r, c34 a0 a1 a2 a3 a4 h = some r → ra_Ru 3 mX11_runs 34 [some (.ref a0), some (.int a1), some (.int a2), some (.int a3), some (.int a4)] [] h (ra_oI r)) : ra_kok 3 mX11_runs ra_oI (kX11_runs_84 N c18 c34) := (ra_k1_ok (by
  intro L S h a e
  split at e
  · exact ra_Ru.weak (hc34 _ _ _ _ _ _ _ e) ⟨rfl, ⟨rfl, ⟨rfl, ⟨rfl, ⟨rfl, trivial⟩⟩⟩⟩⟩
  · cases e) ra_k0_ok)
set_option maxRecDepth 100000 in
theorem nX11_runs_84_ok (N : Nat) (c18 : Nat → Int32 → Int32 → Int32 → ra_H → Option (Int32 × ra_H)) (c34 : Nat → Int32 → Int32 → Int32 → Int32 → ra_H → Option (Int32 × ra_H)) (hc18 : ∀ a0 a1 a2 a3 h r, c18 a0 a1 a2 a3 h = some r → ra_Ru 3 mX11_runs 18 [some (.ref a0), some (.int a1), some (.int a2), some (.int a3), none] [] h (ra_oI r)) (hc34 : ∀ a0 a1 a2 a3 a4 h r, c34 a0 a1 a2 a3 a4 h = some r → ra_Ru 3 mX11_runs 34 [some (.ref a0), some (.int a1), some (.int a2), some (.int a3), some (.int a4)] [] h (ra_oI r)) (a0 : Nat) (a1 : Int32) (a2 : Int32) (a3 : Int32) (a4 : Int32) (h : ra_H) (r : (Int32 × ra_H)) (e : nX11_runs_84 N c18 c34 a0 a1 a2 a3 a4 h = some r) : ra_Ru 3 mX11_runs 84 [some (.ref a0), some (.int a1), some (.int a2), some (.int a3), some (.int a4)] [] h (ra_oI r) :=
  ra_sound (by omega) rfl ra_rI_ok (kX11_runs_84_ok N c18 c34 hc18 hc34) (fun m av h h1 e => (ra_c0_ok (ro := ra_oV)) m av h h1 e) (fun m av h x h1 e => (tIX11_runs_ok N) m av h (x, h1) e) (fun m av h x h1 e => (ra_c0_ok (ro := ra_oJ)) m av h (x, h1) e) (fun m av h x h1 e => (ra_c0_ok (ro := ra_oR)) m av h (x, h1) e) (fun m av h x h1 e => (ra_c0_ok (ro := ra_oN)) m av h (x, h1) e) (fun m av h x h1 e => (ra_c0_ok (ro := ra_oF)) m av h (x, h1) e) 3 lX11_runs_84 _ _ _ _ lX11_runs_84_ck (show ra_run ra_rI (kX11_runs_84 N c18 c34) ra_c0 (tIX11_runs N) ra_c0 ra_c0 ra_c0 ra_c0 3 lX11_runs_84 [some (.ref a0), some (.int a1), some (.int a2), some (.int a3), some (.int a4)] [] h = some r from e) _ _ rfl
def lX11_runs_34 : List ra_I := [(34, .iload 4, 2, 4, 0, 0, 0, 0, []),
  (36, .aload_n 0, 1, 0, 0, 0, 0, 0, []),
  (37, .getfield 10, 3, 11, 0, 2, 0, 0, []),
  (40, .getfield 99, 3, 2, 13, 0, 0, 0, []),
  (43, .if_icmp .ge (47), 3, 90, 0, 0, 0, 0, []),
  (46, .aload_n 0, 1, 0, 0, 0, 0, 0, []),
  (47, .getfield 10, 3, 11, 0, 2, 0, 0, []),
  (50, .iload_n 3, 1, 3, 0, 0, 0, 0, []),
  (51, .iload_n 1, 1, 1, 0, 0, 0, 0, []),
  (52, .invokevirtual 261, 3, 154, 3, 1, 0, 0, []),
  (55, .ifCond .eq (29), 3, 84, 0, 0, 0, 0, []),
  (58, .aload_n 0, 1, 0, 0, 0, 0, 0, []),
  (59, .getfield 10, 3, 11, 0, 2, 0, 0, []),
  (62, .iload 4, 2, 4, 0, 0, 0, 0, []),
  (64, .iload_n 1, 1, 1, 0, 0, 0, 0, []),
  (65, .invokevirtual 261, 3, 154, 3, 1, 0, 0, []),
  (68, .ifCond .eq (16), 3, 84, 0, 0, 0, 0, []),
  (71, .iload_n 2, 1, 2, 0, 0, 0, 0, []),
  (72, .aload_n 0, 1, 0, 0, 0, 0, 0, []),
  (73, .getfield 10, 3, 11, 0, 2, 0, 0, []),
  (76, .iload_n 3, 1, 3, 0, 0, 0, 0, []),
  (77, .iload 4, 2, 4, 0, 0, 0, 0, []),
  (79, .invokevirtual 264, 3, 155, 3, 1, 0, 0, []),
  (82, .iadd, 1, 0, 0, 0, 0, 0, []),
  (83, .istore_n 2, 1, 2, 0, 0, 0, 0, []),
  (90, .iinc 3 (1), 3, 3, 0, 0, (1), 0, []),
  (93, .goto (-75), 3, 18, 0, 0, 0, 0, [])]
set_option maxRecDepth 100000 in
theorem lX11_runs_34_ck : lX11_runs_34.all (ra_ck mX11_runs 11) = true := by decide +kernel
def nX11_runs_34 (N : Nat) (c18 : Nat → Int32 → Int32 → Int32 → ra_H → Option (Int32 × ra_H)) : Nat → Nat → Int32 → Int32 → Int32 → Int32 → ra_H → Option (Int32 × ra_H)
  | 0, _, _, _, _, _, _ => none
  | n + 1, a0, a1, a2, a3, a4, h =>
  (ra_fR h 11 a0 0).bind fun x1 =>
  (ra_fI h 2 x1 13).bind fun x2 =>
  if a4 < x2 then
    (ra_fR h 11 a0 0).bind fun x4 =>
    (fX2_hasHoleAndLetter N x4 a3 a1 h).bind fun q5 =>
    if q5.1 = 0 then
      nX11_runs_84 N c18 (nX11_runs_34 N c18 n) a0 a1 a2 a3 a4 q5.2
    else
      (ra_fR q5.2 11 a0 0).bind fun x6 =>
      (fX2_hasHoleAndLetter N x6 a4 a1 q5.2).bind fun q7 =>
      if q7.1 = 0 then
        nX11_runs_84 N c18 (nX11_runs_34 N c18 n) a0 a1 a2 a3 a4 q7.2
      else
        (ra_fR q7.2 11 a0 0).bind fun x8 =>
        (fX2_rise N x8 a3 a4 q7.2).bind fun q9 =>
        let y10 := a2 + q9.1
        nX11_runs_84 N c18 (nX11_runs_34 N c18 n) a0 a1 y10 a3 a4 q9.2
  else
    let y3 := a3 + (1 : Int32)
    c18 a0 a1 a2 y3 h
def kX11_runs_34 (N : Nat) (c18 : Nat → Int32 → Int32 → Int32 → ra_H → Option (Int32 × ra_H)) (cs : Nat → Int32 → Int32 → Int32 → Int32 → ra_H → Option (Int32 × ra_H)) : Nat → List (Option Value) → List Value → ra_H → Option (Int32 × ra_H) := (ra_k1 18 (fun L S h => match L, S with
  | [some (.ref a0), some (.int a1), some (.int a2), some (.int a3), _], [] => c18 a0 a1 a2 a3 h
  | _, _ => none) (ra_k1 84 (fun L S h => match L, S with
  | [some (.ref a0), some (.int a1), some (.int a2), some (.int a3), some (.int a4)], [] => nX11_runs_84 N c18 cs a0 a1 a2 a3 a4 h
  | _, _ => none) ra_k0))
theorem kX11_runs_34_ok (N : Nat) (c18 : Nat → Int32 → Int32 → Int32 → ra_H → Option (Int32 × ra_H)) (hc18 : ∀ a0 a1 a2 a3 h r, c18 a0 a1 a2 a3 h = some r → ra_Ru 3 mX11_runs 18 [some (.ref a0), some (.int a1), some (.int a2), some (.int a3), none] [] h (ra_oI r)) (cs : Nat → Int32 → Int32 → Int32 → Int32 → ra_H → Option (Int32 × ra_H)) (hcs : ∀ a0 a1 a2 a3 a4 h r, cs a0 a1 a2 a3 a4 h = some r → ra_Ru 3 mX11_runs 34 [some (.ref a0), some (.int a1), some (.int a2), some (.int a3), some (.int a4)] [] h (ra_oI r)) : ra_kok 3 mX11_runs ra_oI (kX11_runs_34 N c18 cs) := (ra_k1_ok (by
  intro L S h a e
  split at e
  · exact ra_Ru.weak (hc18 _ _ _ _ _ _ e) ⟨rfl, ⟨rfl, ⟨rfl, ⟨rfl, trivial⟩⟩⟩⟩
  · cases e) (ra_k1_ok (by
  intro L S h a e
  split at e
  · exact ra_Ru.weak (nX11_runs_84_ok N c18 cs hc18 hcs _ _ _ _ _ _ _ e) ⟨rfl, ⟨rfl, ⟨rfl, ⟨rfl, ⟨rfl, trivial⟩⟩⟩⟩⟩
  · cases e) ra_k0_ok))
set_option maxRecDepth 100000 in
theorem nX11_runs_34_ok (N : Nat) (c18 : Nat → Int32 → Int32 → Int32 → ra_H → Option (Int32 × ra_H)) (hc18 : ∀ a0 a1 a2 a3 h r, c18 a0 a1 a2 a3 h = some r → ra_Ru 3 mX11_runs 18 [some (.ref a0), some (.int a1), some (.int a2), some (.int a3), none] [] h (ra_oI r)) : ∀ n a0 a1 a2 a3 a4 h r, nX11_runs_34 N c18 n a0 a1 a2 a3 a4 h = some r → ra_Ru 3 mX11_runs 34 [some (.ref a0), some (.int a1), some (.int a2), some (.int a3), some (.int a4)] [] h (ra_oI r) := by
  intro n
  induction n with
  | zero => intro a0 a1 a2 a3 a4 h r e; cases e
  | succ n ih =>
    intro a0 a1 a2 a3 a4 h r e
    exact ra_sound (by omega) rfl ra_rI_ok (kX11_runs_34_ok N c18 hc18 (nX11_runs_34 N c18 n) ih) (fun m av h h1 e => (ra_c0_ok (ro := ra_oV)) m av h h1 e) (fun m av h x h1 e => (tIX11_runs_ok N) m av h (x, h1) e) (fun m av h x h1 e => (ra_c0_ok (ro := ra_oJ)) m av h (x, h1) e) (fun m av h x h1 e => (ra_c0_ok (ro := ra_oR)) m av h (x, h1) e) (fun m av h x h1 e => (ra_c0_ok (ro := ra_oN)) m av h (x, h1) e) (fun m av h x h1 e => (ra_c0_ok (ro := ra_oF)) m av h (x, h1) e) 28 lX11_runs_34 _ _ _ _ lX11_runs_34_ck (show ra_run ra_rI (kX11_runs_34 N c18 (nX11_runs_34 N c18 n)) ra_c0 (tIX11_runs N) ra_c0 ra_c0 ra_c0 ra_c0 28 lX11_runs_34 [some (.ref a0), some (.int a1), some (.int a2), some (.int a3), some (.int a4)] [] h = some r from e) _ _ rfl
def lX11_runs_18 : List ra_I := [(18, .iload_n 3, 1, 3, 0, 0, 0, 0, []),
  (19, .aload_n 0, 1, 0, 0, 0, 0, 0, []),
  (20, .getfield 10, 3, 11, 0, 2, 0, 0, []),
  (23, .getfield 99, 3, 2, 13, 0, 0, 0, []),
  (26, .if_icmp .ge (70), 3, 96, 0, 0, 0, 0, []),
  (29, .iload_n 3, 1, 3, 0, 0, 0, 0, []),
  (30, .iconst (1), 1, 0, 0, 0, (1), 0, []),
  (31, .iadd, 1, 0, 0, 0, 0, 0, []),
  (32, .istore 4, 2, 4, 0, 0, 0, 0, []),
  (96, .iload_n 2, 1, 2, 0, 0, 0, 0, []),
  (97, .ireturn, 1, 0, 0, 0, 0, 0, [])]
set_option maxRecDepth 100000 in
theorem lX11_runs_18_ck : lX11_runs_18.all (ra_ck mX11_runs 11) = true := by decide +kernel
def nX11_runs_18 (N : Nat) : Nat → Nat → Int32 → Int32 → Int32 → ra_H → Option (Int32 × ra_H)
  | 0, _, _, _, _, _ => none
  | n + 1, a0, a1, a2, a3, h =>
  (ra_fR h 11 a0 0).bind fun x1 =>
  (ra_fI h 2 x1 13).bind fun x2 =>
  if a3 < x2 then
    let y3 := a3 + ((1 : Int32))
    nX11_runs_34 N (nX11_runs_18 N n) N a0 a1 a2 a3 y3 h
  else
    some (a2, h)
def kX11_runs_18 (N : Nat) (cs : Nat → Int32 → Int32 → Int32 → ra_H → Option (Int32 × ra_H)) : Nat → List (Option Value) → List Value → ra_H → Option (Int32 × ra_H) := (ra_k1 34 (fun L S h => match L, S with
  | [some (.ref a0), some (.int a1), some (.int a2), some (.int a3), some (.int a4)], [] => nX11_runs_34 N cs N a0 a1 a2 a3 a4 h
  | _, _ => none) ra_k0)
theorem kX11_runs_18_ok (N : Nat) (cs : Nat → Int32 → Int32 → Int32 → ra_H → Option (Int32 × ra_H)) (hcs : ∀ a0 a1 a2 a3 h r, cs a0 a1 a2 a3 h = some r → ra_Ru 3 mX11_runs 18 [some (.ref a0), some (.int a1), some (.int a2), some (.int a3), none] [] h (ra_oI r)) : ra_kok 3 mX11_runs ra_oI (kX11_runs_18 N cs) := (ra_k1_ok (by
  intro L S h a e
  split at e
  · exact ra_Ru.weak (nX11_runs_34_ok N cs hcs N _ _ _ _ _ _ _ e) ⟨rfl, ⟨rfl, ⟨rfl, ⟨rfl, ⟨rfl, trivial⟩⟩⟩⟩⟩
  · cases e) ra_k0_ok)
set_option maxRecDepth 100000 in
theorem nX11_runs_18_ok (N : Nat) : ∀ n a0 a1 a2 a3 h r, nX11_runs_18 N n a0 a1 a2 a3 h = some r → ra_Ru 3 mX11_runs 18 [some (.ref a0), some (.int a1), some (.int a2), some (.int a3), none] [] h (ra_oI r) := by
  intro n
  induction n with
  | zero => intro a0 a1 a2 a3 h r e; cases e
  | succ n ih =>
    intro a0 a1 a2 a3 h r e
    exact ra_sound (by omega) rfl ra_rI_ok (kX11_runs_18_ok N (nX11_runs_18 N n) ih) (fun m av h h1 e => (ra_c0_ok (ro := ra_oV)) m av h h1 e) (fun m av h x h1 e => (tIX11_runs_ok N) m av h (x, h1) e) (fun m av h x h1 e => (ra_c0_ok (ro := ra_oJ)) m av h (x, h1) e) (fun m av h x h1 e => (ra_c0_ok (ro := ra_oR)) m av h (x, h1) e) (fun m av h x h1 e => (ra_c0_ok (ro := ra_oN)) m av h (x, h1) e) (fun m av h x h1 e => (ra_c0_ok (ro := ra_oF)) m av h (x, h1) e) 12 lX11_runs_18 _ _ _ _ lX11_runs_18_ck (show ra_run ra_rI (kX11_runs_18 N (nX11_runs_18 N n)) ra_c0 (tIX11_runs N) ra_c0 ra_c0 ra_c0 ra_c0 12 lX11_runs_18 [some (.ref a0), some (.int a1), some (.int a2), some (.int a3), none] [] h = some r from e) _ _ rfl
def lX11_runs_0 : List ra_I := [(0, .iload_n 1, 1, 1, 0, 0, 0, 0, []),
  (1, .ifCond .lt (9), 3, 10, 0, 0, 0, 0, []),
  (4, .iload_n 1, 1, 1, 0, 0, 0, 0, []),
  (5, .bipush (9), 2, 0, 0, 0, (9), 0, []),
  (7, .if_icmp .lt (7), 3, 14, 0, 0, 0, 0, []),
  (14, .iconst (0), 1, 0, 0, 0, (0), 0, []),
  (15, .istore_n 2, 1, 2, 0, 0, 0, 0, []),
  (16, .iconst (0), 1, 0, 0, 0, (0), 0, []),
  (17, .istore_n 3, 1, 3, 0, 0, 0, 0, [])]
set_option maxRecDepth 100000 in
theorem lX11_runs_0_ck : lX11_runs_0.all (ra_ck mX11_runs 11) = true := by decide +kernel
def nX11_runs_0 (N : Nat) (a0 : Nat) (a1 : Int32) (h : ra_H) : Option (Int32 × ra_H) :=
  if a1 < 0 then
    nX11_runs_10 N h
  else
    if a1 < ((9 : Int32)) then
      nX11_runs_18 N N a0 a1 ((0 : Int32)) ((0 : Int32)) h
    else
      nX11_runs_10 N h
def kX11_runs_0 (N : Nat) : Nat → List (Option Value) → List Value → ra_H → Option (Int32 × ra_H) := (ra_k1 10 (fun L S h => match L, S with
  | [_, _, _, _, _], [] => nX11_runs_10 N h
  | _, _ => none) (ra_k1 18 (fun L S h => match L, S with
  | [some (.ref a0), some (.int a1), some (.int a2), some (.int a3), _], [] => nX11_runs_18 N N a0 a1 a2 a3 h
  | _, _ => none) ra_k0))
theorem kX11_runs_0_ok (N : Nat) : ra_kok 3 mX11_runs ra_oI (kX11_runs_0 N) := (ra_k1_ok (by
  intro L S h a e
  split at e
  · exact ra_Ru.weak (nX11_runs_10_ok N _ _ e) trivial
  · cases e) (ra_k1_ok (by
  intro L S h a e
  split at e
  · exact ra_Ru.weak (nX11_runs_18_ok N N _ _ _ _ _ _ e) ⟨rfl, ⟨rfl, ⟨rfl, ⟨rfl, trivial⟩⟩⟩⟩
  · cases e) ra_k0_ok))
set_option maxRecDepth 100000 in
theorem nX11_runs_0_ok (N : Nat) (a0 : Nat) (a1 : Int32) (h : ra_H) (r : (Int32 × ra_H)) (e : nX11_runs_0 N a0 a1 h = some r) : ra_Ru 3 mX11_runs 0 [some (.ref a0), some (.int a1), none, none, none] [] h (ra_oI r) :=
  ra_sound (by omega) rfl ra_rI_ok (kX11_runs_0_ok N) (fun m av h h1 e => (ra_c0_ok (ro := ra_oV)) m av h h1 e) (fun m av h x h1 e => (tIX11_runs_ok N) m av h (x, h1) e) (fun m av h x h1 e => (ra_c0_ok (ro := ra_oJ)) m av h (x, h1) e) (fun m av h x h1 e => (ra_c0_ok (ro := ra_oR)) m av h (x, h1) e) (fun m av h x h1 e => (ra_c0_ok (ro := ra_oN)) m av h (x, h1) e) (fun m av h x h1 e => (ra_c0_ok (ro := ra_oF)) m av h (x, h1) e) 10 lX11_runs_0 _ _ _ _ lX11_runs_0_ck (show ra_run ra_rI (kX11_runs_0 N) ra_c0 (tIX11_runs N) ra_c0 ra_c0 ra_c0 ra_c0 10 lX11_runs_0 [some (.ref a0), some (.int a1), none, none, none] [] h = some r from e) _ _ rfl
def fX11_runs (N : Nat) (p0 : Nat) (p1 : Int32) (h : ra_H) : Option (Int32 × ra_H) := match ra_isOb h p0 11 with
  | true => nX11_runs_0 N p0 p1 h
  | false => none
set_option maxRecDepth 100000 in
theorem mtX11_runs : ra_MT[153]? = some (mX11_runs, 1, 1, (1, 1), (5, 137), (5, 138)) := rfl
theorem fX11_runs_co (N : Nat) (p0 : Nat) (p1 : Int32) (h : ra_H) (r : (Int32 × ra_H)) (e : fX11_runs N p0 p1 h = some r) (D : Nat) (hD : 4 ≤ D) : ra_CO D 153 [.ref p0, .int p1] h (ra_oI r).1 (ra_oI r).2 := by
  have hw : ra_nw2 [.ref p0, .int p1] ≤ 5 := Nat.le_of_ble_eq_true rfl
  have hdb : ∀ v ∈ ([.ref p0, .int p1] : List Value), ∀ x, v ≠ .double x := by
    intro v hv x hx
    simp [hx] at hv
  unfold fX11_runs at e
  split at e
  · rename_i ho
    have e1 := e
    exact ⟨3, _, mtX11_runs, hD, ra_ev_of (by decide) hdb hw trivial (ra_Ru.weak (nX11_runs_0_ok N p0 p1 h _ e1) ⟨rfl, ⟨rfl, trivial⟩⟩), (fun _ => ⟨_, _, rfl, ra_rcv_of ho (by decide) rfl⟩), (fun h => absurd h (by decide))⟩
  · cases e
/-! RedMarks.scatter(II)I -/
def mX11_scatter : ra_M := (yX11_scatter, cX11_scatter, 3, (some .int))
def tIX11_scatter (N : Nat) : Nat → List Value → ra_H → Option (Int32 × ra_H) := (ra_c1 17 (fun av h => match av with
  | [.ref z0, .int z1] => fX11_refuse N z0 z1 h
  | _ => none) (ra_c1 24 (fun av h => match av with
  | [.ref z0, .int z1] => fX11_accept N z0 z1 h
  | _ => none) (ra_c1 192 (fun av h => match av with
  | [.ref z0, .int z1, .int z2, .int z3] => fX9_spread N z0 z1 z2 z3 h
  | _ => none) ra_c0)))
theorem tIX11_scatter_ok (N : Nat) : ra_cok 3 ra_oI (tIX11_scatter N) := (ra_c1_ok (by
  intro av h a e
  split at e
  · exact fX11_refuse_co N _ _ _ _ e 3 (by omega)
  · cases e) (ra_c1_ok (by
  intro av h a e
  split at e
  · exact fX11_accept_co N _ _ _ _ e 3 (by omega)
  · cases e) (ra_c1_ok (by
  intro av h a e
  split at e
  · exact fX9_spread_co N _ _ _ _ _ _ e 3 (by omega)
  · cases e) ra_c0_ok)))
def lX11_scatter_21 : List ra_I := [(21, .aload_n 0, 1, 0, 0, 0, 0, 0, []),
  (22, .iconst (-1), 1, 0, 0, 0, (-1), 0, []),
  (23, .invokevirtual 95, 3, 17, 2, 1, 0, 0, []),
  (26, .ireturn, 1, 0, 0, 0, 0, 0, [])]
set_option maxRecDepth 100000 in
theorem lX11_scatter_21_ck : lX11_scatter_21.all (ra_ck mX11_scatter 11) = true := by decide +kernel
def nX11_scatter_21 (N : Nat) (a0 : Nat) (h : ra_H) : Option (Int32 × ra_H) :=
  (fX11_refuse N a0 ((-1 : Int32)) h).bind fun q1 =>
  some (q1.1, q1.2)
def kX11_scatter_21 (N : Nat) : Nat → List (Option Value) → List Value → ra_H → Option (Int32 × ra_H) := ra_k0
theorem kX11_scatter_21_ok (N : Nat) : ra_kok 3 mX11_scatter ra_oI (kX11_scatter_21 N) := ra_k0_ok
set_option maxRecDepth 100000 in
theorem nX11_scatter_21_ok (N : Nat) (a0 : Nat) (h : ra_H) (r : (Int32 × ra_H)) (e : nX11_scatter_21 N a0 h = some r) : ra_Ru 3 mX11_scatter 21 [some (.ref a0), none, none] [] h (ra_oI r) :=
  ra_sound (by omega) rfl ra_rI_ok (kX11_scatter_21_ok N) (fun m av h h1 e => (ra_c0_ok (ro := ra_oV)) m av h h1 e) (fun m av h x h1 e => (tIX11_scatter_ok N) m av h (x, h1) e) (fun m av h x h1 e => (ra_c0_ok (ro := ra_oJ)) m av h (x, h1) e) (fun m av h x h1 e => (ra_c0_ok (ro := ra_oR)) m av h (x, h1) e) (fun m av h x h1 e => (ra_c0_ok (ro := ra_oN)) m av h (x, h1) e) (fun m av h x h1 e => (ra_c0_ok (ro := ra_oF)) m av h (x, h1) e) 5 lX11_scatter_21 _ _ _ _ lX11_scatter_21_ck (show ra_run ra_rI (kX11_scatter_21 N) ra_c0 (tIX11_scatter N) ra_c0 ra_c0 ra_c0 ra_c0 5 lX11_scatter_21 [some (.ref a0), none, none] [] h = some r from e) _ _ rfl
def lX11_scatter_0 : List ra_I := [(0, .iload_n 1, 1, 1, 0, 0, 0, 0, []),
  (1, .ifCond .lt (20), 3, 21, 0, 0, 0, 0, []),
  (4, .iload_n 1, 1, 1, 0, 0, 0, 0, []),
  (5, .ldc_w 363, 3, 0, 0, 0, (1000000), 0, []),
  (8, .if_icmp .gt (13), 3, 21, 0, 0, 0, 0, []),
  (11, .iload_n 2, 1, 2, 0, 0, 0, 0, []),
  (12, .ifCond .lt (9), 3, 21, 0, 0, 0, 0, []),
  (15, .iload_n 2, 1, 2, 0, 0, 0, 0, []),
  (16, .bipush (100), 2, 0, 0, 0, (100), 0, []),
  (18, .if_icmp .le (9), 3, 27, 0, 0, 0, 0, []),
  (27, .aload_n 0, 1, 0, 0, 0, 0, 0, []),
  (28, .aload_n 0, 1, 0, 0, 0, 0, 0, []),
  (29, .getfield 75, 3, 11, 8, 2, 0, 0, []),
  (32, .iload_n 1, 1, 1, 0, 0, 0, 0, []),
  (33, .iload_n 2, 1, 2, 0, 0, 0, 0, []),
  (34, .aload_n 0, 1, 0, 0, 0, 0, 0, []),
  (35, .getfield 10, 3, 11, 0, 2, 0, 0, []),
  (38, .getfield 99, 3, 2, 13, 0, 0, 0, []),
  (41, .invokevirtual 364, 3, 192, 4, 1, 0, 0, []),
  (44, .invokevirtual 106, 3, 24, 2, 1, 0, 0, []),
  (47, .ireturn, 1, 0, 0, 0, 0, 0, [])]
set_option maxRecDepth 100000 in
theorem lX11_scatter_0_ck : lX11_scatter_0.all (ra_ck mX11_scatter 11) = true := by decide +kernel
def nX11_scatter_0 (N : Nat) (a0 : Nat) (a1 : Int32) (a2 : Int32) (h : ra_H) : Option (Int32 × ra_H) :=
  if a1 < 0 then
    nX11_scatter_21 N a0 h
  else
    if a1 ≤ ((1000000 : Int32)) then
      if a2 < 0 then
        nX11_scatter_21 N a0 h
      else
        if a2 ≤ ((100 : Int32)) then
          (ra_fR h 11 a0 8).bind fun x1 =>
          (ra_fR h 11 a0 0).bind fun x2 =>
          (ra_fI h 2 x2 13).bind fun x3 =>
          (fX9_spread N x1 a1 a2 x3 h).bind fun q4 =>
          (fX11_accept N a0 q4.1 q4.2).bind fun q5 =>
          some (q5.1, q5.2)
        else
          nX11_scatter_21 N a0 h
    else
      nX11_scatter_21 N a0 h
def kX11_scatter_0 (N : Nat) : Nat → List (Option Value) → List Value → ra_H → Option (Int32 × ra_H) := (ra_k1 21 (fun L S h => match L, S with
  | [some (.ref a0), _, _], [] => nX11_scatter_21 N a0 h
  | _, _ => none) ra_k0)
theorem kX11_scatter_0_ok (N : Nat) : ra_kok 3 mX11_scatter ra_oI (kX11_scatter_0 N) := (ra_k1_ok (by
  intro L S h a e
  split at e
  · exact ra_Ru.weak (nX11_scatter_21_ok N _ _ _ e) ⟨rfl, trivial⟩
  · cases e) ra_k0_ok)
set_option maxRecDepth 100000 in
theorem nX11_scatter_0_ok (N : Nat) (a0 : Nat) (a1 : Int32) (a2 : Int32) (h : ra_H) (r : (Int32 × ra_H)) (e : nX11_scatter_0 N a0 a1 a2 h = some r) : ra_Ru 3 mX11_scatter 0 [some (.ref a0), some (.int a1), some (.int a2)] [] h (ra_oI r) :=
  ra_sound (by omega) rfl ra_rI_ok (kX11_scatter_0_ok N) (fun m av h h1 e => (ra_c0_ok (ro := ra_oV)) m av h h1 e) (fun m av h x h1 e => (tIX11_scatter_ok N) m av h (x, h1) e) (fun m av h x h1 e => (ra_c0_ok (ro := ra_oJ)) m av h (x, h1) e) (fun m av h x h1 e => (ra_c0_ok (ro := ra_oR)) m av h (x, h1) e) (fun m av h x h1 e => (ra_c0_ok (ro := ra_oN)) m av h (x, h1) e) (fun m av h x h1 e => (ra_c0_ok (ro := ra_oF)) m av h (x, h1) e) 22 lX11_scatter_0 _ _ _ _ lX11_scatter_0_ck (show ra_run ra_rI (kX11_scatter_0 N) ra_c0 (tIX11_scatter N) ra_c0 ra_c0 ra_c0 ra_c0 22 lX11_scatter_0 [some (.ref a0), some (.int a1), some (.int a2)] [] h = some r from e) _ _ rfl
def fX11_scatter (N : Nat) (p0 : Nat) (p1 : Int32) (p2 : Int32) (h : ra_H) : Option (Int32 × ra_H) := match ra_isOb h p0 11 with
  | true => nX11_scatter_0 N p0 p1 p2 h
  | false => none
set_option maxRecDepth 100000 in
theorem mtX11_scatter : ra_MT[191]? = some (mX11_scatter, 1, 2, (1, 1), (6, 57), (6, 58)) := rfl
theorem fX11_scatter_co (N : Nat) (p0 : Nat) (p1 : Int32) (p2 : Int32) (h : ra_H) (r : (Int32 × ra_H)) (e : fX11_scatter N p0 p1 p2 h = some r) (D : Nat) (hD : 4 ≤ D) : ra_CO D 191 [.ref p0, .int p1, .int p2] h (ra_oI r).1 (ra_oI r).2 := by
  have hw : ra_nw2 [.ref p0, .int p1, .int p2] ≤ 3 := Nat.le_of_ble_eq_true rfl
  have hdb : ∀ v ∈ ([.ref p0, .int p1, .int p2] : List Value), ∀ x, v ≠ .double x := by
    intro v hv x hx
    simp [hx] at hv
  unfold fX11_scatter at e
  split at e
  · rename_i ho
    have e1 := e
    exact ⟨3, _, mtX11_scatter, hD, ra_ev_of (by decide) hdb hw trivial (ra_Ru.weak (nX11_scatter_0_ok N p0 p1 p2 h _ e1) ⟨rfl, ⟨rfl, ⟨rfl, trivial⟩⟩⟩), (fun _ => ⟨_, _, rfl, ra_rcv_of ho (by decide) rfl⟩), (fun h => absurd h (by decide))⟩
  · cases e
/-! RedMarks.seat(III)I -/
def mX11_seat : ra_M := (yX11_seat, cX11_seat, 5, (some .int))
def tIX11_seat (N : Nat) : Nat → List Value → ra_H → Option (Int32 × ra_H) := (ra_c1 26 (fun av h => match av with
  | [.ref z0, .int z1] => fX2_hasBook N z0 z1 h
  | _ => none) (ra_c1 82 (fun av h => match av with
  | [.ref z0, .int z1] => fX2_hasScheme N z0 z1 h
  | _ => none) (ra_c1 83 (fun av h => match av with
  | [.ref z0, .int z1, .int z2] => fX1_seatOf N z0 z1 z2 h
  | _ => none) (ra_c1 90 (fun av h => match av with
  | [.ref z0, .int z1, .int z2] => fX2_isRight N z0 z1 z2 h
  | _ => none) ra_c0))))
theorem tIX11_seat_ok (N : Nat) : ra_cok 5 ra_oI (tIX11_seat N) := (ra_c1_ok (by
  intro av h a e
  split at e
  · exact fX2_hasBook_co N _ _ _ _ e 5 (by omega)
  · cases e) (ra_c1_ok (by
  intro av h a e
  split at e
  · exact fX2_hasScheme_co N _ _ _ _ e 5 (by omega)
  · cases e) (ra_c1_ok (by
  intro av h a e
  split at e
  · exact fX1_seatOf_co N _ _ _ _ _ e 5 (by omega)
  · cases e) (ra_c1_ok (by
  intro av h a e
  split at e
  · exact fX2_isRight_co N _ _ _ _ _ e 5 (by omega)
  · cases e) ra_c0_ok))))
def lX11_seat_22 : List ra_I := [(22, .iconst (-1), 1, 0, 0, 0, (-1), 0, []),
  (23, .ireturn, 1, 0, 0, 0, 0, 0, [])]
set_option maxRecDepth 100000 in
theorem lX11_seat_22_ck : lX11_seat_22.all (ra_ck mX11_seat 11) = true := by decide +kernel
def nX11_seat_22 (N : Nat) (h : ra_H) : Option (Int32 × ra_H) :=
  some ((-1 : Int32), h)
def kX11_seat_22 (N : Nat) : Nat → List (Option Value) → List Value → ra_H → Option (Int32 × ra_H) := ra_k0
theorem kX11_seat_22_ok (N : Nat) : ra_kok 5 mX11_seat ra_oI (kX11_seat_22 N) := ra_k0_ok
set_option maxRecDepth 100000 in
theorem nX11_seat_22_ok (N : Nat) (h : ra_H) (r : (Int32 × ra_H)) (e : nX11_seat_22 N h = some r) : ra_Ru 5 mX11_seat 22 [none, none, none, none, none] [] h (ra_oI r) :=
  ra_sound (by omega) rfl ra_rI_ok (kX11_seat_22_ok N) (fun m av h h1 e => (ra_c0_ok (ro := ra_oV)) m av h h1 e) (fun m av h x h1 e => (tIX11_seat_ok N) m av h (x, h1) e) (fun m av h x h1 e => (ra_c0_ok (ro := ra_oJ)) m av h (x, h1) e) (fun m av h x h1 e => (ra_c0_ok (ro := ra_oR)) m av h (x, h1) e) (fun m av h x h1 e => (ra_c0_ok (ro := ra_oN)) m av h (x, h1) e) (fun m av h x h1 e => (ra_c0_ok (ro := ra_oF)) m av h (x, h1) e) 3 lX11_seat_22 _ _ _ _ lX11_seat_22_ck (show ra_run ra_rI (kX11_seat_22 N) ra_c0 (tIX11_seat N) ra_c0 ra_c0 ra_c0 ra_c0 3 lX11_seat_22 [none, none, none, none, none] [] h = some r from e) _ _ rfl
def lX11_seat_120 : List ra_I := [(120, .ireturn, 1, 0, 0, 0, 0, 0, [])]
set_option maxRecDepth 100000 in
theorem lX11_seat_120_ck : lX11_seat_120.all (ra_ck mX11_seat 11) = true := by decide +kernel
def nX11_seat_120 (N : Nat) (b0 : Int32) (h : ra_H) : Option (Int32 × ra_H) :=
  some (b0, h)
def kX11_seat_120 (N : Nat) : Nat → List (Option Value) → List Value → ra_H → Option (Int32 × ra_H) := ra_k0
theorem kX11_seat_120_ok (N : Nat) : ra_kok 5 mX11_seat ra_oI (kX11_seat_120 N) := ra_k0_ok
set_option maxRecDepth 100000 in
theorem nX11_seat_120_ok (N : Nat) (b0 : Int32) (h : ra_H) (r : (Int32 × ra_H)) (e : nX11_seat_120 N b0 h = some r) : ra_Ru 5 mX11_seat 120 [none, none, none, none, none] [.int b0] h (ra_oI r) :=
  ra_sound (by omega) rfl ra_rI_ok (kX11_seat_120_ok N) (fun m av h h1 e => (ra_c0_ok (ro := ra_oV)) m av h h1 e) (fun m av h x h1 e => (tIX11_seat_ok N) m av h (x, h1) e) (fun m av h x h1 e => (ra_c0_ok (ro := ra_oJ)) m av h (x, h1) e) (fun m av h x h1 e => (ra_c0_ok (ro := ra_oR)) m av h (x, h1) e) (fun m av h x h1 e => (ra_c0_ok (ro := ra_oN)) m av h (x, h1) e) (fun m av h x h1 e => (ra_c0_ok (ro := ra_oF)) m av h (x, h1) e) 2 lX11_seat_120 _ _ _ _ lX11_seat_120_ck (show ra_run ra_rI (kX11_seat_120 N) ra_c0 (tIX11_seat N) ra_c0 ra_c0 ra_c0 ra_c0 2 lX11_seat_120 [none, none, none, none, none] [.int b0] h = some r from e) _ _ rfl
def lX11_seat_0 : List ra_I := [(0, .aload_n 0, 1, 0, 0, 0, 0, 0, []),
  (1, .getfield 10, 3, 11, 0, 2, 0, 0, []),
  (4, .iload_n 1, 1, 1, 0, 0, 0, 0, []),
  (5, .invokevirtual 176, 3, 82, 2, 1, 0, 0, []),
  (8, .ifCond .eq (14), 3, 22, 0, 0, 0, 0, []),
  (11, .aload_n 0, 1, 0, 0, 0, 0, 0, []),
  (12, .getfield 10, 3, 11, 0, 2, 0, 0, []),
  (15, .iload_n 2, 1, 2, 0, 0, 0, 0, []),
  (16, .invokevirtual 112, 3, 26, 2, 1, 0, 0, []),
  (19, .ifCond .ne (5), 3, 24, 0, 0, 0, 0, []),
  (24, .aload_n 0, 1, 0, 0, 0, 0, 0, []),
  (25, .getfield 39, 3, 11, 4, 2, 0, 0, []),
  (28, .iload_n 1, 1, 1, 0, 0, 0, 0, []),
  (29, .iload_n 2, 1, 2, 0, 0, 0, 0, []),
  (30, .invokevirtual 179, 3, 83, 3, 1, 0, 0, []),
  (33, .istore 4, 2, 4, 0, 0, 0, 0, []),
  (35, .iload 4, 2, 4, 0, 0, 0, 0, []),
  (37, .iconst (-1), 1, 0, 0, 0, (-1), 0, []),
  (38, .if_icmp .ne (5), 3, 43, 0, 0, 0, 0, []),
  (41, .iconst (-1), 1, 0, 0, 0, (-1), 0, []),
  (42, .ireturn, 1, 0, 0, 0, 0, 0, []),
  (43, .iload_n 3, 1, 3, 0, 0, 0, 0, []),
  (44, .tableswitch (77) (0) (3) #[32, 41, 50, 58], 32, 121, 0, 0, 0, 0, [(0, 76), (1, 85), (2, 94), (3, 102)]),
  (76, .iload 4, 2, 4, 0, 0, 0, 0, []),
  (78, .bipush (99), 2, 0, 0, 0, (99), 0, []),
  (80, .idiv, 1, 0, 0, 0, 0, 0, []),
  (81, .bipush (6), 2, 0, 0, 0, (6), 0, []),
  (83, .idiv, 1, 0, 0, 0, 0, 0, []),
  (84, .ireturn, 1, 0, 0, 0, 0, 0, []),
  (85, .iload 4, 2, 4, 0, 0, 0, 0, []),
  (87, .bipush (99), 2, 0, 0, 0, (99), 0, []),
  (89, .idiv, 1, 0, 0, 0, 0, 0, []),
  (90, .bipush (6), 2, 0, 0, 0, (6), 0, []),
  (92, .irem, 1, 0, 0, 0, 0, 0, []),
  (93, .ireturn, 1, 0, 0, 0, 0, 0, []),
  (94, .iload 4, 2, 4, 0, 0, 0, 0, []),
  (96, .bipush (99), 2, 0, 0, 0, (99), 0, []),
  (98, .irem, 1, 0, 0, 0, 0, 0, []),
  (99, .iconst (1), 1, 0, 0, 0, (1), 0, []),
  (100, .iadd, 1, 0, 0, 0, 0, 0, []),
  (101, .ireturn, 1, 0, 0, 0, 0, 0, []),
  (102, .aload_n 0, 1, 0, 0, 0, 0, 0, []),
  (103, .getfield 10, 3, 11, 0, 2, 0, 0, []),
  (106, .iload_n 2, 1, 2, 0, 0, 0, 0, []),
  (107, .iload 4, 2, 4, 0, 0, 0, 0, []),
  (109, .invokevirtual 182, 3, 90, 3, 1, 0, 0, []),
  (112, .ifCond .eq (7), 3, 119, 0, 0, 0, 0, []),
  (115, .iconst (1), 1, 0, 0, 0, (1), 0, []),
  (116, .goto (4), 3, 120, 0, 0, 0, 0, []),
  (119, .iconst (0), 1, 0, 0, 0, (0), 0, []),
  (121, .iconst (-1), 1, 0, 0, 0, (-1), 0, []),
  (122, .ireturn, 1, 0, 0, 0, 0, 0, [])]
set_option maxRecDepth 100000 in
theorem lX11_seat_0_ck : lX11_seat_0.all (ra_ck mX11_seat 11) = true := by decide +kernel
def nX11_seat_0 (N : Nat) (a0 : Nat) (a1 : Int32) (a2 : Int32) (a3 : Int32) (h : ra_H) : Option (Int32 × ra_H) :=
  (ra_fR h 11 a0 0).bind fun x1 =>
  (fX2_hasScheme N x1 a1 h).bind fun q2 =>
  if q2.1 = 0 then
    nX11_seat_22 N q2.2
  else
    (ra_fR q2.2 11 a0 0).bind fun x3 =>
    (fX2_hasBook N x3 a2 q2.2).bind fun q4 =>
    if q4.1 = 0 then
      nX11_seat_22 N q4.2
    else
      (ra_fR q4.2 11 a0 4).bind fun x5 =>
      (fX1_seatOf N x5 a1 a2 q4.2).bind fun q6 =>
      if q6.1 = ((-1 : Int32)) then
        some ((-1 : Int32), q6.2)
      else
        if a3 = (0 : Int32) then
          if ((99 : Int32)) = 0 then none else
          if ((6 : Int32)) = 0 then none else
          some ((q6.1 / ((99 : Int32))) / ((6 : Int32)), q6.2)
        else
        if a3 = (1 : Int32) then
          if ((99 : Int32)) = 0 then none else
          if ((6 : Int32)) = 0 then none else
          some ((q6.1 / ((99 : Int32))) - (q6.1 / ((99 : Int32))) / ((6 : Int32)) * ((6 : Int32)), q6.2)
        else
        if a3 = (2 : Int32) then
          if ((99 : Int32)) = 0 then none else
          some ((q6.1 - q6.1 / ((99 : Int32)) * ((99 : Int32))) + ((1 : Int32)), q6.2)
        else
        if a3 = (3 : Int32) then
          (ra_fR q6.2 11 a0 0).bind fun x7 =>
          (fX2_isRight N x7 a2 q6.1 q6.2).bind fun q8 =>
          if q8.1 = 0 then
            nX11_seat_120 N ((0 : Int32)) q8.2
          else
            nX11_seat_120 N ((1 : Int32)) q8.2
        else
        some ((-1 : Int32), q6.2)
def kX11_seat_0 (N : Nat) : Nat → List (Option Value) → List Value → ra_H → Option (Int32 × ra_H) := (ra_k1 22 (fun L S h => match L, S with
  | [_, _, _, _, _], [] => nX11_seat_22 N h
  | _, _ => none) (ra_k1 120 (fun L S h => match L, S with
  | [_, _, _, _, _], [.int b0] => nX11_seat_120 N b0 h
  | _, _ => none) ra_k0))
theorem kX11_seat_0_ok (N : Nat) : ra_kok 5 mX11_seat ra_oI (kX11_seat_0 N) := (ra_k1_ok (by
  intro L S h a e
  split at e
  · exact ra_Ru.weak (nX11_seat_22_ok N _ _ e) trivial
  · cases e) (ra_k1_ok (by
  intro L S h a e
  split at e
  · exact ra_Ru.weak (nX11_seat_120_ok N _ _ _ e) trivial
  · cases e) ra_k0_ok))
set_option maxRecDepth 100000 in
theorem nX11_seat_0_ok (N : Nat) (a0 : Nat) (a1 : Int32) (a2 : Int32) (a3 : Int32) (h : ra_H) (r : (Int32 × ra_H)) (e : nX11_seat_0 N a0 a1 a2 a3 h = some r) : ra_Ru 5 mX11_seat 0 [some (.ref a0), some (.int a1), some (.int a2), some (.int a3), none] [] h (ra_oI r) :=
  ra_sound (by omega) rfl ra_rI_ok (kX11_seat_0_ok N) (fun m av h h1 e => (ra_c0_ok (ro := ra_oV)) m av h h1 e) (fun m av h x h1 e => (tIX11_seat_ok N) m av h (x, h1) e) (fun m av h x h1 e => (ra_c0_ok (ro := ra_oJ)) m av h (x, h1) e) (fun m av h x h1 e => (ra_c0_ok (ro := ra_oR)) m av h (x, h1) e) (fun m av h x h1 e => (ra_c0_ok (ro := ra_oN)) m av h (x, h1) e) (fun m av h x h1 e => (ra_c0_ok (ro := ra_oF)) m av h (x, h1) e) 53 lX11_seat_0 _ _ _ _ lX11_seat_0_ck (show ra_run ra_rI (kX11_seat_0 N) ra_c0 (tIX11_seat N) ra_c0 ra_c0 ra_c0 ra_c0 53 lX11_seat_0 [some (.ref a0), some (.int a1), some (.int a2), some (.int a3), none] [] h = some r from e) _ _ rfl
def fX11_seat (N : Nat) (p0 : Nat) (p1 : Int32) (p2 : Int32) (p3 : Int32) (h : ra_H) : Option (Int32 × ra_H) := match ra_isOb h p0 11 with
  | true => nX11_seat_0 N p0 p1 p2 p3 h
  | false => none
set_option maxRecDepth 100000 in
theorem mtX11_seat : ra_MT[81]? = some (mX11_seat, 1, 3, (1, 1), (4, 71), (4, 72)) := rfl
theorem fX11_seat_co (N : Nat) (p0 : Nat) (p1 : Int32) (p2 : Int32) (p3 : Int32) (h : ra_H) (r : (Int32 × ra_H)) (e : fX11_seat N p0 p1 p2 p3 h = some r) (D : Nat) (hD : 6 ≤ D) : ra_CO D 81 [.ref p0, .int p1, .int p2, .int p3] h (ra_oI r).1 (ra_oI r).2 := by
  have hw : ra_nw2 [.ref p0, .int p1, .int p2, .int p3] ≤ 5 := Nat.le_of_ble_eq_true rfl
  have hdb : ∀ v ∈ ([.ref p0, .int p1, .int p2, .int p3] : List Value), ∀ x, v ≠ .double x := by
    intro v hv x hx
    simp [hx] at hv
  unfold fX11_seat at e
  split at e
  · rename_i ho
    have e1 := e
    exact ⟨5, _, mtX11_seat, hD, ra_ev_of (by decide) hdb hw trivial (ra_Ru.weak (nX11_seat_0_ok N p0 p1 p2 p3 h _ e1) ⟨rfl, ⟨rfl, ⟨rfl, ⟨rfl, trivial⟩⟩⟩⟩), (fun _ => ⟨_, _, rfl, ra_rcv_of ho (by decide) rfl⟩), (fun h => absurd h (by decide))⟩
  · cases e
/-! RedMarks.shelf(IIII)I -/
def mX11_shelf : ra_M := (yX11_shelf, cX11_shelf, 5, (some .int))
def tVX11_shelf (N : Nat) : Nat → List Value → ra_H → Option ra_H := (ra_c1 22 (fun av h => match av with
  | [.ref z0] => fX1_forgetStanding N z0 h
  | _ => none) ra_c0)
theorem tVX11_shelf_ok (N : Nat) : ra_cok 2 ra_oV (tVX11_shelf N) := (ra_c1_ok (by
  intro av h a e
  split at e
  · exact fX1_forgetStanding_co N _ _ _ e 2 (by omega)
  · cases e) ra_c0_ok)
def tIX11_shelf (N : Nat) : Nat → List Value → ra_H → Option (Int32 × ra_H) := (ra_c1 17 (fun av h => match av with
  | [.ref z0, .int z1] => fX11_refuse N z0 z1 h
  | _ => none) (ra_c1 24 (fun av h => match av with
  | [.ref z0, .int z1] => fX11_accept N z0 z1 h
  | _ => none) (ra_c1 34 (fun av h => match av with
  | [.int z0, .int z1] => fX11_isShelf N z0 z1 h
  | _ => none) ra_c0)))
theorem tIX11_shelf_ok (N : Nat) : ra_cok 2 ra_oI (tIX11_shelf N) := (ra_c1_ok (by
  intro av h a e
  split at e
  · exact fX11_refuse_co N _ _ _ _ e 2 (by omega)
  · cases e) (ra_c1_ok (by
  intro av h a e
  split at e
  · exact fX11_accept_co N _ _ _ _ e 2 (by omega)
  · cases e) (ra_c1_ok (by
  intro av h a e
  split at e
  · exact fX11_isShelf_co N _ _ _ _ e 2 (by omega)
  · cases e) ra_c0_ok)))
def lX11_shelf_33 : List ra_I := [(33, .aload_n 0, 1, 0, 0, 0, 0, 0, []),
  (34, .iconst (-1), 1, 0, 0, 0, (-1), 0, []),
  (35, .invokevirtual 95, 3, 17, 2, 1, 0, 0, []),
  (38, .ireturn, 1, 0, 0, 0, 0, 0, [])]
set_option maxRecDepth 100000 in
theorem lX11_shelf_33_ck : lX11_shelf_33.all (ra_ck mX11_shelf 11) = true := by decide +kernel
def nX11_shelf_33 (N : Nat) (a0 : Nat) (h : ra_H) : Option (Int32 × ra_H) :=
  (fX11_refuse N a0 ((-1 : Int32)) h).bind fun q1 =>
  some (q1.1, q1.2)
def kX11_shelf_33 (N : Nat) : Nat → List (Option Value) → List Value → ra_H → Option (Int32 × ra_H) := ra_k0
theorem kX11_shelf_33_ok (N : Nat) : ra_kok 2 mX11_shelf ra_oI (kX11_shelf_33 N) := ra_k0_ok
set_option maxRecDepth 100000 in
theorem nX11_shelf_33_ok (N : Nat) (a0 : Nat) (h : ra_H) (r : (Int32 × ra_H)) (e : nX11_shelf_33 N a0 h = some r) : ra_Ru 2 mX11_shelf 33 [some (.ref a0), none, none, none, none] [] h (ra_oI r) :=
  ra_sound (by omega) rfl ra_rI_ok (kX11_shelf_33_ok N) (fun m av h h1 e => (tVX11_shelf_ok N) m av h h1 e) (fun m av h x h1 e => (tIX11_shelf_ok N) m av h (x, h1) e) (fun m av h x h1 e => (ra_c0_ok (ro := ra_oJ)) m av h (x, h1) e) (fun m av h x h1 e => (ra_c0_ok (ro := ra_oR)) m av h (x, h1) e) (fun m av h x h1 e => (ra_c0_ok (ro := ra_oN)) m av h (x, h1) e) (fun m av h x h1 e => (ra_c0_ok (ro := ra_oF)) m av h (x, h1) e) 5 lX11_shelf_33 _ _ _ _ lX11_shelf_33_ck (show ra_run ra_rI (kX11_shelf_33 N) (tVX11_shelf N) (tIX11_shelf N) ra_c0 ra_c0 ra_c0 ra_c0 5 lX11_shelf_33 [some (.ref a0), none, none, none, none] [] h = some r from e) _ _ rfl
def lX11_shelf_0 : List ra_I := [(0, .iload_n 1, 1, 1, 0, 0, 0, 0, []),
  (1, .iload_n 2, 1, 2, 0, 0, 0, 0, []),
  (2, .invokestatic 138, 3, 34, 2, 1, 0, 0, []),
  (5, .ifCond .eq (28), 3, 33, 0, 0, 0, 0, []),
  (8, .iload_n 3, 1, 3, 0, 0, 0, 0, []),
  (9, .iconst (1), 1, 0, 0, 0, (1), 0, []),
  (10, .if_icmp .lt (23), 3, 33, 0, 0, 0, 0, []),
  (13, .iload_n 3, 1, 3, 0, 0, 0, 0, []),
  (14, .sipush (400), 3, 0, 0, 0, (400), 0, []),
  (17, .if_icmp .gt (16), 3, 33, 0, 0, 0, 0, []),
  (20, .iload 4, 2, 4, 0, 0, 0, 0, []),
  (22, .iconst (1), 1, 0, 0, 0, (1), 0, []),
  (23, .if_icmp .lt (10), 3, 33, 0, 0, 0, 0, []),
  (26, .iload 4, 2, 4, 0, 0, 0, 0, []),
  (28, .bipush (60), 2, 0, 0, 0, (60), 0, []),
  (30, .if_icmp .le (9), 3, 39, 0, 0, 0, 0, []),
  (39, .aload_n 0, 1, 0, 0, 0, 0, 0, []),
  (40, .getfield 10, 3, 11, 0, 2, 0, 0, []),
  (43, .getfield 141, 3, 2, 2, 2, 0, 0, []),
  (46, .iload_n 1, 1, 1, 0, 0, 0, 0, []),
  (47, .bipush (6), 2, 0, 0, 0, (6), 0, []),
  (49, .imul, 1, 0, 0, 0, 0, 0, []),
  (50, .iload_n 2, 1, 2, 0, 0, 0, 0, []),
  (51, .iadd, 1, 0, 0, 0, 0, 0, []),
  (52, .iload_n 3, 1, 3, 0, 0, 0, 0, []),
  (53, .iastore, 1, 0, 0, 0, 0, 0, []),
  (54, .aload_n 0, 1, 0, 0, 0, 0, 0, []),
  (55, .getfield 10, 3, 11, 0, 2, 0, 0, []),
  (58, .getfield 144, 3, 2, 3, 2, 0, 0, []),
  (61, .iload_n 1, 1, 1, 0, 0, 0, 0, []),
  (62, .bipush (6), 2, 0, 0, 0, (6), 0, []),
  (64, .imul, 1, 0, 0, 0, 0, 0, []),
  (65, .iload_n 2, 1, 2, 0, 0, 0, 0, []),
  (66, .iadd, 1, 0, 0, 0, 0, 0, []),
  (67, .iload 4, 2, 4, 0, 0, 0, 0, []),
  (69, .iastore, 1, 0, 0, 0, 0, 0, []),
  (70, .aload_n 0, 1, 0, 0, 0, 0, 0, []),
  (71, .getfield 39, 3, 11, 4, 2, 0, 0, []),
  (74, .invokevirtual 135, 3, 22, 1, 0, 0, 0, []),
  (77, .aload_n 0, 1, 0, 0, 0, 0, 0, []),
  (78, .iconst (0), 1, 0, 0, 0, (0), 0, []),
  (79, .invokevirtual 106, 3, 24, 2, 1, 0, 0, []),
  (82, .ireturn, 1, 0, 0, 0, 0, 0, [])]
set_option maxRecDepth 100000 in
theorem lX11_shelf_0_ck : lX11_shelf_0.all (ra_ck mX11_shelf 11) = true := by decide +kernel
def nX11_shelf_0 (N : Nat) (a0 : Nat) (a1 : Int32) (a2 : Int32) (a3 : Int32) (a4 : Int32) (h : ra_H) : Option (Int32 × ra_H) :=
  (fX11_isShelf N a1 a2 h).bind fun q1 =>
  if q1.1 = 0 then
    nX11_shelf_33 N a0 q1.2
  else
    if a3 < ((1 : Int32)) then
      nX11_shelf_33 N a0 q1.2
    else
      if a3 ≤ ((400 : Int32)) then
        if a4 < ((1 : Int32)) then
          nX11_shelf_33 N a0 q1.2
        else
          if a4 ≤ ((60 : Int32)) then
            (ra_fR q1.2 11 a0 0).bind fun x2 =>
            (ra_fR q1.2 2 x2 2).bind fun x3 =>
            (ra_aW q1.2 0 x3 ((a1 * ((6 : Int32))) + a2) a3).bind fun h4 =>
            (ra_fR h4 11 a0 0).bind fun x5 =>
            (ra_fR h4 2 x5 3).bind fun x6 =>
            (ra_aW h4 0 x6 ((a1 * ((6 : Int32))) + a2) a4).bind fun h7 =>
            (ra_fR h7 11 a0 4).bind fun x8 =>
            (fX1_forgetStanding N x8 h7).bind fun h9 =>
            (fX11_accept N a0 ((0 : Int32)) h9).bind fun q10 =>
            some (q10.1, q10.2)
          else
            nX11_shelf_33 N a0 q1.2
      else
        nX11_shelf_33 N a0 q1.2
def kX11_shelf_0 (N : Nat) : Nat → List (Option Value) → List Value → ra_H → Option (Int32 × ra_H) := (ra_k1 33 (fun L S h => match L, S with
  | [some (.ref a0), _, _, _, _], [] => nX11_shelf_33 N a0 h
  | _, _ => none) ra_k0)
theorem kX11_shelf_0_ok (N : Nat) : ra_kok 2 mX11_shelf ra_oI (kX11_shelf_0 N) := (ra_k1_ok (by
  intro L S h a e
  split at e
  · exact ra_Ru.weak (nX11_shelf_33_ok N _ _ _ e) ⟨rfl, trivial⟩
  · cases e) ra_k0_ok)
set_option maxRecDepth 100000 in
theorem nX11_shelf_0_ok (N : Nat) (a0 : Nat) (a1 : Int32) (a2 : Int32) (a3 : Int32) (a4 : Int32) (h : ra_H) (r : (Int32 × ra_H)) (e : nX11_shelf_0 N a0 a1 a2 a3 a4 h = some r) : ra_Ru 2 mX11_shelf 0 [some (.ref a0), some (.int a1), some (.int a2), some (.int a3), some (.int a4)] [] h (ra_oI r) :=
  ra_sound (by omega) rfl ra_rI_ok (kX11_shelf_0_ok N) (fun m av h h1 e => (tVX11_shelf_ok N) m av h h1 e) (fun m av h x h1 e => (tIX11_shelf_ok N) m av h (x, h1) e) (fun m av h x h1 e => (ra_c0_ok (ro := ra_oJ)) m av h (x, h1) e) (fun m av h x h1 e => (ra_c0_ok (ro := ra_oR)) m av h (x, h1) e) (fun m av h x h1 e => (ra_c0_ok (ro := ra_oN)) m av h (x, h1) e) (fun m av h x h1 e => (ra_c0_ok (ro := ra_oF)) m av h (x, h1) e) 44 lX11_shelf_0 _ _ _ _ lX11_shelf_0_ck (show ra_run ra_rI (kX11_shelf_0 N) (tVX11_shelf N) (tIX11_shelf N) ra_c0 ra_c0 ra_c0 ra_c0 44 lX11_shelf_0 [some (.ref a0), some (.int a1), some (.int a2), some (.int a3), some (.int a4)] [] h = some r from e) _ _ rfl
def fX11_shelf (N : Nat) (p0 : Nat) (p1 : Int32) (p2 : Int32) (p3 : Int32) (p4 : Int32) (h : ra_H) : Option (Int32 × ra_H) := match ra_isOb h p0 11 with
  | true => nX11_shelf_0 N p0 p1 p2 p3 p4 h
  | false => none
set_option maxRecDepth 100000 in
theorem mtX11_shelf : ra_MT[33]? = some (mX11_shelf, 1, 4, (1, 1), (3, 74), (3, 75)) := rfl
theorem fX11_shelf_co (N : Nat) (p0 : Nat) (p1 : Int32) (p2 : Int32) (p3 : Int32) (p4 : Int32) (h : ra_H) (r : (Int32 × ra_H)) (e : fX11_shelf N p0 p1 p2 p3 p4 h = some r) (D : Nat) (hD : 3 ≤ D) : ra_CO D 33 [.ref p0, .int p1, .int p2, .int p3, .int p4] h (ra_oI r).1 (ra_oI r).2 := by
  have hw : ra_nw2 [.ref p0, .int p1, .int p2, .int p3, .int p4] ≤ 5 := Nat.le_of_ble_eq_true rfl
  have hdb : ∀ v ∈ ([.ref p0, .int p1, .int p2, .int p3, .int p4] : List Value), ∀ x, v ≠ .double x := by
    intro v hv x hx
    simp [hx] at hv
  unfold fX11_shelf at e
  split at e
  · rename_i ho
    have e1 := e
    exact ⟨2, _, mtX11_shelf, hD, ra_ev_of (by decide) hdb hw trivial (ra_Ru.weak (nX11_shelf_0_ok N p0 p1 p2 p3 p4 h _ e1) ⟨rfl, ⟨rfl, ⟨rfl, ⟨rfl, ⟨rfl, trivial⟩⟩⟩⟩⟩), (fun _ => ⟨_, _, rfl, ra_rcv_of ho (by decide) rfl⟩), (fun h => absurd h (by decide))⟩
  · cases e
/-! RedMarks.stack(I)I -/
def mX11_stack : ra_M := (yX11_stack, cX11_stack, 2, (some .int))
def tVX11_stack (N : Nat) : Nat → List Value → ra_H → Option ra_H := (ra_c1 29 (fun av h => match av with
  | [.ref z0] => fX6_forgetAll N z0 h
  | _ => none) ra_c0)
theorem tVX11_stack_ok (N : Nat) : ra_cok 2 ra_oV (tVX11_stack N) := (ra_c1_ok (by
  intro av h a e
  split at e
  · exact fX6_forgetAll_co N _ _ _ e 2 (by omega)
  · cases e) ra_c0_ok)
def tIX11_stack (N : Nat) : Nat → List Value → ra_H → Option (Int32 × ra_H) := (ra_c1 17 (fun av h => match av with
  | [.ref z0, .int z1] => fX11_refuse N z0 z1 h
  | _ => none) (ra_c1 24 (fun av h => match av with
  | [.ref z0, .int z1] => fX11_accept N z0 z1 h
  | _ => none) (ra_c1 26 (fun av h => match av with
  | [.ref z0, .int z1] => fX2_hasBook N z0 z1 h
  | _ => none) (ra_c1 175 (fun av h => match av with
  | [.ref z0, .int z1] => fX2_isStacked N z0 z1 h
  | _ => none) ra_c0))))
theorem tIX11_stack_ok (N : Nat) : ra_cok 2 ra_oI (tIX11_stack N) := (ra_c1_ok (by
  intro av h a e
  split at e
  · exact fX11_refuse_co N _ _ _ _ e 2 (by omega)
  · cases e) (ra_c1_ok (by
  intro av h a e
  split at e
  · exact fX11_accept_co N _ _ _ _ e 2 (by omega)
  · cases e) (ra_c1_ok (by
  intro av h a e
  split at e
  · exact fX2_hasBook_co N _ _ _ _ e 2 (by omega)
  · cases e) (ra_c1_ok (by
  intro av h a e
  split at e
  · exact fX2_isStacked_co N _ _ _ _ e 2 (by omega)
  · cases e) ra_c0_ok))))
def lX11_stack_0 : List ra_I := [(0, .aload_n 0, 1, 0, 0, 0, 0, 0, []),
  (1, .getfield 10, 3, 11, 0, 2, 0, 0, []),
  (4, .iload_n 1, 1, 1, 0, 0, 0, 0, []),
  (5, .invokevirtual 112, 3, 26, 2, 1, 0, 0, []),
  (8, .ifCond .ne (10), 3, 18, 0, 0, 0, 0, []),
  (11, .aload_n 0, 1, 0, 0, 0, 0, 0, []),
  (12, .bipush (-2), 2, 0, 0, 0, (-2), 0, []),
  (14, .invokevirtual 95, 3, 17, 2, 1, 0, 0, []),
  (17, .ireturn, 1, 0, 0, 0, 0, 0, []),
  (18, .aload_n 0, 1, 0, 0, 0, 0, 0, []),
  (19, .getfield 10, 3, 11, 0, 2, 0, 0, []),
  (22, .iload_n 1, 1, 1, 0, 0, 0, 0, []),
  (23, .invokevirtual 328, 3, 175, 2, 1, 0, 0, []),
  (26, .ifCond .eq (10), 3, 36, 0, 0, 0, 0, []),
  (29, .aload_n 0, 1, 0, 0, 0, 0, 0, []),
  (30, .bipush (-3), 2, 0, 0, 0, (-3), 0, []),
  (32, .invokevirtual 95, 3, 17, 2, 1, 0, 0, []),
  (35, .ireturn, 1, 0, 0, 0, 0, 0, []),
  (36, .aload_n 0, 1, 0, 0, 0, 0, 0, []),
  (37, .getfield 10, 3, 11, 0, 2, 0, 0, []),
  (40, .getfield 331, 3, 2, 16, 0, 0, 0, []),
  (43, .bipush (9), 2, 0, 0, 0, (9), 0, []),
  (45, .if_icmp .lt (10), 3, 55, 0, 0, 0, 0, []),
  (48, .aload_n 0, 1, 0, 0, 0, 0, 0, []),
  (49, .bipush (-5), 2, 0, 0, 0, (-5), 0, []),
  (51, .invokevirtual 95, 3, 17, 2, 1, 0, 0, []),
  (54, .ireturn, 1, 0, 0, 0, 0, 0, []),
  (55, .aload_n 0, 1, 0, 0, 0, 0, 0, []),
  (56, .getfield 10, 3, 11, 0, 2, 0, 0, []),
  (59, .getfield 334, 3, 2, 9, 2, 0, 0, []),
  (62, .aload_n 0, 1, 0, 0, 0, 0, 0, []),
  (63, .getfield 10, 3, 11, 0, 2, 0, 0, []),
  (66, .getfield 331, 3, 2, 16, 0, 0, 0, []),
  (69, .iload_n 1, 1, 1, 0, 0, 0, 0, []),
  (70, .iastore, 1, 0, 0, 0, 0, 0, []),
  (71, .aload_n 0, 1, 0, 0, 0, 0, 0, []),
  (72, .getfield 10, 3, 11, 0, 2, 0, 0, []),
  (75, .dup, 1, 0, 0, 0, 0, 0, []),
  (76, .getfield 331, 3, 2, 16, 0, 0, 0, []),
  (79, .iconst (1), 1, 0, 0, 0, (1), 0, []),
  (80, .iadd, 1, 0, 0, 0, 0, 0, []),
  (81, .putfield 331, 3, 2, 16, 0, 0, 0, []),
  (84, .aload_n 0, 1, 0, 0, 0, 0, 0, []),
  (85, .getfield 68, 3, 11, 7, 2, 0, 0, []),
  (88, .invokevirtual 337, 3, 29, 1, 0, 0, 0, []),
  (91, .aload_n 0, 1, 0, 0, 0, 0, 0, []),
  (92, .aload_n 0, 1, 0, 0, 0, 0, 0, []),
  (93, .getfield 10, 3, 11, 0, 2, 0, 0, []),
  (96, .getfield 331, 3, 2, 16, 0, 0, 0, []),
  (99, .invokevirtual 106, 3, 24, 2, 1, 0, 0, []),
  (102, .ireturn, 1, 0, 0, 0, 0, 0, [])]
set_option maxRecDepth 100000 in
theorem lX11_stack_0_ck : lX11_stack_0.all (ra_ck mX11_stack 11) = true := by decide +kernel
def nX11_stack_0 (N : Nat) (a0 : Nat) (a1 : Int32) (h : ra_H) : Option (Int32 × ra_H) :=
  (ra_fR h 11 a0 0).bind fun x1 =>
  (fX2_hasBook N x1 a1 h).bind fun q2 =>
  if q2.1 = 0 then
    (fX11_refuse N a0 ((-2 : Int32)) q2.2).bind fun q22 =>
    some (q22.1, q22.2)
  else
    (ra_fR q2.2 11 a0 0).bind fun x3 =>
    (fX2_isStacked N x3 a1 q2.2).bind fun q4 =>
    if q4.1 = 0 then
      (ra_fR q4.2 11 a0 0).bind fun x5 =>
      (ra_fI q4.2 2 x5 16).bind fun x6 =>
      if x6 < ((9 : Int32)) then
        (ra_fR q4.2 11 a0 0).bind fun x7 =>
        (ra_fR q4.2 2 x7 9).bind fun x8 =>
        (ra_fR q4.2 11 a0 0).bind fun x9 =>
        (ra_fI q4.2 2 x9 16).bind fun x10 =>
        (ra_aW q4.2 0 x8 x10 a1).bind fun h11 =>
        (ra_fR h11 11 a0 0).bind fun x12 =>
        (ra_fI h11 2 x12 16).bind fun x13 =>
        (ra_fW h11 2 x12 16 (.int (x13 + ((1 : Int32))))).bind fun h14 =>
        (ra_fR h14 11 a0 7).bind fun x15 =>
        (fX6_forgetAll N x15 h14).bind fun h16 =>
        (ra_fR h16 11 a0 0).bind fun x17 =>
        (ra_fI h16 2 x17 16).bind fun x18 =>
        (fX11_accept N a0 x18 h16).bind fun q19 =>
        some (q19.1, q19.2)
      else
        (fX11_refuse N a0 ((-5 : Int32)) q4.2).bind fun q20 =>
        some (q20.1, q20.2)
    else
      (fX11_refuse N a0 ((-3 : Int32)) q4.2).bind fun q21 =>
      some (q21.1, q21.2)
def kX11_stack_0 (N : Nat) : Nat → List (Option Value) → List Value → ra_H → Option (Int32 × ra_H) := ra_k0
theorem kX11_stack_0_ok (N : Nat) : ra_kok 2 mX11_stack ra_oI (kX11_stack_0 N) := ra_k0_ok
set_option maxRecDepth 100000 in
theorem nX11_stack_0_ok (N : Nat) (a0 : Nat) (a1 : Int32) (h : ra_H) (r : (Int32 × ra_H)) (e : nX11_stack_0 N a0 a1 h = some r) : ra_Ru 2 mX11_stack 0 [some (.ref a0), some (.int a1)] [] h (ra_oI r) :=
  ra_sound (by omega) rfl ra_rI_ok (kX11_stack_0_ok N) (fun m av h h1 e => (tVX11_stack_ok N) m av h h1 e) (fun m av h x h1 e => (tIX11_stack_ok N) m av h (x, h1) e) (fun m av h x h1 e => (ra_c0_ok (ro := ra_oJ)) m av h (x, h1) e) (fun m av h x h1 e => (ra_c0_ok (ro := ra_oR)) m av h (x, h1) e) (fun m av h x h1 e => (ra_c0_ok (ro := ra_oN)) m av h (x, h1) e) (fun m av h x h1 e => (ra_c0_ok (ro := ra_oF)) m av h (x, h1) e) 52 lX11_stack_0 _ _ _ _ lX11_stack_0_ck (show ra_run ra_rI (kX11_stack_0 N) (tVX11_stack N) (tIX11_stack N) ra_c0 ra_c0 ra_c0 ra_c0 52 lX11_stack_0 [some (.ref a0), some (.int a1)] [] h = some r from e) _ _ rfl
def fX11_stack (N : Nat) (p0 : Nat) (p1 : Int32) (h : ra_H) : Option (Int32 × ra_H) := match ra_isOb h p0 11 with
  | true => nX11_stack_0 N p0 p1 h
  | false => none
set_option maxRecDepth 100000 in
theorem mtX11_stack : ra_MT[174]? = some (mX11_stack, 1, 1, (1, 1), (5, 227), (5, 228)) := rfl
theorem fX11_stack_co (N : Nat) (p0 : Nat) (p1 : Int32) (h : ra_H) (r : (Int32 × ra_H)) (e : fX11_stack N p0 p1 h = some r) (D : Nat) (hD : 3 ≤ D) : ra_CO D 174 [.ref p0, .int p1] h (ra_oI r).1 (ra_oI r).2 := by
  have hw : ra_nw2 [.ref p0, .int p1] ≤ 2 := Nat.le_of_ble_eq_true rfl
  have hdb : ∀ v ∈ ([.ref p0, .int p1] : List Value), ∀ x, v ≠ .double x := by
    intro v hv x hx
    simp [hx] at hv
  unfold fX11_stack at e
  split at e
  · rename_i ho
    have e1 := e
    exact ⟨2, _, mtX11_stack, hD, ra_ev_of (by decide) hdb hw trivial (ra_Ru.weak (nX11_stack_0_ok N p0 p1 h _ e1) ⟨rfl, ⟨rfl, trivial⟩⟩), (fun _ => ⟨_, _, rfl, ra_rcv_of ho (by decide) rfl⟩), (fun h => absurd h (by decide))⟩
  · cases e
/-! RedMarks.stand(III)I -/
def mX11_stand : ra_M := (yX11_stand, cX11_stand, 4, (some .int))
def tIX11_stand (N : Nat) : Nat → List Value → ra_H → Option (Int32 × ra_H) := (ra_c1 82 (fun av h => match av with
  | [.ref z0, .int z1] => fX2_hasScheme N z0 z1 h
  | _ => none) (ra_c1 92 (fun av h => match av with
  | [.int z0] => fX11_isTurn N z0 h
  | _ => none) (ra_c1 93 (fun av h => match av with
  | [.ref z0, .int z1, .int z2, .int z3] => fX1_standingIn N z0 z1 z2 z3 h
  | _ => none) ra_c0)))
theorem tIX11_stand_ok (N : Nat) : ra_cok 7 ra_oI (tIX11_stand N) := (ra_c1_ok (by
  intro av h a e
  split at e
  · exact fX2_hasScheme_co N _ _ _ _ e 7 (by omega)
  · cases e) (ra_c1_ok (by
  intro av h a e
  split at e
  · exact fX11_isTurn_co N _ _ _ e 7 (by omega)
  · cases e) (ra_c1_ok (by
  intro av h a e
  split at e
  · exact fX1_standingIn_co N _ _ _ _ _ _ e 7 (by omega)
  · cases e) ra_c0_ok)))
def lX11_stand_29 : List ra_I := [(29, .iconst (-1), 1, 0, 0, 0, (-1), 0, []),
  (30, .ireturn, 1, 0, 0, 0, 0, 0, [])]
set_option maxRecDepth 100000 in
theorem lX11_stand_29_ck : lX11_stand_29.all (ra_ck mX11_stand 11) = true := by decide +kernel
def nX11_stand_29 (N : Nat) (h : ra_H) : Option (Int32 × ra_H) :=
  some ((-1 : Int32), h)
def kX11_stand_29 (N : Nat) : Nat → List (Option Value) → List Value → ra_H → Option (Int32 × ra_H) := ra_k0
theorem kX11_stand_29_ok (N : Nat) : ra_kok 7 mX11_stand ra_oI (kX11_stand_29 N) := ra_k0_ok
set_option maxRecDepth 100000 in
theorem nX11_stand_29_ok (N : Nat) (h : ra_H) (r : (Int32 × ra_H)) (e : nX11_stand_29 N h = some r) : ra_Ru 7 mX11_stand 29 [none, none, none, none] [] h (ra_oI r) :=
  ra_sound (by omega) rfl ra_rI_ok (kX11_stand_29_ok N) (fun m av h h1 e => (ra_c0_ok (ro := ra_oV)) m av h h1 e) (fun m av h x h1 e => (tIX11_stand_ok N) m av h (x, h1) e) (fun m av h x h1 e => (ra_c0_ok (ro := ra_oJ)) m av h (x, h1) e) (fun m av h x h1 e => (ra_c0_ok (ro := ra_oR)) m av h (x, h1) e) (fun m av h x h1 e => (ra_c0_ok (ro := ra_oN)) m av h (x, h1) e) (fun m av h x h1 e => (ra_c0_ok (ro := ra_oF)) m av h (x, h1) e) 3 lX11_stand_29 _ _ _ _ lX11_stand_29_ck (show ra_run ra_rI (kX11_stand_29 N) ra_c0 (tIX11_stand N) ra_c0 ra_c0 ra_c0 ra_c0 3 lX11_stand_29 [none, none, none, none] [] h = some r from e) _ _ rfl
def lX11_stand_0 : List ra_I := [(0, .aload_n 0, 1, 0, 0, 0, 0, 0, []),
  (1, .getfield 10, 3, 11, 0, 2, 0, 0, []),
  (4, .iload_n 1, 1, 1, 0, 0, 0, 0, []),
  (5, .invokevirtual 176, 3, 82, 2, 1, 0, 0, []),
  (8, .ifCond .eq (21), 3, 29, 0, 0, 0, 0, []),
  (11, .aload_n 0, 1, 0, 0, 0, 0, 0, []),
  (12, .getfield 10, 3, 11, 0, 2, 0, 0, []),
  (15, .iload_n 2, 1, 2, 0, 0, 0, 0, []),
  (16, .invokevirtual 176, 3, 82, 2, 1, 0, 0, []),
  (19, .ifCond .eq (10), 3, 29, 0, 0, 0, 0, []),
  (22, .iload_n 3, 1, 3, 0, 0, 0, 0, []),
  (23, .invokestatic 185, 3, 92, 1, 1, 0, 0, []),
  (26, .ifCond .ne (5), 3, 31, 0, 0, 0, 0, []),
  (31, .aload_n 0, 1, 0, 0, 0, 0, 0, []),
  (32, .getfield 39, 3, 11, 4, 2, 0, 0, []),
  (35, .iload_n 1, 1, 1, 0, 0, 0, 0, []),
  (36, .iload_n 2, 1, 2, 0, 0, 0, 0, []),
  (37, .iload_n 3, 1, 3, 0, 0, 0, 0, []),
  (38, .invokevirtual 188, 3, 93, 4, 1, 0, 0, []),
  (41, .ireturn, 1, 0, 0, 0, 0, 0, [])]
set_option maxRecDepth 100000 in
theorem lX11_stand_0_ck : lX11_stand_0.all (ra_ck mX11_stand 11) = true := by decide +kernel
def nX11_stand_0 (N : Nat) (a0 : Nat) (a1 : Int32) (a2 : Int32) (a3 : Int32) (h : ra_H) : Option (Int32 × ra_H) :=
  (ra_fR h 11 a0 0).bind fun x1 =>
  (fX2_hasScheme N x1 a1 h).bind fun q2 =>
  if q2.1 = 0 then
    nX11_stand_29 N q2.2
  else
    (ra_fR q2.2 11 a0 0).bind fun x3 =>
    (fX2_hasScheme N x3 a2 q2.2).bind fun q4 =>
    if q4.1 = 0 then
      nX11_stand_29 N q4.2
    else
      (fX11_isTurn N a3 q4.2).bind fun q5 =>
      if q5.1 = 0 then
        nX11_stand_29 N q5.2
      else
        (ra_fR q5.2 11 a0 4).bind fun x6 =>
        (fX1_standingIn N x6 a1 a2 a3 q5.2).bind fun q7 =>
        some (q7.1, q7.2)
def kX11_stand_0 (N : Nat) : Nat → List (Option Value) → List Value → ra_H → Option (Int32 × ra_H) := (ra_k1 29 (fun L S h => match L, S with
  | [_, _, _, _], [] => nX11_stand_29 N h
  | _, _ => none) ra_k0)
theorem kX11_stand_0_ok (N : Nat) : ra_kok 7 mX11_stand ra_oI (kX11_stand_0 N) := (ra_k1_ok (by
  intro L S h a e
  split at e
  · exact ra_Ru.weak (nX11_stand_29_ok N _ _ e) trivial
  · cases e) ra_k0_ok)
set_option maxRecDepth 100000 in
theorem nX11_stand_0_ok (N : Nat) (a0 : Nat) (a1 : Int32) (a2 : Int32) (a3 : Int32) (h : ra_H) (r : (Int32 × ra_H)) (e : nX11_stand_0 N a0 a1 a2 a3 h = some r) : ra_Ru 7 mX11_stand 0 [some (.ref a0), some (.int a1), some (.int a2), some (.int a3)] [] h (ra_oI r) :=
  ra_sound (by omega) rfl ra_rI_ok (kX11_stand_0_ok N) (fun m av h h1 e => (ra_c0_ok (ro := ra_oV)) m av h h1 e) (fun m av h x h1 e => (tIX11_stand_ok N) m av h (x, h1) e) (fun m av h x h1 e => (ra_c0_ok (ro := ra_oJ)) m av h (x, h1) e) (fun m av h x h1 e => (ra_c0_ok (ro := ra_oR)) m av h (x, h1) e) (fun m av h x h1 e => (ra_c0_ok (ro := ra_oN)) m av h (x, h1) e) (fun m av h x h1 e => (ra_c0_ok (ro := ra_oF)) m av h (x, h1) e) 21 lX11_stand_0 _ _ _ _ lX11_stand_0_ck (show ra_run ra_rI (kX11_stand_0 N) ra_c0 (tIX11_stand N) ra_c0 ra_c0 ra_c0 ra_c0 21 lX11_stand_0 [some (.ref a0), some (.int a1), some (.int a2), some (.int a3)] [] h = some r from e) _ _ rfl
def fX11_stand (N : Nat) (p0 : Nat) (p1 : Int32) (p2 : Int32) (p3 : Int32) (h : ra_H) : Option (Int32 × ra_H) := match ra_isOb h p0 11 with
  | true => nX11_stand_0 N p0 p1 p2 p3 h
  | false => none
set_option maxRecDepth 100000 in
theorem mtX11_stand : ra_MT[91]? = some (mX11_stand, 1, 3, (1, 1), (4, 114), (4, 115)) := rfl
theorem fX11_stand_co (N : Nat) (p0 : Nat) (p1 : Int32) (p2 : Int32) (p3 : Int32) (h : ra_H) (r : (Int32 × ra_H)) (e : fX11_stand N p0 p1 p2 p3 h = some r) (D : Nat) (hD : 8 ≤ D) : ra_CO D 91 [.ref p0, .int p1, .int p2, .int p3] h (ra_oI r).1 (ra_oI r).2 := by
  have hw : ra_nw2 [.ref p0, .int p1, .int p2, .int p3] ≤ 4 := Nat.le_of_ble_eq_true rfl
  have hdb : ∀ v ∈ ([.ref p0, .int p1, .int p2, .int p3] : List Value), ∀ x, v ≠ .double x := by
    intro v hv x hx
    simp [hx] at hv
  unfold fX11_stand at e
  split at e
  · rename_i ho
    have e1 := e
    exact ⟨7, _, mtX11_stand, hD, ra_ev_of (by decide) hdb hw trivial (ra_Ru.weak (nX11_stand_0_ok N p0 p1 p2 p3 h _ e1) ⟨rfl, ⟨rfl, ⟨rfl, ⟨rfl, trivial⟩⟩⟩⟩), (fun _ => ⟨_, _, rfl, ra_rcv_of ho (by decide) rfl⟩), (fun h => absurd h (by decide))⟩
  · cases e
/-! RedMarks.status()I -/
def mX11_status : ra_M := (yX11_status, cX11_status, 1, (some .int))
def lX11_status_0 : List ra_I := [(0, .aload_n 0, 1, 0, 0, 0, 0, 0, []),
  (1, .getfield 388, 3, 11, 10, 0, 0, 0, []),
  (4, .ireturn, 1, 0, 0, 0, 0, 0, [])]
set_option maxRecDepth 100000 in
theorem lX11_status_0_ck : lX11_status_0.all (ra_ck mX11_status 11) = true := by decide +kernel
def nX11_status_0 (N : Nat) (a0 : Nat) (h : ra_H) : Option (Int32 × ra_H) :=
  (ra_fI h 11 a0 10).bind fun x1 =>
  some (x1, h)
def kX11_status_0 (N : Nat) : Nat → List (Option Value) → List Value → ra_H → Option (Int32 × ra_H) := ra_k0
theorem kX11_status_0_ok (N : Nat) : ra_kok 1 mX11_status ra_oI (kX11_status_0 N) := ra_k0_ok
set_option maxRecDepth 100000 in
theorem nX11_status_0_ok (N : Nat) (a0 : Nat) (h : ra_H) (r : (Int32 × ra_H)) (e : nX11_status_0 N a0 h = some r) : ra_Ru 1 mX11_status 0 [some (.ref a0)] [] h (ra_oI r) :=
  ra_sound (by omega) rfl ra_rI_ok (kX11_status_0_ok N) (fun m av h h1 e => (ra_c0_ok (ro := ra_oV)) m av h h1 e) (fun m av h x h1 e => (ra_c0_ok (ro := ra_oI)) m av h (x, h1) e) (fun m av h x h1 e => (ra_c0_ok (ro := ra_oJ)) m av h (x, h1) e) (fun m av h x h1 e => (ra_c0_ok (ro := ra_oR)) m av h (x, h1) e) (fun m av h x h1 e => (ra_c0_ok (ro := ra_oN)) m av h (x, h1) e) (fun m av h x h1 e => (ra_c0_ok (ro := ra_oF)) m av h (x, h1) e) 4 lX11_status_0 _ _ _ _ lX11_status_0_ck (show ra_run ra_rI (kX11_status_0 N) ra_c0 ra_c0 ra_c0 ra_c0 ra_c0 ra_c0 4 lX11_status_0 [some (.ref a0)] [] h = some r from e) _ _ rfl
def fX11_status (N : Nat) (p0 : Nat) (h : ra_H) : Option (Int32 × ra_H) := match ra_isOb h p0 11 with
  | true => nX11_status_0 N p0 h
  | false => none
set_option maxRecDepth 100000 in
theorem mtX11_status : ra_MT[206]? = some (mX11_status, 1, 0, (1, 1), (6, 121), (6, 122)) := rfl
theorem fX11_status_co (N : Nat) (p0 : Nat) (h : ra_H) (r : (Int32 × ra_H)) (e : fX11_status N p0 h = some r) (D : Nat) (hD : 2 ≤ D) : ra_CO D 206 [.ref p0] h (ra_oI r).1 (ra_oI r).2 := by
  have hw : ra_nw2 [.ref p0] ≤ 1 := Nat.le_of_ble_eq_true rfl
  have hdb : ∀ v ∈ ([.ref p0] : List Value), ∀ x, v ≠ .double x := by
    intro v hv x hx
    simp [hx] at hv
  unfold fX11_status at e
  split at e
  · rename_i ho
    have e1 := e
    exact ⟨1, _, mtX11_status, hD, ra_ev_of (by decide) hdb hw trivial (ra_Ru.weak (nX11_status_0_ok N p0 h _ e1) ⟨rfl, trivial⟩), (fun _ => ⟨_, _, rfl, ra_rcv_of ho (by decide) rfl⟩), (fun h => absurd h (by decide))⟩
  · cases e
/-! RedMarks.together(II)I -/
def mX11_together : ra_M := (yX11_together, cX11_together, 3, (some .int))
def tIX11_together (N : Nat) : Nat → List Value → ra_H → Option (Int32 × ra_H) := (ra_c1 34 (fun av h => match av with
  | [.int z0, .int z1] => fX11_isShelf N z0 z1 h
  | _ => none) (ra_c1 105 (fun av h => match av with
  | [.ref z0] => fX1_settleKept N z0 h
  | _ => none) (ra_c1 197 (fun av h => match av with
  | [.ref z0, .int z1, .ref z2] => fX5_sharingHouses N z0 z1 z2 h
  | _ => none) ra_c0)))
theorem tIX11_together_ok (N : Nat) : ra_cok 7 ra_oI (tIX11_together N) := (ra_c1_ok (by
  intro av h a e
  split at e
  · exact fX11_isShelf_co N _ _ _ _ e 7 (by omega)
  · cases e) (ra_c1_ok (by
  intro av h a e
  split at e
  · exact fX1_settleKept_co N _ _ _ e 7 (by omega)
  · cases e) (ra_c1_ok (by
  intro av h a e
  split at e
  · exact fX5_sharingHouses_co N _ _ _ _ _ e 7 (by omega)
  · cases e) ra_c0_ok)))
def lX11_together_28 : List ra_I := [(28, .iconst (-1), 1, 0, 0, 0, (-1), 0, []),
  (29, .ireturn, 1, 0, 0, 0, 0, 0, [])]
set_option maxRecDepth 100000 in
theorem lX11_together_28_ck : lX11_together_28.all (ra_ck mX11_together 11) = true := by decide +kernel
def nX11_together_28 (N : Nat) (h : ra_H) : Option (Int32 × ra_H) :=
  some ((-1 : Int32), h)
def kX11_together_28 (N : Nat) : Nat → List (Option Value) → List Value → ra_H → Option (Int32 × ra_H) := ra_k0
theorem kX11_together_28_ok (N : Nat) : ra_kok 7 mX11_together ra_oI (kX11_together_28 N) := ra_k0_ok
set_option maxRecDepth 100000 in
theorem nX11_together_28_ok (N : Nat) (h : ra_H) (r : (Int32 × ra_H)) (e : nX11_together_28 N h = some r) : ra_Ru 7 mX11_together 28 [none, none, none] [] h (ra_oI r) :=
  ra_sound (by omega) rfl ra_rI_ok (kX11_together_28_ok N) (fun m av h h1 e => (ra_c0_ok (ro := ra_oV)) m av h h1 e) (fun m av h x h1 e => (tIX11_together_ok N) m av h (x, h1) e) (fun m av h x h1 e => (ra_c0_ok (ro := ra_oJ)) m av h (x, h1) e) (fun m av h x h1 e => (ra_c0_ok (ro := ra_oR)) m av h (x, h1) e) (fun m av h x h1 e => (ra_c0_ok (ro := ra_oN)) m av h (x, h1) e) (fun m av h x h1 e => (ra_c0_ok (ro := ra_oF)) m av h (x, h1) e) 3 lX11_together_28 _ _ _ _ lX11_together_28_ck (show ra_run ra_rI (kX11_together_28 N) ra_c0 (tIX11_together N) ra_c0 ra_c0 ra_c0 ra_c0 3 lX11_together_28 [none, none, none] [] h = some r from e) _ _ rfl
def lX11_together_0 : List ra_I := [(0, .iload_n 1, 1, 1, 0, 0, 0, 0, []),
  (1, .iload_n 2, 1, 2, 0, 0, 0, 0, []),
  (2, .invokestatic 138, 3, 34, 2, 1, 0, 0, []),
  (5, .ifCond .eq (23), 3, 28, 0, 0, 0, 0, []),
  (8, .aload_n 0, 1, 0, 0, 0, 0, 0, []),
  (9, .getfield 75, 3, 11, 8, 2, 0, 0, []),
  (12, .getfield 370, 3, 9, 1, 0, 0, 0, []),
  (15, .ifCond .eq (13), 3, 28, 0, 0, 0, 0, []),
  (18, .aload_n 0, 1, 0, 0, 0, 0, 0, []),
  (19, .getfield 39, 3, 11, 4, 2, 0, 0, []),
  (22, .invokevirtual 204, 3, 105, 1, 1, 0, 0, []),
  (25, .ifCond .ne (5), 3, 30, 0, 0, 0, 0, []),
  (30, .aload_n 0, 1, 0, 0, 0, 0, 0, []),
  (31, .getfield 52, 3, 11, 5, 2, 0, 0, []),
  (34, .iload_n 1, 1, 1, 0, 0, 0, 0, []),
  (35, .bipush (6), 2, 0, 0, 0, (6), 0, []),
  (37, .imul, 1, 0, 0, 0, 0, 0, []),
  (38, .iload_n 2, 1, 2, 0, 0, 0, 0, []),
  (39, .iadd, 1, 0, 0, 0, 0, 0, []),
  (40, .aload_n 0, 1, 0, 0, 0, 0, 0, []),
  (41, .getfield 75, 3, 11, 8, 2, 0, 0, []),
  (44, .getfield 374, 3, 9, 0, 2, 0, 0, []),
  (47, .invokevirtual 377, 3, 197, 3, 1, 0, 0, []),
  (50, .ireturn, 1, 0, 0, 0, 0, 0, [])]
set_option maxRecDepth 100000 in
theorem lX11_together_0_ck : lX11_together_0.all (ra_ck mX11_together 11) = true := by decide +kernel
def nX11_together_0 (N : Nat) (a0 : Nat) (a1 : Int32) (a2 : Int32) (h : ra_H) : Option (Int32 × ra_H) :=
  (fX11_isShelf N a1 a2 h).bind fun q1 =>
  if q1.1 = 0 then
    nX11_together_28 N q1.2
  else
    (ra_fR q1.2 11 a0 8).bind fun x2 =>
    (ra_fI q1.2 9 x2 1).bind fun x3 =>
    if x3 = 0 then
      nX11_together_28 N q1.2
    else
      (ra_fR q1.2 11 a0 4).bind fun x4 =>
      (fX1_settleKept N x4 q1.2).bind fun q5 =>
      if q5.1 = 0 then
        nX11_together_28 N q5.2
      else
        (ra_fR q5.2 11 a0 5).bind fun x6 =>
        (ra_fR q5.2 11 a0 8).bind fun x7 =>
        (ra_fR q5.2 9 x7 0).bind fun x8 =>
        (fX5_sharingHouses N x6 ((a1 * ((6 : Int32))) + a2) x8 q5.2).bind fun q9 =>
        some (q9.1, q9.2)
def kX11_together_0 (N : Nat) : Nat → List (Option Value) → List Value → ra_H → Option (Int32 × ra_H) := (ra_k1 28 (fun L S h => match L, S with
  | [_, _, _], [] => nX11_together_28 N h
  | _, _ => none) ra_k0)
theorem kX11_together_0_ok (N : Nat) : ra_kok 7 mX11_together ra_oI (kX11_together_0 N) := (ra_k1_ok (by
  intro L S h a e
  split at e
  · exact ra_Ru.weak (nX11_together_28_ok N _ _ e) trivial
  · cases e) ra_k0_ok)
set_option maxRecDepth 100000 in
theorem nX11_together_0_ok (N : Nat) (a0 : Nat) (a1 : Int32) (a2 : Int32) (h : ra_H) (r : (Int32 × ra_H)) (e : nX11_together_0 N a0 a1 a2 h = some r) : ra_Ru 7 mX11_together 0 [some (.ref a0), some (.int a1), some (.int a2)] [] h (ra_oI r) :=
  ra_sound (by omega) rfl ra_rI_ok (kX11_together_0_ok N) (fun m av h h1 e => (ra_c0_ok (ro := ra_oV)) m av h h1 e) (fun m av h x h1 e => (tIX11_together_ok N) m av h (x, h1) e) (fun m av h x h1 e => (ra_c0_ok (ro := ra_oJ)) m av h (x, h1) e) (fun m av h x h1 e => (ra_c0_ok (ro := ra_oR)) m av h (x, h1) e) (fun m av h x h1 e => (ra_c0_ok (ro := ra_oN)) m av h (x, h1) e) (fun m av h x h1 e => (ra_c0_ok (ro := ra_oF)) m av h (x, h1) e) 25 lX11_together_0 _ _ _ _ lX11_together_0_ck (show ra_run ra_rI (kX11_together_0 N) ra_c0 (tIX11_together N) ra_c0 ra_c0 ra_c0 ra_c0 25 lX11_together_0 [some (.ref a0), some (.int a1), some (.int a2)] [] h = some r from e) _ _ rfl
def fX11_together (N : Nat) (p0 : Nat) (p1 : Int32) (p2 : Int32) (h : ra_H) : Option (Int32 × ra_H) := match ra_isOb h p0 11 with
  | true => nX11_together_0 N p0 p1 p2 h
  | false => none
set_option maxRecDepth 100000 in
theorem mtX11_together : ra_MT[196]? = some (mX11_together, 1, 2, (1, 1), (6, 79), (6, 80)) := rfl
theorem fX11_together_co (N : Nat) (p0 : Nat) (p1 : Int32) (p2 : Int32) (h : ra_H) (r : (Int32 × ra_H)) (e : fX11_together N p0 p1 p2 h = some r) (D : Nat) (hD : 8 ≤ D) : ra_CO D 196 [.ref p0, .int p1, .int p2] h (ra_oI r).1 (ra_oI r).2 := by
  have hw : ra_nw2 [.ref p0, .int p1, .int p2] ≤ 3 := Nat.le_of_ble_eq_true rfl
  have hdb : ∀ v ∈ ([.ref p0, .int p1, .int p2] : List Value), ∀ x, v ≠ .double x := by
    intro v hv x hx
    simp [hx] at hv
  unfold fX11_together at e
  split at e
  · rename_i ho
    have e1 := e
    exact ⟨7, _, mtX11_together, hD, ra_ev_of (by decide) hdb hw trivial (ra_Ru.weak (nX11_together_0_ok N p0 p1 p2 h _ e1) ⟨rfl, ⟨rfl, ⟨rfl, trivial⟩⟩⟩), (fun _ => ⟨_, _, rfl, ra_rcv_of ho (by decide) rfl⟩), (fun h => absurd h (by decide))⟩
  · cases e
/-! RedMarks.twice(II)I -/
def mX11_twice : ra_M := (yX11_twice, cX11_twice, 6, (some .int))
def tIX11_twice (N : Nat) : Nat → List Value → ra_H → Option (Int32 × ra_H) := (ra_c1 173 (fun av h => match av with
  | [.ref z0, .int z1, .int z2] => fX2_sameMark N z0 z1 z2 h
  | _ => none) ra_c0)
theorem tIX11_twice_ok (N : Nat) : ra_cok 4 ra_oI (tIX11_twice N) := (ra_c1_ok (by
  intro av h a e
  split at e
  · exact fX2_sameMark_co N _ _ _ _ _ e 4 (by omega)
  · cases e) ra_c0_ok)
def lX11_twice_9 : List ra_I := [(9, .iconst (-1), 1, 0, 0, 0, (-1), 0, []),
  (10, .ireturn, 1, 0, 0, 0, 0, 0, [])]
set_option maxRecDepth 100000 in
theorem lX11_twice_9_ck : lX11_twice_9.all (ra_ck mX11_twice 11) = true := by decide +kernel
def nX11_twice_9 (N : Nat) (h : ra_H) : Option (Int32 × ra_H) :=
  some ((-1 : Int32), h)
def kX11_twice_9 (N : Nat) : Nat → List (Option Value) → List Value → ra_H → Option (Int32 × ra_H) := ra_k0
theorem kX11_twice_9_ok (N : Nat) : ra_kok 4 mX11_twice ra_oI (kX11_twice_9 N) := ra_k0_ok
set_option maxRecDepth 100000 in
theorem nX11_twice_9_ok (N : Nat) (h : ra_H) (r : (Int32 × ra_H)) (e : nX11_twice_9 N h = some r) : ra_Ru 4 mX11_twice 9 [none, none, none, none, none, none] [] h (ra_oI r) :=
  ra_sound (by omega) rfl ra_rI_ok (kX11_twice_9_ok N) (fun m av h h1 e => (ra_c0_ok (ro := ra_oV)) m av h h1 e) (fun m av h x h1 e => (tIX11_twice_ok N) m av h (x, h1) e) (fun m av h x h1 e => (ra_c0_ok (ro := ra_oJ)) m av h (x, h1) e) (fun m av h x h1 e => (ra_c0_ok (ro := ra_oR)) m av h (x, h1) e) (fun m av h x h1 e => (ra_c0_ok (ro := ra_oN)) m av h (x, h1) e) (fun m av h x h1 e => (ra_c0_ok (ro := ra_oF)) m av h (x, h1) e) 3 lX11_twice_9 _ _ _ _ lX11_twice_9_ck (show ra_run ra_rI (kX11_twice_9 N) ra_c0 (tIX11_twice N) ra_c0 ra_c0 ra_c0 ra_c0 3 lX11_twice_9 [none, none, none, none, none, none] [] h = some r from e) _ _ rfl
def lX11_twice_81 : List ra_I := [(81, .ireturn, 1, 0, 0, 0, 0, 0, [])]
set_option maxRecDepth 100000 in
theorem lX11_twice_81_ck : lX11_twice_81.all (ra_ck mX11_twice 11) = true := by decide +kernel
def nX11_twice_81 (N : Nat) (b0 : Int32) (h : ra_H) : Option (Int32 × ra_H) :=
  some (b0, h)
def kX11_twice_81 (N : Nat) : Nat → List (Option Value) → List Value → ra_H → Option (Int32 × ra_H) := ra_k0
theorem kX11_twice_81_ok (N : Nat) : ra_kok 4 mX11_twice ra_oI (kX11_twice_81 N) := ra_k0_ok
set_option maxRecDepth 100000 in
theorem nX11_twice_81_ok (N : Nat) (b0 : Int32) (h : ra_H) (r : (Int32 × ra_H)) (e : nX11_twice_81 N b0 h = some r) : ra_Ru 4 mX11_twice 81 [none, none, none, none, none, none] [.int b0] h (ra_oI r) :=
  ra_sound (by omega) rfl ra_rI_ok (kX11_twice_81_ok N) (fun m av h h1 e => (ra_c0_ok (ro := ra_oV)) m av h h1 e) (fun m av h x h1 e => (tIX11_twice_ok N) m av h (x, h1) e) (fun m av h x h1 e => (ra_c0_ok (ro := ra_oJ)) m av h (x, h1) e) (fun m av h x h1 e => (ra_c0_ok (ro := ra_oR)) m av h (x, h1) e) (fun m av h x h1 e => (ra_c0_ok (ro := ra_oN)) m av h (x, h1) e) (fun m av h x h1 e => (ra_c0_ok (ro := ra_oF)) m av h (x, h1) e) 2 lX11_twice_81 _ _ _ _ lX11_twice_81_ck (show ra_run ra_rI (kX11_twice_81 N) ra_c0 (tIX11_twice N) ra_c0 ra_c0 ra_c0 ra_c0 2 lX11_twice_81 [none, none, none, none, none, none] [.int b0] h = some r from e) _ _ rfl
def lX11_twice_85 : List ra_I := [(85, .iinc 5 (1), 3, 5, 0, 0, (1), 0, []),
  (88, .goto (-54), 3, 34, 0, 0, 0, 0, [])]
set_option maxRecDepth 100000 in
theorem lX11_twice_85_ck : lX11_twice_85.all (ra_ck mX11_twice 11) = true := by decide +kernel
def nX11_twice_85 (N : Nat) (c16 : Nat → Int32 → Int32 → Int32 → Int32 → ra_H → Option (Int32 × ra_H)) (c34 : Nat → Int32 → Int32 → Int32 → Int32 → Int32 → ra_H → Option (Int32 × ra_H)) (a0 : Nat) (a1 : Int32) (a2 : Int32) (a3 : Int32) (a4 : Int32) (a5 : Int32) (h : ra_H) : Option (Int32 × ra_H) :=
  let y1 := a5 + (1 : Int32)
  c34 a0 a1 a2 a3 a4 y1 h
def kX11_twice_85 (N : Nat) (c16 : Nat → Int32 → Int32 → Int32 → Int32 → ra_H → Option (Int32 × ra_H)) (c34 : Nat → Int32 → Int32 → Int32 → Int32 → Int32 → ra_H → Option (Int32 × ra_H)) : Nat → List (Option Value) → List Value → ra_H → Option (Int32 × ra_H) := (ra_k1 34 (fun L S h => match L, S with
  | [some (.ref a0), some (.int a1), some (.int a2), some (.int a3), some (.int a4), some (.int a5)], [] => c34 a0 a1 a2 a3 a4 a5 h
  | _, _ => none) ra_k0)
theorem kX11_twice_85_ok (N : Nat) (c16 : Nat → Int32 → Int32 → Int32 → Int32 → ra_H → Option (Int32 × ra_H)) (c34 : Nat → Int32 → Int32 → Int32 → Int32 → Int32 → ra_H → Option (Int32 × ra_H)) (hc16 : ∀ a0 a1 a2 a3 a4 h r, c16 a0 a1 a2 a3 a4 h = some r → ra_Ru 4 mX11_twice 16 [some (.ref a0), some (.int a1), some (.int a2), some (.int a3), some (.int a4), none] [] h (ra_oI r)) (hc34 : ∀ a0 a1 a2 a3 a4 a5 h r, c34 a0 a1 a2 a3 a4 a5 h = some r → ra_Ru 4 mX11_twice 34 [some (.ref a0), some (.int a1), some (.int a2), some (.int a3), some (.int a4), some (.int a5)] [] h (ra_oI r)) : ra_kok 4 mX11_twice ra_oI (kX11_twice_85 N c16 c34) := (ra_k1_ok (by
  intro L S h a e
  split at e
  · exact ra_Ru.weak (hc34 _ _ _ _ _ _ _ _ e) ⟨rfl, ⟨rfl, ⟨rfl, ⟨rfl, ⟨rfl, ⟨rfl, trivial⟩⟩⟩⟩⟩⟩
  · cases e) ra_k0_ok)
set_option maxRecDepth 100000 in
theorem nX11_twice_85_ok (N : Nat) (c16 : Nat → Int32 → Int32 → Int32 → Int32 → ra_H → Option (Int32 × ra_H)) (c34 : Nat → Int32 → Int32 → Int32 → Int32 → Int32 → ra_H → Option (Int32 × ra_H)) (hc16 : ∀ a0 a1 a2 a3 a4 h r, c16 a0 a1 a2 a3 a4 h = some r → ra_Ru 4 mX11_twice 16 [some (.ref a0), some (.int a1), some (.int a2), some (.int a3), some (.int a4), none] [] h (ra_oI r)) (hc34 : ∀ a0 a1 a2 a3 a4 a5 h r, c34 a0 a1 a2 a3 a4 a5 h = some r → ra_Ru 4 mX11_twice 34 [some (.ref a0), some (.int a1), some (.int a2), some (.int a3), some (.int a4), some (.int a5)] [] h (ra_oI r)) (a0 : Nat) (a1 : Int32) (a2 : Int32) (a3 : Int32) (a4 : Int32) (a5 : Int32) (h : ra_H) (r : (Int32 × ra_H)) (e : nX11_twice_85 N c16 c34 a0 a1 a2 a3 a4 a5 h = some r) : ra_Ru 4 mX11_twice 85 [some (.ref a0), some (.int a1), some (.int a2), some (.int a3), some (.int a4), some (.int a5)] [] h (ra_oI r) :=
  ra_sound (by omega) rfl ra_rI_ok (kX11_twice_85_ok N c16 c34 hc16 hc34) (fun m av h h1 e => (ra_c0_ok (ro := ra_oV)) m av h h1 e) (fun m av h x h1 e => (tIX11_twice_ok N) m av h (x, h1) e) (fun m av h x h1 e => (ra_c0_ok (ro := ra_oJ)) m av h (x, h1) e) (fun m av h x h1 e => (ra_c0_ok (ro := ra_oR)) m av h (x, h1) e) (fun m av h x h1 e => (ra_c0_ok (ro := ra_oN)) m av h (x, h1) e) (fun m av h x h1 e => (ra_c0_ok (ro := ra_oF)) m av h (x, h1) e) 3 lX11_twice_85 _ _ _ _ lX11_twice_85_ck (show ra_run ra_rI (kX11_twice_85 N c16 c34) ra_c0 (tIX11_twice N) ra_c0 ra_c0 ra_c0 ra_c0 3 lX11_twice_85 [some (.ref a0), some (.int a1), some (.int a2), some (.int a3), some (.int a4), some (.int a5)] [] h = some r from e) _ _ rfl
def lX11_twice_82 : List ra_I := [(82, .iinc 3 (1), 3, 3, 0, 0, (1), 0, [])]
set_option maxRecDepth 100000 in
theorem lX11_twice_82_ck : lX11_twice_82.all (ra_ck mX11_twice 11) = true := by decide +kernel
def nX11_twice_82 (N : Nat) (c16 : Nat → Int32 → Int32 → Int32 → Int32 → ra_H → Option (Int32 × ra_H)) (c34 : Nat → Int32 → Int32 → Int32 → Int32 → Int32 → ra_H → Option (Int32 × ra_H)) (a0 : Nat) (a1 : Int32) (a2 : Int32) (a3 : Int32) (a4 : Int32) (a5 : Int32) (h : ra_H) : Option (Int32 × ra_H) :=
  let y1 := a3 + (1 : Int32)
  nX11_twice_85 N c16 c34 a0 a1 a2 y1 a4 a5 h
def kX11_twice_82 (N : Nat) (c16 : Nat → Int32 → Int32 → Int32 → Int32 → ra_H → Option (Int32 × ra_H)) (c34 : Nat → Int32 → Int32 → Int32 → Int32 → Int32 → ra_H → Option (Int32 × ra_H)) : Nat → List (Option Value) → List Value → ra_H → Option (Int32 × ra_H) := (ra_k1 85 (fun L S h => match L, S with
  | [some (.ref a0), some (.int a1), some (.int a2), some (.int a3), some (.int a4), some (.int a5)], [] => nX11_twice_85 N c16 c34 a0 a1 a2 a3 a4 a5 h
  | _, _ => none) ra_k0)
theorem kX11_twice_82_ok (N : Nat) (c16 : Nat → Int32 → Int32 → Int32 → Int32 → ra_H → Option (Int32 × ra_H)) (c34 : Nat → Int32 → Int32 → Int32 → Int32 → Int32 → ra_H → Option (Int32 × ra_H)) (hc16 : ∀ a0 a1 a2 a3 a4 h r, c16 a0 a1 a2 a3 a4 h = some r → ra_Ru 4 mX11_twice 16 [some (.ref a0), some (.int a1), some (.int a2), some (.int a3), some (.int a4), none] [] h (ra_oI r)) (hc34 : ∀ a0 a1 a2 a3 a4 a5 h r, c34 a0 a1 a2 a3 a4 a5 h = some r → ra_Ru 4 mX11_twice 34 [some (.ref a0), some (.int a1), some (.int a2), some (.int a3), some (.int a4), some (.int a5)] [] h (ra_oI r)) : ra_kok 4 mX11_twice ra_oI (kX11_twice_82 N c16 c34) := (ra_k1_ok (by
  intro L S h a e
  split at e
  · exact ra_Ru.weak (nX11_twice_85_ok N c16 c34 hc16 hc34 _ _ _ _ _ _ _ _ e) ⟨rfl, ⟨rfl, ⟨rfl, ⟨rfl, ⟨rfl, ⟨rfl, trivial⟩⟩⟩⟩⟩⟩
  · cases e) ra_k0_ok)
set_option maxRecDepth 100000 in
theorem nX11_twice_82_ok (N : Nat) (c16 : Nat → Int32 → Int32 → Int32 → Int32 → ra_H → Option (Int32 × ra_H)) (c34 : Nat → Int32 → Int32 → Int32 → Int32 → Int32 → ra_H → Option (Int32 × ra_H)) (hc16 : ∀ a0 a1 a2 a3 a4 h r, c16 a0 a1 a2 a3 a4 h = some r → ra_Ru 4 mX11_twice 16 [some (.ref a0), some (.int a1), some (.int a2), some (.int a3), some (.int a4), none] [] h (ra_oI r)) (hc34 : ∀ a0 a1 a2 a3 a4 a5 h r, c34 a0 a1 a2 a3 a4 a5 h = some r → ra_Ru 4 mX11_twice 34 [some (.ref a0), some (.int a1), some (.int a2), some (.int a3), some (.int a4), some (.int a5)] [] h (ra_oI r)) (a0 : Nat) (a1 : Int32) (a2 : Int32) (a3 : Int32) (a4 : Int32) (a5 : Int32) (h : ra_H) (r : (Int32 × ra_H)) (e : nX11_twice_82 N c16 c34 a0 a1 a2 a3 a4 a5 h = some r) : ra_Ru 4 mX11_twice 82 [some (.ref a0), some (.int a1), some (.int a2), some (.int a3), some (.int a4), some (.int a5)] [] h (ra_oI r) :=
  ra_sound (by omega) rfl ra_rI_ok (kX11_twice_82_ok N c16 c34 hc16 hc34) (fun m av h h1 e => (ra_c0_ok (ro := ra_oV)) m av h h1 e) (fun m av h x h1 e => (tIX11_twice_ok N) m av h (x, h1) e) (fun m av h x h1 e => (ra_c0_ok (ro := ra_oJ)) m av h (x, h1) e) (fun m av h x h1 e => (ra_c0_ok (ro := ra_oR)) m av h (x, h1) e) (fun m av h x h1 e => (ra_c0_ok (ro := ra_oN)) m av h (x, h1) e) (fun m av h x h1 e => (ra_c0_ok (ro := ra_oF)) m av h (x, h1) e) 2 lX11_twice_82 _ _ _ _ lX11_twice_82_ck (show ra_run ra_rI (kX11_twice_82 N c16 c34) ra_c0 (tIX11_twice N) ra_c0 ra_c0 ra_c0 ra_c0 2 lX11_twice_82 [some (.ref a0), some (.int a1), some (.int a2), some (.int a3), some (.int a4), some (.int a5)] [] h = some r from e) _ _ rfl
def lX11_twice_34 : List ra_I := [(34, .iload 5, 2, 5, 0, 0, 0, 0, []),
  (36, .aload_n 0, 1, 0, 0, 0, 0, 0, []),
  (37, .getfield 10, 3, 11, 0, 2, 0, 0, []),
  (40, .getfield 99, 3, 2, 13, 0, 0, 0, []),
  (43, .if_icmp .ge (48), 3, 91, 0, 0, 0, 0, []),
  (46, .aload_n 0, 1, 0, 0, 0, 0, 0, []),
  (47, .getfield 10, 3, 11, 0, 2, 0, 0, []),
  (50, .iload 4, 2, 4, 0, 0, 0, 0, []),
  (52, .iload 5, 2, 5, 0, 0, 0, 0, []),
  (54, .invokevirtual 325, 3, 173, 3, 1, 0, 0, []),
  (57, .ifCond .eq (28), 3, 85, 0, 0, 0, 0, []),
  (60, .iload_n 1, 1, 1, 0, 0, 0, 0, []),
  (61, .ifCond .le (21), 3, 82, 0, 0, 0, 0, []),
  (64, .iload_n 3, 1, 3, 0, 0, 0, 0, []),
  (65, .iload_n 2, 1, 2, 0, 0, 0, 0, []),
  (66, .if_icmp .ne (16), 3, 82, 0, 0, 0, 0, []),
  (69, .iload_n 1, 1, 1, 0, 0, 0, 0, []),
  (70, .iconst (1), 1, 0, 0, 0, (1), 0, []),
  (71, .if_icmp .ne (8), 3, 79, 0, 0, 0, 0, []),
  (74, .iload 4, 2, 4, 0, 0, 0, 0, []),
  (76, .goto (5), 3, 81, 0, 0, 0, 0, []),
  (79, .iload 5, 2, 5, 0, 0, 0, 0, []),
  (91, .iinc 4 (1), 3, 4, 0, 0, (1), 0, []),
  (94, .goto (-78), 3, 16, 0, 0, 0, 0, [])]
set_option maxRecDepth 100000 in
theorem lX11_twice_34_ck : lX11_twice_34.all (ra_ck mX11_twice 11) = true := by decide +kernel
def nX11_twice_34 (N : Nat) (c16 : Nat → Int32 → Int32 → Int32 → Int32 → ra_H → Option (Int32 × ra_H)) : Nat → Nat → Int32 → Int32 → Int32 → Int32 → Int32 → ra_H → Option (Int32 × ra_H)
  | 0, _, _, _, _, _, _, _ => none
  | n + 1, a0, a1, a2, a3, a4, a5, h =>
  (ra_fR h 11 a0 0).bind fun x1 =>
  (ra_fI h 2 x1 13).bind fun x2 =>
  if a5 < x2 then
    (ra_fR h 11 a0 0).bind fun x4 =>
    (fX2_sameMark N x4 a4 a5 h).bind fun q5 =>
    if q5.1 = 0 then
      nX11_twice_85 N c16 (nX11_twice_34 N c16 n) a0 a1 a2 a3 a4 a5 q5.2
    else
      if a1 ≤ 0 then
        nX11_twice_82 N c16 (nX11_twice_34 N c16 n) a0 a1 a2 a3 a4 a5 q5.2
      else
        if a3 = a2 then
          if a1 = ((1 : Int32)) then
            nX11_twice_81 N a4 q5.2
          else
            nX11_twice_81 N a5 q5.2
        else
          nX11_twice_82 N c16 (nX11_twice_34 N c16 n) a0 a1 a2 a3 a4 a5 q5.2
  else
    let y3 := a4 + (1 : Int32)
    c16 a0 a1 a2 a3 y3 h
def kX11_twice_34 (N : Nat) (c16 : Nat → Int32 → Int32 → Int32 → Int32 → ra_H → Option (Int32 × ra_H)) (cs : Nat → Int32 → Int32 → Int32 → Int32 → Int32 → ra_H → Option (Int32 × ra_H)) : Nat → List (Option Value) → List Value → ra_H → Option (Int32 × ra_H) := (ra_k1 16 (fun L S h => match L, S with
  | [some (.ref a0), some (.int a1), some (.int a2), some (.int a3), some (.int a4), _], [] => c16 a0 a1 a2 a3 a4 h
  | _, _ => none) (ra_k1 81 (fun L S h => match L, S with
  | [_, _, _, _, _, _], [.int b0] => nX11_twice_81 N b0 h
  | _, _ => none) (ra_k1 82 (fun L S h => match L, S with
  | [some (.ref a0), some (.int a1), some (.int a2), some (.int a3), some (.int a4), some (.int a5)], [] => nX11_twice_82 N c16 cs a0 a1 a2 a3 a4 a5 h
  | _, _ => none) (ra_k1 85 (fun L S h => match L, S with
  | [some (.ref a0), some (.int a1), some (.int a2), some (.int a3), some (.int a4), some (.int a5)], [] => nX11_twice_85 N c16 cs a0 a1 a2 a3 a4 a5 h
  | _, _ => none) ra_k0))))
theorem kX11_twice_34_ok (N : Nat) (c16 : Nat → Int32 → Int32 → Int32 → Int32 → ra_H → Option (Int32 × ra_H)) (hc16 : ∀ a0 a1 a2 a3 a4 h r, c16 a0 a1 a2 a3 a4 h = some r → ra_Ru 4 mX11_twice 16 [some (.ref a0), some (.int a1), some (.int a2), some (.int a3), some (.int a4), none] [] h (ra_oI r)) (cs : Nat → Int32 → Int32 → Int32 → Int32 → Int32 → ra_H → Option (Int32 × ra_H)) (hcs : ∀ a0 a1 a2 a3 a4 a5 h r, cs a0 a1 a2 a3 a4 a5 h = some r → ra_Ru 4 mX11_twice 34 [some (.ref a0), some (.int a1), some (.int a2), some (.int a3), some (.int a4), some (.int a5)] [] h (ra_oI r)) : ra_kok 4 mX11_twice ra_oI (kX11_twice_34 N c16 cs) := (ra_k1_ok (by
  intro L S h a e
  split at e
  · exact ra_Ru.weak (hc16 _ _ _ _ _ _ _ e) ⟨rfl, ⟨rfl, ⟨rfl, ⟨rfl, ⟨rfl, trivial⟩⟩⟩⟩⟩
  · cases e) (ra_k1_ok (by
  intro L S h a e
  split at e
  · exact ra_Ru.weak (nX11_twice_81_ok N _ _ _ e) trivial
  · cases e) (ra_k1_ok (by
  intro L S h a e
  split at e
  · exact ra_Ru.weak (nX11_twice_82_ok N c16 cs hc16 hcs _ _ _ _ _ _ _ _ e) ⟨rfl, ⟨rfl, ⟨rfl, ⟨rfl, ⟨rfl, ⟨rfl, trivial⟩⟩⟩⟩⟩⟩
  · cases e) (ra_k1_ok (by
  intro L S h a e
  split at e
  · exact ra_Ru.weak (nX11_twice_85_ok N c16 cs hc16 hcs _ _ _ _ _ _ _ _ e) ⟨rfl, ⟨rfl, ⟨rfl, ⟨rfl, ⟨rfl, ⟨rfl, trivial⟩⟩⟩⟩⟩⟩
  · cases e) ra_k0_ok))))
set_option maxRecDepth 100000 in
theorem nX11_twice_34_ok (N : Nat) (c16 : Nat → Int32 → Int32 → Int32 → Int32 → ra_H → Option (Int32 × ra_H)) (hc16 : ∀ a0 a1 a2 a3 a4 h r, c16 a0 a1 a2 a3 a4 h = some r → ra_Ru 4 mX11_twice 16 [some (.ref a0), some (.int a1), some (.int a2), some (.int a3), some (.int a4), none] [] h (ra_oI r)) : ∀ n a0 a1 a2 a3 a4 a5 h r, nX11_twice_34 N c16 n a0 a1 a2 a3 a4 a5 h = some r → ra_Ru 4 mX11_twice 34 [some (.ref a0), some (.int a1), some (.int a2), some (.int a3), some (.int a4), some (.int a5)] [] h (ra_oI r) := by
  intro n
  induction n with
  | zero => intro a0 a1 a2 a3 a4 a5 h r e; cases e
  | succ n ih =>
    intro a0 a1 a2 a3 a4 a5 h r e
    exact ra_sound (by omega) rfl ra_rI_ok (kX11_twice_34_ok N c16 hc16 (nX11_twice_34 N c16 n) ih) (fun m av h h1 e => (ra_c0_ok (ro := ra_oV)) m av h h1 e) (fun m av h x h1 e => (tIX11_twice_ok N) m av h (x, h1) e) (fun m av h x h1 e => (ra_c0_ok (ro := ra_oJ)) m av h (x, h1) e) (fun m av h x h1 e => (ra_c0_ok (ro := ra_oR)) m av h (x, h1) e) (fun m av h x h1 e => (ra_c0_ok (ro := ra_oN)) m av h (x, h1) e) (fun m av h x h1 e => (ra_c0_ok (ro := ra_oF)) m av h (x, h1) e) 25 lX11_twice_34 _ _ _ _ lX11_twice_34_ck (show ra_run ra_rI (kX11_twice_34 N c16 (nX11_twice_34 N c16 n)) ra_c0 (tIX11_twice N) ra_c0 ra_c0 ra_c0 ra_c0 25 lX11_twice_34 [some (.ref a0), some (.int a1), some (.int a2), some (.int a3), some (.int a4), some (.int a5)] [] h = some r from e) _ _ rfl
def lX11_twice_106 : List ra_I := [(106, .ireturn, 1, 0, 0, 0, 0, 0, [])]
set_option maxRecDepth 100000 in
theorem lX11_twice_106_ck : lX11_twice_106.all (ra_ck mX11_twice 11) = true := by decide +kernel
def nX11_twice_106 (N : Nat) (b0 : Int32) (h : ra_H) : Option (Int32 × ra_H) :=
  some (b0, h)
def kX11_twice_106 (N : Nat) : Nat → List (Option Value) → List Value → ra_H → Option (Int32 × ra_H) := ra_k0
theorem kX11_twice_106_ok (N : Nat) : ra_kok 4 mX11_twice ra_oI (kX11_twice_106 N) := ra_k0_ok
set_option maxRecDepth 100000 in
theorem nX11_twice_106_ok (N : Nat) (b0 : Int32) (h : ra_H) (r : (Int32 × ra_H)) (e : nX11_twice_106 N b0 h = some r) : ra_Ru 4 mX11_twice 106 [none, none, none, none, none, none] [.int b0] h (ra_oI r) :=
  ra_sound (by omega) rfl ra_rI_ok (kX11_twice_106_ok N) (fun m av h h1 e => (ra_c0_ok (ro := ra_oV)) m av h h1 e) (fun m av h x h1 e => (tIX11_twice_ok N) m av h (x, h1) e) (fun m av h x h1 e => (ra_c0_ok (ro := ra_oJ)) m av h (x, h1) e) (fun m av h x h1 e => (ra_c0_ok (ro := ra_oR)) m av h (x, h1) e) (fun m av h x h1 e => (ra_c0_ok (ro := ra_oN)) m av h (x, h1) e) (fun m av h x h1 e => (ra_c0_ok (ro := ra_oF)) m av h (x, h1) e) 2 lX11_twice_106 _ _ _ _ lX11_twice_106_ck (show ra_run ra_rI (kX11_twice_106 N) ra_c0 (tIX11_twice N) ra_c0 ra_c0 ra_c0 ra_c0 2 lX11_twice_106 [none, none, none, none, none, none] [.int b0] h = some r from e) _ _ rfl
def lX11_twice_16 : List ra_I := [(16, .iload 4, 2, 4, 0, 0, 0, 0, []),
  (18, .aload_n 0, 1, 0, 0, 0, 0, 0, []),
  (19, .getfield 10, 3, 11, 0, 2, 0, 0, []),
  (22, .getfield 99, 3, 2, 13, 0, 0, 0, []),
  (25, .if_icmp .ge (72), 3, 97, 0, 0, 0, 0, []),
  (28, .iload 4, 2, 4, 0, 0, 0, 0, []),
  (30, .iconst (1), 1, 0, 0, 0, (1), 0, []),
  (31, .iadd, 1, 0, 0, 0, 0, 0, []),
  (32, .istore 5, 2, 5, 0, 0, 0, 0, []),
  (97, .iload_n 1, 1, 1, 0, 0, 0, 0, []),
  (98, .ifCond .ne (7), 3, 105, 0, 0, 0, 0, []),
  (101, .iload_n 3, 1, 3, 0, 0, 0, 0, []),
  (102, .goto (4), 3, 106, 0, 0, 0, 0, []),
  (105, .iconst (-1), 1, 0, 0, 0, (-1), 0, [])]
set_option maxRecDepth 100000 in
theorem lX11_twice_16_ck : lX11_twice_16.all (ra_ck mX11_twice 11) = true := by decide +kernel
def nX11_twice_16 (N : Nat) : Nat → Nat → Int32 → Int32 → Int32 → Int32 → ra_H → Option (Int32 × ra_H)
  | 0, _, _, _, _, _, _ => none
  | n + 1, a0, a1, a2, a3, a4, h =>
  (ra_fR h 11 a0 0).bind fun x1 =>
  (ra_fI h 2 x1 13).bind fun x2 =>
  if a4 < x2 then
    let y3 := a4 + ((1 : Int32))
    nX11_twice_34 N (nX11_twice_16 N n) N a0 a1 a2 a3 a4 y3 h
  else
    if a1 = 0 then
      nX11_twice_106 N a3 h
    else
      nX11_twice_106 N ((-1 : Int32)) h
def kX11_twice_16 (N : Nat) (cs : Nat → Int32 → Int32 → Int32 → Int32 → ra_H → Option (Int32 × ra_H)) : Nat → List (Option Value) → List Value → ra_H → Option (Int32 × ra_H) := (ra_k1 34 (fun L S h => match L, S with
  | [some (.ref a0), some (.int a1), some (.int a2), some (.int a3), some (.int a4), some (.int a5)], [] => nX11_twice_34 N cs N a0 a1 a2 a3 a4 a5 h
  | _, _ => none) (ra_k1 106 (fun L S h => match L, S with
  | [_, _, _, _, _, _], [.int b0] => nX11_twice_106 N b0 h
  | _, _ => none) ra_k0))
theorem kX11_twice_16_ok (N : Nat) (cs : Nat → Int32 → Int32 → Int32 → Int32 → ra_H → Option (Int32 × ra_H)) (hcs : ∀ a0 a1 a2 a3 a4 h r, cs a0 a1 a2 a3 a4 h = some r → ra_Ru 4 mX11_twice 16 [some (.ref a0), some (.int a1), some (.int a2), some (.int a3), some (.int a4), none] [] h (ra_oI r)) : ra_kok 4 mX11_twice ra_oI (kX11_twice_16 N cs) := (ra_k1_ok (by
  intro L S h a e
  split at e
  · exact ra_Ru.weak (nX11_twice_34_ok N cs hcs N _ _ _ _ _ _ _ _ e) ⟨rfl, ⟨rfl, ⟨rfl, ⟨rfl, ⟨rfl, ⟨rfl, trivial⟩⟩⟩⟩⟩⟩
  · cases e) (ra_k1_ok (by
  intro L S h a e
  split at e
  · exact ra_Ru.weak (nX11_twice_106_ok N _ _ _ e) trivial
  · cases e) ra_k0_ok))
set_option maxRecDepth 100000 in
theorem nX11_twice_16_ok (N : Nat) : ∀ n a0 a1 a2 a3 a4 h r, nX11_twice_16 N n a0 a1 a2 a3 a4 h = some r → ra_Ru 4 mX11_twice 16 [some (.ref a0), some (.int a1), some (.int a2), some (.int a3), some (.int a4), none] [] h (ra_oI r) := by
  intro n
  induction n with
  | zero => intro a0 a1 a2 a3 a4 h r e; cases e
  | succ n ih =>
    intro a0 a1 a2 a3 a4 h r e
    exact ra_sound (by omega) rfl ra_rI_ok (kX11_twice_16_ok N (nX11_twice_16 N n) ih) (fun m av h h1 e => (ra_c0_ok (ro := ra_oV)) m av h h1 e) (fun m av h x h1 e => (tIX11_twice_ok N) m av h (x, h1) e) (fun m av h x h1 e => (ra_c0_ok (ro := ra_oJ)) m av h (x, h1) e) (fun m av h x h1 e => (ra_c0_ok (ro := ra_oR)) m av h (x, h1) e) (fun m av h x h1 e => (ra_c0_ok (ro := ra_oN)) m av h (x, h1) e) (fun m av h x h1 e => (ra_c0_ok (ro := ra_oF)) m av h (x, h1) e) 15 lX11_twice_16 _ _ _ _ lX11_twice_16_ck (show ra_run ra_rI (kX11_twice_16 N (nX11_twice_16 N n)) ra_c0 (tIX11_twice N) ra_c0 ra_c0 ra_c0 ra_c0 15 lX11_twice_16 [some (.ref a0), some (.int a1), some (.int a2), some (.int a3), some (.int a4), none] [] h = some r from e) _ _ rfl
def lX11_twice_0 : List ra_I := [(0, .iload_n 1, 1, 1, 0, 0, 0, 0, []),
  (1, .ifCond .lt (8), 3, 9, 0, 0, 0, 0, []),
  (4, .iload_n 1, 1, 1, 0, 0, 0, 0, []),
  (5, .iconst (2), 1, 0, 0, 0, (2), 0, []),
  (6, .if_icmp .le (5), 3, 11, 0, 0, 0, 0, []),
  (11, .iconst (0), 1, 0, 0, 0, (0), 0, []),
  (12, .istore_n 3, 1, 3, 0, 0, 0, 0, []),
  (13, .iconst (0), 1, 0, 0, 0, (0), 0, []),
  (14, .istore 4, 2, 4, 0, 0, 0, 0, [])]
set_option maxRecDepth 100000 in
theorem lX11_twice_0_ck : lX11_twice_0.all (ra_ck mX11_twice 11) = true := by decide +kernel
def nX11_twice_0 (N : Nat) (a0 : Nat) (a1 : Int32) (a2 : Int32) (h : ra_H) : Option (Int32 × ra_H) :=
  if a1 < 0 then
    nX11_twice_9 N h
  else
    if a1 ≤ ((2 : Int32)) then
      nX11_twice_16 N N a0 a1 a2 ((0 : Int32)) ((0 : Int32)) h
    else
      nX11_twice_9 N h
def kX11_twice_0 (N : Nat) : Nat → List (Option Value) → List Value → ra_H → Option (Int32 × ra_H) := (ra_k1 9 (fun L S h => match L, S with
  | [_, _, _, _, _, _], [] => nX11_twice_9 N h
  | _, _ => none) (ra_k1 16 (fun L S h => match L, S with
  | [some (.ref a0), some (.int a1), some (.int a2), some (.int a3), some (.int a4), _], [] => nX11_twice_16 N N a0 a1 a2 a3 a4 h
  | _, _ => none) ra_k0))
theorem kX11_twice_0_ok (N : Nat) : ra_kok 4 mX11_twice ra_oI (kX11_twice_0 N) := (ra_k1_ok (by
  intro L S h a e
  split at e
  · exact ra_Ru.weak (nX11_twice_9_ok N _ _ e) trivial
  · cases e) (ra_k1_ok (by
  intro L S h a e
  split at e
  · exact ra_Ru.weak (nX11_twice_16_ok N N _ _ _ _ _ _ _ e) ⟨rfl, ⟨rfl, ⟨rfl, ⟨rfl, ⟨rfl, trivial⟩⟩⟩⟩⟩
  · cases e) ra_k0_ok))
set_option maxRecDepth 100000 in
theorem nX11_twice_0_ok (N : Nat) (a0 : Nat) (a1 : Int32) (a2 : Int32) (h : ra_H) (r : (Int32 × ra_H)) (e : nX11_twice_0 N a0 a1 a2 h = some r) : ra_Ru 4 mX11_twice 0 [some (.ref a0), some (.int a1), some (.int a2), none, none, none] [] h (ra_oI r) :=
  ra_sound (by omega) rfl ra_rI_ok (kX11_twice_0_ok N) (fun m av h h1 e => (ra_c0_ok (ro := ra_oV)) m av h h1 e) (fun m av h x h1 e => (tIX11_twice_ok N) m av h (x, h1) e) (fun m av h x h1 e => (ra_c0_ok (ro := ra_oJ)) m av h (x, h1) e) (fun m av h x h1 e => (ra_c0_ok (ro := ra_oR)) m av h (x, h1) e) (fun m av h x h1 e => (ra_c0_ok (ro := ra_oN)) m av h (x, h1) e) (fun m av h x h1 e => (ra_c0_ok (ro := ra_oF)) m av h (x, h1) e) 10 lX11_twice_0 _ _ _ _ lX11_twice_0_ck (show ra_run ra_rI (kX11_twice_0 N) ra_c0 (tIX11_twice N) ra_c0 ra_c0 ra_c0 ra_c0 10 lX11_twice_0 [some (.ref a0), some (.int a1), some (.int a2), none, none, none] [] h = some r from e) _ _ rfl
def fX11_twice (N : Nat) (p0 : Nat) (p1 : Int32) (p2 : Int32) (h : ra_H) : Option (Int32 × ra_H) := match ra_isOb h p0 11 with
  | true => nX11_twice_0 N p0 p1 p2 h
  | false => none
set_option maxRecDepth 100000 in
theorem mtX11_twice : ra_MT[172]? = some (mX11_twice, 1, 2, (1, 1), (5, 219), (5, 220)) := rfl
theorem fX11_twice_co (N : Nat) (p0 : Nat) (p1 : Int32) (p2 : Int32) (h : ra_H) (r : (Int32 × ra_H)) (e : fX11_twice N p0 p1 p2 h = some r) (D : Nat) (hD : 5 ≤ D) : ra_CO D 172 [.ref p0, .int p1, .int p2] h (ra_oI r).1 (ra_oI r).2 := by
  have hw : ra_nw2 [.ref p0, .int p1, .int p2] ≤ 6 := Nat.le_of_ble_eq_true rfl
  have hdb : ∀ v ∈ ([.ref p0, .int p1, .int p2] : List Value), ∀ x, v ≠ .double x := by
    intro v hv x hx
    simp [hx] at hv
  unfold fX11_twice at e
  split at e
  · rename_i ho
    have e1 := e
    exact ⟨4, _, mtX11_twice, hD, ra_ev_of (by decide) hdb hw trivial (ra_Ru.weak (nX11_twice_0_ok N p0 p1 p2 h _ e1) ⟨rfl, ⟨rfl, ⟨rfl, trivial⟩⟩⟩), (fun _ => ⟨_, _, rfl, ra_rcv_of ho (by decide) rfl⟩), (fun h => absurd h (by decide))⟩
  · cases e
/-! RedMarks.untrue(III)I -/
def mX11_untrue : ra_M := (yX11_untrue, cX11_untrue, 7, (some .int))
def tIX11_untrue (N : Nat) : Nat → List Value → ra_H → Option (Int32 × ra_H) := (ra_c1 82 (fun av h => match av with
  | [.ref z0, .int z1] => fX2_hasScheme N z0 z1 h
  | _ => none) (ra_c1 85 (fun av h => match av with
  | [.ref z0, .ref z1, .int z2, .ref z3, .int z4] => fX0_told N z0 z1 z2 z3 z4 h
  | _ => none) ra_c0))
theorem tIX11_untrue_ok (N : Nat) : ra_cok 4 ra_oI (tIX11_untrue N) := (ra_c1_ok (by
  intro av h a e
  split at e
  · exact fX2_hasScheme_co N _ _ _ _ e 4 (by omega)
  · cases e) (ra_c1_ok (by
  intro av h a e
  split at e
  · exact fX0_told_co N _ _ _ _ _ _ _ e 4 (by omega)
  · cases e) ra_c0_ok))
def lX11_untrue_20 : List ra_I := [(20, .iconst (-1), 1, 0, 0, 0, (-1), 0, []),
  (21, .ireturn, 1, 0, 0, 0, 0, 0, [])]
set_option maxRecDepth 100000 in
theorem lX11_untrue_20_ck : lX11_untrue_20.all (ra_ck mX11_untrue 11) = true := by decide +kernel
def nX11_untrue_20 (N : Nat) (h : ra_H) : Option (Int32 × ra_H) :=
  some ((-1 : Int32), h)
def kX11_untrue_20 (N : Nat) : Nat → List (Option Value) → List Value → ra_H → Option (Int32 × ra_H) := ra_k0
theorem kX11_untrue_20_ok (N : Nat) : ra_kok 4 mX11_untrue ra_oI (kX11_untrue_20 N) := ra_k0_ok
set_option maxRecDepth 100000 in
theorem nX11_untrue_20_ok (N : Nat) (h : ra_H) (r : (Int32 × ra_H)) (e : nX11_untrue_20 N h = some r) : ra_Ru 4 mX11_untrue 20 [none, none, none, none, none, none, none] [] h (ra_oI r) :=
  ra_sound (by omega) rfl ra_rI_ok (kX11_untrue_20_ok N) (fun m av h h1 e => (ra_c0_ok (ro := ra_oV)) m av h h1 e) (fun m av h x h1 e => (tIX11_untrue_ok N) m av h (x, h1) e) (fun m av h x h1 e => (ra_c0_ok (ro := ra_oJ)) m av h (x, h1) e) (fun m av h x h1 e => (ra_c0_ok (ro := ra_oR)) m av h (x, h1) e) (fun m av h x h1 e => (ra_c0_ok (ro := ra_oN)) m av h (x, h1) e) (fun m av h x h1 e => (ra_c0_ok (ro := ra_oF)) m av h (x, h1) e) 3 lX11_untrue_20 _ _ _ _ lX11_untrue_20_ck (show ra_run ra_rI (kX11_untrue_20 N) ra_c0 (tIX11_untrue N) ra_c0 ra_c0 ra_c0 ra_c0 3 lX11_untrue_20 [none, none, none, none, none, none, none] [] h = some r from e) _ _ rfl
def lX11_untrue_96 : List ra_I := [(96, .iinc 6 (1), 3, 6, 0, 0, (1), 0, []),
  (99, .goto (-60), 3, 39, 0, 0, 0, 0, [])]
set_option maxRecDepth 100000 in
theorem lX11_untrue_96_ck : lX11_untrue_96.all (ra_ck mX11_untrue 11) = true := by decide +kernel
def nX11_untrue_96 (N : Nat) (c39 : Nat → Int32 → Int32 → Nat → Int32 → Int32 → ra_H → Option (Int32 × ra_H)) (a0 : Nat) (a2 : Int32) (a3 : Int32) (a4 : Nat) (a5 : Int32) (a6 : Int32) (h : ra_H) : Option (Int32 × ra_H) :=
  let y1 := a6 + (1 : Int32)
  c39 a0 a2 a3 a4 a5 y1 h
def kX11_untrue_96 (N : Nat) (c39 : Nat → Int32 → Int32 → Nat → Int32 → Int32 → ra_H → Option (Int32 × ra_H)) : Nat → List (Option Value) → List Value → ra_H → Option (Int32 × ra_H) := (ra_k1 39 (fun L S h => match L, S with
  | [some (.ref a0), _, some (.int a2), some (.int a3), some (.ref a4), some (.int a5), some (.int a6)], [] => c39 a0 a2 a3 a4 a5 a6 h
  | _, _ => none) ra_k0)
theorem kX11_untrue_96_ok (N : Nat) (c39 : Nat → Int32 → Int32 → Nat → Int32 → Int32 → ra_H → Option (Int32 × ra_H)) (hc39 : ∀ a0 a2 a3 a4 a5 a6 h r, c39 a0 a2 a3 a4 a5 a6 h = some r → ra_Ru 4 mX11_untrue 39 [some (.ref a0), none, some (.int a2), some (.int a3), some (.ref a4), some (.int a5), some (.int a6)] [] h (ra_oI r)) : ra_kok 4 mX11_untrue ra_oI (kX11_untrue_96 N c39) := (ra_k1_ok (by
  intro L S h a e
  split at e
  · exact ra_Ru.weak (hc39 _ _ _ _ _ _ _ _ e) ⟨rfl, ⟨rfl, ⟨rfl, ⟨rfl, ⟨rfl, ⟨rfl, trivial⟩⟩⟩⟩⟩⟩
  · cases e) ra_k0_ok)
set_option maxRecDepth 100000 in
theorem nX11_untrue_96_ok (N : Nat) (c39 : Nat → Int32 → Int32 → Nat → Int32 → Int32 → ra_H → Option (Int32 × ra_H)) (hc39 : ∀ a0 a2 a3 a4 a5 a6 h r, c39 a0 a2 a3 a4 a5 a6 h = some r → ra_Ru 4 mX11_untrue 39 [some (.ref a0), none, some (.int a2), some (.int a3), some (.ref a4), some (.int a5), some (.int a6)] [] h (ra_oI r)) (a0 : Nat) (a2 : Int32) (a3 : Int32) (a4 : Nat) (a5 : Int32) (a6 : Int32) (h : ra_H) (r : (Int32 × ra_H)) (e : nX11_untrue_96 N c39 a0 a2 a3 a4 a5 a6 h = some r) : ra_Ru 4 mX11_untrue 96 [some (.ref a0), none, some (.int a2), some (.int a3), some (.ref a4), some (.int a5), some (.int a6)] [] h (ra_oI r) :=
  ra_sound (by omega) rfl ra_rI_ok (kX11_untrue_96_ok N c39 hc39) (fun m av h h1 e => (ra_c0_ok (ro := ra_oV)) m av h h1 e) (fun m av h x h1 e => (tIX11_untrue_ok N) m av h (x, h1) e) (fun m av h x h1 e => (ra_c0_ok (ro := ra_oJ)) m av h (x, h1) e) (fun m av h x h1 e => (ra_c0_ok (ro := ra_oR)) m av h (x, h1) e) (fun m av h x h1 e => (ra_c0_ok (ro := ra_oN)) m av h (x, h1) e) (fun m av h x h1 e => (ra_c0_ok (ro := ra_oF)) m av h (x, h1) e) 3 lX11_untrue_96 _ _ _ _ lX11_untrue_96_ck (show ra_run ra_rI (kX11_untrue_96 N c39) ra_c0 (tIX11_untrue N) ra_c0 ra_c0 ra_c0 ra_c0 3 lX11_untrue_96 [some (.ref a0), none, some (.int a2), some (.int a3), some (.ref a4), some (.int a5), some (.int a6)] [] h = some r from e) _ _ rfl
def lX11_untrue_93 : List ra_I := [(93, .iinc 5 (1), 3, 5, 0, 0, (1), 0, [])]
set_option maxRecDepth 100000 in
theorem lX11_untrue_93_ck : lX11_untrue_93.all (ra_ck mX11_untrue 11) = true := by decide +kernel
def nX11_untrue_93 (N : Nat) (c39 : Nat → Int32 → Int32 → Nat → Int32 → Int32 → ra_H → Option (Int32 × ra_H)) (a0 : Nat) (a2 : Int32) (a3 : Int32) (a4 : Nat) (a5 : Int32) (a6 : Int32) (h : ra_H) : Option (Int32 × ra_H) :=
  let y1 := a5 + (1 : Int32)
  nX11_untrue_96 N c39 a0 a2 a3 a4 y1 a6 h
def kX11_untrue_93 (N : Nat) (c39 : Nat → Int32 → Int32 → Nat → Int32 → Int32 → ra_H → Option (Int32 × ra_H)) : Nat → List (Option Value) → List Value → ra_H → Option (Int32 × ra_H) := (ra_k1 96 (fun L S h => match L, S with
  | [some (.ref a0), _, some (.int a2), some (.int a3), some (.ref a4), some (.int a5), some (.int a6)], [] => nX11_untrue_96 N c39 a0 a2 a3 a4 a5 a6 h
  | _, _ => none) ra_k0)
theorem kX11_untrue_93_ok (N : Nat) (c39 : Nat → Int32 → Int32 → Nat → Int32 → Int32 → ra_H → Option (Int32 × ra_H)) (hc39 : ∀ a0 a2 a3 a4 a5 a6 h r, c39 a0 a2 a3 a4 a5 a6 h = some r → ra_Ru 4 mX11_untrue 39 [some (.ref a0), none, some (.int a2), some (.int a3), some (.ref a4), some (.int a5), some (.int a6)] [] h (ra_oI r)) : ra_kok 4 mX11_untrue ra_oI (kX11_untrue_93 N c39) := (ra_k1_ok (by
  intro L S h a e
  split at e
  · exact ra_Ru.weak (nX11_untrue_96_ok N c39 hc39 _ _ _ _ _ _ _ _ e) ⟨rfl, ⟨rfl, ⟨rfl, ⟨rfl, ⟨rfl, ⟨rfl, trivial⟩⟩⟩⟩⟩⟩
  · cases e) ra_k0_ok)
set_option maxRecDepth 100000 in
theorem nX11_untrue_93_ok (N : Nat) (c39 : Nat → Int32 → Int32 → Nat → Int32 → Int32 → ra_H → Option (Int32 × ra_H)) (hc39 : ∀ a0 a2 a3 a4 a5 a6 h r, c39 a0 a2 a3 a4 a5 a6 h = some r → ra_Ru 4 mX11_untrue 39 [some (.ref a0), none, some (.int a2), some (.int a3), some (.ref a4), some (.int a5), some (.int a6)] [] h (ra_oI r)) (a0 : Nat) (a2 : Int32) (a3 : Int32) (a4 : Nat) (a5 : Int32) (a6 : Int32) (h : ra_H) (r : (Int32 × ra_H)) (e : nX11_untrue_93 N c39 a0 a2 a3 a4 a5 a6 h = some r) : ra_Ru 4 mX11_untrue 93 [some (.ref a0), none, some (.int a2), some (.int a3), some (.ref a4), some (.int a5), some (.int a6)] [] h (ra_oI r) :=
  ra_sound (by omega) rfl ra_rI_ok (kX11_untrue_93_ok N c39 hc39) (fun m av h h1 e => (ra_c0_ok (ro := ra_oV)) m av h h1 e) (fun m av h x h1 e => (tIX11_untrue_ok N) m av h (x, h1) e) (fun m av h x h1 e => (ra_c0_ok (ro := ra_oJ)) m av h (x, h1) e) (fun m av h x h1 e => (ra_c0_ok (ro := ra_oR)) m av h (x, h1) e) (fun m av h x h1 e => (ra_c0_ok (ro := ra_oN)) m av h (x, h1) e) (fun m av h x h1 e => (ra_c0_ok (ro := ra_oF)) m av h (x, h1) e) 2 lX11_untrue_93 _ _ _ _ lX11_untrue_93_ck (show ra_run ra_rI (kX11_untrue_93 N c39) ra_c0 (tIX11_untrue N) ra_c0 ra_c0 ra_c0 ra_c0 2 lX11_untrue_93 [some (.ref a0), none, some (.int a2), some (.int a3), some (.ref a4), some (.int a5), some (.int a6)] [] h = some r from e) _ _ rfl
def lX11_untrue_112 : List ra_I := [(112, .ireturn, 1, 0, 0, 0, 0, 0, [])]
set_option maxRecDepth 100000 in
theorem lX11_untrue_112_ck : lX11_untrue_112.all (ra_ck mX11_untrue 11) = true := by decide +kernel
def nX11_untrue_112 (N : Nat) (b0 : Int32) (h : ra_H) : Option (Int32 × ra_H) :=
  some (b0, h)
def kX11_untrue_112 (N : Nat) : Nat → List (Option Value) → List Value → ra_H → Option (Int32 × ra_H) := ra_k0
theorem kX11_untrue_112_ok (N : Nat) : ra_kok 4 mX11_untrue ra_oI (kX11_untrue_112 N) := ra_k0_ok
set_option maxRecDepth 100000 in
theorem nX11_untrue_112_ok (N : Nat) (b0 : Int32) (h : ra_H) (r : (Int32 × ra_H)) (e : nX11_untrue_112 N b0 h = some r) : ra_Ru 4 mX11_untrue 112 [none, none, none, none, none, none, none] [.int b0] h (ra_oI r) :=
  ra_sound (by omega) rfl ra_rI_ok (kX11_untrue_112_ok N) (fun m av h h1 e => (ra_c0_ok (ro := ra_oV)) m av h h1 e) (fun m av h x h1 e => (tIX11_untrue_ok N) m av h (x, h1) e) (fun m av h x h1 e => (ra_c0_ok (ro := ra_oJ)) m av h (x, h1) e) (fun m av h x h1 e => (ra_c0_ok (ro := ra_oR)) m av h (x, h1) e) (fun m av h x h1 e => (ra_c0_ok (ro := ra_oN)) m av h (x, h1) e) (fun m av h x h1 e => (ra_c0_ok (ro := ra_oF)) m av h (x, h1) e) 2 lX11_untrue_112 _ _ _ _ lX11_untrue_112_ck (show ra_run ra_rI (kX11_untrue_112 N) ra_c0 (tIX11_untrue N) ra_c0 ra_c0 ra_c0 ra_c0 2 lX11_untrue_112 [none, none, none, none, none, none, none] [.int b0] h = some r from e) _ _ rfl
def lX11_untrue_39 : List ra_I := [(39, .iload 6, 2, 6, 0, 0, 0, 0, []),
  (41, .aload_n 0, 1, 0, 0, 0, 0, 0, []),
  (42, .getfield 10, 3, 11, 0, 2, 0, 0, []),
  (45, .getfield 99, 3, 2, 13, 0, 0, 0, []),
  (48, .if_icmp .ge (54), 3, 102, 0, 0, 0, 0, []),
  (51, .aload_n 0, 1, 0, 0, 0, 0, 0, []),
  (52, .getfield 30, 3, 11, 3, 2, 0, 0, []),
  (55, .aload 4, 2, 4, 0, 0, 0, 0, []),
  (57, .iconst (4), 1, 0, 0, 0, (4), 0, []),
  (58, .aload_n 0, 1, 0, 0, 0, 0, 0, []),
  (59, .getfield 10, 3, 11, 0, 2, 0, 0, []),
  (62, .getfield 317, 3, 2, 0, 2, 0, 0, []),
  (65, .iload 6, 2, 6, 0, 0, 0, 0, []),
  (67, .bipush (12), 2, 0, 0, 0, (12), 0, []),
  (69, .imul, 1, 0, 0, 0, 0, 0, []),
  (70, .invokevirtual 320, 3, 85, 5, 1, 0, 0, []),
  (73, .ldc_w 324, 3, 0, 0, 0, (-2000000000), 0, []),
  (76, .if_icmp .eq (20), 3, 96, 0, 0, 0, 0, []),
  (79, .iload_n 2, 1, 2, 0, 0, 0, 0, []),
  (80, .iconst (1), 1, 0, 0, 0, (1), 0, []),
  (81, .if_icmp .ne (12), 3, 93, 0, 0, 0, 0, []),
  (84, .iload 5, 2, 5, 0, 0, 0, 0, []),
  (86, .iload_n 3, 1, 3, 0, 0, 0, 0, []),
  (87, .if_icmp .ne (6), 3, 93, 0, 0, 0, 0, []),
  (90, .iload 6, 2, 6, 0, 0, 0, 0, []),
  (92, .ireturn, 1, 0, 0, 0, 0, 0, []),
  (102, .iload_n 2, 1, 2, 0, 0, 0, 0, []),
  (103, .ifCond .ne (8), 3, 111, 0, 0, 0, 0, []),
  (106, .iload 5, 2, 5, 0, 0, 0, 0, []),
  (108, .goto (4), 3, 112, 0, 0, 0, 0, []),
  (111, .iconst (-1), 1, 0, 0, 0, (-1), 0, [])]
set_option maxRecDepth 100000 in
theorem lX11_untrue_39_ck : lX11_untrue_39.all (ra_ck mX11_untrue 11) = true := by decide +kernel
def nX11_untrue_39 (N : Nat) : Nat → Nat → Int32 → Int32 → Nat → Int32 → Int32 → ra_H → Option (Int32 × ra_H)
  | 0, _, _, _, _, _, _, _ => none
  | n + 1, a0, a2, a3, a4, a5, a6, h =>
  (ra_fR h 11 a0 0).bind fun x1 =>
  (ra_fI h 2 x1 13).bind fun x2 =>
  if a6 < x2 then
    (ra_fR h 11 a0 3).bind fun x3 =>
    (ra_fR h 11 a0 0).bind fun x4 =>
    (ra_fR h 2 x4 0).bind fun x5 =>
    (fX0_told N x3 a4 ((4 : Int32)) x5 (a6 * ((12 : Int32))) h).bind fun q6 =>
    if q6.1 = ((-2000000000 : Int32)) then
      nX11_untrue_96 N (nX11_untrue_39 N n) a0 a2 a3 a4 a5 a6 q6.2
    else
      if a2 = ((1 : Int32)) then
        if a5 = a3 then
          some (a6, q6.2)
        else
          nX11_untrue_93 N (nX11_untrue_39 N n) a0 a2 a3 a4 a5 a6 q6.2
      else
        nX11_untrue_93 N (nX11_untrue_39 N n) a0 a2 a3 a4 a5 a6 q6.2
  else
    if a2 = 0 then
      nX11_untrue_112 N a5 h
    else
      nX11_untrue_112 N ((-1 : Int32)) h
def kX11_untrue_39 (N : Nat) (cs : Nat → Int32 → Int32 → Nat → Int32 → Int32 → ra_H → Option (Int32 × ra_H)) : Nat → List (Option Value) → List Value → ra_H → Option (Int32 × ra_H) := (ra_k1 93 (fun L S h => match L, S with
  | [some (.ref a0), _, some (.int a2), some (.int a3), some (.ref a4), some (.int a5), some (.int a6)], [] => nX11_untrue_93 N cs a0 a2 a3 a4 a5 a6 h
  | _, _ => none) (ra_k1 96 (fun L S h => match L, S with
  | [some (.ref a0), _, some (.int a2), some (.int a3), some (.ref a4), some (.int a5), some (.int a6)], [] => nX11_untrue_96 N cs a0 a2 a3 a4 a5 a6 h
  | _, _ => none) (ra_k1 112 (fun L S h => match L, S with
  | [_, _, _, _, _, _, _], [.int b0] => nX11_untrue_112 N b0 h
  | _, _ => none) ra_k0)))
theorem kX11_untrue_39_ok (N : Nat) (cs : Nat → Int32 → Int32 → Nat → Int32 → Int32 → ra_H → Option (Int32 × ra_H)) (hcs : ∀ a0 a2 a3 a4 a5 a6 h r, cs a0 a2 a3 a4 a5 a6 h = some r → ra_Ru 4 mX11_untrue 39 [some (.ref a0), none, some (.int a2), some (.int a3), some (.ref a4), some (.int a5), some (.int a6)] [] h (ra_oI r)) : ra_kok 4 mX11_untrue ra_oI (kX11_untrue_39 N cs) := (ra_k1_ok (by
  intro L S h a e
  split at e
  · exact ra_Ru.weak (nX11_untrue_93_ok N cs hcs _ _ _ _ _ _ _ _ e) ⟨rfl, ⟨rfl, ⟨rfl, ⟨rfl, ⟨rfl, ⟨rfl, trivial⟩⟩⟩⟩⟩⟩
  · cases e) (ra_k1_ok (by
  intro L S h a e
  split at e
  · exact ra_Ru.weak (nX11_untrue_96_ok N cs hcs _ _ _ _ _ _ _ _ e) ⟨rfl, ⟨rfl, ⟨rfl, ⟨rfl, ⟨rfl, ⟨rfl, trivial⟩⟩⟩⟩⟩⟩
  · cases e) (ra_k1_ok (by
  intro L S h a e
  split at e
  · exact ra_Ru.weak (nX11_untrue_112_ok N _ _ _ e) trivial
  · cases e) ra_k0_ok)))
set_option maxRecDepth 100000 in
theorem nX11_untrue_39_ok (N : Nat) : ∀ n a0 a2 a3 a4 a5 a6 h r, nX11_untrue_39 N n a0 a2 a3 a4 a5 a6 h = some r → ra_Ru 4 mX11_untrue 39 [some (.ref a0), none, some (.int a2), some (.int a3), some (.ref a4), some (.int a5), some (.int a6)] [] h (ra_oI r) := by
  intro n
  induction n with
  | zero => intro a0 a2 a3 a4 a5 a6 h r e; cases e
  | succ n ih =>
    intro a0 a2 a3 a4 a5 a6 h r e
    exact ra_sound (by omega) rfl ra_rI_ok (kX11_untrue_39_ok N (nX11_untrue_39 N n) ih) (fun m av h h1 e => (ra_c0_ok (ro := ra_oV)) m av h h1 e) (fun m av h x h1 e => (tIX11_untrue_ok N) m av h (x, h1) e) (fun m av h x h1 e => (ra_c0_ok (ro := ra_oJ)) m av h (x, h1) e) (fun m av h x h1 e => (ra_c0_ok (ro := ra_oR)) m av h (x, h1) e) (fun m av h x h1 e => (ra_c0_ok (ro := ra_oN)) m av h (x, h1) e) (fun m av h x h1 e => (ra_c0_ok (ro := ra_oF)) m av h (x, h1) e) 32 lX11_untrue_39 _ _ _ _ lX11_untrue_39_ck (show ra_run ra_rI (kX11_untrue_39 N (nX11_untrue_39 N n)) ra_c0 (tIX11_untrue N) ra_c0 ra_c0 ra_c0 ra_c0 32 lX11_untrue_39 [some (.ref a0), none, some (.int a2), some (.int a3), some (.ref a4), some (.int a5), some (.int a6)] [] h = some r from e) _ _ rfl
def lX11_untrue_0 : List ra_I := [(0, .aload_n 0, 1, 0, 0, 0, 0, 0, []),
  (1, .getfield 10, 3, 11, 0, 2, 0, 0, []),
  (4, .iload_n 1, 1, 1, 0, 0, 0, 0, []),
  (5, .invokevirtual 176, 3, 82, 2, 1, 0, 0, []),
  (8, .ifCond .eq (12), 3, 20, 0, 0, 0, 0, []),
  (11, .iload_n 2, 1, 2, 0, 0, 0, 0, []),
  (12, .ifCond .lt (8), 3, 20, 0, 0, 0, 0, []),
  (15, .iload_n 2, 1, 2, 0, 0, 0, 0, []),
  (16, .iconst (1), 1, 0, 0, 0, (1), 0, []),
  (17, .if_icmp .le (5), 3, 22, 0, 0, 0, 0, []),
  (22, .aload_n 0, 1, 0, 0, 0, 0, 0, []),
  (23, .getfield 10, 3, 11, 0, 2, 0, 0, []),
  (26, .getfield 169, 3, 2, 4, 2, 0, 0, []),
  (29, .iload_n 1, 1, 1, 0, 0, 0, 0, []),
  (30, .aaload, 1, 0, 0, 0, 0, 0, []),
  (31, .astore 4, 2, 4, 0, 0, 0, 0, []),
  (33, .iconst (0), 1, 0, 0, 0, (0), 0, []),
  (34, .istore 5, 2, 5, 0, 0, 0, 0, []),
  (36, .iconst (0), 1, 0, 0, 0, (0), 0, []),
  (37, .istore 6, 2, 6, 0, 0, 0, 0, [])]
set_option maxRecDepth 100000 in
theorem lX11_untrue_0_ck : lX11_untrue_0.all (ra_ck mX11_untrue 11) = true := by decide +kernel
def nX11_untrue_0 (N : Nat) (a0 : Nat) (a1 : Int32) (a2 : Int32) (a3 : Int32) (h : ra_H) : Option (Int32 × ra_H) :=
  (ra_fR h 11 a0 0).bind fun x1 =>
  (fX2_hasScheme N x1 a1 h).bind fun q2 =>
  if q2.1 = 0 then
    nX11_untrue_20 N q2.2
  else
    if a2 < 0 then
      nX11_untrue_20 N q2.2
    else
      if a2 ≤ ((1 : Int32)) then
        (ra_fR q2.2 11 a0 0).bind fun x3 =>
        (ra_fR q2.2 2 x3 4).bind fun x4 =>
        (ra_aN q2.2 x4 a1).bind fun r5 => match r5 with
        | none =>
          none
        | some x6 =>
          nX11_untrue_39 N N a0 a2 a3 x6 ((0 : Int32)) ((0 : Int32)) q2.2
      else
        nX11_untrue_20 N q2.2
def kX11_untrue_0 (N : Nat) : Nat → List (Option Value) → List Value → ra_H → Option (Int32 × ra_H) := (ra_k1 20 (fun L S h => match L, S with
  | [_, _, _, _, _, _, _], [] => nX11_untrue_20 N h
  | _, _ => none) (ra_k1 39 (fun L S h => match L, S with
  | [some (.ref a0), _, some (.int a2), some (.int a3), some (.ref a4), some (.int a5), some (.int a6)], [] => nX11_untrue_39 N N a0 a2 a3 a4 a5 a6 h
  | _, _ => none) ra_k0))
theorem kX11_untrue_0_ok (N : Nat) : ra_kok 4 mX11_untrue ra_oI (kX11_untrue_0 N) := (ra_k1_ok (by
  intro L S h a e
  split at e
  · exact ra_Ru.weak (nX11_untrue_20_ok N _ _ e) trivial
  · cases e) (ra_k1_ok (by
  intro L S h a e
  split at e
  · exact ra_Ru.weak (nX11_untrue_39_ok N N _ _ _ _ _ _ _ _ e) ⟨rfl, ⟨rfl, ⟨rfl, ⟨rfl, ⟨rfl, ⟨rfl, trivial⟩⟩⟩⟩⟩⟩
  · cases e) ra_k0_ok))
set_option maxRecDepth 100000 in
theorem nX11_untrue_0_ok (N : Nat) (a0 : Nat) (a1 : Int32) (a2 : Int32) (a3 : Int32) (h : ra_H) (r : (Int32 × ra_H)) (e : nX11_untrue_0 N a0 a1 a2 a3 h = some r) : ra_Ru 4 mX11_untrue 0 [some (.ref a0), some (.int a1), some (.int a2), some (.int a3), none, none, none] [] h (ra_oI r) :=
  ra_sound (by omega) rfl ra_rI_ok (kX11_untrue_0_ok N) (fun m av h h1 e => (ra_c0_ok (ro := ra_oV)) m av h h1 e) (fun m av h x h1 e => (tIX11_untrue_ok N) m av h (x, h1) e) (fun m av h x h1 e => (ra_c0_ok (ro := ra_oJ)) m av h (x, h1) e) (fun m av h x h1 e => (ra_c0_ok (ro := ra_oR)) m av h (x, h1) e) (fun m av h x h1 e => (ra_c0_ok (ro := ra_oN)) m av h (x, h1) e) (fun m av h x h1 e => (ra_c0_ok (ro := ra_oF)) m av h (x, h1) e) 21 lX11_untrue_0 _ _ _ _ lX11_untrue_0_ck (show ra_run ra_rI (kX11_untrue_0 N) ra_c0 (tIX11_untrue N) ra_c0 ra_c0 ra_c0 ra_c0 21 lX11_untrue_0 [some (.ref a0), some (.int a1), some (.int a2), some (.int a3), none, none, none] [] h = some r from e) _ _ rfl
def fX11_untrue (N : Nat) (p0 : Nat) (p1 : Int32) (p2 : Int32) (p3 : Int32) (h : ra_H) : Option (Int32 × ra_H) := match ra_isOb h p0 11 with
  | true => nX11_untrue_0 N p0 p1 p2 p3 h
  | false => none
set_option maxRecDepth 100000 in
theorem mtX11_untrue : ra_MT[171]? = some (mX11_untrue, 1, 3, (1, 1), (5, 215), (5, 216)) := rfl
theorem fX11_untrue_co (N : Nat) (p0 : Nat) (p1 : Int32) (p2 : Int32) (p3 : Int32) (h : ra_H) (r : (Int32 × ra_H)) (e : fX11_untrue N p0 p1 p2 p3 h = some r) (D : Nat) (hD : 5 ≤ D) : ra_CO D 171 [.ref p0, .int p1, .int p2, .int p3] h (ra_oI r).1 (ra_oI r).2 := by
  have hw : ra_nw2 [.ref p0, .int p1, .int p2, .int p3] ≤ 7 := Nat.le_of_ble_eq_true rfl
  have hdb : ∀ v ∈ ([.ref p0, .int p1, .int p2, .int p3] : List Value), ∀ x, v ≠ .double x := by
    intro v hv x hx
    simp [hx] at hv
  unfold fX11_untrue at e
  split at e
  · rename_i ho
    have e1 := e
    exact ⟨4, _, mtX11_untrue, hD, ra_ev_of (by decide) hdb hw trivial (ra_Ru.weak (nX11_untrue_0_ok N p0 p1 p2 p3 h _ e1) ⟨rfl, ⟨rfl, ⟨rfl, ⟨rfl, trivial⟩⟩⟩⟩), (fun _ => ⟨_, _, rfl, ra_rcv_of ho (by decide) rfl⟩), (fun h => absurd h (by decide))⟩
  · cases e
/-! RedMarks.wanting(III)I -/
def mX11_wanting : ra_M := (yX11_wanting, cX11_wanting, 7, (some .int))
def tIX11_wanting (N : Nat) : Nat → List Value → ra_H → Option (Int32 × ra_H) := (ra_c1 150 (fun av h => match av with
  | [.ref z0, .int z1] => fX2_booksWithLetter N z0 z1 h
  | _ => none) (ra_c1 151 (fun av h => match av with
  | [.ref z0, .int z1] => fX2_greatestNumber N z0 z1 h
  | _ => none) (ra_c1 152 (fun av h => match av with
  | [.ref z0, .int z1, .int z2] => fX2_hasMark N z0 z1 z2 h
  | _ => none) ra_c0)))
theorem tIX11_wanting_ok (N : Nat) : ra_cok 3 ra_oI (tIX11_wanting N) := (ra_c1_ok (by
  intro av h a e
  split at e
  · exact fX2_booksWithLetter_co N _ _ _ _ e 3 (by omega)
  · cases e) (ra_c1_ok (by
  intro av h a e
  split at e
  · exact fX2_greatestNumber_co N _ _ _ _ e 3 (by omega)
  · cases e) (ra_c1_ok (by
  intro av h a e
  split at e
  · exact fX2_hasMark_co N _ _ _ _ _ e 3 (by omega)
  · cases e) ra_c0_ok)))
def lX11_wanting_19 : List ra_I := [(19, .iconst (-1), 1, 0, 0, 0, (-1), 0, []),
  (20, .ireturn, 1, 0, 0, 0, 0, 0, [])]
set_option maxRecDepth 100000 in
theorem lX11_wanting_19_ck : lX11_wanting_19.all (ra_ck mX11_wanting 11) = true := by decide +kernel
def nX11_wanting_19 (N : Nat) (h : ra_H) : Option (Int32 × ra_H) :=
  some ((-1 : Int32), h)
def kX11_wanting_19 (N : Nat) : Nat → List (Option Value) → List Value → ra_H → Option (Int32 × ra_H) := ra_k0
theorem kX11_wanting_19_ok (N : Nat) : ra_kok 3 mX11_wanting ra_oI (kX11_wanting_19 N) := ra_k0_ok
set_option maxRecDepth 100000 in
theorem nX11_wanting_19_ok (N : Nat) (h : ra_H) (r : (Int32 × ra_H)) (e : nX11_wanting_19 N h = some r) : ra_Ru 3 mX11_wanting 19 [none, none, none, none, none, none, none] [] h (ra_oI r) :=
  ra_sound (by omega) rfl ra_rI_ok (kX11_wanting_19_ok N) (fun m av h h1 e => (ra_c0_ok (ro := ra_oV)) m av h h1 e) (fun m av h x h1 e => (tIX11_wanting_ok N) m av h (x, h1) e) (fun m av h x h1 e => (ra_c0_ok (ro := ra_oJ)) m av h (x, h1) e) (fun m av h x h1 e => (ra_c0_ok (ro := ra_oR)) m av h (x, h1) e) (fun m av h x h1 e => (ra_c0_ok (ro := ra_oN)) m av h (x, h1) e) (fun m av h x h1 e => (ra_c0_ok (ro := ra_oF)) m av h (x, h1) e) 3 lX11_wanting_19 _ _ _ _ lX11_wanting_19_ck (show ra_run ra_rI (kX11_wanting_19 N) ra_c0 (tIX11_wanting N) ra_c0 ra_c0 ra_c0 ra_c0 3 lX11_wanting_19 [none, none, none, none, none, none, none] [] h = some r from e) _ _ rfl
def lX11_wanting_88 : List ra_I := [(88, .iinc 6 (1), 3, 6, 0, 0, (1), 0, []),
  (91, .goto (-40), 3, 51, 0, 0, 0, 0, [])]
set_option maxRecDepth 100000 in
theorem lX11_wanting_88_ck : lX11_wanting_88.all (ra_ck mX11_wanting 11) = true := by decide +kernel
def nX11_wanting_88 (N : Nat) (c51 : Nat → Int32 → Int32 → Int32 → Int32 → Int32 → Int32 → ra_H → Option (Int32 × ra_H)) (a0 : Nat) (a1 : Int32) (a2 : Int32) (a3 : Int32) (a4 : Int32) (a5 : Int32) (a6 : Int32) (h : ra_H) : Option (Int32 × ra_H) :=
  let y1 := a6 + (1 : Int32)
  c51 a0 a1 a2 a3 a4 a5 y1 h
def kX11_wanting_88 (N : Nat) (c51 : Nat → Int32 → Int32 → Int32 → Int32 → Int32 → Int32 → ra_H → Option (Int32 × ra_H)) : Nat → List (Option Value) → List Value → ra_H → Option (Int32 × ra_H) := (ra_k1 51 (fun L S h => match L, S with
  | [some (.ref a0), some (.int a1), some (.int a2), some (.int a3), some (.int a4), some (.int a5), some (.int a6)], [] => c51 a0 a1 a2 a3 a4 a5 a6 h
  | _, _ => none) ra_k0)
theorem kX11_wanting_88_ok (N : Nat) (c51 : Nat → Int32 → Int32 → Int32 → Int32 → Int32 → Int32 → ra_H → Option (Int32 × ra_H)) (hc51 : ∀ a0 a1 a2 a3 a4 a5 a6 h r, c51 a0 a1 a2 a3 a4 a5 a6 h = some r → ra_Ru 3 mX11_wanting 51 [some (.ref a0), some (.int a1), some (.int a2), some (.int a3), some (.int a4), some (.int a5), some (.int a6)] [] h (ra_oI r)) : ra_kok 3 mX11_wanting ra_oI (kX11_wanting_88 N c51) := (ra_k1_ok (by
  intro L S h a e
  split at e
  · exact ra_Ru.weak (hc51 _ _ _ _ _ _ _ _ _ e) ⟨rfl, ⟨rfl, ⟨rfl, ⟨rfl, ⟨rfl, ⟨rfl, ⟨rfl, trivial⟩⟩⟩⟩⟩⟩⟩
  · cases e) ra_k0_ok)
set_option maxRecDepth 100000 in
theorem nX11_wanting_88_ok (N : Nat) (c51 : Nat → Int32 → Int32 → Int32 → Int32 → Int32 → Int32 → ra_H → Option (Int32 × ra_H)) (hc51 : ∀ a0 a1 a2 a3 a4 a5 a6 h r, c51 a0 a1 a2 a3 a4 a5 a6 h = some r → ra_Ru 3 mX11_wanting 51 [some (.ref a0), some (.int a1), some (.int a2), some (.int a3), some (.int a4), some (.int a5), some (.int a6)] [] h (ra_oI r)) (a0 : Nat) (a1 : Int32) (a2 : Int32) (a3 : Int32) (a4 : Int32) (a5 : Int32) (a6 : Int32) (h : ra_H) (r : (Int32 × ra_H)) (e : nX11_wanting_88 N c51 a0 a1 a2 a3 a4 a5 a6 h = some r) : ra_Ru 3 mX11_wanting 88 [some (.ref a0), some (.int a1), some (.int a2), some (.int a3), some (.int a4), some (.int a5), some (.int a6)] [] h (ra_oI r) :=
  ra_sound (by omega) rfl ra_rI_ok (kX11_wanting_88_ok N c51 hc51) (fun m av h h1 e => (ra_c0_ok (ro := ra_oV)) m av h h1 e) (fun m av h x h1 e => (tIX11_wanting_ok N) m av h (x, h1) e) (fun m av h x h1 e => (ra_c0_ok (ro := ra_oJ)) m av h (x, h1) e) (fun m av h x h1 e => (ra_c0_ok (ro := ra_oR)) m av h (x, h1) e) (fun m av h x h1 e => (ra_c0_ok (ro := ra_oN)) m av h (x, h1) e) (fun m av h x h1 e => (ra_c0_ok (ro := ra_oF)) m av h (x, h1) e) 3 lX11_wanting_88 _ _ _ _ lX11_wanting_88_ck (show ra_run ra_rI (kX11_wanting_88 N c51) ra_c0 (tIX11_wanting N) ra_c0 ra_c0 ra_c0 ra_c0 3 lX11_wanting_88 [some (.ref a0), some (.int a1), some (.int a2), some (.int a3), some (.int a4), some (.int a5), some (.int a6)] [] h = some r from e) _ _ rfl
def lX11_wanting_85 : List ra_I := [(85, .iinc 5 (1), 3, 5, 0, 0, (1), 0, [])]
set_option maxRecDepth 100000 in
theorem lX11_wanting_85_ck : lX11_wanting_85.all (ra_ck mX11_wanting 11) = true := by decide +kernel
def nX11_wanting_85 (N : Nat) (c51 : Nat → Int32 → Int32 → Int32 → Int32 → Int32 → Int32 → ra_H → Option (Int32 × ra_H)) (a0 : Nat) (a1 : Int32) (a2 : Int32) (a3 : Int32) (a4 : Int32) (a5 : Int32) (a6 : Int32) (h : ra_H) : Option (Int32 × ra_H) :=
  let y1 := a5 + (1 : Int32)
  nX11_wanting_88 N c51 a0 a1 a2 a3 a4 y1 a6 h
def kX11_wanting_85 (N : Nat) (c51 : Nat → Int32 → Int32 → Int32 → Int32 → Int32 → Int32 → ra_H → Option (Int32 × ra_H)) : Nat → List (Option Value) → List Value → ra_H → Option (Int32 × ra_H) := (ra_k1 88 (fun L S h => match L, S with
  | [some (.ref a0), some (.int a1), some (.int a2), some (.int a3), some (.int a4), some (.int a5), some (.int a6)], [] => nX11_wanting_88 N c51 a0 a1 a2 a3 a4 a5 a6 h
  | _, _ => none) ra_k0)
theorem kX11_wanting_85_ok (N : Nat) (c51 : Nat → Int32 → Int32 → Int32 → Int32 → Int32 → Int32 → ra_H → Option (Int32 × ra_H)) (hc51 : ∀ a0 a1 a2 a3 a4 a5 a6 h r, c51 a0 a1 a2 a3 a4 a5 a6 h = some r → ra_Ru 3 mX11_wanting 51 [some (.ref a0), some (.int a1), some (.int a2), some (.int a3), some (.int a4), some (.int a5), some (.int a6)] [] h (ra_oI r)) : ra_kok 3 mX11_wanting ra_oI (kX11_wanting_85 N c51) := (ra_k1_ok (by
  intro L S h a e
  split at e
  · exact ra_Ru.weak (nX11_wanting_88_ok N c51 hc51 _ _ _ _ _ _ _ _ _ e) ⟨rfl, ⟨rfl, ⟨rfl, ⟨rfl, ⟨rfl, ⟨rfl, ⟨rfl, trivial⟩⟩⟩⟩⟩⟩⟩
  · cases e) ra_k0_ok)
set_option maxRecDepth 100000 in
theorem nX11_wanting_85_ok (N : Nat) (c51 : Nat → Int32 → Int32 → Int32 → Int32 → Int32 → Int32 → ra_H → Option (Int32 × ra_H)) (hc51 : ∀ a0 a1 a2 a3 a4 a5 a6 h r, c51 a0 a1 a2 a3 a4 a5 a6 h = some r → ra_Ru 3 mX11_wanting 51 [some (.ref a0), some (.int a1), some (.int a2), some (.int a3), some (.int a4), some (.int a5), some (.int a6)] [] h (ra_oI r)) (a0 : Nat) (a1 : Int32) (a2 : Int32) (a3 : Int32) (a4 : Int32) (a5 : Int32) (a6 : Int32) (h : ra_H) (r : (Int32 × ra_H)) (e : nX11_wanting_85 N c51 a0 a1 a2 a3 a4 a5 a6 h = some r) : ra_Ru 3 mX11_wanting 85 [some (.ref a0), some (.int a1), some (.int a2), some (.int a3), some (.int a4), some (.int a5), some (.int a6)] [] h (ra_oI r) :=
  ra_sound (by omega) rfl ra_rI_ok (kX11_wanting_85_ok N c51 hc51) (fun m av h h1 e => (ra_c0_ok (ro := ra_oV)) m av h h1 e) (fun m av h x h1 e => (tIX11_wanting_ok N) m av h (x, h1) e) (fun m av h x h1 e => (ra_c0_ok (ro := ra_oJ)) m av h (x, h1) e) (fun m av h x h1 e => (ra_c0_ok (ro := ra_oR)) m av h (x, h1) e) (fun m av h x h1 e => (ra_c0_ok (ro := ra_oN)) m av h (x, h1) e) (fun m av h x h1 e => (ra_c0_ok (ro := ra_oF)) m av h (x, h1) e) 2 lX11_wanting_85 _ _ _ _ lX11_wanting_85_ck (show ra_run ra_rI (kX11_wanting_85 N c51) ra_c0 (tIX11_wanting N) ra_c0 ra_c0 ra_c0 ra_c0 2 lX11_wanting_85 [some (.ref a0), some (.int a1), some (.int a2), some (.int a3), some (.int a4), some (.int a5), some (.int a6)] [] h = some r from e) _ _ rfl
def lX11_wanting_104 : List ra_I := [(104, .ireturn, 1, 0, 0, 0, 0, 0, [])]
set_option maxRecDepth 100000 in
theorem lX11_wanting_104_ck : lX11_wanting_104.all (ra_ck mX11_wanting 11) = true := by decide +kernel
def nX11_wanting_104 (N : Nat) (b0 : Int32) (h : ra_H) : Option (Int32 × ra_H) :=
  some (b0, h)
def kX11_wanting_104 (N : Nat) : Nat → List (Option Value) → List Value → ra_H → Option (Int32 × ra_H) := ra_k0
theorem kX11_wanting_104_ok (N : Nat) : ra_kok 3 mX11_wanting ra_oI (kX11_wanting_104 N) := ra_k0_ok
set_option maxRecDepth 100000 in
theorem nX11_wanting_104_ok (N : Nat) (b0 : Int32) (h : ra_H) (r : (Int32 × ra_H)) (e : nX11_wanting_104 N b0 h = some r) : ra_Ru 3 mX11_wanting 104 [none, none, none, none, none, none, none] [.int b0] h (ra_oI r) :=
  ra_sound (by omega) rfl ra_rI_ok (kX11_wanting_104_ok N) (fun m av h h1 e => (ra_c0_ok (ro := ra_oV)) m av h h1 e) (fun m av h x h1 e => (tIX11_wanting_ok N) m av h (x, h1) e) (fun m av h x h1 e => (ra_c0_ok (ro := ra_oJ)) m av h (x, h1) e) (fun m av h x h1 e => (ra_c0_ok (ro := ra_oR)) m av h (x, h1) e) (fun m av h x h1 e => (ra_c0_ok (ro := ra_oN)) m av h (x, h1) e) (fun m av h x h1 e => (ra_c0_ok (ro := ra_oF)) m av h (x, h1) e) 2 lX11_wanting_104 _ _ _ _ lX11_wanting_104_ck (show ra_run ra_rI (kX11_wanting_104 N) ra_c0 (tIX11_wanting N) ra_c0 ra_c0 ra_c0 ra_c0 2 lX11_wanting_104 [none, none, none, none, none, none, none] [.int b0] h = some r from e) _ _ rfl
def lX11_wanting_51 : List ra_I := [(51, .iload 6, 2, 6, 0, 0, 0, 0, []),
  (53, .iload 4, 2, 4, 0, 0, 0, 0, []),
  (55, .if_icmp .ge (39), 3, 94, 0, 0, 0, 0, []),
  (58, .aload_n 0, 1, 0, 0, 0, 0, 0, []),
  (59, .getfield 10, 3, 11, 0, 2, 0, 0, []),
  (62, .iload_n 1, 1, 1, 0, 0, 0, 0, []),
  (63, .iload 6, 2, 6, 0, 0, 0, 0, []),
  (65, .invokevirtual 258, 3, 152, 3, 1, 0, 0, []),
  (68, .ifCond .ne (20), 3, 88, 0, 0, 0, 0, []),
  (71, .iload_n 2, 1, 2, 0, 0, 0, 0, []),
  (72, .iconst (1), 1, 0, 0, 0, (1), 0, []),
  (73, .if_icmp .ne (12), 3, 85, 0, 0, 0, 0, []),
  (76, .iload 5, 2, 5, 0, 0, 0, 0, []),
  (78, .iload_n 3, 1, 3, 0, 0, 0, 0, []),
  (79, .if_icmp .ne (6), 3, 85, 0, 0, 0, 0, []),
  (82, .iload 6, 2, 6, 0, 0, 0, 0, []),
  (84, .ireturn, 1, 0, 0, 0, 0, 0, []),
  (94, .iload_n 2, 1, 2, 0, 0, 0, 0, []),
  (95, .ifCond .ne (8), 3, 103, 0, 0, 0, 0, []),
  (98, .iload 5, 2, 5, 0, 0, 0, 0, []),
  (100, .goto (4), 3, 104, 0, 0, 0, 0, []),
  (103, .iconst (-1), 1, 0, 0, 0, (-1), 0, [])]
set_option maxRecDepth 100000 in
theorem lX11_wanting_51_ck : lX11_wanting_51.all (ra_ck mX11_wanting 11) = true := by decide +kernel
def nX11_wanting_51 (N : Nat) : Nat → Nat → Int32 → Int32 → Int32 → Int32 → Int32 → Int32 → ra_H → Option (Int32 × ra_H)
  | 0, _, _, _, _, _, _, _, _ => none
  | n + 1, a0, a1, a2, a3, a4, a5, a6, h =>
  if a6 < a4 then
    (ra_fR h 11 a0 0).bind fun x1 =>
    (fX2_hasMark N x1 a1 a6 h).bind fun q2 =>
    if q2.1 = 0 then
      if a2 = ((1 : Int32)) then
        if a5 = a3 then
          some (a6, q2.2)
        else
          nX11_wanting_85 N (nX11_wanting_51 N n) a0 a1 a2 a3 a4 a5 a6 q2.2
      else
        nX11_wanting_85 N (nX11_wanting_51 N n) a0 a1 a2 a3 a4 a5 a6 q2.2
    else
      nX11_wanting_88 N (nX11_wanting_51 N n) a0 a1 a2 a3 a4 a5 a6 q2.2
  else
    if a2 = 0 then
      nX11_wanting_104 N a5 h
    else
      nX11_wanting_104 N ((-1 : Int32)) h
def kX11_wanting_51 (N : Nat) (cs : Nat → Int32 → Int32 → Int32 → Int32 → Int32 → Int32 → ra_H → Option (Int32 × ra_H)) : Nat → List (Option Value) → List Value → ra_H → Option (Int32 × ra_H) := (ra_k1 85 (fun L S h => match L, S with
  | [some (.ref a0), some (.int a1), some (.int a2), some (.int a3), some (.int a4), some (.int a5), some (.int a6)], [] => nX11_wanting_85 N cs a0 a1 a2 a3 a4 a5 a6 h
  | _, _ => none) (ra_k1 88 (fun L S h => match L, S with
  | [some (.ref a0), some (.int a1), some (.int a2), some (.int a3), some (.int a4), some (.int a5), some (.int a6)], [] => nX11_wanting_88 N cs a0 a1 a2 a3 a4 a5 a6 h
  | _, _ => none) (ra_k1 104 (fun L S h => match L, S with
  | [_, _, _, _, _, _, _], [.int b0] => nX11_wanting_104 N b0 h
  | _, _ => none) ra_k0)))
theorem kX11_wanting_51_ok (N : Nat) (cs : Nat → Int32 → Int32 → Int32 → Int32 → Int32 → Int32 → ra_H → Option (Int32 × ra_H)) (hcs : ∀ a0 a1 a2 a3 a4 a5 a6 h r, cs a0 a1 a2 a3 a4 a5 a6 h = some r → ra_Ru 3 mX11_wanting 51 [some (.ref a0), some (.int a1), some (.int a2), some (.int a3), some (.int a4), some (.int a5), some (.int a6)] [] h (ra_oI r)) : ra_kok 3 mX11_wanting ra_oI (kX11_wanting_51 N cs) := (ra_k1_ok (by
  intro L S h a e
  split at e
  · exact ra_Ru.weak (nX11_wanting_85_ok N cs hcs _ _ _ _ _ _ _ _ _ e) ⟨rfl, ⟨rfl, ⟨rfl, ⟨rfl, ⟨rfl, ⟨rfl, ⟨rfl, trivial⟩⟩⟩⟩⟩⟩⟩
  · cases e) (ra_k1_ok (by
  intro L S h a e
  split at e
  · exact ra_Ru.weak (nX11_wanting_88_ok N cs hcs _ _ _ _ _ _ _ _ _ e) ⟨rfl, ⟨rfl, ⟨rfl, ⟨rfl, ⟨rfl, ⟨rfl, ⟨rfl, trivial⟩⟩⟩⟩⟩⟩⟩
  · cases e) (ra_k1_ok (by
  intro L S h a e
  split at e
  · exact ra_Ru.weak (nX11_wanting_104_ok N _ _ _ e) trivial
  · cases e) ra_k0_ok)))
set_option maxRecDepth 100000 in
theorem nX11_wanting_51_ok (N : Nat) : ∀ n a0 a1 a2 a3 a4 a5 a6 h r, nX11_wanting_51 N n a0 a1 a2 a3 a4 a5 a6 h = some r → ra_Ru 3 mX11_wanting 51 [some (.ref a0), some (.int a1), some (.int a2), some (.int a3), some (.int a4), some (.int a5), some (.int a6)] [] h (ra_oI r) := by
  intro n
  induction n with
  | zero => intro a0 a1 a2 a3 a4 a5 a6 h r e; cases e
  | succ n ih =>
    intro a0 a1 a2 a3 a4 a5 a6 h r e
    exact ra_sound (by omega) rfl ra_rI_ok (kX11_wanting_51_ok N (nX11_wanting_51 N n) ih) (fun m av h h1 e => (ra_c0_ok (ro := ra_oV)) m av h h1 e) (fun m av h x h1 e => (tIX11_wanting_ok N) m av h (x, h1) e) (fun m av h x h1 e => (ra_c0_ok (ro := ra_oJ)) m av h (x, h1) e) (fun m av h x h1 e => (ra_c0_ok (ro := ra_oR)) m av h (x, h1) e) (fun m av h x h1 e => (ra_c0_ok (ro := ra_oN)) m av h (x, h1) e) (fun m av h x h1 e => (ra_c0_ok (ro := ra_oF)) m av h (x, h1) e) 23 lX11_wanting_51 _ _ _ _ lX11_wanting_51_ck (show ra_run ra_rI (kX11_wanting_51 N (nX11_wanting_51 N n)) ra_c0 (tIX11_wanting N) ra_c0 ra_c0 ra_c0 ra_c0 23 lX11_wanting_51 [some (.ref a0), some (.int a1), some (.int a2), some (.int a3), some (.int a4), some (.int a5), some (.int a6)] [] h = some r from e) _ _ rfl
def lX11_wanting_0 : List ra_I := [(0, .iload_n 1, 1, 1, 0, 0, 0, 0, []),
  (1, .ifCond .lt (18), 3, 19, 0, 0, 0, 0, []),
  (4, .iload_n 1, 1, 1, 0, 0, 0, 0, []),
  (5, .bipush (9), 2, 0, 0, 0, (9), 0, []),
  (7, .if_icmp .ge (12), 3, 19, 0, 0, 0, 0, []),
  (10, .iload_n 2, 1, 2, 0, 0, 0, 0, []),
  (11, .ifCond .lt (8), 3, 19, 0, 0, 0, 0, []),
  (14, .iload_n 2, 1, 2, 0, 0, 0, 0, []),
  (15, .iconst (2), 1, 0, 0, 0, (2), 0, []),
  (16, .if_icmp .le (5), 3, 21, 0, 0, 0, 0, []),
  (21, .iload_n 2, 1, 2, 0, 0, 0, 0, []),
  (22, .iconst (2), 1, 0, 0, 0, (2), 0, []),
  (23, .if_icmp .ne (12), 3, 35, 0, 0, 0, 0, []),
  (26, .aload_n 0, 1, 0, 0, 0, 0, 0, []),
  (27, .getfield 10, 3, 11, 0, 2, 0, 0, []),
  (30, .iload_n 1, 1, 1, 0, 0, 0, 0, []),
  (31, .invokevirtual 252, 3, 150, 2, 1, 0, 0, []),
  (34, .ireturn, 1, 0, 0, 0, 0, 0, []),
  (35, .aload_n 0, 1, 0, 0, 0, 0, 0, []),
  (36, .getfield 10, 3, 11, 0, 2, 0, 0, []),
  (39, .iload_n 1, 1, 1, 0, 0, 0, 0, []),
  (40, .invokevirtual 255, 3, 151, 2, 1, 0, 0, []),
  (43, .istore 4, 2, 4, 0, 0, 0, 0, []),
  (45, .iconst (0), 1, 0, 0, 0, (0), 0, []),
  (46, .istore 5, 2, 5, 0, 0, 0, 0, []),
  (48, .iconst (1), 1, 0, 0, 0, (1), 0, []),
  (49, .istore 6, 2, 6, 0, 0, 0, 0, [])]
set_option maxRecDepth 100000 in
theorem lX11_wanting_0_ck : lX11_wanting_0.all (ra_ck mX11_wanting 11) = true := by decide +kernel
def nX11_wanting_0 (N : Nat) (a0 : Nat) (a1 : Int32) (a2 : Int32) (a3 : Int32) (h : ra_H) : Option (Int32 × ra_H) :=
  if a1 < 0 then
    nX11_wanting_19 N h
  else
    if a1 < ((9 : Int32)) then
      if a2 < 0 then
        nX11_wanting_19 N h
      else
        if a2 ≤ ((2 : Int32)) then
          if a2 = ((2 : Int32)) then
            (ra_fR h 11 a0 0).bind fun x3 =>
            (fX2_booksWithLetter N x3 a1 h).bind fun q4 =>
            some (q4.1, q4.2)
          else
            (ra_fR h 11 a0 0).bind fun x1 =>
            (fX2_greatestNumber N x1 a1 h).bind fun q2 =>
            nX11_wanting_51 N N a0 a1 a2 a3 q2.1 ((0 : Int32)) ((1 : Int32)) q2.2
        else
          nX11_wanting_19 N h
    else
      nX11_wanting_19 N h
def kX11_wanting_0 (N : Nat) : Nat → List (Option Value) → List Value → ra_H → Option (Int32 × ra_H) := (ra_k1 19 (fun L S h => match L, S with
  | [_, _, _, _, _, _, _], [] => nX11_wanting_19 N h
  | _, _ => none) (ra_k1 51 (fun L S h => match L, S with
  | [some (.ref a0), some (.int a1), some (.int a2), some (.int a3), some (.int a4), some (.int a5), some (.int a6)], [] => nX11_wanting_51 N N a0 a1 a2 a3 a4 a5 a6 h
  | _, _ => none) ra_k0))
theorem kX11_wanting_0_ok (N : Nat) : ra_kok 3 mX11_wanting ra_oI (kX11_wanting_0 N) := (ra_k1_ok (by
  intro L S h a e
  split at e
  · exact ra_Ru.weak (nX11_wanting_19_ok N _ _ e) trivial
  · cases e) (ra_k1_ok (by
  intro L S h a e
  split at e
  · exact ra_Ru.weak (nX11_wanting_51_ok N N _ _ _ _ _ _ _ _ _ e) ⟨rfl, ⟨rfl, ⟨rfl, ⟨rfl, ⟨rfl, ⟨rfl, ⟨rfl, trivial⟩⟩⟩⟩⟩⟩⟩
  · cases e) ra_k0_ok))
set_option maxRecDepth 100000 in
theorem nX11_wanting_0_ok (N : Nat) (a0 : Nat) (a1 : Int32) (a2 : Int32) (a3 : Int32) (h : ra_H) (r : (Int32 × ra_H)) (e : nX11_wanting_0 N a0 a1 a2 a3 h = some r) : ra_Ru 3 mX11_wanting 0 [some (.ref a0), some (.int a1), some (.int a2), some (.int a3), none, none, none] [] h (ra_oI r) :=
  ra_sound (by omega) rfl ra_rI_ok (kX11_wanting_0_ok N) (fun m av h h1 e => (ra_c0_ok (ro := ra_oV)) m av h h1 e) (fun m av h x h1 e => (tIX11_wanting_ok N) m av h (x, h1) e) (fun m av h x h1 e => (ra_c0_ok (ro := ra_oJ)) m av h (x, h1) e) (fun m av h x h1 e => (ra_c0_ok (ro := ra_oR)) m av h (x, h1) e) (fun m av h x h1 e => (ra_c0_ok (ro := ra_oN)) m av h (x, h1) e) (fun m av h x h1 e => (ra_c0_ok (ro := ra_oF)) m av h (x, h1) e) 28 lX11_wanting_0 _ _ _ _ lX11_wanting_0_ck (show ra_run ra_rI (kX11_wanting_0 N) ra_c0 (tIX11_wanting N) ra_c0 ra_c0 ra_c0 ra_c0 28 lX11_wanting_0 [some (.ref a0), some (.int a1), some (.int a2), some (.int a3), none, none, none] [] h = some r from e) _ _ rfl
def fX11_wanting (N : Nat) (p0 : Nat) (p1 : Int32) (p2 : Int32) (p3 : Int32) (h : ra_H) : Option (Int32 × ra_H) := match ra_isOb h p0 11 with
  | true => nX11_wanting_0 N p0 p1 p2 p3 h
  | false => none
set_option maxRecDepth 100000 in
theorem mtX11_wanting : ra_MT[149]? = some (mX11_wanting, 1, 3, (1, 1), (5, 120), (5, 121)) := rfl
theorem fX11_wanting_co (N : Nat) (p0 : Nat) (p1 : Int32) (p2 : Int32) (p3 : Int32) (h : ra_H) (r : (Int32 × ra_H)) (e : fX11_wanting N p0 p1 p2 p3 h = some r) (D : Nat) (hD : 4 ≤ D) : ra_CO D 149 [.ref p0, .int p1, .int p2, .int p3] h (ra_oI r).1 (ra_oI r).2 := by
  have hw : ra_nw2 [.ref p0, .int p1, .int p2, .int p3] ≤ 7 := Nat.le_of_ble_eq_true rfl
  have hdb : ∀ v ∈ ([.ref p0, .int p1, .int p2, .int p3] : List Value), ∀ x, v ≠ .double x := by
    intro v hv x hx
    simp [hx] at hv
  unfold fX11_wanting at e
  split at e
  · rename_i ho
    have e1 := e
    exact ⟨3, _, mtX11_wanting, hD, ra_ev_of (by decide) hdb hw trivial (ra_Ru.weak (nX11_wanting_0_ok N p0 p1 p2 p3 h _ e1) ⟨rfl, ⟨rfl, ⟨rfl, ⟨rfl, trivial⟩⟩⟩⟩), (fun _ => ⟨_, _, rfl, ra_rcv_of ho (by decide) rfl⟩), (fun h => absurd h (by decide))⟩
  · cases e
/-! RedMarks.went(I)I -/
def mX11_went : ra_M := (yX11_went, cX11_went, 2, (some .int))
def tIX11_went (N : Nat) : Nat → List Value → ra_H → Option (Int32 × ra_H) := (ra_c1 195 (fun av h => match av with
  | [.ref z0, .int z1] => fX9_houseOf N z0 z1 h
  | _ => none) ra_c0)
theorem tIX11_went_ok (N : Nat) : ra_cok 2 ra_oI (tIX11_went N) := (ra_c1_ok (by
  intro av h a e
  split at e
  · exact fX9_houseOf_co N _ _ _ _ e 2 (by omega)
  · cases e) ra_c0_ok)
def lX11_went_0 : List ra_I := [(0, .aload_n 0, 1, 0, 0, 0, 0, 0, []),
  (1, .getfield 75, 3, 11, 8, 2, 0, 0, []),
  (4, .iload_n 1, 1, 1, 0, 0, 0, 0, []),
  (5, .invokevirtual 367, 3, 195, 2, 1, 0, 0, []),
  (8, .ireturn, 1, 0, 0, 0, 0, 0, [])]
set_option maxRecDepth 100000 in
theorem lX11_went_0_ck : lX11_went_0.all (ra_ck mX11_went 11) = true := by decide +kernel
def nX11_went_0 (N : Nat) (a0 : Nat) (a1 : Int32) (h : ra_H) : Option (Int32 × ra_H) :=
  (ra_fR h 11 a0 8).bind fun x1 =>
  (fX9_houseOf N x1 a1 h).bind fun q2 =>
  some (q2.1, q2.2)
def kX11_went_0 (N : Nat) : Nat → List (Option Value) → List Value → ra_H → Option (Int32 × ra_H) := ra_k0
theorem kX11_went_0_ok (N : Nat) : ra_kok 2 mX11_went ra_oI (kX11_went_0 N) := ra_k0_ok
set_option maxRecDepth 100000 in
theorem nX11_went_0_ok (N : Nat) (a0 : Nat) (a1 : Int32) (h : ra_H) (r : (Int32 × ra_H)) (e : nX11_went_0 N a0 a1 h = some r) : ra_Ru 2 mX11_went 0 [some (.ref a0), some (.int a1)] [] h (ra_oI r) :=
  ra_sound (by omega) rfl ra_rI_ok (kX11_went_0_ok N) (fun m av h h1 e => (ra_c0_ok (ro := ra_oV)) m av h h1 e) (fun m av h x h1 e => (tIX11_went_ok N) m av h (x, h1) e) (fun m av h x h1 e => (ra_c0_ok (ro := ra_oJ)) m av h (x, h1) e) (fun m av h x h1 e => (ra_c0_ok (ro := ra_oR)) m av h (x, h1) e) (fun m av h x h1 e => (ra_c0_ok (ro := ra_oN)) m av h (x, h1) e) (fun m av h x h1 e => (ra_c0_ok (ro := ra_oF)) m av h (x, h1) e) 6 lX11_went_0 _ _ _ _ lX11_went_0_ck (show ra_run ra_rI (kX11_went_0 N) ra_c0 (tIX11_went N) ra_c0 ra_c0 ra_c0 ra_c0 6 lX11_went_0 [some (.ref a0), some (.int a1)] [] h = some r from e) _ _ rfl
def fX11_went (N : Nat) (p0 : Nat) (p1 : Int32) (h : ra_H) : Option (Int32 × ra_H) := match ra_isOb h p0 11 with
  | true => nX11_went_0 N p0 p1 h
  | false => none
set_option maxRecDepth 100000 in
theorem mtX11_went : ra_MT[194]? = some (mX11_went, 1, 1, (1, 1), (6, 71), (6, 72)) := rfl
theorem fX11_went_co (N : Nat) (p0 : Nat) (p1 : Int32) (h : ra_H) (r : (Int32 × ra_H)) (e : fX11_went N p0 p1 h = some r) (D : Nat) (hD : 3 ≤ D) : ra_CO D 194 [.ref p0, .int p1] h (ra_oI r).1 (ra_oI r).2 := by
  have hw : ra_nw2 [.ref p0, .int p1] ≤ 2 := Nat.le_of_ble_eq_true rfl
  have hdb : ∀ v ∈ ([.ref p0, .int p1] : List Value), ∀ x, v ≠ .double x := by
    intro v hv x hx
    simp [hx] at hv
  unfold fX11_went at e
  split at e
  · rename_i ho
    have e1 := e
    exact ⟨2, _, mtX11_went, hD, ra_ev_of (by decide) hdb hw trivial (ra_Ru.weak (nX11_went_0_ok N p0 p1 h _ e1) ⟨rfl, ⟨rfl, trivial⟩⟩), (fun _ => ⟨_, _, rfl, ra_rcv_of ho (by decide) rfl⟩), (fun h => absurd h (by decide))⟩
  · cases e
