/-! RedMarks$Asker.<init>()V -/
def mX0_init : ra_M := (yX0_init, cX0_init, 1, none)
def lX0_init_0 : List ra_I := [(0, .aload_n 0, 1, 0, 0, 0, 0, 0, []),
  (1, .invokespecial 1, 3, 0, 0, 23, 0, 0, []),
  (4, .aload_n 0, 1, 0, 0, 0, 0, 0, []),
  (5, .bipush (64), 2, 0, 0, 0, (64), 0, []),
  (7, .newarray .int, 2, 0, 0, 0, 0, 0, []),
  (9, .putfield 9, 3, 0, 0, 2, 0, 0, []),
  (12, .return_, 1, 0, 0, 0, 0, 0, [])]
set_option maxRecDepth 100000 in
theorem lX0_init_0_ck : lX0_init_0.all (ra_ck mX0_init 0) = true := by decide +kernel
def nX0_init_0 (N : Nat) (a0 : Nat) (h : ra_H) : Option ra_H :=
  if ((64 : Int32)) < 0 ∨ 50000000 < (Int32.toNatClampNeg ((64 : Int32))) then none else
  let h1 := ra_mk h (ra_na 0 (Int32.toNatClampNeg ((64 : Int32)))) (Int32.toNatClampNeg ((64 : Int32)))
  (ra_fW h1 0 a0 0 (.ref h.2.1)).bind fun h2 =>
  some h2
def kX0_init_0 (N : Nat) : Nat → List (Option Value) → List Value → ra_H → Option ra_H := ra_k0
theorem kX0_init_0_ok (N : Nat) : ra_kok 1 mX0_init ra_oV (kX0_init_0 N) := ra_k0_ok
set_option maxRecDepth 100000 in
theorem nX0_init_0_ok (N : Nat) (a0 : Nat) (h : ra_H) (r : ra_H) (e : nX0_init_0 N a0 h = some r) : ra_Ru 1 mX0_init 0 [some (.ref a0)] [] h (ra_oV r) :=
  ra_sound (by omega) rfl ra_rV_ok (kX0_init_0_ok N) (fun m av h h1 e => (ra_c0_ok (ro := ra_oV)) m av h h1 e) (fun m av h x h1 e => (ra_c0_ok (ro := ra_oI)) m av h (x, h1) e) (fun m av h x h1 e => (ra_c0_ok (ro := ra_oJ)) m av h (x, h1) e) (fun m av h x h1 e => (ra_c0_ok (ro := ra_oR)) m av h (x, h1) e) (fun m av h x h1 e => (ra_c0_ok (ro := ra_oN)) m av h (x, h1) e) (fun m av h x h1 e => (ra_c0_ok (ro := ra_oF)) m av h (x, h1) e) 8 lX0_init_0 _ _ _ _ lX0_init_0_ck (show ra_run ra_rV (kX0_init_0 N) ra_c0 ra_c0 ra_c0 ra_c0 ra_c0 ra_c0 8 lX0_init_0 [some (.ref a0)] [] h = some r from e) _ _ rfl
def fX0_init (N : Nat) (p0 : Nat) (h : ra_H) : Option ra_H := nX0_init_0 N p0 h
set_option maxRecDepth 100000 in
theorem mtX0_init : ra_MT[5]? = some (mX0_init, 2, 0, (1, 5), (1, 188), (0, 0)) := rfl
theorem fX0_init_co (N : Nat) (p0 : Nat) (h : ra_H) (r : ra_H) (e : fX0_init N p0 h = some r) (D : Nat) (hD : 2 ≤ D) : ra_CO D 5 [.ref p0] h (ra_oV r).1 (ra_oV r).2 := by
  have hw : ra_nw2 [.ref p0] ≤ 1 := Nat.le_of_ble_eq_true rfl
  have hdb : ∀ v ∈ ([.ref p0] : List Value), ∀ x, v ≠ .double x := by
    intro v hv x hx
    simp [hx] at hv
  unfold fX0_init at e
  have e1 := e
  exact ⟨1, _, mtX0_init, hD, ra_ev_of (by decide) hdb hw trivial (ra_Ru.weak (nX0_init_0_ok N p0 h _ e1) ⟨rfl, trivial⟩), (fun h => absurd h (by decide)), (fun _ => ⟨_, _, rfl⟩)⟩
/-! RedMarks$Standing.<init>()V -/
def mX7_init : ra_M := (yX7_init, cX7_init, 1, none)
def lX7_init_0 : List ra_I := [(0, .aload_n 0, 1, 0, 0, 0, 0, 0, []),
  (1, .invokespecial 3, 3, 0, 0, 23, 0, 0, []),
  (4, .aload_n 0, 1, 0, 0, 0, 0, 0, []),
  (5, .bipush (40), 2, 0, 0, 0, (40), 0, []),
  (7, .newarray .int, 2, 0, 0, 0, 0, 0, []),
  (9, .putfield 9, 3, 7, 0, 2, 0, 0, []),
  (12, .aload_n 0, 1, 0, 0, 0, 0, 0, []),
  (13, .bipush (40), 2, 0, 0, 0, (40), 0, []),
  (15, .newarray .int, 2, 0, 0, 0, 0, 0, []),
  (17, .putfield 15, 3, 7, 1, 2, 0, 0, []),
  (20, .aload_n 0, 1, 0, 0, 0, 0, 0, []),
  (21, .bipush (54), 2, 0, 0, 0, (54), 0, []),
  (23, .newarray .int, 2, 0, 0, 0, 0, 0, []),
  (25, .putfield 18, 3, 7, 2, 2, 0, 0, []),
  (28, .return_, 1, 0, 0, 0, 0, 0, [])]
set_option maxRecDepth 100000 in
theorem lX7_init_0_ck : lX7_init_0.all (ra_ck mX7_init 7) = true := by decide +kernel
def nX7_init_0 (N : Nat) (a0 : Nat) (h : ra_H) : Option ra_H :=
  if ((40 : Int32)) < 0 ∨ 50000000 < (Int32.toNatClampNeg ((40 : Int32))) then none else
  let h1 := ra_mk h (ra_na 0 (Int32.toNatClampNeg ((40 : Int32)))) (Int32.toNatClampNeg ((40 : Int32)))
  (ra_fW h1 7 a0 0 (.ref h.2.1)).bind fun h2 =>
  if ((40 : Int32)) < 0 ∨ 50000000 < (Int32.toNatClampNeg ((40 : Int32))) then none else
  let h3 := ra_mk h2 (ra_na 0 (Int32.toNatClampNeg ((40 : Int32)))) (Int32.toNatClampNeg ((40 : Int32)))
  (ra_fW h3 7 a0 1 (.ref h2.2.1)).bind fun h4 =>
  if ((54 : Int32)) < 0 ∨ 50000000 < (Int32.toNatClampNeg ((54 : Int32))) then none else
  let h5 := ra_mk h4 (ra_na 0 (Int32.toNatClampNeg ((54 : Int32)))) (Int32.toNatClampNeg ((54 : Int32)))
  (ra_fW h5 7 a0 2 (.ref h4.2.1)).bind fun h6 =>
  some h6
def kX7_init_0 (N : Nat) : Nat → List (Option Value) → List Value → ra_H → Option ra_H := ra_k0
theorem kX7_init_0_ok (N : Nat) : ra_kok 1 mX7_init ra_oV (kX7_init_0 N) := ra_k0_ok
set_option maxRecDepth 100000 in
theorem nX7_init_0_ok (N : Nat) (a0 : Nat) (h : ra_H) (r : ra_H) (e : nX7_init_0 N a0 h = some r) : ra_Ru 1 mX7_init 0 [some (.ref a0)] [] h (ra_oV r) :=
  ra_sound (by omega) rfl ra_rV_ok (kX7_init_0_ok N) (fun m av h h1 e => (ra_c0_ok (ro := ra_oV)) m av h h1 e) (fun m av h x h1 e => (ra_c0_ok (ro := ra_oI)) m av h (x, h1) e) (fun m av h x h1 e => (ra_c0_ok (ro := ra_oJ)) m av h (x, h1) e) (fun m av h x h1 e => (ra_c0_ok (ro := ra_oR)) m av h (x, h1) e) (fun m av h x h1 e => (ra_c0_ok (ro := ra_oN)) m av h (x, h1) e) (fun m av h x h1 e => (ra_c0_ok (ro := ra_oF)) m av h (x, h1) e) 16 lX7_init_0 _ _ _ _ lX7_init_0_ck (show ra_run ra_rV (kX7_init_0 N) ra_c0 ra_c0 ra_c0 ra_c0 ra_c0 ra_c0 16 lX7_init_0 [some (.ref a0)] [] h = some r from e) _ _ rfl
def fX7_init (N : Nat) (p0 : Nat) (h : ra_H) : Option ra_H := nX7_init_0 N p0 h
set_option maxRecDepth 100000 in
theorem mtX7_init : ra_MT[7]? = some (mX7_init, 2, 0, (1, 7), (1, 204), (0, 0)) := rfl
theorem fX7_init_co (N : Nat) (p0 : Nat) (h : ra_H) (r : ra_H) (e : fX7_init N p0 h = some r) (D : Nat) (hD : 2 ≤ D) : ra_CO D 7 [.ref p0] h (ra_oV r).1 (ra_oV r).2 := by
  have hw : ra_nw2 [.ref p0] ≤ 1 := Nat.le_of_ble_eq_true rfl
  have hdb : ∀ v ∈ ([.ref p0] : List Value), ∀ x, v ≠ .double x := by
    intro v hv x hx
    simp [hx] at hv
  unfold fX7_init at e
  have e1 := e
  exact ⟨1, _, mtX7_init, hD, ra_ev_of (by decide) hdb hw trivial (ra_Ru.weak (nX7_init_0_ok N p0 h _ e1) ⟨rfl, trivial⟩), (fun h => absurd h (by decide)), (fun _ => ⟨_, _, rfl⟩)⟩
/-! RedMarks$Worths.<init>()V -/
def mX10_init : ra_M := (yX10_init, cX10_init, 1, none)
def lX10_init_0 : List ra_I := [(0, .aload_n 0, 1, 0, 0, 0, 0, 0, []),
  (1, .invokespecial 3, 3, 0, 0, 23, 0, 0, []),
  (4, .aload_n 0, 1, 0, 0, 0, 0, 0, []),
  (5, .bipush (13), 2, 0, 0, 0, (13), 0, []),
  (7, .newarray .int, 2, 0, 0, 0, 0, 0, []),
  (9, .putfield 9, 3, 10, 0, 2, 0, 0, []),
  (12, .aload_n 0, 1, 0, 0, 0, 0, 0, []),
  (13, .bipush (54), 2, 0, 0, 0, (54), 0, []),
  (15, .newarray .int, 2, 0, 0, 0, 0, 0, []),
  (17, .putfield 15, 3, 10, 1, 2, 0, 0, []),
  (20, .aload_n 0, 1, 0, 0, 0, 0, 0, []),
  (21, .bipush (54), 2, 0, 0, 0, (54), 0, []),
  (23, .newarray .int, 2, 0, 0, 0, 0, 0, []),
  (25, .putfield 18, 3, 10, 2, 2, 0, 0, []),
  (28, .aload_n 0, 1, 0, 0, 0, 0, 0, []),
  (29, .bipush (54), 2, 0, 0, 0, (54), 0, []),
  (31, .newarray .int, 2, 0, 0, 0, 0, 0, []),
  (33, .putfield 21, 3, 10, 3, 2, 0, 0, []),
  (36, .aload_n 0, 1, 0, 0, 0, 0, 0, []),
  (37, .bipush (54), 2, 0, 0, 0, (54), 0, []),
  (39, .newarray .int, 2, 0, 0, 0, 0, 0, []),
  (41, .putfield 24, 3, 10, 4, 2, 0, 0, []),
  (44, .aload_n 0, 1, 0, 0, 0, 0, 0, []),
  (45, .bipush (54), 2, 0, 0, 0, (54), 0, []),
  (47, .newarray .boolean, 2, 2, 0, 0, 0, 0, []),
  (49, .putfield 27, 3, 10, 5, 2, 0, 0, []),
  (52, .aload_n 0, 1, 0, 0, 0, 0, 0, []),
  (53, .sipush (702), 3, 0, 0, 0, (702), 0, []),
  (56, .newarray .int, 2, 0, 0, 0, 0, 0, []),
  (58, .putfield 31, 3, 10, 6, 2, 0, 0, []),
  (61, .return_, 1, 0, 0, 0, 0, 0, [])]
set_option maxRecDepth 100000 in
theorem lX10_init_0_ck : lX10_init_0.all (ra_ck mX10_init 10) = true := by decide +kernel
def nX10_init_0 (N : Nat) (a0 : Nat) (h : ra_H) : Option ra_H :=
  if ((13 : Int32)) < 0 ∨ 50000000 < (Int32.toNatClampNeg ((13 : Int32))) then none else
  let h1 := ra_mk h (ra_na 0 (Int32.toNatClampNeg ((13 : Int32)))) (Int32.toNatClampNeg ((13 : Int32)))
  (ra_fW h1 10 a0 0 (.ref h.2.1)).bind fun h2 =>
  if ((54 : Int32)) < 0 ∨ 50000000 < (Int32.toNatClampNeg ((54 : Int32))) then none else
  let h3 := ra_mk h2 (ra_na 0 (Int32.toNatClampNeg ((54 : Int32)))) (Int32.toNatClampNeg ((54 : Int32)))
  (ra_fW h3 10 a0 1 (.ref h2.2.1)).bind fun h4 =>
  if ((54 : Int32)) < 0 ∨ 50000000 < (Int32.toNatClampNeg ((54 : Int32))) then none else
  let h5 := ra_mk h4 (ra_na 0 (Int32.toNatClampNeg ((54 : Int32)))) (Int32.toNatClampNeg ((54 : Int32)))
  (ra_fW h5 10 a0 2 (.ref h4.2.1)).bind fun h6 =>
  if ((54 : Int32)) < 0 ∨ 50000000 < (Int32.toNatClampNeg ((54 : Int32))) then none else
  let h7 := ra_mk h6 (ra_na 0 (Int32.toNatClampNeg ((54 : Int32)))) (Int32.toNatClampNeg ((54 : Int32)))
  (ra_fW h7 10 a0 3 (.ref h6.2.1)).bind fun h8 =>
  if ((54 : Int32)) < 0 ∨ 50000000 < (Int32.toNatClampNeg ((54 : Int32))) then none else
  let h9 := ra_mk h8 (ra_na 0 (Int32.toNatClampNeg ((54 : Int32)))) (Int32.toNatClampNeg ((54 : Int32)))
  (ra_fW h9 10 a0 4 (.ref h8.2.1)).bind fun h10 =>
  if ((54 : Int32)) < 0 ∨ 50000000 < (Int32.toNatClampNeg ((54 : Int32))) then none else
  let h11 := ra_mk h10 (ra_na 2 (Int32.toNatClampNeg ((54 : Int32)))) (Int32.toNatClampNeg ((54 : Int32)))
  (ra_fW h11 10 a0 5 (.ref h10.2.1)).bind fun h12 =>
  if ((702 : Int32)) < 0 ∨ 50000000 < (Int32.toNatClampNeg ((702 : Int32))) then none else
  let h13 := ra_mk h12 (ra_na 0 (Int32.toNatClampNeg ((702 : Int32)))) (Int32.toNatClampNeg ((702 : Int32)))
  (ra_fW h13 10 a0 6 (.ref h12.2.1)).bind fun h14 =>
  some h14
def kX10_init_0 (N : Nat) : Nat → List (Option Value) → List Value → ra_H → Option ra_H := ra_k0
theorem kX10_init_0_ok (N : Nat) : ra_kok 1 mX10_init ra_oV (kX10_init_0 N) := ra_k0_ok
set_option maxRecDepth 100000 in
theorem nX10_init_0_ok (N : Nat) (a0 : Nat) (h : ra_H) (r : ra_H) (e : nX10_init_0 N a0 h = some r) : ra_Ru 1 mX10_init 0 [some (.ref a0)] [] h (ra_oV r) :=
  ra_sound (by omega) rfl ra_rV_ok (kX10_init_0_ok N) (fun m av h h1 e => (ra_c0_ok (ro := ra_oV)) m av h h1 e) (fun m av h x h1 e => (ra_c0_ok (ro := ra_oI)) m av h (x, h1) e) (fun m av h x h1 e => (ra_c0_ok (ro := ra_oJ)) m av h (x, h1) e) (fun m av h x h1 e => (ra_c0_ok (ro := ra_oR)) m av h (x, h1) e) (fun m av h x h1 e => (ra_c0_ok (ro := ra_oN)) m av h (x, h1) e) (fun m av h x h1 e => (ra_c0_ok (ro := ra_oF)) m av h (x, h1) e) 32 lX10_init_0 _ _ _ _ lX10_init_0_ck (show ra_run ra_rV (kX10_init_0 N) ra_c0 ra_c0 ra_c0 ra_c0 ra_c0 ra_c0 32 lX10_init_0 [some (.ref a0)] [] h = some r from e) _ _ rfl
def fX10_init (N : Nat) (p0 : Nat) (h : ra_H) : Option ra_H := nX10_init_0 N p0 h
set_option maxRecDepth 100000 in
theorem mtX10_init : ra_MT[10]? = some (mX10_init, 2, 0, (1, 10), (2, 53), (0, 0)) := rfl
theorem fX10_init_co (N : Nat) (p0 : Nat) (h : ra_H) (r : ra_H) (e : fX10_init N p0 h = some r) (D : Nat) (hD : 2 ≤ D) : ra_CO D 10 [.ref p0] h (ra_oV r).1 (ra_oV r).2 := by
  have hw : ra_nw2 [.ref p0] ≤ 1 := Nat.le_of_ble_eq_true rfl
  have hdb : ∀ v ∈ ([.ref p0] : List Value), ∀ x, v ≠ .double x := by
    intro v hv x hx
    simp [hx] at hv
  unfold fX10_init at e
  have e1 := e
  exact ⟨1, _, mtX10_init, hD, ra_ev_of (by decide) hdb hw trivial (ra_Ru.weak (nX10_init_0_ok N p0 h _ e1) ⟨rfl, trivial⟩), (fun h => absurd h (by decide)), (fun _ => ⟨_, _, rfl⟩)⟩
/-! RedMarks$World.<init>()V -/
def mX9_init : ra_M := (yX9_init, cX9_init, 1, none)
def tVX9_init (N : Nat) : Nat → List Value → ra_H → Option ra_H := (ra_c1 3 (fun av h => match av with
  | [.ref z0, .int z1] => fJ7_fill_53178 N z0 z1 h
  | _ => none) ra_c0)
theorem tVX9_init_ok (N : Nat) : ra_cok 2 ra_oV (tVX9_init N) := (ra_c1_ok (by
  intro av h a e
  split at e
  · exact fJ7_fill_53178_co N _ _ _ _ e 2 (by omega)
  · cases e) ra_c0_ok)
def lX9_init_0 : List ra_I := [(0, .aload_n 0, 1, 0, 0, 0, 0, 0, []),
  (1, .invokespecial 3, 3, 0, 0, 23, 0, 0, []),
  (4, .aload_n 0, 1, 0, 0, 0, 0, 0, []),
  (5, .bipush (40), 2, 0, 0, 0, (40), 0, []),
  (7, .newarray .int, 2, 0, 0, 0, 0, 0, []),
  (9, .putfield 9, 3, 9, 0, 2, 0, 0, []),
  (12, .aload_n 0, 1, 0, 0, 0, 0, 0, []),
  (13, .getfield 9, 3, 9, 0, 2, 0, 0, []),
  (16, .iconst (-1), 1, 0, 0, 0, (-1), 0, []),
  (17, .invokestatic 15, 3, 3, 2, 0, 0, 0, []),
  (20, .return_, 1, 0, 0, 0, 0, 0, [])]
set_option maxRecDepth 100000 in
theorem lX9_init_0_ck : lX9_init_0.all (ra_ck mX9_init 9) = true := by decide +kernel
def nX9_init_0 (N : Nat) (a0 : Nat) (h : ra_H) : Option ra_H :=
  if ((40 : Int32)) < 0 ∨ 50000000 < (Int32.toNatClampNeg ((40 : Int32))) then none else
  let h1 := ra_mk h (ra_na 0 (Int32.toNatClampNeg ((40 : Int32)))) (Int32.toNatClampNeg ((40 : Int32)))
  (ra_fW h1 9 a0 0 (.ref h.2.1)).bind fun h2 =>
  (ra_fR h2 9 a0 0).bind fun x3 =>
  (fJ7_fill_53178 N x3 ((-1 : Int32)) h2).bind fun h4 =>
  some h4
def kX9_init_0 (N : Nat) : Nat → List (Option Value) → List Value → ra_H → Option ra_H := ra_k0
theorem kX9_init_0_ok (N : Nat) : ra_kok 2 mX9_init ra_oV (kX9_init_0 N) := ra_k0_ok
set_option maxRecDepth 100000 in
theorem nX9_init_0_ok (N : Nat) (a0 : Nat) (h : ra_H) (r : ra_H) (e : nX9_init_0 N a0 h = some r) : ra_Ru 2 mX9_init 0 [some (.ref a0)] [] h (ra_oV r) :=
  ra_sound (by omega) rfl ra_rV_ok (kX9_init_0_ok N) (fun m av h h1 e => (tVX9_init_ok N) m av h h1 e) (fun m av h x h1 e => (ra_c0_ok (ro := ra_oI)) m av h (x, h1) e) (fun m av h x h1 e => (ra_c0_ok (ro := ra_oJ)) m av h (x, h1) e) (fun m av h x h1 e => (ra_c0_ok (ro := ra_oR)) m av h (x, h1) e) (fun m av h x h1 e => (ra_c0_ok (ro := ra_oN)) m av h (x, h1) e) (fun m av h x h1 e => (ra_c0_ok (ro := ra_oF)) m av h (x, h1) e) 12 lX9_init_0 _ _ _ _ lX9_init_0_ck (show ra_run ra_rV (kX9_init_0 N) (tVX9_init N) ra_c0 ra_c0 ra_c0 ra_c0 ra_c0 12 lX9_init_0 [some (.ref a0)] [] h = some r from e) _ _ rfl
def fX9_init (N : Nat) (p0 : Nat) (h : ra_H) : Option ra_H := nX9_init_0 N p0 h
set_option maxRecDepth 100000 in
theorem mtX9_init : ra_MT[12]? = some (mX9_init, 2, 0, (1, 12), (2, 175), (0, 0)) := rfl
theorem fX9_init_co (N : Nat) (p0 : Nat) (h : ra_H) (r : ra_H) (e : fX9_init N p0 h = some r) (D : Nat) (hD : 3 ≤ D) : ra_CO D 12 [.ref p0] h (ra_oV r).1 (ra_oV r).2 := by
  have hw : ra_nw2 [.ref p0] ≤ 1 := Nat.le_of_ble_eq_true rfl
  have hdb : ∀ v ∈ ([.ref p0] : List Value), ∀ x, v ≠ .double x := by
    intro v hv x hx
    simp [hx] at hv
  unfold fX9_init at e
  have e1 := e
  exact ⟨2, _, mtX9_init, hD, ra_ev_of (by decide) hdb hw trivial (ra_Ru.weak (nX9_init_0_ok N p0 h _ e1) ⟨rfl, trivial⟩), (fun h => absurd h (by decide)), (fun _ => ⟨_, _, rfl⟩)⟩
/-! RedMarks$Asker.reckon(III)I -/
def mX0_reckon : ra_M := (yX0_reckon, cX0_reckon, 5, (some .int))
def lX0_reckon_92 : List ra_I := [(92, .ireturn, 1, 0, 0, 0, 0, 0, [])]
set_option maxRecDepth 100000 in
theorem lX0_reckon_92_ck : lX0_reckon_92.all (ra_ck mX0_reckon 0) = true := by decide +kernel
def nX0_reckon_92 (N : Nat) (b0 : Int32) (h : ra_H) : Option (Int32 × ra_H) :=
  some (b0, h)
def kX0_reckon_92 (N : Nat) : Nat → List (Option Value) → List Value → ra_H → Option (Int32 × ra_H) := ra_k0
theorem kX0_reckon_92_ok (N : Nat) : ra_kok 1 mX0_reckon ra_oI (kX0_reckon_92 N) := ra_k0_ok
set_option maxRecDepth 100000 in
theorem nX0_reckon_92_ok (N : Nat) (b0 : Int32) (h : ra_H) (r : (Int32 × ra_H)) (e : nX0_reckon_92 N b0 h = some r) : ra_Ru 1 mX0_reckon 92 [none, none, none, none, none] [.int b0] h (ra_oI r) :=
  ra_sound (by omega) rfl ra_rI_ok (kX0_reckon_92_ok N) (fun m av h h1 e => (ra_c0_ok (ro := ra_oV)) m av h h1 e) (fun m av h x h1 e => (ra_c0_ok (ro := ra_oI)) m av h (x, h1) e) (fun m av h x h1 e => (ra_c0_ok (ro := ra_oJ)) m av h (x, h1) e) (fun m av h x h1 e => (ra_c0_ok (ro := ra_oR)) m av h (x, h1) e) (fun m av h x h1 e => (ra_c0_ok (ro := ra_oN)) m av h (x, h1) e) (fun m av h x h1 e => (ra_c0_ok (ro := ra_oF)) m av h (x, h1) e) 2 lX0_reckon_92 _ _ _ _ lX0_reckon_92_ck (show ra_run ra_rI (kX0_reckon_92 N) ra_c0 ra_c0 ra_c0 ra_c0 ra_c0 ra_c0 2 lX0_reckon_92 [none, none, none, none, none] [.int b0] h = some r from e) _ _ rfl
def lX0_reckon_103 : List ra_I := [(103, .ireturn, 1, 0, 0, 0, 0, 0, [])]
set_option maxRecDepth 100000 in
theorem lX0_reckon_103_ck : lX0_reckon_103.all (ra_ck mX0_reckon 0) = true := by decide +kernel
def nX0_reckon_103 (N : Nat) (b0 : Int32) (h : ra_H) : Option (Int32 × ra_H) :=
  some (b0, h)
def kX0_reckon_103 (N : Nat) : Nat → List (Option Value) → List Value → ra_H → Option (Int32 × ra_H) := ra_k0
theorem kX0_reckon_103_ok (N : Nat) : ra_kok 1 mX0_reckon ra_oI (kX0_reckon_103 N) := ra_k0_ok
set_option maxRecDepth 100000 in
theorem nX0_reckon_103_ok (N : Nat) (b0 : Int32) (h : ra_H) (r : (Int32 × ra_H)) (e : nX0_reckon_103 N b0 h = some r) : ra_Ru 1 mX0_reckon 103 [none, none, none, none, none] [.int b0] h (ra_oI r) :=
  ra_sound (by omega) rfl ra_rI_ok (kX0_reckon_103_ok N) (fun m av h h1 e => (ra_c0_ok (ro := ra_oV)) m av h h1 e) (fun m av h x h1 e => (ra_c0_ok (ro := ra_oI)) m av h (x, h1) e) (fun m av h x h1 e => (ra_c0_ok (ro := ra_oJ)) m av h (x, h1) e) (fun m av h x h1 e => (ra_c0_ok (ro := ra_oR)) m av h (x, h1) e) (fun m av h x h1 e => (ra_c0_ok (ro := ra_oN)) m av h (x, h1) e) (fun m av h x h1 e => (ra_c0_ok (ro := ra_oF)) m av h (x, h1) e) 2 lX0_reckon_103 _ _ _ _ lX0_reckon_103_ck (show ra_run ra_rI (kX0_reckon_103 N) ra_c0 ra_c0 ra_c0 ra_c0 ra_c0 ra_c0 2 lX0_reckon_103 [none, none, none, none, none] [.int b0] h = some r from e) _ _ rfl
def lX0_reckon_114 : List ra_I := [(114, .ireturn, 1, 0, 0, 0, 0, 0, [])]
set_option maxRecDepth 100000 in
theorem lX0_reckon_114_ck : lX0_reckon_114.all (ra_ck mX0_reckon 0) = true := by decide +kernel
def nX0_reckon_114 (N : Nat) (b0 : Int32) (h : ra_H) : Option (Int32 × ra_H) :=
  some (b0, h)
def kX0_reckon_114 (N : Nat) : Nat → List (Option Value) → List Value → ra_H → Option (Int32 × ra_H) := ra_k0
theorem kX0_reckon_114_ok (N : Nat) : ra_kok 1 mX0_reckon ra_oI (kX0_reckon_114 N) := ra_k0_ok
set_option maxRecDepth 100000 in
theorem nX0_reckon_114_ok (N : Nat) (b0 : Int32) (h : ra_H) (r : (Int32 × ra_H)) (e : nX0_reckon_114 N b0 h = some r) : ra_Ru 1 mX0_reckon 114 [none, none, none, none, none] [.int b0] h (ra_oI r) :=
  ra_sound (by omega) rfl ra_rI_ok (kX0_reckon_114_ok N) (fun m av h h1 e => (ra_c0_ok (ro := ra_oV)) m av h h1 e) (fun m av h x h1 e => (ra_c0_ok (ro := ra_oI)) m av h (x, h1) e) (fun m av h x h1 e => (ra_c0_ok (ro := ra_oJ)) m av h (x, h1) e) (fun m av h x h1 e => (ra_c0_ok (ro := ra_oR)) m av h (x, h1) e) (fun m av h x h1 e => (ra_c0_ok (ro := ra_oN)) m av h (x, h1) e) (fun m av h x h1 e => (ra_c0_ok (ro := ra_oF)) m av h (x, h1) e) 2 lX0_reckon_114 _ _ _ _ lX0_reckon_114_ck (show ra_run ra_rI (kX0_reckon_114 N) ra_c0 ra_c0 ra_c0 ra_c0 ra_c0 ra_c0 2 lX0_reckon_114 [none, none, none, none, none] [.int b0] h = some r from e) _ _ rfl
def lX0_reckon_138 : List ra_I := [(138, .ireturn, 1, 0, 0, 0, 0, 0, [])]
set_option maxRecDepth 100000 in
theorem lX0_reckon_138_ck : lX0_reckon_138.all (ra_ck mX0_reckon 0) = true := by decide +kernel
def nX0_reckon_138 (N : Nat) (b0 : Int32) (h : ra_H) : Option (Int32 × ra_H) :=
  some (b0, h)
def kX0_reckon_138 (N : Nat) : Nat → List (Option Value) → List Value → ra_H → Option (Int32 × ra_H) := ra_k0
theorem kX0_reckon_138_ok (N : Nat) : ra_kok 1 mX0_reckon ra_oI (kX0_reckon_138 N) := ra_k0_ok
set_option maxRecDepth 100000 in
theorem nX0_reckon_138_ok (N : Nat) (b0 : Int32) (h : ra_H) (r : (Int32 × ra_H)) (e : nX0_reckon_138 N b0 h = some r) : ra_Ru 1 mX0_reckon 138 [none, none, none, none, none] [.int b0] h (ra_oI r) :=
  ra_sound (by omega) rfl ra_rI_ok (kX0_reckon_138_ok N) (fun m av h h1 e => (ra_c0_ok (ro := ra_oV)) m av h h1 e) (fun m av h x h1 e => (ra_c0_ok (ro := ra_oI)) m av h (x, h1) e) (fun m av h x h1 e => (ra_c0_ok (ro := ra_oJ)) m av h (x, h1) e) (fun m av h x h1 e => (ra_c0_ok (ro := ra_oR)) m av h (x, h1) e) (fun m av h x h1 e => (ra_c0_ok (ro := ra_oN)) m av h (x, h1) e) (fun m av h x h1 e => (ra_c0_ok (ro := ra_oF)) m av h (x, h1) e) 2 lX0_reckon_138 _ _ _ _ lX0_reckon_138_ck (show ra_run ra_rI (kX0_reckon_138 N) ra_c0 ra_c0 ra_c0 ra_c0 ra_c0 ra_c0 2 lX0_reckon_138 [none, none, none, none, none] [.int b0] h = some r from e) _ _ rfl
def lX0_reckon_131 : List ra_I := [(131, .ldc 13, 2, 0, 0, 0, (-2000000000), 0, []),
  (133, .goto (5), 3, 138, 0, 0, 0, 0, [])]
set_option maxRecDepth 100000 in
theorem lX0_reckon_131_ck : lX0_reckon_131.all (ra_ck mX0_reckon 0) = true := by decide +kernel
def nX0_reckon_131 (N : Nat) (h : ra_H) : Option (Int32 × ra_H) :=
  nX0_reckon_138 N ((-2000000000 : Int32)) h
def kX0_reckon_131 (N : Nat) : Nat → List (Option Value) → List Value → ra_H → Option (Int32 × ra_H) := (ra_k1 138 (fun L S h => match L, S with
  | [_, _, _, _, _], [.int b0] => nX0_reckon_138 N b0 h
  | _, _ => none) ra_k0)
theorem kX0_reckon_131_ok (N : Nat) : ra_kok 1 mX0_reckon ra_oI (kX0_reckon_131 N) := (ra_k1_ok (by
  intro L S h a e
  split at e
  · exact ra_Ru.weak (nX0_reckon_138_ok N _ _ _ e) trivial
  · cases e) ra_k0_ok)
set_option maxRecDepth 100000 in
theorem nX0_reckon_131_ok (N : Nat) (h : ra_H) (r : (Int32 × ra_H)) (e : nX0_reckon_131 N h = some r) : ra_Ru 1 mX0_reckon 131 [none, none, none, none, none] [] h (ra_oI r) :=
  ra_sound (by omega) rfl ra_rI_ok (kX0_reckon_131_ok N) (fun m av h h1 e => (ra_c0_ok (ro := ra_oV)) m av h h1 e) (fun m av h x h1 e => (ra_c0_ok (ro := ra_oI)) m av h (x, h1) e) (fun m av h x h1 e => (ra_c0_ok (ro := ra_oJ)) m av h (x, h1) e) (fun m av h x h1 e => (ra_c0_ok (ro := ra_oR)) m av h (x, h1) e) (fun m av h x h1 e => (ra_c0_ok (ro := ra_oN)) m av h (x, h1) e) (fun m av h x h1 e => (ra_c0_ok (ro := ra_oF)) m av h (x, h1) e) 3 lX0_reckon_131 _ _ _ _ lX0_reckon_131_ck (show ra_run ra_rI (kX0_reckon_131 N) ra_c0 ra_c0 ra_c0 ra_c0 ra_c0 ra_c0 3 lX0_reckon_131 [none, none, none, none, none] [] h = some r from e) _ _ rfl
def lX0_reckon_115 : List ra_I := [(115, .lload_n 3, 1, 3, 0, 0, 0, 0, []),
  (116, .ldc2_w 39, 3, 0, 0, 0, 0, (1000000000), []),
  (119, .lcmp, 1, 0, 0, 0, 0, 0, []),
  (120, .ifCond .gt (11), 3, 131, 0, 0, 0, 0, []),
  (123, .lload_n 3, 1, 3, 0, 0, 0, 0, []),
  (124, .ldc2_w 41, 3, 0, 0, 0, 0, (-1000000000), []),
  (127, .lcmp, 1, 0, 0, 0, 0, 0, []),
  (128, .ifCond .ge (8), 3, 136, 0, 0, 0, 0, []),
  (136, .lload_n 3, 1, 3, 0, 0, 0, 0, []),
  (137, .l2i, 1, 0, 0, 0, 0, 0, [])]
set_option maxRecDepth 100000 in
theorem lX0_reckon_115_ck : lX0_reckon_115.all (ra_ck mX0_reckon 0) = true := by decide +kernel
def nX0_reckon_115 (N : Nat) (a3 : Int64) (h : ra_H) : Option (Int32 × ra_H) :=
  if (lg_cmp a3 ((1000000000 : Int64))) ≤ 0 then
    if (lg_cmp a3 ((-1000000000 : Int64))) < 0 then
      nX0_reckon_131 N h
    else
      nX0_reckon_138 N (Int64.toInt32 a3) h
  else
    nX0_reckon_131 N h
def kX0_reckon_115 (N : Nat) : Nat → List (Option Value) → List Value → ra_H → Option (Int32 × ra_H) := (ra_k1 131 (fun L S h => match L, S with
  | [_, _, _, _, _], [] => nX0_reckon_131 N h
  | _, _ => none) (ra_k1 138 (fun L S h => match L, S with
  | [_, _, _, _, _], [.int b0] => nX0_reckon_138 N b0 h
  | _, _ => none) ra_k0))
theorem kX0_reckon_115_ok (N : Nat) : ra_kok 1 mX0_reckon ra_oI (kX0_reckon_115 N) := (ra_k1_ok (by
  intro L S h a e
  split at e
  · exact ra_Ru.weak (nX0_reckon_131_ok N _ _ e) trivial
  · cases e) (ra_k1_ok (by
  intro L S h a e
  split at e
  · exact ra_Ru.weak (nX0_reckon_138_ok N _ _ _ e) trivial
  · cases e) ra_k0_ok))
set_option maxRecDepth 100000 in
theorem nX0_reckon_115_ok (N : Nat) (a3 : Int64) (h : ra_H) (r : (Int32 × ra_H)) (e : nX0_reckon_115 N a3 h = some r) : ra_Ru 1 mX0_reckon 115 [none, none, none, some (.long a3), none] [] h (ra_oI r) :=
  ra_sound (by omega) rfl ra_rI_ok (kX0_reckon_115_ok N) (fun m av h h1 e => (ra_c0_ok (ro := ra_oV)) m av h h1 e) (fun m av h x h1 e => (ra_c0_ok (ro := ra_oI)) m av h (x, h1) e) (fun m av h x h1 e => (ra_c0_ok (ro := ra_oJ)) m av h (x, h1) e) (fun m av h x h1 e => (ra_c0_ok (ro := ra_oR)) m av h (x, h1) e) (fun m av h x h1 e => (ra_c0_ok (ro := ra_oN)) m av h (x, h1) e) (fun m av h x h1 e => (ra_c0_ok (ro := ra_oF)) m av h (x, h1) e) 11 lX0_reckon_115 _ _ _ _ lX0_reckon_115_ck (show ra_run ra_rI (kX0_reckon_115 N) ra_c0 ra_c0 ra_c0 ra_c0 ra_c0 ra_c0 11 lX0_reckon_115 [none, none, none, some (.long a3), none] [] h = some r from e) _ _ rfl
def lX0_reckon_0 : List ra_I := [(0, .iload_n 0, 1, 0, 0, 0, 0, 0, []),
  (1, .tableswitch (103) (2) (7) #[39, 48, 57, 66, 81, 92], 39, 104, 0, 0, 0, 0, [(2, 40), (3, 49), (4, 58), (5, 67), (6, 82), (7, 93)]),
  (40, .iload_n 1, 1, 1, 0, 0, 0, 0, []),
  (41, .i2l, 1, 0, 0, 0, 0, 0, []),
  (42, .iload_n 2, 1, 2, 0, 0, 0, 0, []),
  (43, .i2l, 1, 0, 0, 0, 0, 0, []),
  (44, .ladd, 1, 0, 0, 0, 0, 0, []),
  (45, .lstore_n 3, 1, 3, 0, 0, 0, 0, []),
  (46, .goto (69), 3, 115, 0, 0, 0, 0, []),
  (49, .iload_n 1, 1, 1, 0, 0, 0, 0, []),
  (50, .i2l, 1, 0, 0, 0, 0, 0, []),
  (51, .iload_n 2, 1, 2, 0, 0, 0, 0, []),
  (52, .i2l, 1, 0, 0, 0, 0, 0, []),
  (53, .lsub, 1, 0, 0, 0, 0, 0, []),
  (54, .lstore_n 3, 1, 3, 0, 0, 0, 0, []),
  (55, .goto (60), 3, 115, 0, 0, 0, 0, []),
  (58, .iload_n 1, 1, 1, 0, 0, 0, 0, []),
  (59, .i2l, 1, 0, 0, 0, 0, 0, []),
  (60, .iload_n 2, 1, 2, 0, 0, 0, 0, []),
  (61, .i2l, 1, 0, 0, 0, 0, 0, []),
  (62, .lmul, 1, 0, 0, 0, 0, 0, []),
  (63, .lstore_n 3, 1, 3, 0, 0, 0, 0, []),
  (64, .goto (51), 3, 115, 0, 0, 0, 0, []),
  (67, .iload_n 2, 1, 2, 0, 0, 0, 0, []),
  (68, .ifCond .ne (6), 3, 74, 0, 0, 0, 0, []),
  (71, .ldc 13, 2, 0, 0, 0, (-2000000000), 0, []),
  (73, .ireturn, 1, 0, 0, 0, 0, 0, []),
  (74, .iload_n 1, 1, 1, 0, 0, 0, 0, []),
  (75, .iload_n 2, 1, 2, 0, 0, 0, 0, []),
  (76, .idiv, 1, 0, 0, 0, 0, 0, []),
  (77, .i2l, 1, 0, 0, 0, 0, 0, []),
  (78, .lstore_n 3, 1, 3, 0, 0, 0, 0, []),
  (79, .goto (36), 3, 115, 0, 0, 0, 0, []),
  (82, .iload_n 1, 1, 1, 0, 0, 0, 0, []),
  (83, .iload_n 2, 1, 2, 0, 0, 0, 0, []),
  (84, .if_icmp .ge (7), 3, 91, 0, 0, 0, 0, []),
  (87, .iconst (1), 1, 0, 0, 0, (1), 0, []),
  (88, .goto (4), 3, 92, 0, 0, 0, 0, []),
  (91, .iconst (0), 1, 0, 0, 0, (0), 0, []),
  (93, .iload_n 1, 1, 1, 0, 0, 0, 0, []),
  (94, .iload_n 2, 1, 2, 0, 0, 0, 0, []),
  (95, .if_icmp .le (7), 3, 102, 0, 0, 0, 0, []),
  (98, .iconst (1), 1, 0, 0, 0, (1), 0, []),
  (99, .goto (4), 3, 103, 0, 0, 0, 0, []),
  (102, .iconst (0), 1, 0, 0, 0, (0), 0, []),
  (104, .iload_n 1, 1, 1, 0, 0, 0, 0, []),
  (105, .iload_n 2, 1, 2, 0, 0, 0, 0, []),
  (106, .if_icmp .ne (7), 3, 113, 0, 0, 0, 0, []),
  (109, .iconst (1), 1, 0, 0, 0, (1), 0, []),
  (110, .goto (4), 3, 114, 0, 0, 0, 0, []),
  (113, .iconst (0), 1, 0, 0, 0, (0), 0, [])]
set_option maxRecDepth 100000 in
theorem lX0_reckon_0_ck : lX0_reckon_0.all (ra_ck mX0_reckon 0) = true := by decide +kernel
def nX0_reckon_0 (N : Nat) (a0 : Int32) (a1 : Int32) (a2 : Int32) (h : ra_H) : Option (Int32 × ra_H) :=
  if a0 = (2 : Int32) then
    let y1 := (Int32.toInt64 a1) + (Int32.toInt64 a2)
    nX0_reckon_115 N y1 h
  else
  if a0 = (3 : Int32) then
    let y2 := (Int32.toInt64 a1) - (Int32.toInt64 a2)
    nX0_reckon_115 N y2 h
  else
  if a0 = (4 : Int32) then
    let y3 := (Int32.toInt64 a1) * (Int32.toInt64 a2)
    nX0_reckon_115 N y3 h
  else
  if a0 = (5 : Int32) then
    if a2 = 0 then
      some ((-2000000000 : Int32), h)
    else
      if a2 = 0 then none else
      let y4 := Int32.toInt64 (a1 / a2)
      nX0_reckon_115 N y4 h
  else
  if a0 = (6 : Int32) then
    if a1 < a2 then
      nX0_reckon_92 N ((1 : Int32)) h
    else
      nX0_reckon_92 N ((0 : Int32)) h
  else
  if a0 = (7 : Int32) then
    if a1 ≤ a2 then
      nX0_reckon_103 N ((0 : Int32)) h
    else
      nX0_reckon_103 N ((1 : Int32)) h
  else
  if a1 = a2 then
    nX0_reckon_114 N ((1 : Int32)) h
  else
    nX0_reckon_114 N ((0 : Int32)) h
def kX0_reckon_0 (N : Nat) : Nat → List (Option Value) → List Value → ra_H → Option (Int32 × ra_H) := (ra_k1 92 (fun L S h => match L, S with
  | [_, _, _, _, _], [.int b0] => nX0_reckon_92 N b0 h
  | _, _ => none) (ra_k1 103 (fun L S h => match L, S with
  | [_, _, _, _, _], [.int b0] => nX0_reckon_103 N b0 h
  | _, _ => none) (ra_k1 114 (fun L S h => match L, S with
  | [_, _, _, _, _], [.int b0] => nX0_reckon_114 N b0 h
  | _, _ => none) (ra_k1 115 (fun L S h => match L, S with
  | [_, _, _, some (.long a3), _], [] => nX0_reckon_115 N a3 h
  | _, _ => none) ra_k0))))
theorem kX0_reckon_0_ok (N : Nat) : ra_kok 1 mX0_reckon ra_oI (kX0_reckon_0 N) := (ra_k1_ok (by
  intro L S h a e
  split at e
  · exact ra_Ru.weak (nX0_reckon_92_ok N _ _ _ e) trivial
  · cases e) (ra_k1_ok (by
  intro L S h a e
  split at e
  · exact ra_Ru.weak (nX0_reckon_103_ok N _ _ _ e) trivial
  · cases e) (ra_k1_ok (by
  intro L S h a e
  split at e
  · exact ra_Ru.weak (nX0_reckon_114_ok N _ _ _ e) trivial
  · cases e) (ra_k1_ok (by
  intro L S h a e
  split at e
  · exact ra_Ru.weak (nX0_reckon_115_ok N _ _ _ e) ⟨rfl, trivial⟩
  · cases e) ra_k0_ok))))
set_option maxRecDepth 100000 in
theorem nX0_reckon_0_ok (N : Nat) (a0 : Int32) (a1 : Int32) (a2 : Int32) (h : ra_H) (r : (Int32 × ra_H)) (e : nX0_reckon_0 N a0 a1 a2 h = some r) : ra_Ru 1 mX0_reckon 0 [some (.int a0), some (.int a1), some (.int a2), none, none] [] h (ra_oI r) :=
  ra_sound (by omega) rfl ra_rI_ok (kX0_reckon_0_ok N) (fun m av h h1 e => (ra_c0_ok (ro := ra_oV)) m av h h1 e) (fun m av h x h1 e => (ra_c0_ok (ro := ra_oI)) m av h (x, h1) e) (fun m av h x h1 e => (ra_c0_ok (ro := ra_oJ)) m av h (x, h1) e) (fun m av h x h1 e => (ra_c0_ok (ro := ra_oR)) m av h (x, h1) e) (fun m av h x h1 e => (ra_c0_ok (ro := ra_oN)) m av h (x, h1) e) (fun m av h x h1 e => (ra_c0_ok (ro := ra_oF)) m av h (x, h1) e) 52 lX0_reckon_0 _ _ _ _ lX0_reckon_0_ck (show ra_run ra_rI (kX0_reckon_0 N) ra_c0 ra_c0 ra_c0 ra_c0 ra_c0 ra_c0 52 lX0_reckon_0 [some (.int a0), some (.int a1), some (.int a2), none, none] [] h = some r from e) _ _ rfl
def fX0_reckon (N : Nat) (p0 : Int32) (p1 : Int32) (p2 : Int32) (h : ra_H) : Option (Int32 × ra_H) := nX0_reckon_0 N p0 p1 p2 h
set_option maxRecDepth 100000 in
theorem mtX0_reckon : ra_MT[88]? = some (mX0_reckon, 0, 3, (1, 5), (4, 100), (0, 0)) := rfl
theorem fX0_reckon_co (N : Nat) (p0 : Int32) (p1 : Int32) (p2 : Int32) (h : ra_H) (r : (Int32 × ra_H)) (e : fX0_reckon N p0 p1 p2 h = some r) (D : Nat) (hD : 2 ≤ D) : ra_CO D 88 [.int p0, .int p1, .int p2] h (ra_oI r).1 (ra_oI r).2 := by
  have hw : ra_nw2 [.int p0, .int p1, .int p2] ≤ 5 := Nat.le_of_ble_eq_true rfl
  have hdb : ∀ v ∈ ([.int p0, .int p1, .int p2] : List Value), ∀ x, v ≠ .double x := by
    intro v hv x hx
    simp [hx] at hv
  unfold fX0_reckon at e
  have e1 := e
  exact ⟨1, _, mtX0_reckon, hD, ra_ev_of (by decide) hdb hw trivial (ra_Ru.weak (nX0_reckon_0_ok N p0 p1 p2 h _ e1) ⟨rfl, ⟨rfl, ⟨rfl, trivial⟩⟩⟩), (fun h => absurd h (by decide)), (fun h => absurd h (by decide))⟩
/-! RedMarks$Asker.reckonAll([III[II)I -/
def mX0_reckonAll : ra_M := (yX0_reckonAll, cX0_reckonAll, 11, (some .int))
def tIX0_reckonAll (N : Nat) : Nat → List Value → ra_H → Option (Int32 × ra_H) := (ra_c1 88 (fun av h => match av with
  | [.int z0, .int z1, .int z2] => fX0_reckon N z0 z1 z2 h
  | _ => none) ra_c0)
theorem tIX0_reckonAll_ok (N : Nat) : ra_cok 2 ra_oI (tIX0_reckonAll N) := (ra_c1_ok (by
  intro av h a e
  split at e
  · exact fX0_reckon_co N _ _ _ _ _ e 2 (by omega)
  · cases e) ra_c0_ok)
def lX0_reckonAll_254 : List ra_I := [(254, .iinc 7 (1), 3, 7, 0, 0, (1), 0, []),
  (257, .goto (-251), 3, 6, 0, 0, 0, 0, [])]
set_option maxRecDepth 100000 in
theorem lX0_reckonAll_254_ck : lX0_reckonAll_254.all (ra_ck mX0_reckonAll 0) = true := by decide +kernel
def nX0_reckonAll_254 (N : Nat) (c6 : Nat → Nat → Int32 → Nat → Int32 → Int32 → Int32 → ra_H → Option (Int32 × ra_H)) (a0 : Nat) (a1 : Nat) (a3 : Int32) (a4 : Nat) (a5 : Int32) (a6 : Int32) (a7 : Int32) (h : ra_H) : Option (Int32 × ra_H) :=
  let y1 := a7 + (1 : Int32)
  c6 a0 a1 a3 a4 a5 a6 y1 h
def kX0_reckonAll_254 (N : Nat) (c6 : Nat → Nat → Int32 → Nat → Int32 → Int32 → Int32 → ra_H → Option (Int32 × ra_H)) : Nat → List (Option Value) → List Value → ra_H → Option (Int32 × ra_H) := (ra_k1 6 (fun L S h => match L, S with
  | [some (.ref a0), some (.ref a1), _, some (.int a3), some (.ref a4), some (.int a5), some (.int a6), some (.int a7), _, _, _], [] => c6 a0 a1 a3 a4 a5 a6 a7 h
  | _, _ => none) ra_k0)
theorem kX0_reckonAll_254_ok (N : Nat) (c6 : Nat → Nat → Int32 → Nat → Int32 → Int32 → Int32 → ra_H → Option (Int32 × ra_H)) (hc6 : ∀ a0 a1 a3 a4 a5 a6 a7 h r, c6 a0 a1 a3 a4 a5 a6 a7 h = some r → ra_Ru 2 mX0_reckonAll 6 [some (.ref a0), some (.ref a1), none, some (.int a3), some (.ref a4), some (.int a5), some (.int a6), some (.int a7), none, none, none] [] h (ra_oI r)) : ra_kok 2 mX0_reckonAll ra_oI (kX0_reckonAll_254 N c6) := (ra_k1_ok (by
  intro L S h a e
  split at e
  · exact ra_Ru.weak (hc6 _ _ _ _ _ _ _ _ _ e) ⟨rfl, ⟨rfl, ⟨rfl, ⟨rfl, ⟨rfl, ⟨rfl, ⟨rfl, trivial⟩⟩⟩⟩⟩⟩⟩
  · cases e) ra_k0_ok)
set_option maxRecDepth 100000 in
theorem nX0_reckonAll_254_ok (N : Nat) (c6 : Nat → Nat → Int32 → Nat → Int32 → Int32 → Int32 → ra_H → Option (Int32 × ra_H)) (hc6 : ∀ a0 a1 a3 a4 a5 a6 a7 h r, c6 a0 a1 a3 a4 a5 a6 a7 h = some r → ra_Ru 2 mX0_reckonAll 6 [some (.ref a0), some (.ref a1), none, some (.int a3), some (.ref a4), some (.int a5), some (.int a6), some (.int a7), none, none, none] [] h (ra_oI r)) (a0 : Nat) (a1 : Nat) (a3 : Int32) (a4 : Nat) (a5 : Int32) (a6 : Int32) (a7 : Int32) (h : ra_H) (r : (Int32 × ra_H)) (e : nX0_reckonAll_254 N c6 a0 a1 a3 a4 a5 a6 a7 h = some r) : ra_Ru 2 mX0_reckonAll 254 [some (.ref a0), some (.ref a1), none, some (.int a3), some (.ref a4), some (.int a5), some (.int a6), some (.int a7), none, none, none] [] h (ra_oI r) :=
  ra_sound (by omega) rfl ra_rI_ok (kX0_reckonAll_254_ok N c6 hc6) (fun m av h h1 e => (ra_c0_ok (ro := ra_oV)) m av h h1 e) (fun m av h x h1 e => (tIX0_reckonAll_ok N) m av h (x, h1) e) (fun m av h x h1 e => (ra_c0_ok (ro := ra_oJ)) m av h (x, h1) e) (fun m av h x h1 e => (ra_c0_ok (ro := ra_oR)) m av h (x, h1) e) (fun m av h x h1 e => (ra_c0_ok (ro := ra_oN)) m av h (x, h1) e) (fun m av h x h1 e => (ra_c0_ok (ro := ra_oF)) m av h (x, h1) e) 3 lX0_reckonAll_254 _ _ _ _ lX0_reckonAll_254_ck (show ra_run ra_rI (kX0_reckonAll_254 N c6) ra_c0 (tIX0_reckonAll N) ra_c0 ra_c0 ra_c0 ra_c0 3 lX0_reckonAll_254 [some (.ref a0), some (.ref a1), none, some (.int a3), some (.ref a4), some (.int a5), some (.int a6), some (.int a7), none, none, none] [] h = some r from e) _ _ rfl
def lX0_reckonAll_78 : List ra_I := [(78, .iastore, 1, 0, 0, 0, 0, 0, []),
  (79, .goto (175), 3, 254, 0, 0, 0, 0, [])]
set_option maxRecDepth 100000 in
theorem lX0_reckonAll_78_ck : lX0_reckonAll_78.all (ra_ck mX0_reckonAll 0) = true := by decide +kernel
def nX0_reckonAll_78 (N : Nat) (c6 : Nat → Nat → Int32 → Nat → Int32 → Int32 → Int32 → ra_H → Option (Int32 × ra_H)) (a0 : Nat) (a1 : Nat) (a3 : Int32) (a4 : Nat) (a5 : Int32) (a6 : Int32) (a7 : Int32) (b0 : Nat) (b1 : Int32) (b2 : Int32) (h : ra_H) : Option (Int32 × ra_H) :=
  (ra_aW h 0 b0 b1 b2).bind fun h1 =>
  nX0_reckonAll_254 N c6 a0 a1 a3 a4 a5 a6 a7 h1
def kX0_reckonAll_78 (N : Nat) (c6 : Nat → Nat → Int32 → Nat → Int32 → Int32 → Int32 → ra_H → Option (Int32 × ra_H)) : Nat → List (Option Value) → List Value → ra_H → Option (Int32 × ra_H) := (ra_k1 254 (fun L S h => match L, S with
  | [some (.ref a0), some (.ref a1), _, some (.int a3), some (.ref a4), some (.int a5), some (.int a6), some (.int a7), _, _, _], [] => nX0_reckonAll_254 N c6 a0 a1 a3 a4 a5 a6 a7 h
  | _, _ => none) ra_k0)
theorem kX0_reckonAll_78_ok (N : Nat) (c6 : Nat → Nat → Int32 → Nat → Int32 → Int32 → Int32 → ra_H → Option (Int32 × ra_H)) (hc6 : ∀ a0 a1 a3 a4 a5 a6 a7 h r, c6 a0 a1 a3 a4 a5 a6 a7 h = some r → ra_Ru 2 mX0_reckonAll 6 [some (.ref a0), some (.ref a1), none, some (.int a3), some (.ref a4), some (.int a5), some (.int a6), some (.int a7), none, none, none] [] h (ra_oI r)) : ra_kok 2 mX0_reckonAll ra_oI (kX0_reckonAll_78 N c6) := (ra_k1_ok (by
  intro L S h a e
  split at e
  · exact ra_Ru.weak (nX0_reckonAll_254_ok N c6 hc6 _ _ _ _ _ _ _ _ _ e) ⟨rfl, ⟨rfl, ⟨rfl, ⟨rfl, ⟨rfl, ⟨rfl, ⟨rfl, trivial⟩⟩⟩⟩⟩⟩⟩
  · cases e) ra_k0_ok)
set_option maxRecDepth 100000 in
theorem nX0_reckonAll_78_ok (N : Nat) (c6 : Nat → Nat → Int32 → Nat → Int32 → Int32 → Int32 → ra_H → Option (Int32 × ra_H)) (hc6 : ∀ a0 a1 a3 a4 a5 a6 a7 h r, c6 a0 a1 a3 a4 a5 a6 a7 h = some r → ra_Ru 2 mX0_reckonAll 6 [some (.ref a0), some (.ref a1), none, some (.int a3), some (.ref a4), some (.int a5), some (.int a6), some (.int a7), none, none, none] [] h (ra_oI r)) (a0 : Nat) (a1 : Nat) (a3 : Int32) (a4 : Nat) (a5 : Int32) (a6 : Int32) (a7 : Int32) (b0 : Nat) (b1 : Int32) (b2 : Int32) (h : ra_H) (r : (Int32 × ra_H)) (e : nX0_reckonAll_78 N c6 a0 a1 a3 a4 a5 a6 a7 b0 b1 b2 h = some r) : ra_Ru 2 mX0_reckonAll 78 [some (.ref a0), some (.ref a1), none, some (.int a3), some (.ref a4), some (.int a5), some (.int a6), some (.int a7), none, none, none] [.int b2, .int b1, .ref b0] h (ra_oI r) :=
  ra_sound (by omega) rfl ra_rI_ok (kX0_reckonAll_78_ok N c6 hc6) (fun m av h h1 e => (ra_c0_ok (ro := ra_oV)) m av h h1 e) (fun m av h x h1 e => (tIX0_reckonAll_ok N) m av h (x, h1) e) (fun m av h x h1 e => (ra_c0_ok (ro := ra_oJ)) m av h (x, h1) e) (fun m av h x h1 e => (ra_c0_ok (ro := ra_oR)) m av h (x, h1) e) (fun m av h x h1 e => (ra_c0_ok (ro := ra_oN)) m av h (x, h1) e) (fun m av h x h1 e => (ra_c0_ok (ro := ra_oF)) m av h (x, h1) e) 3 lX0_reckonAll_78 _ _ _ _ lX0_reckonAll_78_ck (show ra_run ra_rI (kX0_reckonAll_78 N c6) ra_c0 (tIX0_reckonAll N) ra_c0 ra_c0 ra_c0 ra_c0 3 lX0_reckonAll_78 [some (.ref a0), some (.ref a1), none, some (.int a3), some (.ref a4), some (.int a5), some (.int a6), some (.int a7), none, none, none] [.int b2, .int b1, .ref b0] h = some r from e) _ _ rfl
def lX0_reckonAll_41 : List ra_I := [(41, .iinc 6 (1), 3, 6, 0, 0, (1), 0, []),
  (44, .iload 6, 2, 6, 0, 0, 0, 0, []),
  (46, .bipush (64), 2, 0, 0, 0, (64), 0, []),
  (48, .if_icmp .lt (6), 3, 54, 0, 0, 0, 0, []),
  (51, .ldc 13, 2, 0, 0, 0, (-2000000000), 0, []),
  (53, .ireturn, 1, 0, 0, 0, 0, 0, []),
  (54, .aload_n 0, 1, 0, 0, 0, 0, 0, []),
  (55, .getfield 9, 3, 0, 0, 2, 0, 0, []),
  (58, .iload 6, 2, 6, 0, 0, 0, 0, []),
  (60, .iload 8, 2, 8, 0, 0, 0, 0, []),
  (62, .ifCond .ne (8), 3, 70, 0, 0, 0, 0, []),
  (65, .iload 9, 2, 9, 0, 0, 0, 0, []),
  (67, .goto (11), 3, 78, 0, 0, 0, 0, []),
  (70, .aload 4, 2, 4, 0, 0, 0, 0, []),
  (72, .iload 5, 2, 5, 0, 0, 0, 0, []),
  (74, .iload 9, 2, 9, 0, 0, 0, 0, []),
  (76, .iadd, 1, 0, 0, 0, 0, 0, []),
  (77, .iaload, 1, 0, 0, 0, 0, 0, [])]
set_option maxRecDepth 100000 in
theorem lX0_reckonAll_41_ck : lX0_reckonAll_41.all (ra_ck mX0_reckonAll 0) = true := by decide +kernel
def nX0_reckonAll_41 (N : Nat) (c6 : Nat → Nat → Int32 → Nat → Int32 → Int32 → Int32 → ra_H → Option (Int32 × ra_H)) (a0 : Nat) (a1 : Nat) (a3 : Int32) (a4 : Nat) (a5 : Int32) (a6 : Int32) (a7 : Int32) (a8 : Int32) (a9 : Int32) (h : ra_H) : Option (Int32 × ra_H) :=
  let y1 := a6 + (1 : Int32)
  if y1 < ((64 : Int32)) then
    (ra_fR h 0 a0 0).bind fun x2 =>
    if a8 = 0 then
      nX0_reckonAll_78 N c6 a0 a1 a3 a4 a5 y1 a7 x2 y1 a9 h
    else
      (ra_aI h 0 a4 (a5 + a9)).bind fun x3 =>
      nX0_reckonAll_78 N c6 a0 a1 a3 a4 a5 y1 a7 x2 y1 x3 h
  else
    some ((-2000000000 : Int32), h)
def kX0_reckonAll_41 (N : Nat) (c6 : Nat → Nat → Int32 → Nat → Int32 → Int32 → Int32 → ra_H → Option (Int32 × ra_H)) : Nat → List (Option Value) → List Value → ra_H → Option (Int32 × ra_H) := (ra_k1 78 (fun L S h => match L, S with
  | [some (.ref a0), some (.ref a1), _, some (.int a3), some (.ref a4), some (.int a5), some (.int a6), some (.int a7), _, _, _], [.int b2, .int b1, .ref b0] => nX0_reckonAll_78 N c6 a0 a1 a3 a4 a5 a6 a7 b0 b1 b2 h
  | _, _ => none) ra_k0)
theorem kX0_reckonAll_41_ok (N : Nat) (c6 : Nat → Nat → Int32 → Nat → Int32 → Int32 → Int32 → ra_H → Option (Int32 × ra_H)) (hc6 : ∀ a0 a1 a3 a4 a5 a6 a7 h r, c6 a0 a1 a3 a4 a5 a6 a7 h = some r → ra_Ru 2 mX0_reckonAll 6 [some (.ref a0), some (.ref a1), none, some (.int a3), some (.ref a4), some (.int a5), some (.int a6), some (.int a7), none, none, none] [] h (ra_oI r)) : ra_kok 2 mX0_reckonAll ra_oI (kX0_reckonAll_41 N c6) := (ra_k1_ok (by
  intro L S h a e
  split at e
  · exact ra_Ru.weak (nX0_reckonAll_78_ok N c6 hc6 _ _ _ _ _ _ _ _ _ _ _ _ e) ⟨rfl, ⟨rfl, ⟨rfl, ⟨rfl, ⟨rfl, ⟨rfl, ⟨rfl, trivial⟩⟩⟩⟩⟩⟩⟩
  · cases e) ra_k0_ok)
set_option maxRecDepth 100000 in
theorem nX0_reckonAll_41_ok (N : Nat) (c6 : Nat → Nat → Int32 → Nat → Int32 → Int32 → Int32 → ra_H → Option (Int32 × ra_H)) (hc6 : ∀ a0 a1 a3 a4 a5 a6 a7 h r, c6 a0 a1 a3 a4 a5 a6 a7 h = some r → ra_Ru 2 mX0_reckonAll 6 [some (.ref a0), some (.ref a1), none, some (.int a3), some (.ref a4), some (.int a5), some (.int a6), some (.int a7), none, none, none] [] h (ra_oI r)) (a0 : Nat) (a1 : Nat) (a3 : Int32) (a4 : Nat) (a5 : Int32) (a6 : Int32) (a7 : Int32) (a8 : Int32) (a9 : Int32) (h : ra_H) (r : (Int32 × ra_H)) (e : nX0_reckonAll_41 N c6 a0 a1 a3 a4 a5 a6 a7 a8 a9 h = some r) : ra_Ru 2 mX0_reckonAll 41 [some (.ref a0), some (.ref a1), none, some (.int a3), some (.ref a4), some (.int a5), some (.int a6), some (.int a7), some (.int a8), some (.int a9), none] [] h (ra_oI r) :=
  ra_sound (by omega) rfl ra_rI_ok (kX0_reckonAll_41_ok N c6 hc6) (fun m av h h1 e => (ra_c0_ok (ro := ra_oV)) m av h h1 e) (fun m av h x h1 e => (tIX0_reckonAll_ok N) m av h (x, h1) e) (fun m av h x h1 e => (ra_c0_ok (ro := ra_oJ)) m av h (x, h1) e) (fun m av h x h1 e => (ra_c0_ok (ro := ra_oR)) m av h (x, h1) e) (fun m av h x h1 e => (ra_c0_ok (ro := ra_oN)) m av h (x, h1) e) (fun m av h x h1 e => (ra_c0_ok (ro := ra_oF)) m av h (x, h1) e) 19 lX0_reckonAll_41 _ _ _ _ lX0_reckonAll_41_ck (show ra_run ra_rI (kX0_reckonAll_41 N c6) ra_c0 (tIX0_reckonAll N) ra_c0 ra_c0 ra_c0 ra_c0 19 lX0_reckonAll_41 [some (.ref a0), some (.ref a1), none, some (.int a3), some (.ref a4), some (.int a5), some (.int a6), some (.int a7), some (.int a8), some (.int a9), none] [] h = some r from e) _ _ rfl
def lX0_reckonAll_194 : List ra_I := [(194, .istore 6, 2, 6, 0, 0, 0, 0, []),
  (196, .goto (58), 3, 254, 0, 0, 0, 0, [])]
set_option maxRecDepth 100000 in
theorem lX0_reckonAll_194_ck : lX0_reckonAll_194.all (ra_ck mX0_reckonAll 0) = true := by decide +kernel
def nX0_reckonAll_194 (N : Nat) (c6 : Nat → Nat → Int32 → Nat → Int32 → Int32 → Int32 → ra_H → Option (Int32 × ra_H)) (a0 : Nat) (a1 : Nat) (a3 : Int32) (a4 : Nat) (a5 : Int32) (a7 : Int32) (b0 : Int32) (h : ra_H) : Option (Int32 × ra_H) :=
  nX0_reckonAll_254 N c6 a0 a1 a3 a4 a5 b0 a7 h
def kX0_reckonAll_194 (N : Nat) (c6 : Nat → Nat → Int32 → Nat → Int32 → Int32 → Int32 → ra_H → Option (Int32 × ra_H)) : Nat → List (Option Value) → List Value → ra_H → Option (Int32 × ra_H) := (ra_k1 254 (fun L S h => match L, S with
  | [some (.ref a0), some (.ref a1), _, some (.int a3), some (.ref a4), some (.int a5), some (.int a6), some (.int a7), _, _, _], [] => nX0_reckonAll_254 N c6 a0 a1 a3 a4 a5 a6 a7 h
  | _, _ => none) ra_k0)
theorem kX0_reckonAll_194_ok (N : Nat) (c6 : Nat → Nat → Int32 → Nat → Int32 → Int32 → Int32 → ra_H → Option (Int32 × ra_H)) (hc6 : ∀ a0 a1 a3 a4 a5 a6 a7 h r, c6 a0 a1 a3 a4 a5 a6 a7 h = some r → ra_Ru 2 mX0_reckonAll 6 [some (.ref a0), some (.ref a1), none, some (.int a3), some (.ref a4), some (.int a5), some (.int a6), some (.int a7), none, none, none] [] h (ra_oI r)) : ra_kok 2 mX0_reckonAll ra_oI (kX0_reckonAll_194 N c6) := (ra_k1_ok (by
  intro L S h a e
  split at e
  · exact ra_Ru.weak (nX0_reckonAll_254_ok N c6 hc6 _ _ _ _ _ _ _ _ _ e) ⟨rfl, ⟨rfl, ⟨rfl, ⟨rfl, ⟨rfl, ⟨rfl, ⟨rfl, trivial⟩⟩⟩⟩⟩⟩⟩
  · cases e) ra_k0_ok)
set_option maxRecDepth 100000 in
theorem nX0_reckonAll_194_ok (N : Nat) (c6 : Nat → Nat → Int32 → Nat → Int32 → Int32 → Int32 → ra_H → Option (Int32 × ra_H)) (hc6 : ∀ a0 a1 a3 a4 a5 a6 a7 h r, c6 a0 a1 a3 a4 a5 a6 a7 h = some r → ra_Ru 2 mX0_reckonAll 6 [some (.ref a0), some (.ref a1), none, some (.int a3), some (.ref a4), some (.int a5), some (.int a6), some (.int a7), none, none, none] [] h (ra_oI r)) (a0 : Nat) (a1 : Nat) (a3 : Int32) (a4 : Nat) (a5 : Int32) (a7 : Int32) (b0 : Int32) (h : ra_H) (r : (Int32 × ra_H)) (e : nX0_reckonAll_194 N c6 a0 a1 a3 a4 a5 a7 b0 h = some r) : ra_Ru 2 mX0_reckonAll 194 [some (.ref a0), some (.ref a1), none, some (.int a3), some (.ref a4), some (.int a5), none, some (.int a7), none, none, none] [.int b0] h (ra_oI r) :=
  ra_sound (by omega) rfl ra_rI_ok (kX0_reckonAll_194_ok N c6 hc6) (fun m av h h1 e => (ra_c0_ok (ro := ra_oV)) m av h h1 e) (fun m av h x h1 e => (tIX0_reckonAll_ok N) m av h (x, h1) e) (fun m av h x h1 e => (ra_c0_ok (ro := ra_oJ)) m av h (x, h1) e) (fun m av h x h1 e => (ra_c0_ok (ro := ra_oR)) m av h (x, h1) e) (fun m av h x h1 e => (ra_c0_ok (ro := ra_oN)) m av h (x, h1) e) (fun m av h x h1 e => (ra_c0_ok (ro := ra_oF)) m av h (x, h1) e) 3 lX0_reckonAll_194 _ _ _ _ lX0_reckonAll_194_ck (show ra_run ra_rI (kX0_reckonAll_194 N c6) ra_c0 (tIX0_reckonAll N) ra_c0 ra_c0 ra_c0 ra_c0 3 lX0_reckonAll_194 [some (.ref a0), some (.ref a1), none, some (.int a3), some (.ref a4), some (.int a5), none, some (.int a7), none, none, none] [.int b0] h = some r from e) _ _ rfl
def lX0_reckonAll_178 : List ra_I := [(178, .istore 7, 2, 7, 0, 0, 0, 0, []),
  (180, .iload 10, 2, 10, 0, 0, 0, 0, []),
  (182, .ifCond .eq (8), 3, 190, 0, 0, 0, 0, []),
  (185, .iload 6, 2, 6, 0, 0, 0, 0, []),
  (187, .goto (7), 3, 194, 0, 0, 0, 0, []),
  (190, .iload 6, 2, 6, 0, 0, 0, 0, []),
  (192, .iconst (1), 1, 0, 0, 0, (1), 0, []),
  (193, .isub, 1, 0, 0, 0, 0, 0, [])]
set_option maxRecDepth 100000 in
theorem lX0_reckonAll_178_ck : lX0_reckonAll_178.all (ra_ck mX0_reckonAll 0) = true := by decide +kernel
def nX0_reckonAll_178 (N : Nat) (c6 : Nat → Nat → Int32 → Nat → Int32 → Int32 → Int32 → ra_H → Option (Int32 × ra_H)) (a0 : Nat) (a1 : Nat) (a3 : Int32) (a4 : Nat) (a5 : Int32) (a6 : Int32) (a10 : Int32) (b0 : Int32) (h : ra_H) : Option (Int32 × ra_H) :=
  if a10 = 0 then
    nX0_reckonAll_194 N c6 a0 a1 a3 a4 a5 b0 (a6 - ((1 : Int32))) h
  else
    nX0_reckonAll_194 N c6 a0 a1 a3 a4 a5 b0 a6 h
def kX0_reckonAll_178 (N : Nat) (c6 : Nat → Nat → Int32 → Nat → Int32 → Int32 → Int32 → ra_H → Option (Int32 × ra_H)) : Nat → List (Option Value) → List Value → ra_H → Option (Int32 × ra_H) := (ra_k1 194 (fun L S h => match L, S with
  | [some (.ref a0), some (.ref a1), _, some (.int a3), some (.ref a4), some (.int a5), _, some (.int a7), _, _, _], [.int b0] => nX0_reckonAll_194 N c6 a0 a1 a3 a4 a5 a7 b0 h
  | _, _ => none) ra_k0)
theorem kX0_reckonAll_178_ok (N : Nat) (c6 : Nat → Nat → Int32 → Nat → Int32 → Int32 → Int32 → ra_H → Option (Int32 × ra_H)) (hc6 : ∀ a0 a1 a3 a4 a5 a6 a7 h r, c6 a0 a1 a3 a4 a5 a6 a7 h = some r → ra_Ru 2 mX0_reckonAll 6 [some (.ref a0), some (.ref a1), none, some (.int a3), some (.ref a4), some (.int a5), some (.int a6), some (.int a7), none, none, none] [] h (ra_oI r)) : ra_kok 2 mX0_reckonAll ra_oI (kX0_reckonAll_178 N c6) := (ra_k1_ok (by
  intro L S h a e
  split at e
  · exact ra_Ru.weak (nX0_reckonAll_194_ok N c6 hc6 _ _ _ _ _ _ _ _ _ e) ⟨rfl, ⟨rfl, ⟨rfl, ⟨rfl, ⟨rfl, ⟨rfl, trivial⟩⟩⟩⟩⟩⟩
  · cases e) ra_k0_ok)
set_option maxRecDepth 100000 in
theorem nX0_reckonAll_178_ok (N : Nat) (c6 : Nat → Nat → Int32 → Nat → Int32 → Int32 → Int32 → ra_H → Option (Int32 × ra_H)) (hc6 : ∀ a0 a1 a3 a4 a5 a6 a7 h r, c6 a0 a1 a3 a4 a5 a6 a7 h = some r → ra_Ru 2 mX0_reckonAll 6 [some (.ref a0), some (.ref a1), none, some (.int a3), some (.ref a4), some (.int a5), some (.int a6), some (.int a7), none, none, none] [] h (ra_oI r)) (a0 : Nat) (a1 : Nat) (a3 : Int32) (a4 : Nat) (a5 : Int32) (a6 : Int32) (a10 : Int32) (b0 : Int32) (h : ra_H) (r : (Int32 × ra_H)) (e : nX0_reckonAll_178 N c6 a0 a1 a3 a4 a5 a6 a10 b0 h = some r) : ra_Ru 2 mX0_reckonAll 178 [some (.ref a0), some (.ref a1), none, some (.int a3), some (.ref a4), some (.int a5), some (.int a6), none, none, none, some (.int a10)] [.int b0] h (ra_oI r) :=
  ra_sound (by omega) rfl ra_rI_ok (kX0_reckonAll_178_ok N c6 hc6) (fun m av h h1 e => (ra_c0_ok (ro := ra_oV)) m av h h1 e) (fun m av h x h1 e => (tIX0_reckonAll_ok N) m av h (x, h1) e) (fun m av h x h1 e => (ra_c0_ok (ro := ra_oJ)) m av h (x, h1) e) (fun m av h x h1 e => (ra_c0_ok (ro := ra_oR)) m av h (x, h1) e) (fun m av h x h1 e => (ra_c0_ok (ro := ra_oN)) m av h (x, h1) e) (fun m av h x h1 e => (ra_c0_ok (ro := ra_oF)) m av h (x, h1) e) 9 lX0_reckonAll_178 _ _ _ _ lX0_reckonAll_178_ck (show ra_run ra_rI (kX0_reckonAll_178 N c6) ra_c0 (tIX0_reckonAll N) ra_c0 ra_c0 ra_c0 ra_c0 9 lX0_reckonAll_178 [some (.ref a0), some (.ref a1), none, some (.int a3), some (.ref a4), some (.int a5), some (.int a6), none, none, none, some (.int a10)] [.int b0] h = some r from e) _ _ rfl
def lX0_reckonAll_157 : List ra_I := [(157, .istore 10, 2, 10, 0, 0, 0, 0, []),
  (159, .iload 10, 2, 10, 0, 0, 0, 0, []),
  (161, .ifCond .eq (15), 3, 176, 0, 0, 0, 0, []),
  (164, .iload 7, 2, 7, 0, 0, 0, 0, []),
  (166, .iload 9, 2, 9, 0, 0, 0, 0, []),
  (168, .iconst (1), 1, 0, 0, 0, (1), 0, []),
  (169, .isub, 1, 0, 0, 0, 0, 0, []),
  (170, .invokestatic 29, 3, 87, 0, 20, 0, 0, []),
  (173, .goto (5), 3, 178, 0, 0, 0, 0, []),
  (176, .iload 7, 2, 7, 0, 0, 0, 0, [])]
set_option maxRecDepth 100000 in
theorem lX0_reckonAll_157_ck : lX0_reckonAll_157.all (ra_ck mX0_reckonAll 0) = true := by decide +kernel
def nX0_reckonAll_157 (N : Nat) (c6 : Nat → Nat → Int32 → Nat → Int32 → Int32 → Int32 → ra_H → Option (Int32 × ra_H)) (a0 : Nat) (a1 : Nat) (a3 : Int32) (a4 : Nat) (a5 : Int32) (a6 : Int32) (a7 : Int32) (a9 : Int32) (b0 : Int32) (h : ra_H) : Option (Int32 × ra_H) :=
  if b0 = 0 then
    nX0_reckonAll_178 N c6 a0 a1 a3 a4 a5 a6 b0 a7 h
  else
    nX0_reckonAll_178 N c6 a0 a1 a3 a4 a5 a6 b0 (if a7 < (a9 - ((1 : Int32))) then (a9 - ((1 : Int32))) else a7) h
def kX0_reckonAll_157 (N : Nat) (c6 : Nat → Nat → Int32 → Nat → Int32 → Int32 → Int32 → ra_H → Option (Int32 × ra_H)) : Nat → List (Option Value) → List Value → ra_H → Option (Int32 × ra_H) := (ra_k1 178 (fun L S h => match L, S with
  | [some (.ref a0), some (.ref a1), _, some (.int a3), some (.ref a4), some (.int a5), some (.int a6), _, _, _, some (.int a10)], [.int b0] => nX0_reckonAll_178 N c6 a0 a1 a3 a4 a5 a6 a10 b0 h
  | _, _ => none) ra_k0)
theorem kX0_reckonAll_157_ok (N : Nat) (c6 : Nat → Nat → Int32 → Nat → Int32 → Int32 → Int32 → ra_H → Option (Int32 × ra_H)) (hc6 : ∀ a0 a1 a3 a4 a5 a6 a7 h r, c6 a0 a1 a3 a4 a5 a6 a7 h = some r → ra_Ru 2 mX0_reckonAll 6 [some (.ref a0), some (.ref a1), none, some (.int a3), some (.ref a4), some (.int a5), some (.int a6), some (.int a7), none, none, none] [] h (ra_oI r)) : ra_kok 2 mX0_reckonAll ra_oI (kX0_reckonAll_157 N c6) := (ra_k1_ok (by
  intro L S h a e
  split at e
  · exact ra_Ru.weak (nX0_reckonAll_178_ok N c6 hc6 _ _ _ _ _ _ _ _ _ _ e) ⟨rfl, ⟨rfl, ⟨rfl, ⟨rfl, ⟨rfl, ⟨rfl, ⟨rfl, trivial⟩⟩⟩⟩⟩⟩⟩
  · cases e) ra_k0_ok)
set_option maxRecDepth 100000 in
theorem nX0_reckonAll_157_ok (N : Nat) (c6 : Nat → Nat → Int32 → Nat → Int32 → Int32 → Int32 → ra_H → Option (Int32 × ra_H)) (hc6 : ∀ a0 a1 a3 a4 a5 a6 a7 h r, c6 a0 a1 a3 a4 a5 a6 a7 h = some r → ra_Ru 2 mX0_reckonAll 6 [some (.ref a0), some (.ref a1), none, some (.int a3), some (.ref a4), some (.int a5), some (.int a6), some (.int a7), none, none, none] [] h (ra_oI r)) (a0 : Nat) (a1 : Nat) (a3 : Int32) (a4 : Nat) (a5 : Int32) (a6 : Int32) (a7 : Int32) (a9 : Int32) (b0 : Int32) (h : ra_H) (r : (Int32 × ra_H)) (e : nX0_reckonAll_157 N c6 a0 a1 a3 a4 a5 a6 a7 a9 b0 h = some r) : ra_Ru 2 mX0_reckonAll 157 [some (.ref a0), some (.ref a1), none, some (.int a3), some (.ref a4), some (.int a5), some (.int a6), some (.int a7), none, some (.int a9), none] [.int b0] h (ra_oI r) :=
  ra_sound (by omega) rfl ra_rI_ok (kX0_reckonAll_157_ok N c6 hc6) (fun m av h h1 e => (ra_c0_ok (ro := ra_oV)) m av h h1 e) (fun m av h x h1 e => (tIX0_reckonAll_ok N) m av h (x, h1) e) (fun m av h x h1 e => (ra_c0_ok (ro := ra_oJ)) m av h (x, h1) e) (fun m av h x h1 e => (ra_c0_ok (ro := ra_oR)) m av h (x, h1) e) (fun m av h x h1 e => (ra_c0_ok (ro := ra_oN)) m av h (x, h1) e) (fun m av h x h1 e => (ra_c0_ok (ro := ra_oF)) m av h (x, h1) e) 11 lX0_reckonAll_157 _ _ _ _ lX0_reckonAll_157_ck (show ra_run ra_rI (kX0_reckonAll_157 N c6) ra_c0 (tIX0_reckonAll N) ra_c0 ra_c0 ra_c0 ra_c0 11 lX0_reckonAll_157 [some (.ref a0), some (.ref a1), none, some (.int a3), some (.ref a4), some (.int a5), some (.int a6), some (.int a7), none, some (.int a9), none] [.int b0] h = some r from e) _ _ rfl
def lX0_reckonAll_149 : List ra_I := [(149, .if_icmp .ne (7), 3, 156, 0, 0, 0, 0, []),
  (152, .iconst (1), 1, 0, 0, 0, (1), 0, []),
  (153, .goto (4), 3, 157, 0, 0, 0, 0, []),
  (156, .iconst (0), 1, 0, 0, 0, (0), 0, [])]
set_option maxRecDepth 100000 in
theorem lX0_reckonAll_149_ck : lX0_reckonAll_149.all (ra_ck mX0_reckonAll 0) = true := by decide +kernel
def nX0_reckonAll_149 (N : Nat) (c6 : Nat → Nat → Int32 → Nat → Int32 → Int32 → Int32 → ra_H → Option (Int32 × ra_H)) (a0 : Nat) (a1 : Nat) (a3 : Int32) (a4 : Nat) (a5 : Int32) (a6 : Int32) (a7 : Int32) (a9 : Int32) (b0 : Int32) (b1 : Int32) (h : ra_H) : Option (Int32 × ra_H) :=
  if b0 = b1 then
    nX0_reckonAll_157 N c6 a0 a1 a3 a4 a5 a6 a7 a9 ((1 : Int32)) h
  else
    nX0_reckonAll_157 N c6 a0 a1 a3 a4 a5 a6 a7 a9 ((0 : Int32)) h
def kX0_reckonAll_149 (N : Nat) (c6 : Nat → Nat → Int32 → Nat → Int32 → Int32 → Int32 → ra_H → Option (Int32 × ra_H)) : Nat → List (Option Value) → List Value → ra_H → Option (Int32 × ra_H) := (ra_k1 157 (fun L S h => match L, S with
  | [some (.ref a0), some (.ref a1), _, some (.int a3), some (.ref a4), some (.int a5), some (.int a6), some (.int a7), _, some (.int a9), _], [.int b0] => nX0_reckonAll_157 N c6 a0 a1 a3 a4 a5 a6 a7 a9 b0 h
  | _, _ => none) ra_k0)
theorem kX0_reckonAll_149_ok (N : Nat) (c6 : Nat → Nat → Int32 → Nat → Int32 → Int32 → Int32 → ra_H → Option (Int32 × ra_H)) (hc6 : ∀ a0 a1 a3 a4 a5 a6 a7 h r, c6 a0 a1 a3 a4 a5 a6 a7 h = some r → ra_Ru 2 mX0_reckonAll 6 [some (.ref a0), some (.ref a1), none, some (.int a3), some (.ref a4), some (.int a5), some (.int a6), some (.int a7), none, none, none] [] h (ra_oI r)) : ra_kok 2 mX0_reckonAll ra_oI (kX0_reckonAll_149 N c6) := (ra_k1_ok (by
  intro L S h a e
  split at e
  · exact ra_Ru.weak (nX0_reckonAll_157_ok N c6 hc6 _ _ _ _ _ _ _ _ _ _ _ e) ⟨rfl, ⟨rfl, ⟨rfl, ⟨rfl, ⟨rfl, ⟨rfl, ⟨rfl, ⟨rfl, trivial⟩⟩⟩⟩⟩⟩⟩⟩
  · cases e) ra_k0_ok)
set_option maxRecDepth 100000 in
theorem nX0_reckonAll_149_ok (N : Nat) (c6 : Nat → Nat → Int32 → Nat → Int32 → Int32 → Int32 → ra_H → Option (Int32 × ra_H)) (hc6 : ∀ a0 a1 a3 a4 a5 a6 a7 h r, c6 a0 a1 a3 a4 a5 a6 a7 h = some r → ra_Ru 2 mX0_reckonAll 6 [some (.ref a0), some (.ref a1), none, some (.int a3), some (.ref a4), some (.int a5), some (.int a6), some (.int a7), none, none, none] [] h (ra_oI r)) (a0 : Nat) (a1 : Nat) (a3 : Int32) (a4 : Nat) (a5 : Int32) (a6 : Int32) (a7 : Int32) (a9 : Int32) (b0 : Int32) (b1 : Int32) (h : ra_H) (r : (Int32 × ra_H)) (e : nX0_reckonAll_149 N c6 a0 a1 a3 a4 a5 a6 a7 a9 b0 b1 h = some r) : ra_Ru 2 mX0_reckonAll 149 [some (.ref a0), some (.ref a1), none, some (.int a3), some (.ref a4), some (.int a5), some (.int a6), some (.int a7), none, some (.int a9), none] [.int b1, .int b0] h (ra_oI r) :=
  ra_sound (by omega) rfl ra_rI_ok (kX0_reckonAll_149_ok N c6 hc6) (fun m av h h1 e => (ra_c0_ok (ro := ra_oV)) m av h h1 e) (fun m av h x h1 e => (tIX0_reckonAll_ok N) m av h (x, h1) e) (fun m av h x h1 e => (ra_c0_ok (ro := ra_oJ)) m av h (x, h1) e) (fun m av h x h1 e => (ra_c0_ok (ro := ra_oR)) m av h (x, h1) e) (fun m av h x h1 e => (ra_c0_ok (ro := ra_oN)) m av h (x, h1) e) (fun m av h x h1 e => (ra_c0_ok (ro := ra_oF)) m av h (x, h1) e) 5 lX0_reckonAll_149 _ _ _ _ lX0_reckonAll_149_ck (show ra_run ra_rI (kX0_reckonAll_149 N c6) ra_c0 (tIX0_reckonAll N) ra_c0 ra_c0 ra_c0 ra_c0 5 lX0_reckonAll_149 [some (.ref a0), some (.ref a1), none, some (.int a3), some (.ref a4), some (.int a5), some (.int a6), some (.int a7), none, some (.int a9), none] [.int b1, .int b0] h = some r from e) _ _ rfl
def lX0_reckonAll_130 : List ra_I := [(130, .aload_n 0, 1, 0, 0, 0, 0, 0, []),
  (131, .getfield 9, 3, 0, 0, 2, 0, 0, []),
  (134, .iload 6, 2, 6, 0, 0, 0, 0, []),
  (136, .iaload, 1, 0, 0, 0, 0, 0, []),
  (137, .iload 8, 2, 8, 0, 0, 0, 0, []),
  (139, .bipush (10), 2, 0, 0, 0, (10), 0, []),
  (141, .if_icmp .ne (7), 3, 148, 0, 0, 0, 0, []),
  (144, .iconst (1), 1, 0, 0, 0, (1), 0, []),
  (145, .goto (4), 3, 149, 0, 0, 0, 0, []),
  (148, .iconst (0), 1, 0, 0, 0, (0), 0, [])]
set_option maxRecDepth 100000 in
theorem lX0_reckonAll_130_ck : lX0_reckonAll_130.all (ra_ck mX0_reckonAll 0) = true := by decide +kernel
def nX0_reckonAll_130 (N : Nat) (c6 : Nat → Nat → Int32 → Nat → Int32 → Int32 → Int32 → ra_H → Option (Int32 × ra_H)) (a0 : Nat) (a1 : Nat) (a3 : Int32) (a4 : Nat) (a5 : Int32) (a6 : Int32) (a7 : Int32) (a8 : Int32) (a9 : Int32) (h : ra_H) : Option (Int32 × ra_H) :=
  (ra_fR h 0 a0 0).bind fun x1 =>
  (ra_aI h 0 x1 a6).bind fun x2 =>
  if a8 = ((10 : Int32)) then
    nX0_reckonAll_149 N c6 a0 a1 a3 a4 a5 a6 a7 a9 x2 ((1 : Int32)) h
  else
    nX0_reckonAll_149 N c6 a0 a1 a3 a4 a5 a6 a7 a9 x2 ((0 : Int32)) h
def kX0_reckonAll_130 (N : Nat) (c6 : Nat → Nat → Int32 → Nat → Int32 → Int32 → Int32 → ra_H → Option (Int32 × ra_H)) : Nat → List (Option Value) → List Value → ra_H → Option (Int32 × ra_H) := (ra_k1 149 (fun L S h => match L, S with
  | [some (.ref a0), some (.ref a1), _, some (.int a3), some (.ref a4), some (.int a5), some (.int a6), some (.int a7), _, some (.int a9), _], [.int b1, .int b0] => nX0_reckonAll_149 N c6 a0 a1 a3 a4 a5 a6 a7 a9 b0 b1 h
  | _, _ => none) ra_k0)
theorem kX0_reckonAll_130_ok (N : Nat) (c6 : Nat → Nat → Int32 → Nat → Int32 → Int32 → Int32 → ra_H → Option (Int32 × ra_H)) (hc6 : ∀ a0 a1 a3 a4 a5 a6 a7 h r, c6 a0 a1 a3 a4 a5 a6 a7 h = some r → ra_Ru 2 mX0_reckonAll 6 [some (.ref a0), some (.ref a1), none, some (.int a3), some (.ref a4), some (.int a5), some (.int a6), some (.int a7), none, none, none] [] h (ra_oI r)) : ra_kok 2 mX0_reckonAll ra_oI (kX0_reckonAll_130 N c6) := (ra_k1_ok (by
  intro L S h a e
  split at e
  · exact ra_Ru.weak (nX0_reckonAll_149_ok N c6 hc6 _ _ _ _ _ _ _ _ _ _ _ _ e) ⟨rfl, ⟨rfl, ⟨rfl, ⟨rfl, ⟨rfl, ⟨rfl, ⟨rfl, ⟨rfl, trivial⟩⟩⟩⟩⟩⟩⟩⟩
  · cases e) ra_k0_ok)
set_option maxRecDepth 100000 in
theorem nX0_reckonAll_130_ok (N : Nat) (c6 : Nat → Nat → Int32 → Nat → Int32 → Int32 → Int32 → ra_H → Option (Int32 × ra_H)) (hc6 : ∀ a0 a1 a3 a4 a5 a6 a7 h r, c6 a0 a1 a3 a4 a5 a6 a7 h = some r → ra_Ru 2 mX0_reckonAll 6 [some (.ref a0), some (.ref a1), none, some (.int a3), some (.ref a4), some (.int a5), some (.int a6), some (.int a7), none, none, none] [] h (ra_oI r)) (a0 : Nat) (a1 : Nat) (a3 : Int32) (a4 : Nat) (a5 : Int32) (a6 : Int32) (a7 : Int32) (a8 : Int32) (a9 : Int32) (h : ra_H) (r : (Int32 × ra_H)) (e : nX0_reckonAll_130 N c6 a0 a1 a3 a4 a5 a6 a7 a8 a9 h = some r) : ra_Ru 2 mX0_reckonAll 130 [some (.ref a0), some (.ref a1), none, some (.int a3), some (.ref a4), some (.int a5), some (.int a6), some (.int a7), some (.int a8), some (.int a9), none] [] h (ra_oI r) :=
  ra_sound (by omega) rfl ra_rI_ok (kX0_reckonAll_130_ok N c6 hc6) (fun m av h h1 e => (ra_c0_ok (ro := ra_oV)) m av h h1 e) (fun m av h x h1 e => (tIX0_reckonAll_ok N) m av h (x, h1) e) (fun m av h x h1 e => (ra_c0_ok (ro := ra_oJ)) m av h (x, h1) e) (fun m av h x h1 e => (ra_c0_ok (ro := ra_oR)) m av h (x, h1) e) (fun m av h x h1 e => (ra_c0_ok (ro := ra_oN)) m av h (x, h1) e) (fun m av h x h1 e => (ra_c0_ok (ro := ra_oF)) m av h (x, h1) e) 11 lX0_reckonAll_130 _ _ _ _ lX0_reckonAll_130_ck (show ra_run ra_rI (kX0_reckonAll_130 N c6) ra_c0 (tIX0_reckonAll N) ra_c0 ra_c0 ra_c0 ra_c0 11 lX0_reckonAll_130 [some (.ref a0), some (.ref a1), none, some (.int a3), some (.ref a4), some (.int a5), some (.int a6), some (.int a7), some (.int a8), some (.int a9), none] [] h = some r from e) _ _ rfl
def lX0_reckonAll_276 : List ra_I := [(276, .ireturn, 1, 0, 0, 0, 0, 0, [])]
set_option maxRecDepth 100000 in
theorem lX0_reckonAll_276_ck : lX0_reckonAll_276.all (ra_ck mX0_reckonAll 0) = true := by decide +kernel
def nX0_reckonAll_276 (N : Nat) (b0 : Int32) (h : ra_H) : Option (Int32 × ra_H) :=
  some (b0, h)
def kX0_reckonAll_276 (N : Nat) : Nat → List (Option Value) → List Value → ra_H → Option (Int32 × ra_H) := ra_k0
theorem kX0_reckonAll_276_ok (N : Nat) : ra_kok 2 mX0_reckonAll ra_oI (kX0_reckonAll_276 N) := ra_k0_ok
set_option maxRecDepth 100000 in
theorem nX0_reckonAll_276_ok (N : Nat) (b0 : Int32) (h : ra_H) (r : (Int32 × ra_H)) (e : nX0_reckonAll_276 N b0 h = some r) : ra_Ru 2 mX0_reckonAll 276 [none, none, none, none, none, none, none, none, none, none, none] [.int b0] h (ra_oI r) :=
  ra_sound (by omega) rfl ra_rI_ok (kX0_reckonAll_276_ok N) (fun m av h h1 e => (ra_c0_ok (ro := ra_oV)) m av h h1 e) (fun m av h x h1 e => (tIX0_reckonAll_ok N) m av h (x, h1) e) (fun m av h x h1 e => (ra_c0_ok (ro := ra_oJ)) m av h (x, h1) e) (fun m av h x h1 e => (ra_c0_ok (ro := ra_oR)) m av h (x, h1) e) (fun m av h x h1 e => (ra_c0_ok (ro := ra_oN)) m av h (x, h1) e) (fun m av h x h1 e => (ra_c0_ok (ro := ra_oF)) m av h (x, h1) e) 2 lX0_reckonAll_276 _ _ _ _ lX0_reckonAll_276_ck (show ra_run ra_rI (kX0_reckonAll_276 N) ra_c0 (tIX0_reckonAll N) ra_c0 ra_c0 ra_c0 ra_c0 2 lX0_reckonAll_276 [none, none, none, none, none, none, none, none, none, none, none] [.int b0] h = some r from e) _ _ rfl
def lX0_reckonAll_6 : List ra_I := [(6, .iload 7, 2, 7, 0, 0, 0, 0, []),
  (8, .iload_n 3, 1, 3, 0, 0, 0, 0, []),
  (9, .if_icmp .ge (251), 3, 260, 0, 0, 0, 0, []),
  (12, .aload_n 1, 1, 1, 0, 0, 0, 0, []),
  (13, .iload 7, 2, 7, 0, 0, 0, 0, []),
  (15, .iaload, 1, 0, 0, 0, 0, 0, []),
  (16, .bipush (16), 2, 0, 0, 0, (16), 0, []),
  (18, .irem, 1, 0, 0, 0, 0, 0, []),
  (19, .istore 8, 2, 8, 0, 0, 0, 0, []),
  (21, .aload_n 1, 1, 1, 0, 0, 0, 0, []),
  (22, .iload 7, 2, 7, 0, 0, 0, 0, []),
  (24, .iaload, 1, 0, 0, 0, 0, 0, []),
  (25, .bipush (16), 2, 0, 0, 0, (16), 0, []),
  (27, .idiv, 1, 0, 0, 0, 0, 0, []),
  (28, .istore 9, 2, 9, 0, 0, 0, 0, []),
  (30, .iload 8, 2, 8, 0, 0, 0, 0, []),
  (32, .ifCond .eq (9), 3, 41, 0, 0, 0, 0, []),
  (35, .iload 8, 2, 8, 0, 0, 0, 0, []),
  (37, .iconst (1), 1, 0, 0, 0, (1), 0, []),
  (38, .if_icmp .ne (44), 3, 82, 0, 0, 0, 0, []),
  (82, .iload 6, 2, 6, 0, 0, 0, 0, []),
  (84, .ifCond .ge (6), 3, 90, 0, 0, 0, 0, []),
  (87, .ldc 13, 2, 0, 0, 0, (-2000000000), 0, []),
  (89, .ireturn, 1, 0, 0, 0, 0, 0, []),
  (90, .iload 8, 2, 8, 0, 0, 0, 0, []),
  (92, .bipush (9), 2, 0, 0, 0, (9), 0, []),
  (94, .if_icmp .ne (22), 3, 116, 0, 0, 0, 0, []),
  (97, .aload_n 0, 1, 0, 0, 0, 0, 0, []),
  (98, .getfield 9, 3, 0, 0, 2, 0, 0, []),
  (101, .iload 6, 2, 6, 0, 0, 0, 0, []),
  (103, .iconst (1), 1, 0, 0, 0, (1), 0, []),
  (104, .aload_n 0, 1, 0, 0, 0, 0, 0, []),
  (105, .getfield 9, 3, 0, 0, 2, 0, 0, []),
  (108, .iload 6, 2, 6, 0, 0, 0, 0, []),
  (110, .iaload, 1, 0, 0, 0, 0, 0, []),
  (111, .isub, 1, 0, 0, 0, 0, 0, []),
  (112, .iastore, 1, 0, 0, 0, 0, 0, []),
  (113, .goto (141), 3, 254, 0, 0, 0, 0, []),
  (116, .iload 8, 2, 8, 0, 0, 0, 0, []),
  (118, .bipush (10), 2, 0, 0, 0, (10), 0, []),
  (120, .if_icmp .eq (10), 3, 130, 0, 0, 0, 0, []),
  (123, .iload 8, 2, 8, 0, 0, 0, 0, []),
  (125, .bipush (11), 2, 0, 0, 0, (11), 0, []),
  (127, .if_icmp .ne (72), 3, 199, 0, 0, 0, 0, []),
  (199, .iload 6, 2, 6, 0, 0, 0, 0, []),
  (201, .iconst (1), 1, 0, 0, 0, (1), 0, []),
  (202, .if_icmp .ge (6), 3, 208, 0, 0, 0, 0, []),
  (205, .ldc 13, 2, 0, 0, 0, (-2000000000), 0, []),
  (207, .ireturn, 1, 0, 0, 0, 0, 0, []),
  (208, .iinc 6 (-1), 3, 6, 0, 0, (-1), 0, []),
  (211, .aload_n 0, 1, 0, 0, 0, 0, 0, []),
  (212, .getfield 9, 3, 0, 0, 2, 0, 0, []),
  (215, .iload 6, 2, 6, 0, 0, 0, 0, []),
  (217, .iload 8, 2, 8, 0, 0, 0, 0, []),
  (219, .aload_n 0, 1, 0, 0, 0, 0, 0, []),
  (220, .getfield 9, 3, 0, 0, 2, 0, 0, []),
  (223, .iload 6, 2, 6, 0, 0, 0, 0, []),
  (225, .iaload, 1, 0, 0, 0, 0, 0, []),
  (226, .aload_n 0, 1, 0, 0, 0, 0, 0, []),
  (227, .getfield 9, 3, 0, 0, 2, 0, 0, []),
  (230, .iload 6, 2, 6, 0, 0, 0, 0, []),
  (232, .iconst (1), 1, 0, 0, 0, (1), 0, []),
  (233, .iadd, 1, 0, 0, 0, 0, 0, []),
  (234, .iaload, 1, 0, 0, 0, 0, 0, []),
  (235, .invokestatic 35, 3, 88, 3, 1, 0, 0, []),
  (238, .iastore, 1, 0, 0, 0, 0, 0, []),
  (239, .aload_n 0, 1, 0, 0, 0, 0, 0, []),
  (240, .getfield 9, 3, 0, 0, 2, 0, 0, []),
  (243, .iload 6, 2, 6, 0, 0, 0, 0, []),
  (245, .iaload, 1, 0, 0, 0, 0, 0, []),
  (246, .ldc 13, 2, 0, 0, 0, (-2000000000), 0, []),
  (248, .if_icmp .ne (6), 3, 254, 0, 0, 0, 0, []),
  (251, .ldc 13, 2, 0, 0, 0, (-2000000000), 0, []),
  (253, .ireturn, 1, 0, 0, 0, 0, 0, []),
  (260, .iload 6, 2, 6, 0, 0, 0, 0, []),
  (262, .ifCond .ge (7), 3, 269, 0, 0, 0, 0, []),
  (265, .iconst (1), 1, 0, 0, 0, (1), 0, []),
  (266, .goto (10), 3, 276, 0, 0, 0, 0, []),
  (269, .aload_n 0, 1, 0, 0, 0, 0, 0, []),
  (270, .getfield 9, 3, 0, 0, 2, 0, 0, []),
  (273, .iload 6, 2, 6, 0, 0, 0, 0, []),
  (275, .iaload, 1, 0, 0, 0, 0, 0, [])]
set_option maxRecDepth 100000 in
theorem lX0_reckonAll_6_ck : lX0_reckonAll_6.all (ra_ck mX0_reckonAll 0) = true := by decide +kernel
def nX0_reckonAll_6 (N : Nat) : Nat → Nat → Nat → Int32 → Nat → Int32 → Int32 → Int32 → ra_H → Option (Int32 × ra_H)
  | 0, _, _, _, _, _, _, _, _ => none
  | n + 1, a0, a1, a3, a4, a5, a6, a7, h =>
  if a7 < a3 then
    (ra_aI h 0 a1 a7).bind fun x3 =>
    if ((16 : Int32)) = 0 then none else
    let y4 := x3 - x3 / ((16 : Int32)) * ((16 : Int32))
    (ra_aI h 0 a1 a7).bind fun x5 =>
    if ((16 : Int32)) = 0 then none else
    let y6 := x5 / ((16 : Int32))
    if y4 = 0 then
      nX0_reckonAll_41 N (nX0_reckonAll_6 N n) a0 a1 a3 a4 a5 a6 a7 y4 y6 h
    else
      if y4 = ((1 : Int32)) then
        nX0_reckonAll_41 N (nX0_reckonAll_6 N n) a0 a1 a3 a4 a5 a6 a7 y4 y6 h
      else
        if a6 < 0 then
          some ((-2000000000 : Int32), h)
        else
          if y4 = ((9 : Int32)) then
            (ra_fR h 0 a0 0).bind fun x17 =>
            (ra_fR h 0 a0 0).bind fun x18 =>
            (ra_aI h 0 x18 a6).bind fun x19 =>
            (ra_aW h 0 x17 a6 (((1 : Int32)) - x19)).bind fun h20 =>
            nX0_reckonAll_254 N (nX0_reckonAll_6 N n) a0 a1 a3 a4 a5 a6 a7 h20
          else
            if y4 = ((10 : Int32)) then
              nX0_reckonAll_130 N (nX0_reckonAll_6 N n) a0 a1 a3 a4 a5 a6 a7 y4 y6 h
            else
              if y4 = ((11 : Int32)) then
                nX0_reckonAll_130 N (nX0_reckonAll_6 N n) a0 a1 a3 a4 a5 a6 a7 y4 y6 h
              else
                if a6 < ((1 : Int32)) then
                  some ((-2000000000 : Int32), h)
                else
                  let y7 := a6 + (-1 : Int32)
                  (ra_fR h 0 a0 0).bind fun x8 =>
                  (ra_fR h 0 a0 0).bind fun x9 =>
                  (ra_aI h 0 x9 y7).bind fun x10 =>
                  (ra_fR h 0 a0 0).bind fun x11 =>
                  (ra_aI h 0 x11 (y7 + ((1 : Int32)))).bind fun x12 =>
                  (fX0_reckon N y4 x10 x12 h).bind fun q13 =>
                  (ra_aW q13.2 0 x8 y7 q13.1).bind fun h14 =>
                  (ra_fR h14 0 a0 0).bind fun x15 =>
                  (ra_aI h14 0 x15 y7).bind fun x16 =>
                  if x16 = ((-2000000000 : Int32)) then
                    some ((-2000000000 : Int32), h14)
                  else
                    nX0_reckonAll_254 N (nX0_reckonAll_6 N n) a0 a1 a3 a4 a5 y7 a7 h14
  else
    if a6 < 0 then
      nX0_reckonAll_276 N ((1 : Int32)) h
    else
      (ra_fR h 0 a0 0).bind fun x1 =>
      (ra_aI h 0 x1 a6).bind fun x2 =>
      nX0_reckonAll_276 N x2 h
def kX0_reckonAll_6 (N : Nat) (cs : Nat → Nat → Int32 → Nat → Int32 → Int32 → Int32 → ra_H → Option (Int32 × ra_H)) : Nat → List (Option Value) → List Value → ra_H → Option (Int32 × ra_H) := (ra_k1 41 (fun L S h => match L, S with
  | [some (.ref a0), some (.ref a1), _, some (.int a3), some (.ref a4), some (.int a5), some (.int a6), some (.int a7), some (.int a8), some (.int a9), _], [] => nX0_reckonAll_41 N cs a0 a1 a3 a4 a5 a6 a7 a8 a9 h
  | _, _ => none) (ra_k1 130 (fun L S h => match L, S with
  | [some (.ref a0), some (.ref a1), _, some (.int a3), some (.ref a4), some (.int a5), some (.int a6), some (.int a7), some (.int a8), some (.int a9), _], [] => nX0_reckonAll_130 N cs a0 a1 a3 a4 a5 a6 a7 a8 a9 h
  | _, _ => none) (ra_k1 254 (fun L S h => match L, S with
  | [some (.ref a0), some (.ref a1), _, some (.int a3), some (.ref a4), some (.int a5), some (.int a6), some (.int a7), _, _, _], [] => nX0_reckonAll_254 N cs a0 a1 a3 a4 a5 a6 a7 h
  | _, _ => none) (ra_k1 276 (fun L S h => match L, S with
  | [_, _, _, _, _, _, _, _, _, _, _], [.int b0] => nX0_reckonAll_276 N b0 h
  | _, _ => none) ra_k0))))
theorem kX0_reckonAll_6_ok (N : Nat) (cs : Nat → Nat → Int32 → Nat → Int32 → Int32 → Int32 → ra_H → Option (Int32 × ra_H)) (hcs : ∀ a0 a1 a3 a4 a5 a6 a7 h r, cs a0 a1 a3 a4 a5 a6 a7 h = some r → ra_Ru 2 mX0_reckonAll 6 [some (.ref a0), some (.ref a1), none, some (.int a3), some (.ref a4), some (.int a5), some (.int a6), some (.int a7), none, none, none] [] h (ra_oI r)) : ra_kok 2 mX0_reckonAll ra_oI (kX0_reckonAll_6 N cs) := (ra_k1_ok (by
  intro L S h a e
  split at e
  · exact ra_Ru.weak (nX0_reckonAll_41_ok N cs hcs _ _ _ _ _ _ _ _ _ _ _ e) ⟨rfl, ⟨rfl, ⟨rfl, ⟨rfl, ⟨rfl, ⟨rfl, ⟨rfl, ⟨rfl, ⟨rfl, trivial⟩⟩⟩⟩⟩⟩⟩⟩⟩
  · cases e) (ra_k1_ok (by
  intro L S h a e
  split at e
  · exact ra_Ru.weak (nX0_reckonAll_130_ok N cs hcs _ _ _ _ _ _ _ _ _ _ _ e) ⟨rfl, ⟨rfl, ⟨rfl, ⟨rfl, ⟨rfl, ⟨rfl, ⟨rfl, ⟨rfl, ⟨rfl, trivial⟩⟩⟩⟩⟩⟩⟩⟩⟩
  · cases e) (ra_k1_ok (by
  intro L S h a e
  split at e
  · exact ra_Ru.weak (nX0_reckonAll_254_ok N cs hcs _ _ _ _ _ _ _ _ _ e) ⟨rfl, ⟨rfl, ⟨rfl, ⟨rfl, ⟨rfl, ⟨rfl, ⟨rfl, trivial⟩⟩⟩⟩⟩⟩⟩
  · cases e) (ra_k1_ok (by
  intro L S h a e
  split at e
  · exact ra_Ru.weak (nX0_reckonAll_276_ok N _ _ _ e) trivial
  · cases e) ra_k0_ok))))
set_option maxRecDepth 100000 in
theorem nX0_reckonAll_6_ok (N : Nat) : ∀ n a0 a1 a3 a4 a5 a6 a7 h r, nX0_reckonAll_6 N n a0 a1 a3 a4 a5 a6 a7 h = some r → ra_Ru 2 mX0_reckonAll 6 [some (.ref a0), some (.ref a1), none, some (.int a3), some (.ref a4), some (.int a5), some (.int a6), some (.int a7), none, none, none] [] h (ra_oI r) := by
  intro n
  induction n with
  | zero => intro a0 a1 a3 a4 a5 a6 a7 h r e; cases e
  | succ n ih =>
    intro a0 a1 a3 a4 a5 a6 a7 h r e
    exact ra_sound (by omega) rfl ra_rI_ok (kX0_reckonAll_6_ok N (nX0_reckonAll_6 N n) ih) (fun m av h h1 e => (ra_c0_ok (ro := ra_oV)) m av h h1 e) (fun m av h x h1 e => (tIX0_reckonAll_ok N) m av h (x, h1) e) (fun m av h x h1 e => (ra_c0_ok (ro := ra_oJ)) m av h (x, h1) e) (fun m av h x h1 e => (ra_c0_ok (ro := ra_oR)) m av h (x, h1) e) (fun m av h x h1 e => (ra_c0_ok (ro := ra_oN)) m av h (x, h1) e) (fun m av h x h1 e => (ra_c0_ok (ro := ra_oF)) m av h (x, h1) e) 83 lX0_reckonAll_6 _ _ _ _ lX0_reckonAll_6_ck (show ra_run ra_rI (kX0_reckonAll_6 N (nX0_reckonAll_6 N n)) ra_c0 (tIX0_reckonAll N) ra_c0 ra_c0 ra_c0 ra_c0 83 lX0_reckonAll_6 [some (.ref a0), some (.ref a1), none, some (.int a3), some (.ref a4), some (.int a5), some (.int a6), some (.int a7), none, none, none] [] h = some r from e) _ _ rfl
def lX0_reckonAll_0 : List ra_I := [(0, .iconst (-1), 1, 0, 0, 0, (-1), 0, []),
  (1, .istore 6, 2, 6, 0, 0, 0, 0, []),
  (3, .iload_n 2, 1, 2, 0, 0, 0, 0, []),
  (4, .istore 7, 2, 7, 0, 0, 0, 0, [])]
set_option maxRecDepth 100000 in
theorem lX0_reckonAll_0_ck : lX0_reckonAll_0.all (ra_ck mX0_reckonAll 0) = true := by decide +kernel
def nX0_reckonAll_0 (N : Nat) (a0 : Nat) (a1 : Nat) (a2 : Int32) (a3 : Int32) (a4 : Nat) (a5 : Int32) (h : ra_H) : Option (Int32 × ra_H) :=
  nX0_reckonAll_6 N N a0 a1 a3 a4 a5 ((-1 : Int32)) a2 h
def kX0_reckonAll_0 (N : Nat) : Nat → List (Option Value) → List Value → ra_H → Option (Int32 × ra_H) := (ra_k1 6 (fun L S h => match L, S with
  | [some (.ref a0), some (.ref a1), _, some (.int a3), some (.ref a4), some (.int a5), some (.int a6), some (.int a7), _, _, _], [] => nX0_reckonAll_6 N N a0 a1 a3 a4 a5 a6 a7 h
  | _, _ => none) ra_k0)
theorem kX0_reckonAll_0_ok (N : Nat) : ra_kok 2 mX0_reckonAll ra_oI (kX0_reckonAll_0 N) := (ra_k1_ok (by
  intro L S h a e
  split at e
  · exact ra_Ru.weak (nX0_reckonAll_6_ok N N _ _ _ _ _ _ _ _ _ e) ⟨rfl, ⟨rfl, ⟨rfl, ⟨rfl, ⟨rfl, ⟨rfl, ⟨rfl, trivial⟩⟩⟩⟩⟩⟩⟩
  · cases e) ra_k0_ok)
set_option maxRecDepth 100000 in
theorem nX0_reckonAll_0_ok (N : Nat) (a0 : Nat) (a1 : Nat) (a2 : Int32) (a3 : Int32) (a4 : Nat) (a5 : Int32) (h : ra_H) (r : (Int32 × ra_H)) (e : nX0_reckonAll_0 N a0 a1 a2 a3 a4 a5 h = some r) : ra_Ru 2 mX0_reckonAll 0 [some (.ref a0), some (.ref a1), some (.int a2), some (.int a3), some (.ref a4), some (.int a5), none, none, none, none, none] [] h (ra_oI r) :=
  ra_sound (by omega) rfl ra_rI_ok (kX0_reckonAll_0_ok N) (fun m av h h1 e => (ra_c0_ok (ro := ra_oV)) m av h h1 e) (fun m av h x h1 e => (tIX0_reckonAll_ok N) m av h (x, h1) e) (fun m av h x h1 e => (ra_c0_ok (ro := ra_oJ)) m av h (x, h1) e) (fun m av h x h1 e => (ra_c0_ok (ro := ra_oR)) m av h (x, h1) e) (fun m av h x h1 e => (ra_c0_ok (ro := ra_oN)) m av h (x, h1) e) (fun m av h x h1 e => (ra_c0_ok (ro := ra_oF)) m av h (x, h1) e) 5 lX0_reckonAll_0 _ _ _ _ lX0_reckonAll_0_ck (show ra_run ra_rI (kX0_reckonAll_0 N) ra_c0 (tIX0_reckonAll N) ra_c0 ra_c0 ra_c0 ra_c0 5 lX0_reckonAll_0 [some (.ref a0), some (.ref a1), some (.int a2), some (.int a3), some (.ref a4), some (.int a5), none, none, none, none, none] [] h = some r from e) _ _ rfl
def fX0_reckonAll (N : Nat) (p0 : Nat) (p1 : Nat) (p2 : Int32) (p3 : Int32) (p4 : Nat) (p5 : Int32) (h : ra_H) : Option (Int32 × ra_H) := match ra_isOb h p0 0 with
  | true => nX0_reckonAll_0 N p0 p1 p2 p3 p4 p5 h
  | false => none
set_option maxRecDepth 100000 in
theorem mtX0_reckonAll : ra_MT[86]? = some (mX0_reckonAll, 1, 5, (1, 5), (4, 94), (0, 24)) := rfl
theorem fX0_reckonAll_co (N : Nat) (p0 : Nat) (p1 : Nat) (p2 : Int32) (p3 : Int32) (p4 : Nat) (p5 : Int32) (h : ra_H) (r : (Int32 × ra_H)) (e : fX0_reckonAll N p0 p1 p2 p3 p4 p5 h = some r) (D : Nat) (hD : 3 ≤ D) : ra_CO D 86 [.ref p0, .ref p1, .int p2, .int p3, .ref p4, .int p5] h (ra_oI r).1 (ra_oI r).2 := by
  have hw : ra_nw2 [.ref p0, .ref p1, .int p2, .int p3, .ref p4, .int p5] ≤ 11 := Nat.le_of_ble_eq_true rfl
  have hdb : ∀ v ∈ ([.ref p0, .ref p1, .int p2, .int p3, .ref p4, .int p5] : List Value), ∀ x, v ≠ .double x := by
    intro v hv x hx
    simp [hx] at hv
  unfold fX0_reckonAll at e
  split at e
  · rename_i ho
    have e1 := e
    exact ⟨2, _, mtX0_reckonAll, hD, ra_ev_of (by decide) hdb hw trivial (ra_Ru.weak (nX0_reckonAll_0_ok N p0 p1 p2 p3 p4 p5 h _ e1) ⟨rfl, ⟨rfl, ⟨rfl, ⟨rfl, ⟨rfl, ⟨rfl, trivial⟩⟩⟩⟩⟩⟩), (fun _ => ⟨_, _, rfl, ra_rcv_of ho (by decide) rfl⟩), (fun h => absurd h (by decide))⟩
  · cases e
/-! RedMarks$Asker.told(LRedMarks$Scheme;I[II)I -/
def mX0_told : ra_M := (yX0_told, cX0_told, 10, (some .int))
def tIX0_told (N : Nat) : Nat → List Value → ra_H → Option (Int32 × ra_H) := (ra_c1 86 (fun av h => match av with
  | [.ref z0, .ref z1, .int z2, .int z3, .ref z4, .int z5] => fX0_reckonAll N z0 z1 z2 z3 z4 z5 h
  | _ => none) ra_c0)
theorem tIX0_told_ok (N : Nat) : ra_cok 3 ra_oI (tIX0_told N) := (ra_c1_ok (by
  intro av h a e
  split at e
  · exact fX0_reckonAll_co N _ _ _ _ _ _ _ _ e 3 (by omega)
  · cases e) ra_c0_ok)
def lX0_told_115 : List ra_I := [(115, .iinc 5 (-1), 3, 5, 0, 0, (-1), 0, []),
  (118, .goto (-102), 3, 16, 0, 0, 0, 0, [])]
set_option maxRecDepth 100000 in
theorem lX0_told_115_ck : lX0_told_115.all (ra_ck mX0_told 0) = true := by decide +kernel
def nX0_told_115 (N : Nat) (c16 : Nat → Nat → Int32 → Nat → Int32 → Int32 → ra_H → Option (Int32 × ra_H)) (a0 : Nat) (a1 : Nat) (a2 : Int32) (a3 : Nat) (a4 : Int32) (a5 : Int32) (h : ra_H) : Option (Int32 × ra_H) :=
  let y1 := a5 + (-1 : Int32)
  c16 a0 a1 a2 a3 a4 y1 h
def kX0_told_115 (N : Nat) (c16 : Nat → Nat → Int32 → Nat → Int32 → Int32 → ra_H → Option (Int32 × ra_H)) : Nat → List (Option Value) → List Value → ra_H → Option (Int32 × ra_H) := (ra_k1 16 (fun L S h => match L, S with
  | [some (.ref a0), some (.ref a1), some (.int a2), some (.ref a3), some (.int a4), some (.int a5), _, _, _, _], [] => c16 a0 a1 a2 a3 a4 a5 h
  | _, _ => none) ra_k0)
theorem kX0_told_115_ok (N : Nat) (c16 : Nat → Nat → Int32 → Nat → Int32 → Int32 → ra_H → Option (Int32 × ra_H)) (hc16 : ∀ a0 a1 a2 a3 a4 a5 h r, c16 a0 a1 a2 a3 a4 a5 h = some r → ra_Ru 3 mX0_told 16 [some (.ref a0), some (.ref a1), some (.int a2), some (.ref a3), some (.int a4), some (.int a5), none, none, none, none] [] h (ra_oI r)) : ra_kok 3 mX0_told ra_oI (kX0_told_115 N c16) := (ra_k1_ok (by
  intro L S h a e
  split at e
  · exact ra_Ru.weak (hc16 _ _ _ _ _ _ _ _ e) ⟨rfl, ⟨rfl, ⟨rfl, ⟨rfl, ⟨rfl, ⟨rfl, trivial⟩⟩⟩⟩⟩⟩
  · cases e) ra_k0_ok)
set_option maxRecDepth 100000 in
theorem nX0_told_115_ok (N : Nat) (c16 : Nat → Nat → Int32 → Nat → Int32 → Int32 → ra_H → Option (Int32 × ra_H)) (hc16 : ∀ a0 a1 a2 a3 a4 a5 h r, c16 a0 a1 a2 a3 a4 a5 h = some r → ra_Ru 3 mX0_told 16 [some (.ref a0), some (.ref a1), some (.int a2), some (.ref a3), some (.int a4), some (.int a5), none, none, none, none] [] h (ra_oI r)) (a0 : Nat) (a1 : Nat) (a2 : Int32) (a3 : Nat) (a4 : Int32) (a5 : Int32) (h : ra_H) (r : (Int32 × ra_H)) (e : nX0_told_115 N c16 a0 a1 a2 a3 a4 a5 h = some r) : ra_Ru 3 mX0_told 115 [some (.ref a0), some (.ref a1), some (.int a2), some (.ref a3), some (.int a4), some (.int a5), none, none, none, none] [] h (ra_oI r) :=
  ra_sound (by omega) rfl ra_rI_ok (kX0_told_115_ok N c16 hc16) (fun m av h h1 e => (ra_c0_ok (ro := ra_oV)) m av h h1 e) (fun m av h x h1 e => (tIX0_told_ok N) m av h (x, h1) e) (fun m av h x h1 e => (ra_c0_ok (ro := ra_oJ)) m av h (x, h1) e) (fun m av h x h1 e => (ra_c0_ok (ro := ra_oR)) m av h (x, h1) e) (fun m av h x h1 e => (ra_c0_ok (ro := ra_oN)) m av h (x, h1) e) (fun m av h x h1 e => (ra_c0_ok (ro := ra_oF)) m av h (x, h1) e) 3 lX0_told_115 _ _ _ _ lX0_told_115_ck (show ra_run ra_rI (kX0_told_115 N c16) ra_c0 (tIX0_told N) ra_c0 ra_c0 ra_c0 ra_c0 3 lX0_told_115 [some (.ref a0), some (.ref a1), some (.int a2), some (.ref a3), some (.int a4), some (.int a5), none, none, none, none] [] h = some r from e) _ _ rfl
def lX0_told_16 : List ra_I := [(16, .iload 5, 2, 5, 0, 0, 0, 0, []),
  (18, .ifCond .lt (103), 3, 121, 0, 0, 0, 0, []),
  (21, .aload_n 1, 1, 1, 0, 0, 0, 0, []),
  (22, .getfield 14, 3, 4, 1, 2, 0, 0, []),
  (25, .iload 5, 2, 5, 0, 0, 0, 0, []),
  (27, .iaload, 1, 0, 0, 0, 0, 0, []),
  (28, .iload_n 2, 1, 2, 0, 0, 0, 0, []),
  (29, .if_icmp .ne (86), 3, 115, 0, 0, 0, 0, []),
  (32, .aload_n 1, 1, 1, 0, 0, 0, 0, []),
  (33, .getfield 19, 3, 4, 2, 2, 0, 0, []),
  (36, .iconst (2), 1, 0, 0, 0, (2), 0, []),
  (37, .iload 5, 2, 5, 0, 0, 0, 0, []),
  (39, .imul, 1, 0, 0, 0, 0, 0, []),
  (40, .iaload, 1, 0, 0, 0, 0, 0, []),
  (41, .istore 6, 2, 6, 0, 0, 0, 0, []),
  (43, .aload_n 1, 1, 1, 0, 0, 0, 0, []),
  (44, .getfield 19, 3, 4, 2, 2, 0, 0, []),
  (47, .iconst (2), 1, 0, 0, 0, (2), 0, []),
  (48, .iload 5, 2, 5, 0, 0, 0, 0, []),
  (50, .imul, 1, 0, 0, 0, 0, 0, []),
  (51, .iconst (1), 1, 0, 0, 0, (1), 0, []),
  (52, .iadd, 1, 0, 0, 0, 0, 0, []),
  (53, .iaload, 1, 0, 0, 0, 0, 0, []),
  (54, .istore 7, 2, 7, 0, 0, 0, 0, []),
  (56, .aload_n 1, 1, 1, 0, 0, 0, 0, []),
  (57, .getfield 19, 3, 4, 2, 2, 0, 0, []),
  (60, .iconst (2), 1, 0, 0, 0, (2), 0, []),
  (61, .iload 5, 2, 5, 0, 0, 0, 0, []),
  (63, .imul, 1, 0, 0, 0, 0, 0, []),
  (64, .iconst (2), 1, 0, 0, 0, (2), 0, []),
  (65, .iadd, 1, 0, 0, 0, 0, 0, []),
  (66, .iaload, 1, 0, 0, 0, 0, 0, []),
  (67, .istore 8, 2, 8, 0, 0, 0, 0, []),
  (69, .aload_n 0, 1, 0, 0, 0, 0, 0, []),
  (70, .aload_n 1, 1, 1, 0, 0, 0, 0, []),
  (71, .getfield 22, 3, 4, 0, 2, 0, 0, []),
  (74, .iload 7, 2, 7, 0, 0, 0, 0, []),
  (76, .iload 8, 2, 8, 0, 0, 0, 0, []),
  (78, .aload_n 3, 1, 3, 0, 0, 0, 0, []),
  (79, .iload 4, 2, 4, 0, 0, 0, 0, []),
  (81, .invokevirtual 25, 3, 86, 6, 1, 0, 0, []),
  (84, .iconst (1), 1, 0, 0, 0, (1), 0, []),
  (85, .if_icmp .ne (30), 3, 115, 0, 0, 0, 0, []),
  (88, .aload_n 0, 1, 0, 0, 0, 0, 0, []),
  (89, .aload_n 1, 1, 1, 0, 0, 0, 0, []),
  (90, .getfield 22, 3, 4, 0, 2, 0, 0, []),
  (93, .iload 6, 2, 6, 0, 0, 0, 0, []),
  (95, .iload 7, 2, 7, 0, 0, 0, 0, []),
  (97, .aload_n 3, 1, 3, 0, 0, 0, 0, []),
  (98, .iload 4, 2, 4, 0, 0, 0, 0, []),
  (100, .invokevirtual 25, 3, 86, 6, 1, 0, 0, []),
  (103, .istore 9, 2, 9, 0, 0, 0, 0, []),
  (105, .iload 9, 2, 9, 0, 0, 0, 0, []),
  (107, .ldc 13, 2, 0, 0, 0, (-2000000000), 0, []),
  (109, .if_icmp .eq (6), 3, 115, 0, 0, 0, 0, []),
  (112, .iload 9, 2, 9, 0, 0, 0, 0, []),
  (114, .ireturn, 1, 0, 0, 0, 0, 0, []),
  (121, .ldc 13, 2, 0, 0, 0, (-2000000000), 0, []),
  (123, .ireturn, 1, 0, 0, 0, 0, 0, [])]
set_option maxRecDepth 100000 in
theorem lX0_told_16_ck : lX0_told_16.all (ra_ck mX0_told 0) = true := by decide +kernel
def nX0_told_16 (N : Nat) : Nat → Nat → Nat → Int32 → Nat → Int32 → Int32 → ra_H → Option (Int32 × ra_H)
  | 0, _, _, _, _, _, _, _ => none
  | n + 1, a0, a1, a2, a3, a4, a5, h =>
  if a5 < 0 then
    some ((-2000000000 : Int32), h)
  else
    (ra_fR h 4 a1 1).bind fun x1 =>
    (ra_aI h 0 x1 a5).bind fun x2 =>
    if x2 = a2 then
      (ra_fR h 4 a1 2).bind fun x3 =>
      (ra_aI h 0 x3 (((2 : Int32)) * a5)).bind fun x4 =>
      (ra_fR h 4 a1 2).bind fun x5 =>
      (ra_aI h 0 x5 ((((2 : Int32)) * a5) + ((1 : Int32)))).bind fun x6 =>
      (ra_fR h 4 a1 2).bind fun x7 =>
      (ra_aI h 0 x7 ((((2 : Int32)) * a5) + ((2 : Int32)))).bind fun x8 =>
      (ra_fR h 4 a1 0).bind fun x9 =>
      (fX0_reckonAll N a0 x9 x6 x8 a3 a4 h).bind fun q10 =>
      if q10.1 = ((1 : Int32)) then
        (ra_fR q10.2 4 a1 0).bind fun x11 =>
        (fX0_reckonAll N a0 x11 x4 x6 a3 a4 q10.2).bind fun q12 =>
        if q12.1 = ((-2000000000 : Int32)) then
          nX0_told_115 N (nX0_told_16 N n) a0 a1 a2 a3 a4 a5 q12.2
        else
          some (q12.1, q12.2)
      else
        nX0_told_115 N (nX0_told_16 N n) a0 a1 a2 a3 a4 a5 q10.2
    else
      nX0_told_115 N (nX0_told_16 N n) a0 a1 a2 a3 a4 a5 h
def kX0_told_16 (N : Nat) (cs : Nat → Nat → Int32 → Nat → Int32 → Int32 → ra_H → Option (Int32 × ra_H)) : Nat → List (Option Value) → List Value → ra_H → Option (Int32 × ra_H) := (ra_k1 115 (fun L S h => match L, S with
  | [some (.ref a0), some (.ref a1), some (.int a2), some (.ref a3), some (.int a4), some (.int a5), _, _, _, _], [] => nX0_told_115 N cs a0 a1 a2 a3 a4 a5 h
  | _, _ => none) ra_k0)
theorem kX0_told_16_ok (N : Nat) (cs : Nat → Nat → Int32 → Nat → Int32 → Int32 → ra_H → Option (Int32 × ra_H)) (hcs : ∀ a0 a1 a2 a3 a4 a5 h r, cs a0 a1 a2 a3 a4 a5 h = some r → ra_Ru 3 mX0_told 16 [some (.ref a0), some (.ref a1), some (.int a2), some (.ref a3), some (.int a4), some (.int a5), none, none, none, none] [] h (ra_oI r)) : ra_kok 3 mX0_told ra_oI (kX0_told_16 N cs) := (ra_k1_ok (by
  intro L S h a e
  split at e
  · exact ra_Ru.weak (nX0_told_115_ok N cs hcs _ _ _ _ _ _ _ _ e) ⟨rfl, ⟨rfl, ⟨rfl, ⟨rfl, ⟨rfl, ⟨rfl, trivial⟩⟩⟩⟩⟩⟩
  · cases e) ra_k0_ok)
set_option maxRecDepth 100000 in
theorem nX0_told_16_ok (N : Nat) : ∀ n a0 a1 a2 a3 a4 a5 h r, nX0_told_16 N n a0 a1 a2 a3 a4 a5 h = some r → ra_Ru 3 mX0_told 16 [some (.ref a0), some (.ref a1), some (.int a2), some (.ref a3), some (.int a4), some (.int a5), none, none, none, none] [] h (ra_oI r) := by
  intro n
  induction n with
  | zero => intro a0 a1 a2 a3 a4 a5 h r e; cases e
  | succ n ih =>
    intro a0 a1 a2 a3 a4 a5 h r e
    exact ra_sound (by omega) rfl ra_rI_ok (kX0_told_16_ok N (nX0_told_16 N n) ih) (fun m av h h1 e => (ra_c0_ok (ro := ra_oV)) m av h h1 e) (fun m av h x h1 e => (tIX0_told_ok N) m av h (x, h1) e) (fun m av h x h1 e => (ra_c0_ok (ro := ra_oJ)) m av h (x, h1) e) (fun m av h x h1 e => (ra_c0_ok (ro := ra_oR)) m av h (x, h1) e) (fun m av h x h1 e => (ra_c0_ok (ro := ra_oN)) m av h (x, h1) e) (fun m av h x h1 e => (ra_c0_ok (ro := ra_oF)) m av h (x, h1) e) 60 lX0_told_16 _ _ _ _ lX0_told_16_ck (show ra_run ra_rI (kX0_told_16 N (nX0_told_16 N n)) ra_c0 (tIX0_told N) ra_c0 ra_c0 ra_c0 ra_c0 60 lX0_told_16 [some (.ref a0), some (.ref a1), some (.int a2), some (.ref a3), some (.int a4), some (.int a5), none, none, none, none] [] h = some r from e) _ _ rfl
def lX0_told_0 : List ra_I := [(0, .aload_n 1, 1, 1, 0, 0, 0, 0, []),
  (1, .ifnonnull (6), 3, 7, 0, 0, 0, 0, []),
  (4, .ldc 13, 2, 0, 0, 0, (-2000000000), 0, []),
  (6, .ireturn, 1, 0, 0, 0, 0, 0, []),
  (7, .aload_n 1, 1, 1, 0, 0, 0, 0, []),
  (8, .getfield 14, 3, 4, 1, 2, 0, 0, []),
  (11, .arraylength, 1, 0, 0, 0, 0, 0, []),
  (12, .iconst (1), 1, 0, 0, 0, (1), 0, []),
  (13, .isub, 1, 0, 0, 0, 0, 0, []),
  (14, .istore 5, 2, 5, 0, 0, 0, 0, [])]
set_option maxRecDepth 100000 in
theorem lX0_told_0_ck : lX0_told_0.all (ra_ck mX0_told 0) = true := by decide +kernel
def nX0_told_0 (N : Nat) (a0 : Nat) (a1 : Nat) (a2 : Int32) (a3 : Nat) (a4 : Int32) (h : ra_H) : Option (Int32 × ra_H) :=
  (ra_fR h 4 a1 1).bind fun x1 =>
  (ra_aL h x1).bind fun x2 =>
  let y3 := x2 - ((1 : Int32))
  nX0_told_16 N N a0 a1 a2 a3 a4 y3 h
def kX0_told_0 (N : Nat) : Nat → List (Option Value) → List Value → ra_H → Option (Int32 × ra_H) := (ra_k1 16 (fun L S h => match L, S with
  | [some (.ref a0), some (.ref a1), some (.int a2), some (.ref a3), some (.int a4), some (.int a5), _, _, _, _], [] => nX0_told_16 N N a0 a1 a2 a3 a4 a5 h
  | _, _ => none) ra_k0)
theorem kX0_told_0_ok (N : Nat) : ra_kok 3 mX0_told ra_oI (kX0_told_0 N) := (ra_k1_ok (by
  intro L S h a e
  split at e
  · exact ra_Ru.weak (nX0_told_16_ok N N _ _ _ _ _ _ _ _ e) ⟨rfl, ⟨rfl, ⟨rfl, ⟨rfl, ⟨rfl, ⟨rfl, trivial⟩⟩⟩⟩⟩⟩
  · cases e) ra_k0_ok)
set_option maxRecDepth 100000 in
theorem nX0_told_0_ok (N : Nat) (a0 : Nat) (a1 : Nat) (a2 : Int32) (a3 : Nat) (a4 : Int32) (h : ra_H) (r : (Int32 × ra_H)) (e : nX0_told_0 N a0 a1 a2 a3 a4 h = some r) : ra_Ru 3 mX0_told 0 [some (.ref a0), some (.ref a1), some (.int a2), some (.ref a3), some (.int a4), none, none, none, none, none] [] h (ra_oI r) :=
  ra_sound (by omega) rfl ra_rI_ok (kX0_told_0_ok N) (fun m av h h1 e => (ra_c0_ok (ro := ra_oV)) m av h h1 e) (fun m av h x h1 e => (tIX0_told_ok N) m av h (x, h1) e) (fun m av h x h1 e => (ra_c0_ok (ro := ra_oJ)) m av h (x, h1) e) (fun m av h x h1 e => (ra_c0_ok (ro := ra_oR)) m av h (x, h1) e) (fun m av h x h1 e => (ra_c0_ok (ro := ra_oN)) m av h (x, h1) e) (fun m av h x h1 e => (ra_c0_ok (ro := ra_oF)) m av h (x, h1) e) 11 lX0_told_0 _ _ _ _ lX0_told_0_ck (show ra_run ra_rI (kX0_told_0 N) ra_c0 (tIX0_told N) ra_c0 ra_c0 ra_c0 ra_c0 11 lX0_told_0 [some (.ref a0), some (.ref a1), some (.int a2), some (.ref a3), some (.int a4), none, none, none, none, none] [] h = some r from e) _ _ rfl
def fX0_told (N : Nat) (p0 : Nat) (p1 : Nat) (p2 : Int32) (p3 : Nat) (p4 : Int32) (h : ra_H) : Option (Int32 × ra_H) := match ra_isOb h p0 0 with
  | true => nX0_told_0 N p0 p1 p2 p3 p4 h
  | false => none
set_option maxRecDepth 100000 in
theorem mtX0_told : ra_MT[85]? = some (mX0_told, 1, 4, (1, 5), (4, 88), (4, 89)) := rfl
theorem fX0_told_co (N : Nat) (p0 : Nat) (p1 : Nat) (p2 : Int32) (p3 : Nat) (p4 : Int32) (h : ra_H) (r : (Int32 × ra_H)) (e : fX0_told N p0 p1 p2 p3 p4 h = some r) (D : Nat) (hD : 4 ≤ D) : ra_CO D 85 [.ref p0, .ref p1, .int p2, .ref p3, .int p4] h (ra_oI r).1 (ra_oI r).2 := by
  have hw : ra_nw2 [.ref p0, .ref p1, .int p2, .ref p3, .int p4] ≤ 10 := Nat.le_of_ble_eq_true rfl
  have hdb : ∀ v ∈ ([.ref p0, .ref p1, .int p2, .ref p3, .int p4] : List Value), ∀ x, v ≠ .double x := by
    intro v hv x hx
    simp [hx] at hv
  unfold fX0_told at e
  split at e
  · rename_i ho
    have e1 := e
    exact ⟨3, _, mtX0_told, hD, ra_ev_of (by decide) hdb hw trivial (ra_Ru.weak (nX0_told_0_ok N p0 p1 p2 p3 p4 h _ e1) ⟨rfl, ⟨rfl, ⟨rfl, ⟨rfl, ⟨rfl, trivial⟩⟩⟩⟩⟩), (fun _ => ⟨_, _, rfl, ra_rcv_of ho (by decide) rfl⟩), (fun h => absurd h (by decide))⟩
  · cases e
/-! java/lang/Integer.bitCount(I)I -/
def mJ6_bitCount_0f7a4 : ra_M := (yJ6_bitCount_0f7a4, cJ6_bitCount_0f7a4, 1, (some .int))
def lJ6_bitCount_0f7a4_0 : List ra_I := [(0, .iload_n 0, 1, 0, 0, 0, 0, 0, []),
  (1, .iload_n 0, 1, 0, 0, 0, 0, 0, []),
  (2, .iconst (1), 1, 0, 0, 0, (1), 0, []),
  (3, .iushr, 1, 0, 0, 0, 0, 0, []),
  (4, .ldc_w 265, 3, 0, 0, 0, (1431655765), 0, []),
  (7, .iand, 1, 0, 0, 0, 0, 0, []),
  (8, .isub, 1, 0, 0, 0, 0, 0, []),
  (9, .istore_n 0, 1, 0, 0, 0, 0, 0, []),
  (10, .iload_n 0, 1, 0, 0, 0, 0, 0, []),
  (11, .ldc_w 266, 3, 0, 0, 0, (858993459), 0, []),
  (14, .iand, 1, 0, 0, 0, 0, 0, []),
  (15, .iload_n 0, 1, 0, 0, 0, 0, 0, []),
  (16, .iconst (2), 1, 0, 0, 0, (2), 0, []),
  (17, .iushr, 1, 0, 0, 0, 0, 0, []),
  (18, .ldc_w 266, 3, 0, 0, 0, (858993459), 0, []),
  (21, .iand, 1, 0, 0, 0, 0, 0, []),
  (22, .iadd, 1, 0, 0, 0, 0, 0, []),
  (23, .istore_n 0, 1, 0, 0, 0, 0, 0, []),
  (24, .iload_n 0, 1, 0, 0, 0, 0, 0, []),
  (25, .iload_n 0, 1, 0, 0, 0, 0, 0, []),
  (26, .iconst (4), 1, 0, 0, 0, (4), 0, []),
  (27, .iushr, 1, 0, 0, 0, 0, 0, []),
  (28, .iadd, 1, 0, 0, 0, 0, 0, []),
  (29, .ldc_w 267, 3, 0, 0, 0, (252645135), 0, []),
  (32, .iand, 1, 0, 0, 0, 0, 0, []),
  (33, .istore_n 0, 1, 0, 0, 0, 0, 0, []),
  (34, .iload_n 0, 1, 0, 0, 0, 0, 0, []),
  (35, .iload_n 0, 1, 0, 0, 0, 0, 0, []),
  (36, .bipush (8), 2, 0, 0, 0, (8), 0, []),
  (38, .iushr, 1, 0, 0, 0, 0, 0, []),
  (39, .iadd, 1, 0, 0, 0, 0, 0, []),
  (40, .istore_n 0, 1, 0, 0, 0, 0, 0, []),
  (41, .iload_n 0, 1, 0, 0, 0, 0, 0, []),
  (42, .iload_n 0, 1, 0, 0, 0, 0, 0, []),
  (43, .bipush (16), 2, 0, 0, 0, (16), 0, []),
  (45, .iushr, 1, 0, 0, 0, 0, 0, []),
  (46, .iadd, 1, 0, 0, 0, 0, 0, []),
  (47, .istore_n 0, 1, 0, 0, 0, 0, 0, []),
  (48, .iload_n 0, 1, 0, 0, 0, 0, 0, []),
  (49, .bipush (63), 2, 0, 0, 0, (63), 0, []),
  (51, .iand, 1, 0, 0, 0, 0, 0, []),
  (52, .ireturn, 1, 0, 0, 0, 0, 0, [])]
set_option maxRecDepth 100000 in
theorem lJ6_bitCount_0f7a4_0_ck : lJ6_bitCount_0f7a4_0.all (ra_ck mJ6_bitCount_0f7a4 15) = true := by decide +kernel
def nJ6_bitCount_0f7a4_0 (N : Nat) (a0 : Int32) (h : ra_H) : Option (Int32 × ra_H) :=
  let y1 := a0 - (((Int32.toUInt32 a0 >>> (Int32.toUInt32 ((1 : Int32)) &&& Int32.toUInt32 31)).toInt32) &&& ((1431655765 : Int32)))
  let y2 := (y1 &&& ((858993459 : Int32))) + (((Int32.toUInt32 y1 >>> (Int32.toUInt32 ((2 : Int32)) &&& Int32.toUInt32 31)).toInt32) &&& ((858993459 : Int32)))
  let y3 := (y2 + ((Int32.toUInt32 y2 >>> (Int32.toUInt32 ((4 : Int32)) &&& Int32.toUInt32 31)).toInt32)) &&& ((252645135 : Int32))
  let y4 := y3 + ((Int32.toUInt32 y3 >>> (Int32.toUInt32 ((8 : Int32)) &&& Int32.toUInt32 31)).toInt32)
  let y5 := y4 + ((Int32.toUInt32 y4 >>> (Int32.toUInt32 ((16 : Int32)) &&& Int32.toUInt32 31)).toInt32)
  some (y5 &&& ((63 : Int32)), h)
def kJ6_bitCount_0f7a4_0 (N : Nat) : Nat → List (Option Value) → List Value → ra_H → Option (Int32 × ra_H) := ra_k0
theorem kJ6_bitCount_0f7a4_0_ok (N : Nat) : ra_kok 1 mJ6_bitCount_0f7a4 ra_oI (kJ6_bitCount_0f7a4_0 N) := ra_k0_ok
set_option maxRecDepth 100000 in
theorem nJ6_bitCount_0f7a4_0_ok (N : Nat) (a0 : Int32) (h : ra_H) (r : (Int32 × ra_H)) (e : nJ6_bitCount_0f7a4_0 N a0 h = some r) : ra_Ru 1 mJ6_bitCount_0f7a4 0 [some (.int a0)] [] h (ra_oI r) :=
  ra_sound (by omega) rfl ra_rI_ok (kJ6_bitCount_0f7a4_0_ok N) (fun m av h h1 e => (ra_c0_ok (ro := ra_oV)) m av h h1 e) (fun m av h x h1 e => (ra_c0_ok (ro := ra_oI)) m av h (x, h1) e) (fun m av h x h1 e => (ra_c0_ok (ro := ra_oJ)) m av h (x, h1) e) (fun m av h x h1 e => (ra_c0_ok (ro := ra_oR)) m av h (x, h1) e) (fun m av h x h1 e => (ra_c0_ok (ro := ra_oN)) m av h (x, h1) e) (fun m av h x h1 e => (ra_c0_ok (ro := ra_oF)) m av h (x, h1) e) 43 lJ6_bitCount_0f7a4_0 _ _ _ _ lJ6_bitCount_0f7a4_0_ck (show ra_run ra_rI (kJ6_bitCount_0f7a4_0 N) ra_c0 ra_c0 ra_c0 ra_c0 ra_c0 ra_c0 43 lJ6_bitCount_0f7a4_0 [some (.int a0)] [] h = some r from e) _ _ rfl
def fJ6_bitCount_0f7a4 (N : Nat) (p0 : Int32) (h : ra_H) : Option (Int32 × ra_H) := nJ6_bitCount_0f7a4_0 N p0 h
set_option maxRecDepth 100000 in
theorem mtJ6_bitCount_0f7a4 : ra_MT[134]? = some (mJ6_bitCount_0f7a4, 0, 1, (1, 21), (5, 51), (0, 0)) := rfl
theorem fJ6_bitCount_0f7a4_co (N : Nat) (p0 : Int32) (h : ra_H) (r : (Int32 × ra_H)) (e : fJ6_bitCount_0f7a4 N p0 h = some r) (D : Nat) (hD : 2 ≤ D) : ra_CO D 134 [.int p0] h (ra_oI r).1 (ra_oI r).2 := by
  have hw : ra_nw2 [.int p0] ≤ 1 := Nat.le_of_ble_eq_true rfl
  have hdb : ∀ v ∈ ([.int p0] : List Value), ∀ x, v ≠ .double x := by
    intro v hv x hx
    simp [hx] at hv
  unfold fJ6_bitCount_0f7a4 at e
  have e1 := e
  exact ⟨1, _, mtJ6_bitCount_0f7a4, hD, ra_ev_of (by decide) hdb hw trivial (ra_Ru.weak (nJ6_bitCount_0f7a4_0_ok N p0 h _ e1) ⟨rfl, trivial⟩), (fun h => absurd h (by decide)), (fun h => absurd h (by decide))⟩
/-! RedMarks$Worths.agreementOf(II)I -/
def mX10_agreementOf : ra_M := (yX10_agreementOf, cX10_agreementOf, 3, (some .int))
def lX10_agreementOf_0 : List ra_I := [(0, .aload_n 0, 1, 0, 0, 0, 0, 0, []),
  (1, .getfield 31, 3, 10, 6, 2, 0, 0, []),
  (4, .iload_n 1, 1, 1, 0, 0, 0, 0, []),
  (5, .iconst (1), 1, 0, 0, 0, (1), 0, []),
  (6, .iadd, 1, 0, 0, 0, 0, 0, []),
  (7, .bipush (54), 2, 0, 0, 0, (54), 0, []),
  (9, .imul, 1, 0, 0, 0, 0, 0, []),
  (10, .iload_n 2, 1, 2, 0, 0, 0, 0, []),
  (11, .iadd, 1, 0, 0, 0, 0, 0, []),
  (12, .iconst (1), 1, 0, 0, 0, (1), 0, []),
  (13, .iadd, 1, 0, 0, 0, 0, 0, []),
  (14, .iaload, 1, 0, 0, 0, 0, 0, []),
  (15, .ireturn, 1, 0, 0, 0, 0, 0, [])]
set_option maxRecDepth 100000 in
theorem lX10_agreementOf_0_ck : lX10_agreementOf_0.all (ra_ck mX10_agreementOf 10) = true := by decide +kernel
def nX10_agreementOf_0 (N : Nat) (a0 : Nat) (a1 : Int32) (a2 : Int32) (h : ra_H) : Option (Int32 × ra_H) :=
  (ra_fR h 10 a0 6).bind fun x1 =>
  (ra_aI h 0 x1 ((((a1 + ((1 : Int32))) * ((54 : Int32))) + a2) + ((1 : Int32)))).bind fun x2 =>
  some (x2, h)
def kX10_agreementOf_0 (N : Nat) : Nat → List (Option Value) → List Value → ra_H → Option (Int32 × ra_H) := ra_k0
theorem kX10_agreementOf_0_ok (N : Nat) : ra_kok 1 mX10_agreementOf ra_oI (kX10_agreementOf_0 N) := ra_k0_ok
set_option maxRecDepth 100000 in
theorem nX10_agreementOf_0_ok (N : Nat) (a0 : Nat) (a1 : Int32) (a2 : Int32) (h : ra_H) (r : (Int32 × ra_H)) (e : nX10_agreementOf_0 N a0 a1 a2 h = some r) : ra_Ru 1 mX10_agreementOf 0 [some (.ref a0), some (.int a1), some (.int a2)] [] h (ra_oI r) :=
  ra_sound (by omega) rfl ra_rI_ok (kX10_agreementOf_0_ok N) (fun m av h h1 e => (ra_c0_ok (ro := ra_oV)) m av h h1 e) (fun m av h x h1 e => (ra_c0_ok (ro := ra_oI)) m av h (x, h1) e) (fun m av h x h1 e => (ra_c0_ok (ro := ra_oJ)) m av h (x, h1) e) (fun m av h x h1 e => (ra_c0_ok (ro := ra_oR)) m av h (x, h1) e) (fun m av h x h1 e => (ra_c0_ok (ro := ra_oN)) m av h (x, h1) e) (fun m av h x h1 e => (ra_c0_ok (ro := ra_oF)) m av h (x, h1) e) 14 lX10_agreementOf_0 _ _ _ _ lX10_agreementOf_0_ck (show ra_run ra_rI (kX10_agreementOf_0 N) ra_c0 ra_c0 ra_c0 ra_c0 ra_c0 ra_c0 14 lX10_agreementOf_0 [some (.ref a0), some (.int a1), some (.int a2)] [] h = some r from e) _ _ rfl
def fX10_agreementOf (N : Nat) (p0 : Nat) (p1 : Int32) (p2 : Int32) (h : ra_H) : Option (Int32 × ra_H) := match ra_isOb h p0 10 with
  | true => nX10_agreementOf_0 N p0 p1 p2 h
  | false => none
set_option maxRecDepth 100000 in
theorem mtX10_agreementOf : ra_MT[129]? = some (mX10_agreementOf, 1, 2, (1, 10), (5, 31), (5, 32)) := rfl
theorem fX10_agreementOf_co (N : Nat) (p0 : Nat) (p1 : Int32) (p2 : Int32) (h : ra_H) (r : (Int32 × ra_H)) (e : fX10_agreementOf N p0 p1 p2 h = some r) (D : Nat) (hD : 2 ≤ D) : ra_CO D 129 [.ref p0, .int p1, .int p2] h (ra_oI r).1 (ra_oI r).2 := by
  have hw : ra_nw2 [.ref p0, .int p1, .int p2] ≤ 3 := Nat.le_of_ble_eq_true rfl
  have hdb : ∀ v ∈ ([.ref p0, .int p1, .int p2] : List Value), ∀ x, v ≠ .double x := by
    intro v hv x hx
    simp [hx] at hv
  unfold fX10_agreementOf at e
  split at e
  · rename_i ho
    have e1 := e
    exact ⟨1, _, mtX10_agreementOf, hD, ra_ev_of (by decide) hdb hw trivial (ra_Ru.weak (nX10_agreementOf_0_ok N p0 p1 p2 h _ e1) ⟨rfl, ⟨rfl, ⟨rfl, trivial⟩⟩⟩), (fun _ => ⟨_, _, rfl, ra_rcv_of ho (by decide) rfl⟩), (fun h => absurd h (by decide))⟩
  · cases e
/-! RedMarks$Worths.canBeBest(II)Z -/
def mX10_canBeBest : ra_M := (yX10_canBeBest, cX10_canBeBest, 3, (some .boolean))
def tIX10_canBeBest (N : Nat) : Nat → List Value → ra_H → Option (Int32 × ra_H) := (ra_c1 129 (fun av h => match av with
  | [.ref z0, .int z1, .int z2] => fX10_agreementOf N z0 z1 z2 h
  | _ => none) ra_c0)
theorem tIX10_canBeBest_ok (N : Nat) : ra_cok 2 ra_oI (tIX10_canBeBest N) := (ra_c1_ok (by
  intro av h a e
  split at e
  · exact fX10_agreementOf_co N _ _ _ _ _ e 2 (by omega)
  · cases e) ra_c0_ok)
def lX10_canBeBest_31 : List ra_I := [(31, .ireturn, 1, 0, 0, 0, 0, 0, [])]
set_option maxRecDepth 100000 in
theorem lX10_canBeBest_31_ck : lX10_canBeBest_31.all (ra_ck mX10_canBeBest 10) = true := by decide +kernel
def nX10_canBeBest_31 (N : Nat) (b0 : Int32) (h : ra_H) : Option (Int32 × ra_H) :=
  some (b0, h)
def kX10_canBeBest_31 (N : Nat) : Nat → List (Option Value) → List Value → ra_H → Option (Int32 × ra_H) := ra_k0
theorem kX10_canBeBest_31_ok (N : Nat) : ra_kok 2 mX10_canBeBest ra_oI (kX10_canBeBest_31 N) := ra_k0_ok
set_option maxRecDepth 100000 in
theorem nX10_canBeBest_31_ok (N : Nat) (b0 : Int32) (h : ra_H) (r : (Int32 × ra_H)) (e : nX10_canBeBest_31 N b0 h = some r) : ra_Ru 2 mX10_canBeBest 31 [none, none, none] [.int b0] h (ra_oI r) :=
  ra_sound (by omega) rfl ra_rI_ok (kX10_canBeBest_31_ok N) (fun m av h h1 e => (ra_c0_ok (ro := ra_oV)) m av h h1 e) (fun m av h x h1 e => (tIX10_canBeBest_ok N) m av h (x, h1) e) (fun m av h x h1 e => (ra_c0_ok (ro := ra_oJ)) m av h (x, h1) e) (fun m av h x h1 e => (ra_c0_ok (ro := ra_oR)) m av h (x, h1) e) (fun m av h x h1 e => (ra_c0_ok (ro := ra_oN)) m av h (x, h1) e) (fun m av h x h1 e => (ra_c0_ok (ro := ra_oF)) m av h (x, h1) e) 2 lX10_canBeBest_31 _ _ _ _ lX10_canBeBest_31_ck (show ra_run ra_rI (kX10_canBeBest_31 N) ra_c0 (tIX10_canBeBest N) ra_c0 ra_c0 ra_c0 ra_c0 2 lX10_canBeBest_31 [none, none, none] [.int b0] h = some r from e) _ _ rfl
def lX10_canBeBest_0 : List ra_I := [(0, .aload_n 0, 1, 0, 0, 0, 0, 0, []),
  (1, .iload_n 1, 1, 1, 0, 0, 0, 0, []),
  (2, .iload_n 2, 1, 2, 0, 0, 0, 0, []),
  (3, .invokevirtual 34, 3, 129, 3, 1, 0, 0, []),
  (6, .aload_n 0, 1, 0, 0, 0, 0, 0, []),
  (7, .getfield 9, 3, 10, 0, 2, 0, 0, []),
  (10, .iload_n 1, 1, 1, 0, 0, 0, 0, []),
  (11, .iconst (1), 1, 0, 0, 0, (1), 0, []),
  (12, .iadd, 1, 0, 0, 0, 0, 0, []),
  (13, .iaload, 1, 0, 0, 0, 0, 0, []),
  (14, .aload_n 0, 1, 0, 0, 0, 0, 0, []),
  (15, .getfield 15, 3, 10, 1, 2, 0, 0, []),
  (18, .iload_n 2, 1, 2, 0, 0, 0, 0, []),
  (19, .iconst (1), 1, 0, 0, 0, (1), 0, []),
  (20, .iadd, 1, 0, 0, 0, 0, 0, []),
  (21, .iaload, 1, 0, 0, 0, 0, 0, []),
  (22, .iadd, 1, 0, 0, 0, 0, 0, []),
  (23, .if_icmp .ne (7), 3, 30, 0, 0, 0, 0, []),
  (26, .iconst (1), 1, 0, 0, 0, (1), 0, []),
  (27, .goto (4), 3, 31, 0, 0, 0, 0, []),
  (30, .iconst (0), 1, 0, 0, 0, (0), 0, [])]
set_option maxRecDepth 100000 in
theorem lX10_canBeBest_0_ck : lX10_canBeBest_0.all (ra_ck mX10_canBeBest 10) = true := by decide +kernel
def nX10_canBeBest_0 (N : Nat) (a0 : Nat) (a1 : Int32) (a2 : Int32) (h : ra_H) : Option (Int32 × ra_H) :=
  (fX10_agreementOf N a0 a1 a2 h).bind fun q1 =>
  (ra_fR q1.2 10 a0 0).bind fun x2 =>
  (ra_aI q1.2 0 x2 (a1 + ((1 : Int32)))).bind fun x3 =>
  (ra_fR q1.2 10 a0 1).bind fun x4 =>
  (ra_aI q1.2 0 x4 (a2 + ((1 : Int32)))).bind fun x5 =>
  if q1.1 = (x3 + x5) then
    nX10_canBeBest_31 N ((1 : Int32)) q1.2
  else
    nX10_canBeBest_31 N ((0 : Int32)) q1.2
def kX10_canBeBest_0 (N : Nat) : Nat → List (Option Value) → List Value → ra_H → Option (Int32 × ra_H) := (ra_k1 31 (fun L S h => match L, S with
  | [_, _, _], [.int b0] => nX10_canBeBest_31 N b0 h
  | _, _ => none) ra_k0)
theorem kX10_canBeBest_0_ok (N : Nat) : ra_kok 2 mX10_canBeBest ra_oI (kX10_canBeBest_0 N) := (ra_k1_ok (by
  intro L S h a e
  split at e
  · exact ra_Ru.weak (nX10_canBeBest_31_ok N _ _ _ e) trivial
  · cases e) ra_k0_ok)
set_option maxRecDepth 100000 in
theorem nX10_canBeBest_0_ok (N : Nat) (a0 : Nat) (a1 : Int32) (a2 : Int32) (h : ra_H) (r : (Int32 × ra_H)) (e : nX10_canBeBest_0 N a0 a1 a2 h = some r) : ra_Ru 2 mX10_canBeBest 0 [some (.ref a0), some (.int a1), some (.int a2)] [] h (ra_oI r) :=
  ra_sound (by omega) rfl ra_rI_ok (kX10_canBeBest_0_ok N) (fun m av h h1 e => (ra_c0_ok (ro := ra_oV)) m av h h1 e) (fun m av h x h1 e => (tIX10_canBeBest_ok N) m av h (x, h1) e) (fun m av h x h1 e => (ra_c0_ok (ro := ra_oJ)) m av h (x, h1) e) (fun m av h x h1 e => (ra_c0_ok (ro := ra_oR)) m av h (x, h1) e) (fun m av h x h1 e => (ra_c0_ok (ro := ra_oN)) m av h (x, h1) e) (fun m av h x h1 e => (ra_c0_ok (ro := ra_oF)) m av h (x, h1) e) 22 lX10_canBeBest_0 _ _ _ _ lX10_canBeBest_0_ck (show ra_run ra_rI (kX10_canBeBest_0 N) ra_c0 (tIX10_canBeBest N) ra_c0 ra_c0 ra_c0 ra_c0 22 lX10_canBeBest_0 [some (.ref a0), some (.int a1), some (.int a2)] [] h = some r from e) _ _ rfl
def fX10_canBeBest (N : Nat) (p0 : Nat) (p1 : Int32) (p2 : Int32) (h : ra_H) : Option (Int32 × ra_H) := match ra_isOb h p0 10 with
  | true => (nX10_canBeBest_0 N p0 p1 p2 h).bind (fun q => ra_rz q.1 q.2)
  | false => none
set_option maxRecDepth 100000 in
theorem mtX10_canBeBest : ra_MT[128]? = some (mX10_canBeBest, 1, 2, (1, 10), (5, 27), (5, 28)) := rfl
theorem fX10_canBeBest_co (N : Nat) (p0 : Nat) (p1 : Int32) (p2 : Int32) (h : ra_H) (r : (Int32 × ra_H)) (e : fX10_canBeBest N p0 p1 p2 h = some r) (D : Nat) (hD : 3 ≤ D) : ra_CO D 128 [.ref p0, .int p1, .int p2] h (ra_oI r).1 (ra_oI r).2 := by
  have hw : ra_nw2 [.ref p0, .int p1, .int p2] ≤ 3 := Nat.le_of_ble_eq_true rfl
  have hdb : ∀ v ∈ ([.ref p0, .int p1, .int p2] : List Value), ∀ x, v ≠ .double x := by
    intro v hv x hx
    simp [hx] at hv
  unfold fX10_canBeBest at e
  split at e
  · rename_i ho
    obtain ⟨q, e1, e2⟩ := Option.bind_eq_some_iff.mp e
    obtain ⟨rfl, hz⟩ := ra_rz_of e2
    exact ⟨2, _, mtX10_canBeBest, hD, ra_ev_of (by decide) hdb hw hz (ra_Ru.weak (nX10_canBeBest_0_ok N p0 p1 p2 h _ e1) ⟨rfl, ⟨rfl, ⟨rfl, trivial⟩⟩⟩), (fun _ => ⟨_, _, rfl, ra_rcv_of ho (by decide) rfl⟩), (fun h => absurd h (by decide))⟩
  · cases e
/-! RedMarks$Worths.isWorth(I)Z -/
def mX10_isWorth : ra_M := (yX10_isWorth, cX10_isWorth, 2, (some .boolean))
def lX10_isWorth_16 : List ra_I := [(16, .ireturn, 1, 0, 0, 0, 0, 0, [])]
set_option maxRecDepth 100000 in
theorem lX10_isWorth_16_ck : lX10_isWorth_16.all (ra_ck mX10_isWorth 10) = true := by decide +kernel
def nX10_isWorth_16 (N : Nat) (b0 : Int32) (h : ra_H) : Option (Int32 × ra_H) :=
  some (b0, h)
def kX10_isWorth_16 (N : Nat) : Nat → List (Option Value) → List Value → ra_H → Option (Int32 × ra_H) := ra_k0
theorem kX10_isWorth_16_ok (N : Nat) : ra_kok 1 mX10_isWorth ra_oI (kX10_isWorth_16 N) := ra_k0_ok
set_option maxRecDepth 100000 in
theorem nX10_isWorth_16_ok (N : Nat) (b0 : Int32) (h : ra_H) (r : (Int32 × ra_H)) (e : nX10_isWorth_16 N b0 h = some r) : ra_Ru 1 mX10_isWorth 16 [none, none] [.int b0] h (ra_oI r) :=
  ra_sound (by omega) rfl ra_rI_ok (kX10_isWorth_16_ok N) (fun m av h h1 e => (ra_c0_ok (ro := ra_oV)) m av h h1 e) (fun m av h x h1 e => (ra_c0_ok (ro := ra_oI)) m av h (x, h1) e) (fun m av h x h1 e => (ra_c0_ok (ro := ra_oJ)) m av h (x, h1) e) (fun m av h x h1 e => (ra_c0_ok (ro := ra_oR)) m av h (x, h1) e) (fun m av h x h1 e => (ra_c0_ok (ro := ra_oN)) m av h (x, h1) e) (fun m av h x h1 e => (ra_c0_ok (ro := ra_oF)) m av h (x, h1) e) 2 lX10_isWorth_16 _ _ _ _ lX10_isWorth_16_ck (show ra_run ra_rI (kX10_isWorth_16 N) ra_c0 ra_c0 ra_c0 ra_c0 ra_c0 ra_c0 2 lX10_isWorth_16 [none, none] [.int b0] h = some r from e) _ _ rfl
def lX10_isWorth_0 : List ra_I := [(0, .aload_n 0, 1, 0, 0, 0, 0, 0, []),
  (1, .getfield 9, 3, 10, 0, 2, 0, 0, []),
  (4, .iload_n 1, 1, 1, 0, 0, 0, 0, []),
  (5, .iconst (1), 1, 0, 0, 0, (1), 0, []),
  (6, .iadd, 1, 0, 0, 0, 0, 0, []),
  (7, .iaload, 1, 0, 0, 0, 0, 0, []),
  (8, .ifCond .le (7), 3, 15, 0, 0, 0, 0, []),
  (11, .iconst (1), 1, 0, 0, 0, (1), 0, []),
  (12, .goto (4), 3, 16, 0, 0, 0, 0, []),
  (15, .iconst (0), 1, 0, 0, 0, (0), 0, [])]
set_option maxRecDepth 100000 in
theorem lX10_isWorth_0_ck : lX10_isWorth_0.all (ra_ck mX10_isWorth 10) = true := by decide +kernel
def nX10_isWorth_0 (N : Nat) (a0 : Nat) (a1 : Int32) (h : ra_H) : Option (Int32 × ra_H) :=
  (ra_fR h 10 a0 0).bind fun x1 =>
  (ra_aI h 0 x1 (a1 + ((1 : Int32)))).bind fun x2 =>
  if x2 ≤ 0 then
    nX10_isWorth_16 N ((0 : Int32)) h
  else
    nX10_isWorth_16 N ((1 : Int32)) h
def kX10_isWorth_0 (N : Nat) : Nat → List (Option Value) → List Value → ra_H → Option (Int32 × ra_H) := (ra_k1 16 (fun L S h => match L, S with
  | [_, _], [.int b0] => nX10_isWorth_16 N b0 h
  | _, _ => none) ra_k0)
theorem kX10_isWorth_0_ok (N : Nat) : ra_kok 1 mX10_isWorth ra_oI (kX10_isWorth_0 N) := (ra_k1_ok (by
  intro L S h a e
  split at e
  · exact ra_Ru.weak (nX10_isWorth_16_ok N _ _ _ e) trivial
  · cases e) ra_k0_ok)
set_option maxRecDepth 100000 in
theorem nX10_isWorth_0_ok (N : Nat) (a0 : Nat) (a1 : Int32) (h : ra_H) (r : (Int32 × ra_H)) (e : nX10_isWorth_0 N a0 a1 h = some r) : ra_Ru 1 mX10_isWorth 0 [some (.ref a0), some (.int a1)] [] h (ra_oI r) :=
  ra_sound (by omega) rfl ra_rI_ok (kX10_isWorth_0_ok N) (fun m av h h1 e => (ra_c0_ok (ro := ra_oV)) m av h h1 e) (fun m av h x h1 e => (ra_c0_ok (ro := ra_oI)) m av h (x, h1) e) (fun m av h x h1 e => (ra_c0_ok (ro := ra_oJ)) m av h (x, h1) e) (fun m av h x h1 e => (ra_c0_ok (ro := ra_oR)) m av h (x, h1) e) (fun m av h x h1 e => (ra_c0_ok (ro := ra_oN)) m av h (x, h1) e) (fun m av h x h1 e => (ra_c0_ok (ro := ra_oF)) m av h (x, h1) e) 11 lX10_isWorth_0 _ _ _ _ lX10_isWorth_0_ck (show ra_run ra_rI (kX10_isWorth_0 N) ra_c0 ra_c0 ra_c0 ra_c0 ra_c0 ra_c0 11 lX10_isWorth_0 [some (.ref a0), some (.int a1)] [] h = some r from e) _ _ rfl
def fX10_isWorth (N : Nat) (p0 : Nat) (p1 : Int32) (h : ra_H) : Option (Int32 × ra_H) := match ra_isOb h p0 10 with
  | true => (nX10_isWorth_0 N p0 p1 h).bind (fun q => ra_rz q.1 q.2)
  | false => none
set_option maxRecDepth 100000 in
theorem mtX10_isWorth : ra_MT[131]? = some (mX10_isWorth, 1, 1, (1, 10), (5, 39), (5, 40)) := rfl
theorem fX10_isWorth_co (N : Nat) (p0 : Nat) (p1 : Int32) (h : ra_H) (r : (Int32 × ra_H)) (e : fX10_isWorth N p0 p1 h = some r) (D : Nat) (hD : 2 ≤ D) : ra_CO D 131 [.ref p0, .int p1] h (ra_oI r).1 (ra_oI r).2 := by
  have hw : ra_nw2 [.ref p0, .int p1] ≤ 2 := Nat.le_of_ble_eq_true rfl
  have hdb : ∀ v ∈ ([.ref p0, .int p1] : List Value), ∀ x, v ≠ .double x := by
    intro v hv x hx
    simp [hx] at hv
  unfold fX10_isWorth at e
  split at e
  · rename_i ho
    obtain ⟨q, e1, e2⟩ := Option.bind_eq_some_iff.mp e
    obtain ⟨rfl, hz⟩ := ra_rz_of e2
    exact ⟨1, _, mtX10_isWorth, hD, ra_ev_of (by decide) hdb hw hz (ra_Ru.weak (nX10_isWorth_0_ok N p0 p1 h _ e1) ⟨rfl, ⟨rfl, trivial⟩⟩), (fun _ => ⟨_, _, rfl, ra_rcv_of ho (by decide) rfl⟩), (fun h => absurd h (by decide))⟩
  · cases e
/-! RedMarks$Worths.goOn(I)I -/
def mX10_goOn : ra_M := (yX10_goOn, cX10_goOn, 8, (some .int))
def lX10_goOn_128 : List ra_I := [(128, .iinc 6 (1), 3, 6, 0, 0, (1), 0, []),
  (131, .goto (-102), 3, 29, 0, 0, 0, 0, [])]
set_option maxRecDepth 100000 in
theorem lX10_goOn_128_ck : lX10_goOn_128.all (ra_ck mX10_goOn 10) = true := by decide +kernel
def nX10_goOn_128 (N : Nat) (c29 : Nat → Int32 → Int32 → Int32 → Int32 → Int32 → Int32 → ra_H → Option (Int32 × ra_H)) (a0 : Nat) (a1 : Int32) (a2 : Int32) (a3 : Int32) (a4 : Int32) (a5 : Int32) (a6 : Int32) (h : ra_H) : Option (Int32 × ra_H) :=
  let y1 := a6 + (1 : Int32)
  c29 a0 a1 a2 a3 a4 a5 y1 h
def kX10_goOn_128 (N : Nat) (c29 : Nat → Int32 → Int32 → Int32 → Int32 → Int32 → Int32 → ra_H → Option (Int32 × ra_H)) : Nat → List (Option Value) → List Value → ra_H → Option (Int32 × ra_H) := (ra_k1 29 (fun L S h => match L, S with
  | [some (.ref a0), some (.int a1), some (.int a2), some (.int a3), some (.int a4), some (.int a5), some (.int a6), _], [] => c29 a0 a1 a2 a3 a4 a5 a6 h
  | _, _ => none) ra_k0)
theorem kX10_goOn_128_ok (N : Nat) (c29 : Nat → Int32 → Int32 → Int32 → Int32 → Int32 → Int32 → ra_H → Option (Int32 × ra_H)) (hc29 : ∀ a0 a1 a2 a3 a4 a5 a6 h r, c29 a0 a1 a2 a3 a4 a5 a6 h = some r → ra_Ru 1 mX10_goOn 29 [some (.ref a0), some (.int a1), some (.int a2), some (.int a3), some (.int a4), some (.int a5), some (.int a6), none] [] h (ra_oI r)) : ra_kok 1 mX10_goOn ra_oI (kX10_goOn_128 N c29) := (ra_k1_ok (by
  intro L S h a e
  split at e
  · exact ra_Ru.weak (hc29 _ _ _ _ _ _ _ _ _ e) ⟨rfl, ⟨rfl, ⟨rfl, ⟨rfl, ⟨rfl, ⟨rfl, ⟨rfl, trivial⟩⟩⟩⟩⟩⟩⟩
  · cases e) ra_k0_ok)
set_option maxRecDepth 100000 in
theorem nX10_goOn_128_ok (N : Nat) (c29 : Nat → Int32 → Int32 → Int32 → Int32 → Int32 → Int32 → ra_H → Option (Int32 × ra_H)) (hc29 : ∀ a0 a1 a2 a3 a4 a5 a6 h r, c29 a0 a1 a2 a3 a4 a5 a6 h = some r → ra_Ru 1 mX10_goOn 29 [some (.ref a0), some (.int a1), some (.int a2), some (.int a3), some (.int a4), some (.int a5), some (.int a6), none] [] h (ra_oI r)) (a0 : Nat) (a1 : Int32) (a2 : Int32) (a3 : Int32) (a4 : Int32) (a5 : Int32) (a6 : Int32) (h : ra_H) (r : (Int32 × ra_H)) (e : nX10_goOn_128 N c29 a0 a1 a2 a3 a4 a5 a6 h = some r) : ra_Ru 1 mX10_goOn 128 [some (.ref a0), some (.int a1), some (.int a2), some (.int a3), some (.int a4), some (.int a5), some (.int a6), none] [] h (ra_oI r) :=
  ra_sound (by omega) rfl ra_rI_ok (kX10_goOn_128_ok N c29 hc29) (fun m av h h1 e => (ra_c0_ok (ro := ra_oV)) m av h h1 e) (fun m av h x h1 e => (ra_c0_ok (ro := ra_oI)) m av h (x, h1) e) (fun m av h x h1 e => (ra_c0_ok (ro := ra_oJ)) m av h (x, h1) e) (fun m av h x h1 e => (ra_c0_ok (ro := ra_oR)) m av h (x, h1) e) (fun m av h x h1 e => (ra_c0_ok (ro := ra_oN)) m av h (x, h1) e) (fun m av h x h1 e => (ra_c0_ok (ro := ra_oF)) m av h (x, h1) e) 3 lX10_goOn_128 _ _ _ _ lX10_goOn_128_ck (show ra_run ra_rI (kX10_goOn_128 N c29) ra_c0 ra_c0 ra_c0 ra_c0 ra_c0 ra_c0 3 lX10_goOn_128 [some (.ref a0), some (.int a1), some (.int a2), some (.int a3), some (.int a4), some (.int a5), some (.int a6), none] [] h = some r from e) _ _ rfl
def lX10_goOn_103 : List ra_I := [(103, .aload_n 0, 1, 0, 0, 0, 0, 0, []),
  (104, .getfield 24, 3, 10, 4, 2, 0, 0, []),
  (107, .iload 6, 2, 6, 0, 0, 0, 0, []),
  (109, .iaload, 1, 0, 0, 0, 0, 0, []),
  (110, .iload 5, 2, 5, 0, 0, 0, 0, []),
  (112, .if_icmp .ge (16), 3, 128, 0, 0, 0, 0, []),
  (115, .aload_n 0, 1, 0, 0, 0, 0, 0, []),
  (116, .getfield 24, 3, 10, 4, 2, 0, 0, []),
  (119, .iload 6, 2, 6, 0, 0, 0, 0, []),
  (121, .iaload, 1, 0, 0, 0, 0, 0, []),
  (122, .istore 5, 2, 5, 0, 0, 0, 0, []),
  (124, .iload 6, 2, 6, 0, 0, 0, 0, []),
  (126, .istore 4, 2, 4, 0, 0, 0, 0, [])]
set_option maxRecDepth 100000 in
theorem lX10_goOn_103_ck : lX10_goOn_103.all (ra_ck mX10_goOn 10) = true := by decide +kernel
def nX10_goOn_103 (N : Nat) (c29 : Nat → Int32 → Int32 → Int32 → Int32 → Int32 → Int32 → ra_H → Option (Int32 × ra_H)) (a0 : Nat) (a1 : Int32) (a2 : Int32) (a3 : Int32) (a4 : Int32) (a5 : Int32) (a6 : Int32) (h : ra_H) : Option (Int32 × ra_H) :=
  (ra_fR h 10 a0 4).bind fun x1 =>
  (ra_aI h 0 x1 a6).bind fun x2 =>
  if x2 < a5 then
    (ra_fR h 10 a0 4).bind fun x3 =>
    (ra_aI h 0 x3 a6).bind fun x4 =>
    nX10_goOn_128 N c29 a0 a1 a2 a3 a6 x4 a6 h
  else
    nX10_goOn_128 N c29 a0 a1 a2 a3 a4 a5 a6 h
def kX10_goOn_103 (N : Nat) (c29 : Nat → Int32 → Int32 → Int32 → Int32 → Int32 → Int32 → ra_H → Option (Int32 × ra_H)) : Nat → List (Option Value) → List Value → ra_H → Option (Int32 × ra_H) := (ra_k1 128 (fun L S h => match L, S with
  | [some (.ref a0), some (.int a1), some (.int a2), some (.int a3), some (.int a4), some (.int a5), some (.int a6), _], [] => nX10_goOn_128 N c29 a0 a1 a2 a3 a4 a5 a6 h
  | _, _ => none) ra_k0)
theorem kX10_goOn_103_ok (N : Nat) (c29 : Nat → Int32 → Int32 → Int32 → Int32 → Int32 → Int32 → ra_H → Option (Int32 × ra_H)) (hc29 : ∀ a0 a1 a2 a3 a4 a5 a6 h r, c29 a0 a1 a2 a3 a4 a5 a6 h = some r → ra_Ru 1 mX10_goOn 29 [some (.ref a0), some (.int a1), some (.int a2), some (.int a3), some (.int a4), some (.int a5), some (.int a6), none] [] h (ra_oI r)) : ra_kok 1 mX10_goOn ra_oI (kX10_goOn_103 N c29) := (ra_k1_ok (by
  intro L S h a e
  split at e
  · exact ra_Ru.weak (nX10_goOn_128_ok N c29 hc29 _ _ _ _ _ _ _ _ _ e) ⟨rfl, ⟨rfl, ⟨rfl, ⟨rfl, ⟨rfl, ⟨rfl, ⟨rfl, trivial⟩⟩⟩⟩⟩⟩⟩
  · cases e) ra_k0_ok)
set_option maxRecDepth 100000 in
theorem nX10_goOn_103_ok (N : Nat) (c29 : Nat → Int32 → Int32 → Int32 → Int32 → Int32 → Int32 → ra_H → Option (Int32 × ra_H)) (hc29 : ∀ a0 a1 a2 a3 a4 a5 a6 h r, c29 a0 a1 a2 a3 a4 a5 a6 h = some r → ra_Ru 1 mX10_goOn 29 [some (.ref a0), some (.int a1), some (.int a2), some (.int a3), some (.int a4), some (.int a5), some (.int a6), none] [] h (ra_oI r)) (a0 : Nat) (a1 : Int32) (a2 : Int32) (a3 : Int32) (a4 : Int32) (a5 : Int32) (a6 : Int32) (h : ra_H) (r : (Int32 × ra_H)) (e : nX10_goOn_103 N c29 a0 a1 a2 a3 a4 a5 a6 h = some r) : ra_Ru 1 mX10_goOn 103 [some (.ref a0), some (.int a1), some (.int a2), some (.int a3), some (.int a4), some (.int a5), some (.int a6), none] [] h (ra_oI r) :=
  ra_sound (by omega) rfl ra_rI_ok (kX10_goOn_103_ok N c29 hc29) (fun m av h h1 e => (ra_c0_ok (ro := ra_oV)) m av h h1 e) (fun m av h x h1 e => (ra_c0_ok (ro := ra_oI)) m av h (x, h1) e) (fun m av h x h1 e => (ra_c0_ok (ro := ra_oJ)) m av h (x, h1) e) (fun m av h x h1 e => (ra_c0_ok (ro := ra_oR)) m av h (x, h1) e) (fun m av h x h1 e => (ra_c0_ok (ro := ra_oN)) m av h (x, h1) e) (fun m av h x h1 e => (ra_c0_ok (ro := ra_oF)) m av h (x, h1) e) 14 lX10_goOn_103 _ _ _ _ lX10_goOn_103_ck (show ra_run ra_rI (kX10_goOn_103 N c29) ra_c0 ra_c0 ra_c0 ra_c0 ra_c0 ra_c0 14 lX10_goOn_103 [some (.ref a0), some (.int a1), some (.int a2), some (.int a3), some (.int a4), some (.int a5), some (.int a6), none] [] h = some r from e) _ _ rfl
def lX10_goOn_200 : List ra_I := [(200, .iinc 6 (1), 3, 6, 0, 0, (1), 0, []),
  (203, .goto (-66), 3, 137, 0, 0, 0, 0, [])]
set_option maxRecDepth 100000 in
theorem lX10_goOn_200_ck : lX10_goOn_200.all (ra_ck mX10_goOn 10) = true := by decide +kernel
def nX10_goOn_200 (N : Nat) (c137 : Nat → Int32 → Int32 → Int32 → ra_H → Option (Int32 × ra_H)) (a0 : Nat) (a4 : Int32) (a5 : Int32) (a6 : Int32) (h : ra_H) : Option (Int32 × ra_H) :=
  let y1 := a6 + (1 : Int32)
  c137 a0 a4 a5 y1 h
def kX10_goOn_200 (N : Nat) (c137 : Nat → Int32 → Int32 → Int32 → ra_H → Option (Int32 × ra_H)) : Nat → List (Option Value) → List Value → ra_H → Option (Int32 × ra_H) := (ra_k1 137 (fun L S h => match L, S with
  | [some (.ref a0), _, _, _, some (.int a4), some (.int a5), some (.int a6), _], [] => c137 a0 a4 a5 a6 h
  | _, _ => none) ra_k0)
theorem kX10_goOn_200_ok (N : Nat) (c137 : Nat → Int32 → Int32 → Int32 → ra_H → Option (Int32 × ra_H)) (hc137 : ∀ a0 a4 a5 a6 h r, c137 a0 a4 a5 a6 h = some r → ra_Ru 1 mX10_goOn 137 [some (.ref a0), none, none, none, some (.int a4), some (.int a5), some (.int a6), none] [] h (ra_oI r)) : ra_kok 1 mX10_goOn ra_oI (kX10_goOn_200 N c137) := (ra_k1_ok (by
  intro L S h a e
  split at e
  · exact ra_Ru.weak (hc137 _ _ _ _ _ _ e) ⟨rfl, ⟨rfl, ⟨rfl, ⟨rfl, trivial⟩⟩⟩⟩
  · cases e) ra_k0_ok)
set_option maxRecDepth 100000 in
theorem nX10_goOn_200_ok (N : Nat) (c137 : Nat → Int32 → Int32 → Int32 → ra_H → Option (Int32 × ra_H)) (hc137 : ∀ a0 a4 a5 a6 h r, c137 a0 a4 a5 a6 h = some r → ra_Ru 1 mX10_goOn 137 [some (.ref a0), none, none, none, some (.int a4), some (.int a5), some (.int a6), none] [] h (ra_oI r)) (a0 : Nat) (a4 : Int32) (a5 : Int32) (a6 : Int32) (h : ra_H) (r : (Int32 × ra_H)) (e : nX10_goOn_200 N c137 a0 a4 a5 a6 h = some r) : ra_Ru 1 mX10_goOn 200 [some (.ref a0), none, none, none, some (.int a4), some (.int a5), some (.int a6), none] [] h (ra_oI r) :=
  ra_sound (by omega) rfl ra_rI_ok (kX10_goOn_200_ok N c137 hc137) (fun m av h h1 e => (ra_c0_ok (ro := ra_oV)) m av h h1 e) (fun m av h x h1 e => (ra_c0_ok (ro := ra_oI)) m av h (x, h1) e) (fun m av h x h1 e => (ra_c0_ok (ro := ra_oJ)) m av h (x, h1) e) (fun m av h x h1 e => (ra_c0_ok (ro := ra_oR)) m av h (x, h1) e) (fun m av h x h1 e => (ra_c0_ok (ro := ra_oN)) m av h (x, h1) e) (fun m av h x h1 e => (ra_c0_ok (ro := ra_oF)) m av h (x, h1) e) 3 lX10_goOn_200 _ _ _ _ lX10_goOn_200_ck (show ra_run ra_rI (kX10_goOn_200 N c137) ra_c0 ra_c0 ra_c0 ra_c0 ra_c0 ra_c0 3 lX10_goOn_200 [some (.ref a0), none, none, none, some (.int a4), some (.int a5), some (.int a6), none] [] h = some r from e) _ _ rfl
def lX10_goOn_137 : List ra_I := [(137, .iload 6, 2, 6, 0, 0, 0, 0, []),
  (139, .aload_n 0, 1, 0, 0, 0, 0, 0, []),
  (140, .getfield 47, 3, 10, 7, 0, 0, 0, []),
  (143, .if_icmp .gt (63), 3, 206, 0, 0, 0, 0, []),
  (146, .aload_n 0, 1, 0, 0, 0, 0, 0, []),
  (147, .getfield 27, 3, 10, 5, 2, 0, 0, []),
  (150, .iload 6, 2, 6, 0, 0, 0, 0, []),
  (152, .baload, 1, 0, 0, 0, 0, 0, []),
  (153, .ifCond .eq (35), 3, 188, 0, 0, 0, 0, []),
  (156, .aload_n 0, 1, 0, 0, 0, 0, 0, []),
  (157, .getfield 9, 3, 10, 0, 2, 0, 0, []),
  (160, .aload_n 0, 1, 0, 0, 0, 0, 0, []),
  (161, .getfield 18, 3, 10, 2, 2, 0, 0, []),
  (164, .iload 6, 2, 6, 0, 0, 0, 0, []),
  (166, .iaload, 1, 0, 0, 0, 0, 0, []),
  (167, .dup2, 1, 0, 0, 0, 0, 0, []),
  (168, .iaload, 1, 0, 0, 0, 0, 0, []),
  (169, .iload 5, 2, 5, 0, 0, 0, 0, []),
  (171, .isub, 1, 0, 0, 0, 0, 0, []),
  (172, .iastore, 1, 0, 0, 0, 0, 0, []),
  (173, .aload_n 0, 1, 0, 0, 0, 0, 0, []),
  (174, .getfield 15, 3, 10, 1, 2, 0, 0, []),
  (177, .iload 6, 2, 6, 0, 0, 0, 0, []),
  (179, .dup2, 1, 0, 0, 0, 0, 0, []),
  (180, .iaload, 1, 0, 0, 0, 0, 0, []),
  (181, .iload 5, 2, 5, 0, 0, 0, 0, []),
  (183, .iadd, 1, 0, 0, 0, 0, 0, []),
  (184, .iastore, 1, 0, 0, 0, 0, 0, []),
  (185, .goto (15), 3, 200, 0, 0, 0, 0, []),
  (188, .aload_n 0, 1, 0, 0, 0, 0, 0, []),
  (189, .getfield 24, 3, 10, 4, 2, 0, 0, []),
  (192, .iload 6, 2, 6, 0, 0, 0, 0, []),
  (194, .dup2, 1, 0, 0, 0, 0, 0, []),
  (195, .iaload, 1, 0, 0, 0, 0, 0, []),
  (196, .iload 5, 2, 5, 0, 0, 0, 0, []),
  (198, .isub, 1, 0, 0, 0, 0, 0, []),
  (199, .iastore, 1, 0, 0, 0, 0, 0, []),
  (206, .iload 4, 2, 4, 0, 0, 0, 0, []),
  (208, .ireturn, 1, 0, 0, 0, 0, 0, [])]
set_option maxRecDepth 100000 in
theorem lX10_goOn_137_ck : lX10_goOn_137.all (ra_ck mX10_goOn 10) = true := by decide +kernel
def nX10_goOn_137 (N : Nat) : Nat → Nat → Int32 → Int32 → Int32 → ra_H → Option (Int32 × ra_H)
  | 0, _, _, _, _, _ => none
  | n + 1, a0, a4, a5, a6, h =>
  (ra_fI h 10 a0 7).bind fun x1 =>
  if a6 ≤ x1 then
    (ra_fR h 10 a0 5).bind fun x2 =>
    (ra_aI h 2 x2 a6).bind fun x3 =>
    if x3 = 0 then
      (ra_fR h 10 a0 4).bind fun x4 =>
      (ra_aI h 0 x4 a6).bind fun x5 =>
      (ra_aW h 0 x4 a6 (x5 - a5)).bind fun h6 =>
      nX10_goOn_200 N (nX10_goOn_137 N n) a0 a4 a5 a6 h6
    else
      (ra_fR h 10 a0 0).bind fun x7 =>
      (ra_fR h 10 a0 2).bind fun x8 =>
      (ra_aI h 0 x8 a6).bind fun x9 =>
      (ra_aI h 0 x7 x9).bind fun x10 =>
      (ra_aW h 0 x7 x9 (x10 - a5)).bind fun h11 =>
      (ra_fR h11 10 a0 1).bind fun x12 =>
      (ra_aI h11 0 x12 a6).bind fun x13 =>
      (ra_aW h11 0 x12 a6 (x13 + a5)).bind fun h14 =>
      nX10_goOn_200 N (nX10_goOn_137 N n) a0 a4 a5 a6 h14
  else
    some (a4, h)
def kX10_goOn_137 (N : Nat) (cs : Nat → Int32 → Int32 → Int32 → ra_H → Option (Int32 × ra_H)) : Nat → List (Option Value) → List Value → ra_H → Option (Int32 × ra_H) := (ra_k1 200 (fun L S h => match L, S with
  | [some (.ref a0), _, _, _, some (.int a4), some (.int a5), some (.int a6), _], [] => nX10_goOn_200 N cs a0 a4 a5 a6 h
  | _, _ => none) ra_k0)
theorem kX10_goOn_137_ok (N : Nat) (cs : Nat → Int32 → Int32 → Int32 → ra_H → Option (Int32 × ra_H)) (hcs : ∀ a0 a4 a5 a6 h r, cs a0 a4 a5 a6 h = some r → ra_Ru 1 mX10_goOn 137 [some (.ref a0), none, none, none, some (.int a4), some (.int a5), some (.int a6), none] [] h (ra_oI r)) : ra_kok 1 mX10_goOn ra_oI (kX10_goOn_137 N cs) := (ra_k1_ok (by
  intro L S h a e
  split at e
  · exact ra_Ru.weak (nX10_goOn_200_ok N cs hcs _ _ _ _ _ _ e) ⟨rfl, ⟨rfl, ⟨rfl, ⟨rfl, trivial⟩⟩⟩⟩
  · cases e) ra_k0_ok)
set_option maxRecDepth 100000 in
theorem nX10_goOn_137_ok (N : Nat) : ∀ n a0 a4 a5 a6 h r, nX10_goOn_137 N n a0 a4 a5 a6 h = some r → ra_Ru 1 mX10_goOn 137 [some (.ref a0), none, none, none, some (.int a4), some (.int a5), some (.int a6), none] [] h (ra_oI r) := by
  intro n
  induction n with
  | zero => intro a0 a4 a5 a6 h r e; cases e
  | succ n ih =>
    intro a0 a4 a5 a6 h r e
    exact ra_sound (by omega) rfl ra_rI_ok (kX10_goOn_137_ok N (nX10_goOn_137 N n) ih) (fun m av h h1 e => (ra_c0_ok (ro := ra_oV)) m av h h1 e) (fun m av h x h1 e => (ra_c0_ok (ro := ra_oI)) m av h (x, h1) e) (fun m av h x h1 e => (ra_c0_ok (ro := ra_oJ)) m av h (x, h1) e) (fun m av h x h1 e => (ra_c0_ok (ro := ra_oR)) m av h (x, h1) e) (fun m av h x h1 e => (ra_c0_ok (ro := ra_oN)) m av h (x, h1) e) (fun m av h x h1 e => (ra_c0_ok (ro := ra_oF)) m av h (x, h1) e) 40 lX10_goOn_137 _ _ _ _ lX10_goOn_137_ck (show ra_run ra_rI (kX10_goOn_137 N (nX10_goOn_137 N n)) ra_c0 ra_c0 ra_c0 ra_c0 ra_c0 ra_c0 40 lX10_goOn_137 [some (.ref a0), none, none, none, some (.int a4), some (.int a5), some (.int a6), none] [] h = some r from e) _ _ rfl
def lX10_goOn_29 : List ra_I := [(29, .iload 6, 2, 6, 0, 0, 0, 0, []),
  (31, .aload_n 0, 1, 0, 0, 0, 0, 0, []),
  (32, .getfield 47, 3, 10, 7, 0, 0, 0, []),
  (35, .if_icmp .gt (99), 3, 134, 0, 0, 0, 0, []),
  (38, .aload_n 0, 1, 0, 0, 0, 0, 0, []),
  (39, .getfield 27, 3, 10, 5, 2, 0, 0, []),
  (42, .iload 6, 2, 6, 0, 0, 0, 0, []),
  (44, .baload, 1, 0, 0, 0, 0, 0, []),
  (45, .ifCond .ne (83), 3, 128, 0, 0, 0, 0, []),
  (48, .aload_n 0, 1, 0, 0, 0, 0, 0, []),
  (49, .getfield 9, 3, 10, 0, 2, 0, 0, []),
  (52, .iload_n 2, 1, 2, 0, 0, 0, 0, []),
  (53, .iaload, 1, 0, 0, 0, 0, 0, []),
  (54, .aload_n 0, 1, 0, 0, 0, 0, 0, []),
  (55, .getfield 15, 3, 10, 1, 2, 0, 0, []),
  (58, .iload 6, 2, 6, 0, 0, 0, 0, []),
  (60, .iaload, 1, 0, 0, 0, 0, 0, []),
  (61, .iadd, 1, 0, 0, 0, 0, 0, []),
  (62, .aload_n 0, 1, 0, 0, 0, 0, 0, []),
  (63, .getfield 31, 3, 10, 6, 2, 0, 0, []),
  (66, .iload_n 3, 1, 3, 0, 0, 0, 0, []),
  (67, .iload 6, 2, 6, 0, 0, 0, 0, []),
  (69, .iadd, 1, 0, 0, 0, 0, 0, []),
  (70, .iaload, 1, 0, 0, 0, 0, 0, []),
  (71, .isub, 1, 0, 0, 0, 0, 0, []),
  (72, .istore 7, 2, 7, 0, 0, 0, 0, []),
  (74, .iload 7, 2, 7, 0, 0, 0, 0, []),
  (76, .aload_n 0, 1, 0, 0, 0, 0, 0, []),
  (77, .getfield 24, 3, 10, 4, 2, 0, 0, []),
  (80, .iload 6, 2, 6, 0, 0, 0, 0, []),
  (82, .iaload, 1, 0, 0, 0, 0, 0, []),
  (83, .if_icmp .ge (20), 3, 103, 0, 0, 0, 0, []),
  (86, .aload_n 0, 1, 0, 0, 0, 0, 0, []),
  (87, .getfield 24, 3, 10, 4, 2, 0, 0, []),
  (90, .iload 6, 2, 6, 0, 0, 0, 0, []),
  (92, .iload 7, 2, 7, 0, 0, 0, 0, []),
  (94, .iastore, 1, 0, 0, 0, 0, 0, []),
  (95, .aload_n 0, 1, 0, 0, 0, 0, 0, []),
  (96, .getfield 21, 3, 10, 3, 2, 0, 0, []),
  (99, .iload 6, 2, 6, 0, 0, 0, 0, []),
  (101, .iload_n 1, 1, 1, 0, 0, 0, 0, []),
  (102, .iastore, 1, 0, 0, 0, 0, 0, []),
  (134, .iconst (0), 1, 0, 0, 0, (0), 0, []),
  (135, .istore 6, 2, 6, 0, 0, 0, 0, [])]
set_option maxRecDepth 100000 in
theorem lX10_goOn_29_ck : lX10_goOn_29.all (ra_ck mX10_goOn 10) = true := by decide +kernel
def nX10_goOn_29 (N : Nat) : Nat → Nat → Int32 → Int32 → Int32 → Int32 → Int32 → Int32 → ra_H → Option (Int32 × ra_H)
  | 0, _, _, _, _, _, _, _, _ => none
  | n + 1, a0, a1, a2, a3, a4, a5, a6, h =>
  (ra_fI h 10 a0 7).bind fun x1 =>
  if a6 ≤ x1 then
    (ra_fR h 10 a0 5).bind fun x2 =>
    (ra_aI h 2 x2 a6).bind fun x3 =>
    if x3 = 0 then
      (ra_fR h 10 a0 0).bind fun x4 =>
      (ra_aI h 0 x4 a2).bind fun x5 =>
      (ra_fR h 10 a0 1).bind fun x6 =>
      (ra_aI h 0 x6 a6).bind fun x7 =>
      (ra_fR h 10 a0 6).bind fun x8 =>
      (ra_aI h 0 x8 (a3 + a6)).bind fun x9 =>
      let y10 := (x5 + x7) - x9
      (ra_fR h 10 a0 4).bind fun x11 =>
      (ra_aI h 0 x11 a6).bind fun x12 =>
      if y10 < x12 then
        (ra_fR h 10 a0 4).bind fun x13 =>
        (ra_aW h 0 x13 a6 y10).bind fun h14 =>
        (ra_fR h14 10 a0 3).bind fun x15 =>
        (ra_aW h14 0 x15 a6 a1).bind fun h16 =>
        nX10_goOn_103 N (nX10_goOn_29 N n) a0 a1 a2 a3 a4 a5 a6 h16
      else
        nX10_goOn_103 N (nX10_goOn_29 N n) a0 a1 a2 a3 a4 a5 a6 h
    else
      nX10_goOn_128 N (nX10_goOn_29 N n) a0 a1 a2 a3 a4 a5 a6 h
  else
    nX10_goOn_137 N N a0 a4 a5 ((0 : Int32)) h
def kX10_goOn_29 (N : Nat) (cs : Nat → Int32 → Int32 → Int32 → Int32 → Int32 → Int32 → ra_H → Option (Int32 × ra_H)) : Nat → List (Option Value) → List Value → ra_H → Option (Int32 × ra_H) := (ra_k1 103 (fun L S h => match L, S with
  | [some (.ref a0), some (.int a1), some (.int a2), some (.int a3), some (.int a4), some (.int a5), some (.int a6), _], [] => nX10_goOn_103 N cs a0 a1 a2 a3 a4 a5 a6 h
  | _, _ => none) (ra_k1 128 (fun L S h => match L, S with
  | [some (.ref a0), some (.int a1), some (.int a2), some (.int a3), some (.int a4), some (.int a5), some (.int a6), _], [] => nX10_goOn_128 N cs a0 a1 a2 a3 a4 a5 a6 h
  | _, _ => none) (ra_k1 137 (fun L S h => match L, S with
  | [some (.ref a0), _, _, _, some (.int a4), some (.int a5), some (.int a6), _], [] => nX10_goOn_137 N N a0 a4 a5 a6 h
  | _, _ => none) ra_k0)))
theorem kX10_goOn_29_ok (N : Nat) (cs : Nat → Int32 → Int32 → Int32 → Int32 → Int32 → Int32 → ra_H → Option (Int32 × ra_H)) (hcs : ∀ a0 a1 a2 a3 a4 a5 a6 h r, cs a0 a1 a2 a3 a4 a5 a6 h = some r → ra_Ru 1 mX10_goOn 29 [some (.ref a0), some (.int a1), some (.int a2), some (.int a3), some (.int a4), some (.int a5), some (.int a6), none] [] h (ra_oI r)) : ra_kok 1 mX10_goOn ra_oI (kX10_goOn_29 N cs) := (ra_k1_ok (by
  intro L S h a e
  split at e
  · exact ra_Ru.weak (nX10_goOn_103_ok N cs hcs _ _ _ _ _ _ _ _ _ e) ⟨rfl, ⟨rfl, ⟨rfl, ⟨rfl, ⟨rfl, ⟨rfl, ⟨rfl, trivial⟩⟩⟩⟩⟩⟩⟩
  · cases e) (ra_k1_ok (by
  intro L S h a e
  split at e
  · exact ra_Ru.weak (nX10_goOn_128_ok N cs hcs _ _ _ _ _ _ _ _ _ e) ⟨rfl, ⟨rfl, ⟨rfl, ⟨rfl, ⟨rfl, ⟨rfl, ⟨rfl, trivial⟩⟩⟩⟩⟩⟩⟩
  · cases e) (ra_k1_ok (by
  intro L S h a e
  split at e
  · exact ra_Ru.weak (nX10_goOn_137_ok N N _ _ _ _ _ _ e) ⟨rfl, ⟨rfl, ⟨rfl, ⟨rfl, trivial⟩⟩⟩⟩
  · cases e) ra_k0_ok)))
set_option maxRecDepth 100000 in
theorem nX10_goOn_29_ok (N : Nat) : ∀ n a0 a1 a2 a3 a4 a5 a6 h r, nX10_goOn_29 N n a0 a1 a2 a3 a4 a5 a6 h = some r → ra_Ru 1 mX10_goOn 29 [some (.ref a0), some (.int a1), some (.int a2), some (.int a3), some (.int a4), some (.int a5), some (.int a6), none] [] h (ra_oI r) := by
  intro n
  induction n with
  | zero => intro a0 a1 a2 a3 a4 a5 a6 h r e; cases e
  | succ n ih =>
    intro a0 a1 a2 a3 a4 a5 a6 h r e
    exact ra_sound (by omega) rfl ra_rI_ok (kX10_goOn_29_ok N (nX10_goOn_29 N n) ih) (fun m av h h1 e => (ra_c0_ok (ro := ra_oV)) m av h h1 e) (fun m av h x h1 e => (ra_c0_ok (ro := ra_oI)) m av h (x, h1) e) (fun m av h x h1 e => (ra_c0_ok (ro := ra_oJ)) m av h (x, h1) e) (fun m av h x h1 e => (ra_c0_ok (ro := ra_oR)) m av h (x, h1) e) (fun m av h x h1 e => (ra_c0_ok (ro := ra_oN)) m av h (x, h1) e) (fun m av h x h1 e => (ra_c0_ok (ro := ra_oF)) m av h (x, h1) e) 45 lX10_goOn_29 _ _ _ _ lX10_goOn_29_ck (show ra_run ra_rI (kX10_goOn_29 N (nX10_goOn_29 N n)) ra_c0 ra_c0 ra_c0 ra_c0 ra_c0 ra_c0 45 lX10_goOn_29 [some (.ref a0), some (.int a1), some (.int a2), some (.int a3), some (.int a4), some (.int a5), some (.int a6), none] [] h = some r from e) _ _ rfl
def lX10_goOn_0 : List ra_I := [(0, .aload_n 0, 1, 0, 0, 0, 0, 0, []),
  (1, .getfield 27, 3, 10, 5, 2, 0, 0, []),
  (4, .iload_n 1, 1, 1, 0, 0, 0, 0, []),
  (5, .iconst (1), 1, 0, 0, 0, (1), 0, []),
  (6, .bastore, 1, 0, 0, 0, 0, 0, []),
  (7, .aload_n 0, 1, 0, 0, 0, 0, 0, []),
  (8, .getfield 18, 3, 10, 2, 2, 0, 0, []),
  (11, .iload_n 1, 1, 1, 0, 0, 0, 0, []),
  (12, .iaload, 1, 0, 0, 0, 0, 0, []),
  (13, .istore_n 2, 1, 2, 0, 0, 0, 0, []),
  (14, .iload_n 2, 1, 2, 0, 0, 0, 0, []),
  (15, .bipush (54), 2, 0, 0, 0, (54), 0, []),
  (17, .imul, 1, 0, 0, 0, 0, 0, []),
  (18, .istore_n 3, 1, 3, 0, 0, 0, 0, []),
  (19, .iconst (0), 1, 0, 0, 0, (0), 0, []),
  (20, .istore 4, 2, 4, 0, 0, 0, 0, []),
  (22, .ldc 63, 2, 0, 0, 0, (1000000), 0, []),
  (24, .istore 5, 2, 5, 0, 0, 0, 0, []),
  (26, .iconst (1), 1, 0, 0, 0, (1), 0, []),
  (27, .istore 6, 2, 6, 0, 0, 0, 0, [])]
set_option maxRecDepth 100000 in
theorem lX10_goOn_0_ck : lX10_goOn_0.all (ra_ck mX10_goOn 10) = true := by decide +kernel
def nX10_goOn_0 (N : Nat) (a0 : Nat) (a1 : Int32) (h : ra_H) : Option (Int32 × ra_H) :=
  (ra_fR h 10 a0 5).bind fun x1 =>
  (ra_aW h 2 x1 a1 (vp_nar .boolean ((1 : Int32)))).bind fun h2 =>
  (ra_fR h2 10 a0 2).bind fun x3 =>
  (ra_aI h2 0 x3 a1).bind fun x4 =>
  let y5 := x4 * ((54 : Int32))
  nX10_goOn_29 N N a0 a1 x4 y5 ((0 : Int32)) ((1000000 : Int32)) ((1 : Int32)) h2
def kX10_goOn_0 (N : Nat) : Nat → List (Option Value) → List Value → ra_H → Option (Int32 × ra_H) := (ra_k1 29 (fun L S h => match L, S with
  | [some (.ref a0), some (.int a1), some (.int a2), some (.int a3), some (.int a4), some (.int a5), some (.int a6), _], [] => nX10_goOn_29 N N a0 a1 a2 a3 a4 a5 a6 h
  | _, _ => none) ra_k0)
theorem kX10_goOn_0_ok (N : Nat) : ra_kok 1 mX10_goOn ra_oI (kX10_goOn_0 N) := (ra_k1_ok (by
  intro L S h a e
  split at e
  · exact ra_Ru.weak (nX10_goOn_29_ok N N _ _ _ _ _ _ _ _ _ e) ⟨rfl, ⟨rfl, ⟨rfl, ⟨rfl, ⟨rfl, ⟨rfl, ⟨rfl, trivial⟩⟩⟩⟩⟩⟩⟩
  · cases e) ra_k0_ok)
set_option maxRecDepth 100000 in
theorem nX10_goOn_0_ok (N : Nat) (a0 : Nat) (a1 : Int32) (h : ra_H) (r : (Int32 × ra_H)) (e : nX10_goOn_0 N a0 a1 h = some r) : ra_Ru 1 mX10_goOn 0 [some (.ref a0), some (.int a1), none, none, none, none, none, none] [] h (ra_oI r) :=
  ra_sound (by omega) rfl ra_rI_ok (kX10_goOn_0_ok N) (fun m av h h1 e => (ra_c0_ok (ro := ra_oV)) m av h h1 e) (fun m av h x h1 e => (ra_c0_ok (ro := ra_oI)) m av h (x, h1) e) (fun m av h x h1 e => (ra_c0_ok (ro := ra_oJ)) m av h (x, h1) e) (fun m av h x h1 e => (ra_c0_ok (ro := ra_oR)) m av h (x, h1) e) (fun m av h x h1 e => (ra_c0_ok (ro := ra_oN)) m av h (x, h1) e) (fun m av h x h1 e => (ra_c0_ok (ro := ra_oF)) m av h (x, h1) e) 21 lX10_goOn_0 _ _ _ _ lX10_goOn_0_ck (show ra_run ra_rI (kX10_goOn_0 N) ra_c0 ra_c0 ra_c0 ra_c0 ra_c0 ra_c0 21 lX10_goOn_0 [some (.ref a0), some (.int a1), none, none, none, none, none, none] [] h = some r from e) _ _ rfl
def fX10_goOn (N : Nat) (p0 : Nat) (p1 : Int32) (h : ra_H) : Option (Int32 × ra_H) := match ra_isOb h p0 10 with
  | true => nX10_goOn_0 N p0 p1 h
  | false => none
set_option maxRecDepth 100000 in
theorem mtX10_goOn : ra_MT[126]? = some (mX10_goOn, 1, 1, (1, 10), (5, 20), (0, 38)) := rfl
theorem fX10_goOn_co (N : Nat) (p0 : Nat) (p1 : Int32) (h : ra_H) (r : (Int32 × ra_H)) (e : fX10_goOn N p0 p1 h = some r) (D : Nat) (hD : 2 ≤ D) : ra_CO D 126 [.ref p0, .int p1] h (ra_oI r).1 (ra_oI r).2 := by
  have hw : ra_nw2 [.ref p0, .int p1] ≤ 8 := Nat.le_of_ble_eq_true rfl
  have hdb : ∀ v ∈ ([.ref p0, .int p1] : List Value), ∀ x, v ≠ .double x := by
    intro v hv x hx
    simp [hx] at hv
  unfold fX10_goOn at e
  split at e
  · rename_i ho
    have e1 := e
    exact ⟨1, _, mtX10_goOn, hD, ra_ev_of (by decide) hdb hw trivial (ra_Ru.weak (nX10_goOn_0_ok N p0 p1 h _ e1) ⟨rfl, ⟨rfl, trivial⟩⟩), (fun _ => ⟨_, _, rfl, ra_rcv_of ho (by decide) rfl⟩), (fun h => absurd h (by decide))⟩
  · cases e
/-! RedMarks$Worths.placeLine(I)V -/
def mX10_placeLine : ra_M := (yX10_placeLine, cX10_placeLine, 4, none)
def tIX10_placeLine (N : Nat) : Nat → List Value → ra_H → Option (Int32 × ra_H) := (ra_c1 126 (fun av h => match av with
  | [.ref z0, .int z1] => fX10_goOn N z0 z1 h
  | _ => none) ra_c0)
theorem tIX10_placeLine_ok (N : Nat) : ra_cok 2 ra_oI (tIX10_placeLine N) := (ra_c1_ok (by
  intro av h a e
  split at e
  · exact fX10_goOn_co N _ _ _ _ e 2 (by omega)
  · cases e) ra_c0_ok)
def lX10_placeLine_115 : List ra_I := [(115, .return_, 1, 0, 0, 0, 0, 0, [])]
set_option maxRecDepth 100000 in
theorem lX10_placeLine_115_ck : lX10_placeLine_115.all (ra_ck mX10_placeLine 10) = true := by decide +kernel
def nX10_placeLine_115 (N : Nat) (h : ra_H) : Option ra_H :=
  some h
def kX10_placeLine_115 (N : Nat) : Nat → List (Option Value) → List Value → ra_H → Option ra_H := ra_k0
theorem kX10_placeLine_115_ok (N : Nat) : ra_kok 2 mX10_placeLine ra_oV (kX10_placeLine_115 N) := ra_k0_ok
set_option maxRecDepth 100000 in
theorem nX10_placeLine_115_ok (N : Nat) (h : ra_H) (r : ra_H) (e : nX10_placeLine_115 N h = some r) : ra_Ru 2 mX10_placeLine 115 [none, none, none, none] [] h (ra_oV r) :=
  ra_sound (by omega) rfl ra_rV_ok (kX10_placeLine_115_ok N) (fun m av h h1 e => (ra_c0_ok (ro := ra_oV)) m av h h1 e) (fun m av h x h1 e => (tIX10_placeLine_ok N) m av h (x, h1) e) (fun m av h x h1 e => (ra_c0_ok (ro := ra_oJ)) m av h (x, h1) e) (fun m av h x h1 e => (ra_c0_ok (ro := ra_oR)) m av h (x, h1) e) (fun m av h x h1 e => (ra_c0_ok (ro := ra_oN)) m av h (x, h1) e) (fun m av h x h1 e => (ra_c0_ok (ro := ra_oF)) m av h (x, h1) e) 2 lX10_placeLine_115 _ _ _ _ lX10_placeLine_115_ck (show ra_run ra_rV (kX10_placeLine_115 N) ra_c0 (tIX10_placeLine N) ra_c0 ra_c0 ra_c0 ra_c0 2 lX10_placeLine_115 [none, none, none, none] [] h = some r from e) _ _ rfl
def lX10_placeLine_73 : List ra_I := [(73, .iload_n 3, 1, 3, 0, 0, 0, 0, []),
  (74, .aload_n 0, 1, 0, 0, 0, 0, 0, []),
  (75, .getfield 47, 3, 10, 7, 0, 0, 0, []),
  (78, .if_icmp .gt (37), 3, 115, 0, 0, 0, 0, []),
  (81, .iload_n 2, 1, 2, 0, 0, 0, 0, []),
  (82, .ifCond .eq (33), 3, 115, 0, 0, 0, 0, []),
  (85, .aload_n 0, 1, 0, 0, 0, 0, 0, []),
  (86, .getfield 18, 3, 10, 2, 2, 0, 0, []),
  (89, .iload_n 2, 1, 2, 0, 0, 0, 0, []),
  (90, .aload_n 0, 1, 0, 0, 0, 0, 0, []),
  (91, .getfield 18, 3, 10, 2, 2, 0, 0, []),
  (94, .aload_n 0, 1, 0, 0, 0, 0, 0, []),
  (95, .getfield 21, 3, 10, 3, 2, 0, 0, []),
  (98, .iload_n 2, 1, 2, 0, 0, 0, 0, []),
  (99, .iaload, 1, 0, 0, 0, 0, 0, []),
  (100, .iaload, 1, 0, 0, 0, 0, 0, []),
  (101, .iastore, 1, 0, 0, 0, 0, 0, []),
  (102, .aload_n 0, 1, 0, 0, 0, 0, 0, []),
  (103, .getfield 21, 3, 10, 3, 2, 0, 0, []),
  (106, .iload_n 2, 1, 2, 0, 0, 0, 0, []),
  (107, .iaload, 1, 0, 0, 0, 0, 0, []),
  (108, .istore_n 2, 1, 2, 0, 0, 0, 0, []),
  (109, .iinc 3 (1), 3, 3, 0, 0, (1), 0, []),
  (112, .goto (-39), 3, 73, 0, 0, 0, 0, [])]
set_option maxRecDepth 100000 in
theorem lX10_placeLine_73_ck : lX10_placeLine_73.all (ra_ck mX10_placeLine 10) = true := by decide +kernel
def nX10_placeLine_73 (N : Nat) : Nat → Nat → Int32 → Int32 → ra_H → Option ra_H
  | 0, _, _, _, _ => none
  | n + 1, a0, a2, a3, h =>
  (ra_fI h 10 a0 7).bind fun x1 =>
  if a3 ≤ x1 then
    if a2 = 0 then
      nX10_placeLine_115 N h
    else
      (ra_fR h 10 a0 2).bind fun x2 =>
      (ra_fR h 10 a0 2).bind fun x3 =>
      (ra_fR h 10 a0 3).bind fun x4 =>
      (ra_aI h 0 x4 a2).bind fun x5 =>
      (ra_aI h 0 x3 x5).bind fun x6 =>
      (ra_aW h 0 x2 a2 x6).bind fun h7 =>
      (ra_fR h7 10 a0 3).bind fun x8 =>
      (ra_aI h7 0 x8 a2).bind fun x9 =>
      let y10 := a3 + (1 : Int32)
      nX10_placeLine_73 N n a0 x9 y10 h7
  else
    nX10_placeLine_115 N h
def kX10_placeLine_73 (N : Nat) (cs : Nat → Int32 → Int32 → ra_H → Option ra_H) : Nat → List (Option Value) → List Value → ra_H → Option ra_H := (ra_k1 73 (fun L S h => match L, S with
  | [some (.ref a0), _, some (.int a2), some (.int a3)], [] => cs a0 a2 a3 h
  | _, _ => none) (ra_k1 115 (fun L S h => match L, S with
  | [_, _, _, _], [] => nX10_placeLine_115 N h
  | _, _ => none) ra_k0))
theorem kX10_placeLine_73_ok (N : Nat) (cs : Nat → Int32 → Int32 → ra_H → Option ra_H) (hcs : ∀ a0 a2 a3 h r, cs a0 a2 a3 h = some r → ra_Ru 2 mX10_placeLine 73 [some (.ref a0), none, some (.int a2), some (.int a3)] [] h (ra_oV r)) : ra_kok 2 mX10_placeLine ra_oV (kX10_placeLine_73 N cs) := (ra_k1_ok (by
  intro L S h a e
  split at e
  · exact ra_Ru.weak (hcs _ _ _ _ _ e) ⟨rfl, ⟨rfl, ⟨rfl, trivial⟩⟩⟩
  · cases e) (ra_k1_ok (by
  intro L S h a e
  split at e
  · exact ra_Ru.weak (nX10_placeLine_115_ok N _ _ e) trivial
  · cases e) ra_k0_ok))
set_option maxRecDepth 100000 in
theorem nX10_placeLine_73_ok (N : Nat) : ∀ n a0 a2 a3 h r, nX10_placeLine_73 N n a0 a2 a3 h = some r → ra_Ru 2 mX10_placeLine 73 [some (.ref a0), none, some (.int a2), some (.int a3)] [] h (ra_oV r) := by
  intro n
  induction n with
  | zero => intro a0 a2 a3 h r e; cases e
  | succ n ih =>
    intro a0 a2 a3 h r e
    exact ra_sound (by omega) rfl ra_rV_ok (kX10_placeLine_73_ok N (nX10_placeLine_73 N n) ih) (fun m av h h1 e => (ra_c0_ok (ro := ra_oV)) m av h h1 e) (fun m av h x h1 e => (tIX10_placeLine_ok N) m av h (x, h1) e) (fun m av h x h1 e => (ra_c0_ok (ro := ra_oJ)) m av h (x, h1) e) (fun m av h x h1 e => (ra_c0_ok (ro := ra_oR)) m av h (x, h1) e) (fun m av h x h1 e => (ra_c0_ok (ro := ra_oN)) m av h (x, h1) e) (fun m av h x h1 e => (ra_c0_ok (ro := ra_oF)) m av h (x, h1) e) 25 lX10_placeLine_73 _ _ _ _ lX10_placeLine_73_ck (show ra_run ra_rV (kX10_placeLine_73 N (nX10_placeLine_73 N n)) ra_c0 (tIX10_placeLine N) ra_c0 ra_c0 ra_c0 ra_c0 25 lX10_placeLine_73 [some (.ref a0), none, some (.int a2), some (.int a3)] [] h = some r from e) _ _ rfl
def lX10_placeLine_71 : List ra_I := [(71, .iconst (0), 1, 0, 0, 0, (0), 0, []),
  (72, .istore_n 3, 1, 3, 0, 0, 0, 0, [])]
set_option maxRecDepth 100000 in
theorem lX10_placeLine_71_ck : lX10_placeLine_71.all (ra_ck mX10_placeLine 10) = true := by decide +kernel
def nX10_placeLine_71 (N : Nat) (a0 : Nat) (a2 : Int32) (h : ra_H) : Option ra_H :=
  nX10_placeLine_73 N N a0 a2 ((0 : Int32)) h
def kX10_placeLine_71 (N : Nat) : Nat → List (Option Value) → List Value → ra_H → Option ra_H := (ra_k1 73 (fun L S h => match L, S with
  | [some (.ref a0), _, some (.int a2), some (.int a3)], [] => nX10_placeLine_73 N N a0 a2 a3 h
  | _, _ => none) ra_k0)
theorem kX10_placeLine_71_ok (N : Nat) : ra_kok 2 mX10_placeLine ra_oV (kX10_placeLine_71 N) := (ra_k1_ok (by
  intro L S h a e
  split at e
  · exact ra_Ru.weak (nX10_placeLine_73_ok N N _ _ _ _ _ e) ⟨rfl, ⟨rfl, ⟨rfl, trivial⟩⟩⟩
  · cases e) ra_k0_ok)
set_option maxRecDepth 100000 in
theorem nX10_placeLine_71_ok (N : Nat) (a0 : Nat) (a2 : Int32) (h : ra_H) (r : ra_H) (e : nX10_placeLine_71 N a0 a2 h = some r) : ra_Ru 2 mX10_placeLine 71 [some (.ref a0), none, some (.int a2), none] [] h (ra_oV r) :=
  ra_sound (by omega) rfl ra_rV_ok (kX10_placeLine_71_ok N) (fun m av h h1 e => (ra_c0_ok (ro := ra_oV)) m av h h1 e) (fun m av h x h1 e => (tIX10_placeLine_ok N) m av h (x, h1) e) (fun m av h x h1 e => (ra_c0_ok (ro := ra_oJ)) m av h (x, h1) e) (fun m av h x h1 e => (ra_c0_ok (ro := ra_oR)) m av h (x, h1) e) (fun m av h x h1 e => (ra_c0_ok (ro := ra_oN)) m av h (x, h1) e) (fun m av h x h1 e => (ra_c0_ok (ro := ra_oF)) m av h (x, h1) e) 3 lX10_placeLine_71 _ _ _ _ lX10_placeLine_71_ck (show ra_run ra_rV (kX10_placeLine_71 N) ra_c0 (tIX10_placeLine N) ra_c0 ra_c0 ra_c0 ra_c0 3 lX10_placeLine_71 [some (.ref a0), none, some (.int a2), none] [] h = some r from e) _ _ rfl
def lX10_placeLine_42 : List ra_I := [(42, .iload_n 3, 1, 3, 0, 0, 0, 0, []),
  (43, .aload_n 0, 1, 0, 0, 0, 0, 0, []),
  (44, .getfield 47, 3, 10, 7, 0, 0, 0, []),
  (47, .if_icmp .gt (24), 3, 71, 0, 0, 0, 0, []),
  (50, .aload_n 0, 1, 0, 0, 0, 0, 0, []),
  (51, .getfield 18, 3, 10, 2, 2, 0, 0, []),
  (54, .iload_n 2, 1, 2, 0, 0, 0, 0, []),
  (55, .iaload, 1, 0, 0, 0, 0, 0, []),
  (56, .ifCond .eq (15), 3, 71, 0, 0, 0, 0, []),
  (59, .aload_n 0, 1, 0, 0, 0, 0, 0, []),
  (60, .iload_n 2, 1, 2, 0, 0, 0, 0, []),
  (61, .invokevirtual 64, 3, 126, 2, 1, 0, 0, []),
  (64, .istore_n 2, 1, 2, 0, 0, 0, 0, []),
  (65, .iinc 3 (1), 3, 3, 0, 0, (1), 0, []),
  (68, .goto (-26), 3, 42, 0, 0, 0, 0, [])]
set_option maxRecDepth 100000 in
theorem lX10_placeLine_42_ck : lX10_placeLine_42.all (ra_ck mX10_placeLine 10) = true := by decide +kernel
def nX10_placeLine_42 (N : Nat) : Nat → Nat → Int32 → Int32 → ra_H → Option ra_H
  | 0, _, _, _, _ => none
  | n + 1, a0, a2, a3, h =>
  (ra_fI h 10 a0 7).bind fun x1 =>
  if a3 ≤ x1 then
    (ra_fR h 10 a0 2).bind fun x2 =>
    (ra_aI h 0 x2 a2).bind fun x3 =>
    if x3 = 0 then
      nX10_placeLine_71 N a0 a2 h
    else
      (fX10_goOn N a0 a2 h).bind fun q4 =>
      let y5 := a3 + (1 : Int32)
      nX10_placeLine_42 N n a0 q4.1 y5 q4.2
  else
    nX10_placeLine_71 N a0 a2 h
def kX10_placeLine_42 (N : Nat) (cs : Nat → Int32 → Int32 → ra_H → Option ra_H) : Nat → List (Option Value) → List Value → ra_H → Option ra_H := (ra_k1 42 (fun L S h => match L, S with
  | [some (.ref a0), _, some (.int a2), some (.int a3)], [] => cs a0 a2 a3 h
  | _, _ => none) (ra_k1 71 (fun L S h => match L, S with
  | [some (.ref a0), _, some (.int a2), _], [] => nX10_placeLine_71 N a0 a2 h
  | _, _ => none) ra_k0))
theorem kX10_placeLine_42_ok (N : Nat) (cs : Nat → Int32 → Int32 → ra_H → Option ra_H) (hcs : ∀ a0 a2 a3 h r, cs a0 a2 a3 h = some r → ra_Ru 2 mX10_placeLine 42 [some (.ref a0), none, some (.int a2), some (.int a3)] [] h (ra_oV r)) : ra_kok 2 mX10_placeLine ra_oV (kX10_placeLine_42 N cs) := (ra_k1_ok (by
  intro L S h a e
  split at e
  · exact ra_Ru.weak (hcs _ _ _ _ _ e) ⟨rfl, ⟨rfl, ⟨rfl, trivial⟩⟩⟩
  · cases e) (ra_k1_ok (by
  intro L S h a e
  split at e
  · exact ra_Ru.weak (nX10_placeLine_71_ok N _ _ _ _ e) ⟨rfl, ⟨rfl, trivial⟩⟩
  · cases e) ra_k0_ok))
set_option maxRecDepth 100000 in
theorem nX10_placeLine_42_ok (N : Nat) : ∀ n a0 a2 a3 h r, nX10_placeLine_42 N n a0 a2 a3 h = some r → ra_Ru 2 mX10_placeLine 42 [some (.ref a0), none, some (.int a2), some (.int a3)] [] h (ra_oV r) := by
  intro n
  induction n with
  | zero => intro a0 a2 a3 h r e; cases e
  | succ n ih =>
    intro a0 a2 a3 h r e
    exact ra_sound (by omega) rfl ra_rV_ok (kX10_placeLine_42_ok N (nX10_placeLine_42 N n) ih) (fun m av h h1 e => (ra_c0_ok (ro := ra_oV)) m av h h1 e) (fun m av h x h1 e => (tIX10_placeLine_ok N) m av h (x, h1) e) (fun m av h x h1 e => (ra_c0_ok (ro := ra_oJ)) m av h (x, h1) e) (fun m av h x h1 e => (ra_c0_ok (ro := ra_oR)) m av h (x, h1) e) (fun m av h x h1 e => (ra_c0_ok (ro := ra_oN)) m av h (x, h1) e) (fun m av h x h1 e => (ra_c0_ok (ro := ra_oF)) m av h (x, h1) e) 16 lX10_placeLine_42 _ _ _ _ lX10_placeLine_42_ck (show ra_run ra_rV (kX10_placeLine_42 N (nX10_placeLine_42 N n)) ra_c0 (tIX10_placeLine N) ra_c0 ra_c0 ra_c0 ra_c0 16 lX10_placeLine_42 [some (.ref a0), none, some (.int a2), some (.int a3)] [] h = some r from e) _ _ rfl
def lX10_placeLine_2 : List ra_I := [(2, .iload_n 2, 1, 2, 0, 0, 0, 0, []),
  (3, .aload_n 0, 1, 0, 0, 0, 0, 0, []),
  (4, .getfield 47, 3, 10, 7, 0, 0, 0, []),
  (7, .if_icmp .gt (24), 3, 31, 0, 0, 0, 0, []),
  (10, .aload_n 0, 1, 0, 0, 0, 0, 0, []),
  (11, .getfield 24, 3, 10, 4, 2, 0, 0, []),
  (14, .iload_n 2, 1, 2, 0, 0, 0, 0, []),
  (15, .ldc 63, 2, 0, 0, 0, (1000000), 0, []),
  (17, .iastore, 1, 0, 0, 0, 0, 0, []),
  (18, .aload_n 0, 1, 0, 0, 0, 0, 0, []),
  (19, .getfield 27, 3, 10, 5, 2, 0, 0, []),
  (22, .iload_n 2, 1, 2, 0, 0, 0, 0, []),
  (23, .iconst (0), 1, 0, 0, 0, (0), 0, []),
  (24, .bastore, 1, 0, 0, 0, 0, 0, []),
  (25, .iinc 2 (1), 3, 2, 0, 0, (1), 0, []),
  (28, .goto (-26), 3, 2, 0, 0, 0, 0, []),
  (31, .iconst (0), 1, 0, 0, 0, (0), 0, []),
  (32, .istore_n 2, 1, 2, 0, 0, 0, 0, []),
  (33, .aload_n 0, 1, 0, 0, 0, 0, 0, []),
  (34, .getfield 18, 3, 10, 2, 2, 0, 0, []),
  (37, .iconst (0), 1, 0, 0, 0, (0), 0, []),
  (38, .iload_n 1, 1, 1, 0, 0, 0, 0, []),
  (39, .iastore, 1, 0, 0, 0, 0, 0, []),
  (40, .iconst (0), 1, 0, 0, 0, (0), 0, []),
  (41, .istore_n 3, 1, 3, 0, 0, 0, 0, [])]
set_option maxRecDepth 100000 in
theorem lX10_placeLine_2_ck : lX10_placeLine_2.all (ra_ck mX10_placeLine 10) = true := by decide +kernel
def nX10_placeLine_2 (N : Nat) : Nat → Nat → Int32 → Int32 → ra_H → Option ra_H
  | 0, _, _, _, _ => none
  | n + 1, a0, a1, a2, h =>
  (ra_fI h 10 a0 7).bind fun x1 =>
  if a2 ≤ x1 then
    (ra_fR h 10 a0 4).bind fun x4 =>
    (ra_aW h 0 x4 a2 ((1000000 : Int32))).bind fun h5 =>
    (ra_fR h5 10 a0 5).bind fun x6 =>
    (ra_aW h5 2 x6 a2 (vp_nar .boolean ((0 : Int32)))).bind fun h7 =>
    let y8 := a2 + (1 : Int32)
    nX10_placeLine_2 N n a0 a1 y8 h7
  else
    (ra_fR h 10 a0 2).bind fun x2 =>
    (ra_aW h 0 x2 ((0 : Int32)) a1).bind fun h3 =>
    nX10_placeLine_42 N N a0 ((0 : Int32)) ((0 : Int32)) h3
def kX10_placeLine_2 (N : Nat) (cs : Nat → Int32 → Int32 → ra_H → Option ra_H) : Nat → List (Option Value) → List Value → ra_H → Option ra_H := (ra_k1 2 (fun L S h => match L, S with
  | [some (.ref a0), some (.int a1), some (.int a2), _], [] => cs a0 a1 a2 h
  | _, _ => none) (ra_k1 42 (fun L S h => match L, S with
  | [some (.ref a0), _, some (.int a2), some (.int a3)], [] => nX10_placeLine_42 N N a0 a2 a3 h
  | _, _ => none) ra_k0))
theorem kX10_placeLine_2_ok (N : Nat) (cs : Nat → Int32 → Int32 → ra_H → Option ra_H) (hcs : ∀ a0 a1 a2 h r, cs a0 a1 a2 h = some r → ra_Ru 2 mX10_placeLine 2 [some (.ref a0), some (.int a1), some (.int a2), none] [] h (ra_oV r)) : ra_kok 2 mX10_placeLine ra_oV (kX10_placeLine_2 N cs) := (ra_k1_ok (by
  intro L S h a e
  split at e
  · exact ra_Ru.weak (hcs _ _ _ _ _ e) ⟨rfl, ⟨rfl, ⟨rfl, trivial⟩⟩⟩
  · cases e) (ra_k1_ok (by
  intro L S h a e
  split at e
  · exact ra_Ru.weak (nX10_placeLine_42_ok N N _ _ _ _ _ e) ⟨rfl, ⟨rfl, ⟨rfl, trivial⟩⟩⟩
  · cases e) ra_k0_ok))
set_option maxRecDepth 100000 in
theorem nX10_placeLine_2_ok (N : Nat) : ∀ n a0 a1 a2 h r, nX10_placeLine_2 N n a0 a1 a2 h = some r → ra_Ru 2 mX10_placeLine 2 [some (.ref a0), some (.int a1), some (.int a2), none] [] h (ra_oV r) := by
  intro n
  induction n with
  | zero => intro a0 a1 a2 h r e; cases e
  | succ n ih =>
    intro a0 a1 a2 h r e
    exact ra_sound (by omega) rfl ra_rV_ok (kX10_placeLine_2_ok N (nX10_placeLine_2 N n) ih) (fun m av h h1 e => (ra_c0_ok (ro := ra_oV)) m av h h1 e) (fun m av h x h1 e => (tIX10_placeLine_ok N) m av h (x, h1) e) (fun m av h x h1 e => (ra_c0_ok (ro := ra_oJ)) m av h (x, h1) e) (fun m av h x h1 e => (ra_c0_ok (ro := ra_oR)) m av h (x, h1) e) (fun m av h x h1 e => (ra_c0_ok (ro := ra_oN)) m av h (x, h1) e) (fun m av h x h1 e => (ra_c0_ok (ro := ra_oF)) m av h (x, h1) e) 26 lX10_placeLine_2 _ _ _ _ lX10_placeLine_2_ck (show ra_run ra_rV (kX10_placeLine_2 N (nX10_placeLine_2 N n)) ra_c0 (tIX10_placeLine N) ra_c0 ra_c0 ra_c0 ra_c0 26 lX10_placeLine_2 [some (.ref a0), some (.int a1), some (.int a2), none] [] h = some r from e) _ _ rfl
def lX10_placeLine_0 : List ra_I := [(0, .iconst (0), 1, 0, 0, 0, (0), 0, []),
  (1, .istore_n 2, 1, 2, 0, 0, 0, 0, [])]
set_option maxRecDepth 100000 in
theorem lX10_placeLine_0_ck : lX10_placeLine_0.all (ra_ck mX10_placeLine 10) = true := by decide +kernel
def nX10_placeLine_0 (N : Nat) (a0 : Nat) (a1 : Int32) (h : ra_H) : Option ra_H :=
  nX10_placeLine_2 N N a0 a1 ((0 : Int32)) h
def kX10_placeLine_0 (N : Nat) : Nat → List (Option Value) → List Value → ra_H → Option ra_H := (ra_k1 2 (fun L S h => match L, S with
  | [some (.ref a0), some (.int a1), some (.int a2), _], [] => nX10_placeLine_2 N N a0 a1 a2 h
  | _, _ => none) ra_k0)
theorem kX10_placeLine_0_ok (N : Nat) : ra_kok 2 mX10_placeLine ra_oV (kX10_placeLine_0 N) := (ra_k1_ok (by
  intro L S h a e
  split at e
  · exact ra_Ru.weak (nX10_placeLine_2_ok N N _ _ _ _ _ e) ⟨rfl, ⟨rfl, ⟨rfl, trivial⟩⟩⟩
  · cases e) ra_k0_ok)
set_option maxRecDepth 100000 in
theorem nX10_placeLine_0_ok (N : Nat) (a0 : Nat) (a1 : Int32) (h : ra_H) (r : ra_H) (e : nX10_placeLine_0 N a0 a1 h = some r) : ra_Ru 2 mX10_placeLine 0 [some (.ref a0), some (.int a1), none, none] [] h (ra_oV r) :=
  ra_sound (by omega) rfl ra_rV_ok (kX10_placeLine_0_ok N) (fun m av h h1 e => (ra_c0_ok (ro := ra_oV)) m av h h1 e) (fun m av h x h1 e => (tIX10_placeLine_ok N) m av h (x, h1) e) (fun m av h x h1 e => (ra_c0_ok (ro := ra_oJ)) m av h (x, h1) e) (fun m av h x h1 e => (ra_c0_ok (ro := ra_oR)) m av h (x, h1) e) (fun m av h x h1 e => (ra_c0_ok (ro := ra_oN)) m av h (x, h1) e) (fun m av h x h1 e => (ra_c0_ok (ro := ra_oF)) m av h (x, h1) e) 3 lX10_placeLine_0 _ _ _ _ lX10_placeLine_0_ck (show ra_run ra_rV (kX10_placeLine_0 N) ra_c0 (tIX10_placeLine N) ra_c0 ra_c0 ra_c0 ra_c0 3 lX10_placeLine_0 [some (.ref a0), some (.int a1), none, none] [] h = some r from e) _ _ rfl
def fX10_placeLine (N : Nat) (p0 : Nat) (p1 : Int32) (h : ra_H) : Option ra_H := match ra_isOb h p0 10 with
  | true => nX10_placeLine_0 N p0 p1 h
  | false => none
set_option maxRecDepth 100000 in
theorem mtX10_placeLine : ra_MT[125]? = some (mX10_placeLine, 1, 1, (1, 10), (5, 15), (0, 37)) := rfl
theorem fX10_placeLine_co (N : Nat) (p0 : Nat) (p1 : Int32) (h : ra_H) (r : ra_H) (e : fX10_placeLine N p0 p1 h = some r) (D : Nat) (hD : 3 ≤ D) : ra_CO D 125 [.ref p0, .int p1] h (ra_oV r).1 (ra_oV r).2 := by
  have hw : ra_nw2 [.ref p0, .int p1] ≤ 4 := Nat.le_of_ble_eq_true rfl
  have hdb : ∀ v ∈ ([.ref p0, .int p1] : List Value), ∀ x, v ≠ .double x := by
    intro v hv x hx
    simp [hx] at hv
  unfold fX10_placeLine at e
  split at e
  · rename_i ho
    have e1 := e
    exact ⟨2, _, mtX10_placeLine, hD, ra_ev_of (by decide) hdb hw trivial (ra_Ru.weak (nX10_placeLine_0_ok N p0 p1 h _ e1) ⟨rfl, ⟨rfl, trivial⟩⟩), (fun _ => ⟨_, _, rfl, ra_rcv_of ho (by decide) rfl⟩), (fun h => absurd h (by decide))⟩
  · cases e
/-! RedMarks$Worths.weighWorths(LRedMarks$Holdings;)V -/
def mX10_weighWorths : ra_M := (yX10_weighWorths, cX10_weighWorths, 6, none)
def tVX10_weighWorths (N : Nat) : Nat → List Value → ra_H → Option ra_H := (ra_c1 3 (fun av h => match av with
  | [.ref z0, .int z1] => fJ7_fill_53178 N z0 z1 h
  | _ => none) (ra_c1 125 (fun av h => match av with
  | [.ref z0, .int z1] => fX10_placeLine N z0 z1 h
  | _ => none) ra_c0))
theorem tVX10_weighWorths_ok (N : Nat) : ra_cok 4 ra_oV (tVX10_weighWorths N) := (ra_c1_ok (by
  intro av h a e
  split at e
  · exact fJ7_fill_53178_co N _ _ _ _ e 4 (by omega)
  · cases e) (ra_c1_ok (by
  intro av h a e
  split at e
  · exact fX10_placeLine_co N _ _ _ _ e 4 (by omega)
  · cases e) ra_c0_ok))
def tIX10_weighWorths (N : Nat) : Nat → List Value → ra_H → Option (Int32 × ra_H) := (ra_c1 122 (fun av h => match av with
  | [.ref z0, .int z1, .int z2] => fX2_agreement N z0 z1 z2 h
  | _ => none) ra_c0)
theorem tIX10_weighWorths_ok (N : Nat) : ra_cok 4 ra_oI (tIX10_weighWorths N) := (ra_c1_ok (by
  intro av h a e
  split at e
  · exact fX2_agreement_co N _ _ _ _ _ e 4 (by omega)
  · cases e) ra_c0_ok)
def lX10_weighWorths_113 : List ra_I := [(113, .iastore, 1, 0, 0, 0, 0, 0, []),
  (114, .iinc 4 (1), 3, 4, 0, 0, (1), 0, []),
  (117, .goto (-60), 3, 57, 0, 0, 0, 0, [])]
set_option maxRecDepth 100000 in
theorem lX10_weighWorths_113_ck : lX10_weighWorths_113.all (ra_ck mX10_weighWorths 10) = true := by decide +kernel
def nX10_weighWorths_113 (N : Nat) (c41 : Nat → Nat → Int32 → ra_H → Option ra_H) (c57 : Nat → Nat → Int32 → Int32 → Int32 → ra_H → Option ra_H) (a0 : Nat) (a1 : Nat) (a2 : Int32) (a3 : Int32) (a4 : Int32) (b0 : Nat) (b1 : Int32) (b2 : Int32) (h : ra_H) : Option ra_H :=
  (ra_aW h 0 b0 b1 b2).bind fun h1 =>
  let y2 := a4 + (1 : Int32)
  c57 a0 a1 a2 a3 y2 h1
def kX10_weighWorths_113 (N : Nat) (c41 : Nat → Nat → Int32 → ra_H → Option ra_H) (c57 : Nat → Nat → Int32 → Int32 → Int32 → ra_H → Option ra_H) : Nat → List (Option Value) → List Value → ra_H → Option ra_H := (ra_k1 57 (fun L S h => match L, S with
  | [some (.ref a0), some (.ref a1), some (.int a2), some (.int a3), some (.int a4), _], [] => c57 a0 a1 a2 a3 a4 h
  | _, _ => none) ra_k0)
theorem kX10_weighWorths_113_ok (N : Nat) (c41 : Nat → Nat → Int32 → ra_H → Option ra_H) (c57 : Nat → Nat → Int32 → Int32 → Int32 → ra_H → Option ra_H) (hc41 : ∀ a0 a1 a2 h r, c41 a0 a1 a2 h = some r → ra_Ru 4 mX10_weighWorths 41 [some (.ref a0), some (.ref a1), some (.int a2), none, none, none] [] h (ra_oV r)) (hc57 : ∀ a0 a1 a2 a3 a4 h r, c57 a0 a1 a2 a3 a4 h = some r → ra_Ru 4 mX10_weighWorths 57 [some (.ref a0), some (.ref a1), some (.int a2), some (.int a3), some (.int a4), none] [] h (ra_oV r)) : ra_kok 4 mX10_weighWorths ra_oV (kX10_weighWorths_113 N c41 c57) := (ra_k1_ok (by
  intro L S h a e
  split at e
  · exact ra_Ru.weak (hc57 _ _ _ _ _ _ _ e) ⟨rfl, ⟨rfl, ⟨rfl, ⟨rfl, ⟨rfl, trivial⟩⟩⟩⟩⟩
  · cases e) ra_k0_ok)
set_option maxRecDepth 100000 in
theorem nX10_weighWorths_113_ok (N : Nat) (c41 : Nat → Nat → Int32 → ra_H → Option ra_H) (c57 : Nat → Nat → Int32 → Int32 → Int32 → ra_H → Option ra_H) (hc41 : ∀ a0 a1 a2 h r, c41 a0 a1 a2 h = some r → ra_Ru 4 mX10_weighWorths 41 [some (.ref a0), some (.ref a1), some (.int a2), none, none, none] [] h (ra_oV r)) (hc57 : ∀ a0 a1 a2 a3 a4 h r, c57 a0 a1 a2 a3 a4 h = some r → ra_Ru 4 mX10_weighWorths 57 [some (.ref a0), some (.ref a1), some (.int a2), some (.int a3), some (.int a4), none] [] h (ra_oV r)) (a0 : Nat) (a1 : Nat) (a2 : Int32) (a3 : Int32) (a4 : Int32) (b0 : Nat) (b1 : Int32) (b2 : Int32) (h : ra_H) (r : ra_H) (e : nX10_weighWorths_113 N c41 c57 a0 a1 a2 a3 a4 b0 b1 b2 h = some r) : ra_Ru 4 mX10_weighWorths 113 [some (.ref a0), some (.ref a1), some (.int a2), some (.int a3), some (.int a4), none] [.int b2, .int b1, .ref b0] h (ra_oV r) :=
  ra_sound (by omega) rfl ra_rV_ok (kX10_weighWorths_113_ok N c41 c57 hc41 hc57) (fun m av h h1 e => (tVX10_weighWorths_ok N) m av h h1 e) (fun m av h x h1 e => (tIX10_weighWorths_ok N) m av h (x, h1) e) (fun m av h x h1 e => (ra_c0_ok (ro := ra_oJ)) m av h (x, h1) e) (fun m av h x h1 e => (ra_c0_ok (ro := ra_oR)) m av h (x, h1) e) (fun m av h x h1 e => (ra_c0_ok (ro := ra_oN)) m av h (x, h1) e) (fun m av h x h1 e => (ra_c0_ok (ro := ra_oF)) m av h (x, h1) e) 4 lX10_weighWorths_113 _ _ _ _ lX10_weighWorths_113_ck (show ra_run ra_rV (kX10_weighWorths_113 N c41 c57) (tVX10_weighWorths N) (tIX10_weighWorths N) ra_c0 ra_c0 ra_c0 ra_c0 4 lX10_weighWorths_113 [some (.ref a0), some (.ref a1), some (.int a2), some (.int a3), some (.int a4), none] [.int b2, .int b1, .ref b0] h = some r from e) _ _ rfl
def lX10_weighWorths_90 : List ra_I := [(90, .istore 5, 2, 5, 0, 0, 0, 0, []),
  (92, .aload_n 0, 1, 0, 0, 0, 0, 0, []),
  (93, .getfield 31, 3, 10, 6, 2, 0, 0, []),
  (96, .iload_n 3, 1, 3, 0, 0, 0, 0, []),
  (97, .iload 4, 2, 4, 0, 0, 0, 0, []),
  (99, .iadd, 1, 0, 0, 0, 0, 0, []),
  (100, .iload 5, 2, 5, 0, 0, 0, 0, []),
  (102, .ifCond .ge (9), 3, 111, 0, 0, 0, 0, []),
  (105, .sipush (-1000), 3, 0, 0, 0, (-1000), 0, []),
  (108, .goto (5), 3, 113, 0, 0, 0, 0, []),
  (111, .iload 5, 2, 5, 0, 0, 0, 0, [])]
set_option maxRecDepth 100000 in
theorem lX10_weighWorths_90_ck : lX10_weighWorths_90.all (ra_ck mX10_weighWorths 10) = true := by decide +kernel
def nX10_weighWorths_90 (N : Nat) (c41 : Nat → Nat → Int32 → ra_H → Option ra_H) (c57 : Nat → Nat → Int32 → Int32 → Int32 → ra_H → Option ra_H) (a0 : Nat) (a1 : Nat) (a2 : Int32) (a3 : Int32) (a4 : Int32) (b0 : Int32) (h : ra_H) : Option ra_H :=
  (ra_fR h 10 a0 6).bind fun x1 =>
  if b0 < 0 then
    nX10_weighWorths_113 N c41 c57 a0 a1 a2 a3 a4 x1 (a3 + a4) ((-1000 : Int32)) h
  else
    nX10_weighWorths_113 N c41 c57 a0 a1 a2 a3 a4 x1 (a3 + a4) b0 h
def kX10_weighWorths_90 (N : Nat) (c41 : Nat → Nat → Int32 → ra_H → Option ra_H) (c57 : Nat → Nat → Int32 → Int32 → Int32 → ra_H → Option ra_H) : Nat → List (Option Value) → List Value → ra_H → Option ra_H := (ra_k1 113 (fun L S h => match L, S with
  | [some (.ref a0), some (.ref a1), some (.int a2), some (.int a3), some (.int a4), _], [.int b2, .int b1, .ref b0] => nX10_weighWorths_113 N c41 c57 a0 a1 a2 a3 a4 b0 b1 b2 h
  | _, _ => none) ra_k0)
theorem kX10_weighWorths_90_ok (N : Nat) (c41 : Nat → Nat → Int32 → ra_H → Option ra_H) (c57 : Nat → Nat → Int32 → Int32 → Int32 → ra_H → Option ra_H) (hc41 : ∀ a0 a1 a2 h r, c41 a0 a1 a2 h = some r → ra_Ru 4 mX10_weighWorths 41 [some (.ref a0), some (.ref a1), some (.int a2), none, none, none] [] h (ra_oV r)) (hc57 : ∀ a0 a1 a2 a3 a4 h r, c57 a0 a1 a2 a3 a4 h = some r → ra_Ru 4 mX10_weighWorths 57 [some (.ref a0), some (.ref a1), some (.int a2), some (.int a3), some (.int a4), none] [] h (ra_oV r)) : ra_kok 4 mX10_weighWorths ra_oV (kX10_weighWorths_90 N c41 c57) := (ra_k1_ok (by
  intro L S h a e
  split at e
  · exact ra_Ru.weak (nX10_weighWorths_113_ok N c41 c57 hc41 hc57 _ _ _ _ _ _ _ _ _ _ e) ⟨rfl, ⟨rfl, ⟨rfl, ⟨rfl, ⟨rfl, trivial⟩⟩⟩⟩⟩
  · cases e) ra_k0_ok)
set_option maxRecDepth 100000 in
theorem nX10_weighWorths_90_ok (N : Nat) (c41 : Nat → Nat → Int32 → ra_H → Option ra_H) (c57 : Nat → Nat → Int32 → Int32 → Int32 → ra_H → Option ra_H) (hc41 : ∀ a0 a1 a2 h r, c41 a0 a1 a2 h = some r → ra_Ru 4 mX10_weighWorths 41 [some (.ref a0), some (.ref a1), some (.int a2), none, none, none] [] h (ra_oV r)) (hc57 : ∀ a0 a1 a2 a3 a4 h r, c57 a0 a1 a2 a3 a4 h = some r → ra_Ru 4 mX10_weighWorths 57 [some (.ref a0), some (.ref a1), some (.int a2), some (.int a3), some (.int a4), none] [] h (ra_oV r)) (a0 : Nat) (a1 : Nat) (a2 : Int32) (a3 : Int32) (a4 : Int32) (b0 : Int32) (h : ra_H) (r : ra_H) (e : nX10_weighWorths_90 N c41 c57 a0 a1 a2 a3 a4 b0 h = some r) : ra_Ru 4 mX10_weighWorths 90 [some (.ref a0), some (.ref a1), some (.int a2), some (.int a3), some (.int a4), none] [.int b0] h (ra_oV r) :=
  ra_sound (by omega) rfl ra_rV_ok (kX10_weighWorths_90_ok N c41 c57 hc41 hc57) (fun m av h h1 e => (tVX10_weighWorths_ok N) m av h h1 e) (fun m av h x h1 e => (tIX10_weighWorths_ok N) m av h (x, h1) e) (fun m av h x h1 e => (ra_c0_ok (ro := ra_oJ)) m av h (x, h1) e) (fun m av h x h1 e => (ra_c0_ok (ro := ra_oR)) m av h (x, h1) e) (fun m av h x h1 e => (ra_c0_ok (ro := ra_oN)) m av h (x, h1) e) (fun m av h x h1 e => (ra_c0_ok (ro := ra_oF)) m av h (x, h1) e) 12 lX10_weighWorths_90 _ _ _ _ lX10_weighWorths_90_ck (show ra_run ra_rV (kX10_weighWorths_90 N c41 c57) (tVX10_weighWorths N) (tIX10_weighWorths N) ra_c0 ra_c0 ra_c0 ra_c0 12 lX10_weighWorths_90 [some (.ref a0), some (.ref a1), some (.int a2), some (.int a3), some (.int a4), none] [.int b0] h = some r from e) _ _ rfl
def lX10_weighWorths_57 : List ra_I := [(57, .iload 4, 2, 4, 0, 0, 0, 0, []),
  (59, .aload_n 0, 1, 0, 0, 0, 0, 0, []),
  (60, .getfield 47, 3, 10, 7, 0, 0, 0, []),
  (63, .if_icmp .gt (57), 3, 120, 0, 0, 0, 0, []),
  (66, .iload 4, 2, 4, 0, 0, 0, 0, []),
  (68, .aload_n 1, 1, 1, 0, 0, 0, 0, []),
  (69, .getfield 38, 3, 2, 13, 0, 0, 0, []),
  (72, .if_icmp .gt (17), 3, 89, 0, 0, 0, 0, []),
  (75, .aload_n 1, 1, 1, 0, 0, 0, 0, []),
  (76, .iload_n 2, 1, 2, 0, 0, 0, 0, []),
  (77, .iconst (1), 1, 0, 0, 0, (1), 0, []),
  (78, .isub, 1, 0, 0, 0, 0, 0, []),
  (79, .iload 4, 2, 4, 0, 0, 0, 0, []),
  (81, .iconst (1), 1, 0, 0, 0, (1), 0, []),
  (82, .isub, 1, 0, 0, 0, 0, 0, []),
  (83, .invokevirtual 56, 3, 122, 3, 1, 0, 0, []),
  (86, .goto (4), 3, 90, 0, 0, 0, 0, []),
  (89, .iconst (0), 1, 0, 0, 0, (0), 0, []),
  (120, .iinc 2 (1), 3, 2, 0, 0, (1), 0, []),
  (123, .goto (-82), 3, 41, 0, 0, 0, 0, [])]
set_option maxRecDepth 100000 in
theorem lX10_weighWorths_57_ck : lX10_weighWorths_57.all (ra_ck mX10_weighWorths 10) = true := by decide +kernel
def nX10_weighWorths_57 (N : Nat) (c41 : Nat → Nat → Int32 → ra_H → Option ra_H) : Nat → Nat → Nat → Int32 → Int32 → Int32 → ra_H → Option ra_H
  | 0, _, _, _, _, _, _ => none
  | n + 1, a0, a1, a2, a3, a4, h =>
  (ra_fI h 10 a0 7).bind fun x1 =>
  if a4 ≤ x1 then
    (ra_fI h 2 a1 13).bind fun x3 =>
    if a4 ≤ x3 then
      (fX2_agreement N a1 (a2 - ((1 : Int32))) (a4 - ((1 : Int32))) h).bind fun q4 =>
      nX10_weighWorths_90 N c41 (nX10_weighWorths_57 N c41 n) a0 a1 a2 a3 a4 q4.1 q4.2
    else
      nX10_weighWorths_90 N c41 (nX10_weighWorths_57 N c41 n) a0 a1 a2 a3 a4 ((0 : Int32)) h
  else
    let y2 := a2 + (1 : Int32)
    c41 a0 a1 y2 h
def kX10_weighWorths_57 (N : Nat) (c41 : Nat → Nat → Int32 → ra_H → Option ra_H) (cs : Nat → Nat → Int32 → Int32 → Int32 → ra_H → Option ra_H) : Nat → List (Option Value) → List Value → ra_H → Option ra_H := (ra_k1 41 (fun L S h => match L, S with
  | [some (.ref a0), some (.ref a1), some (.int a2), _, _, _], [] => c41 a0 a1 a2 h
  | _, _ => none) (ra_k1 90 (fun L S h => match L, S with
  | [some (.ref a0), some (.ref a1), some (.int a2), some (.int a3), some (.int a4), _], [.int b0] => nX10_weighWorths_90 N c41 cs a0 a1 a2 a3 a4 b0 h
  | _, _ => none) ra_k0))
theorem kX10_weighWorths_57_ok (N : Nat) (c41 : Nat → Nat → Int32 → ra_H → Option ra_H) (hc41 : ∀ a0 a1 a2 h r, c41 a0 a1 a2 h = some r → ra_Ru 4 mX10_weighWorths 41 [some (.ref a0), some (.ref a1), some (.int a2), none, none, none] [] h (ra_oV r)) (cs : Nat → Nat → Int32 → Int32 → Int32 → ra_H → Option ra_H) (hcs : ∀ a0 a1 a2 a3 a4 h r, cs a0 a1 a2 a3 a4 h = some r → ra_Ru 4 mX10_weighWorths 57 [some (.ref a0), some (.ref a1), some (.int a2), some (.int a3), some (.int a4), none] [] h (ra_oV r)) : ra_kok 4 mX10_weighWorths ra_oV (kX10_weighWorths_57 N c41 cs) := (ra_k1_ok (by
  intro L S h a e
  split at e
  · exact ra_Ru.weak (hc41 _ _ _ _ _ e) ⟨rfl, ⟨rfl, ⟨rfl, trivial⟩⟩⟩
  · cases e) (ra_k1_ok (by
  intro L S h a e
  split at e
  · exact ra_Ru.weak (nX10_weighWorths_90_ok N c41 cs hc41 hcs _ _ _ _ _ _ _ _ e) ⟨rfl, ⟨rfl, ⟨rfl, ⟨rfl, ⟨rfl, trivial⟩⟩⟩⟩⟩
  · cases e) ra_k0_ok))
set_option maxRecDepth 100000 in
theorem nX10_weighWorths_57_ok (N : Nat) (c41 : Nat → Nat → Int32 → ra_H → Option ra_H) (hc41 : ∀ a0 a1 a2 h r, c41 a0 a1 a2 h = some r → ra_Ru 4 mX10_weighWorths 41 [some (.ref a0), some (.ref a1), some (.int a2), none, none, none] [] h (ra_oV r)) : ∀ n a0 a1 a2 a3 a4 h r, nX10_weighWorths_57 N c41 n a0 a1 a2 a3 a4 h = some r → ra_Ru 4 mX10_weighWorths 57 [some (.ref a0), some (.ref a1), some (.int a2), some (.int a3), some (.int a4), none] [] h (ra_oV r) := by
  intro n
  induction n with
  | zero => intro a0 a1 a2 a3 a4 h r e; cases e
  | succ n ih =>
    intro a0 a1 a2 a3 a4 h r e
    exact ra_sound (by omega) rfl ra_rV_ok (kX10_weighWorths_57_ok N c41 hc41 (nX10_weighWorths_57 N c41 n) ih) (fun m av h h1 e => (tVX10_weighWorths_ok N) m av h h1 e) (fun m av h x h1 e => (tIX10_weighWorths_ok N) m av h (x, h1) e) (fun m av h x h1 e => (ra_c0_ok (ro := ra_oJ)) m av h (x, h1) e) (fun m av h x h1 e => (ra_c0_ok (ro := ra_oR)) m av h (x, h1) e) (fun m av h x h1 e => (ra_c0_ok (ro := ra_oN)) m av h (x, h1) e) (fun m av h x h1 e => (ra_c0_ok (ro := ra_oF)) m av h (x, h1) e) 21 lX10_weighWorths_57 _ _ _ _ lX10_weighWorths_57_ck (show ra_run ra_rV (kX10_weighWorths_57 N c41 (nX10_weighWorths_57 N c41 n)) (tVX10_weighWorths N) (tIX10_weighWorths N) ra_c0 ra_c0 ra_c0 ra_c0 21 lX10_weighWorths_57 [some (.ref a0), some (.ref a1), some (.int a2), some (.int a3), some (.int a4), none] [] h = some r from e) _ _ rfl
def lX10_weighWorths_128 : List ra_I := [(128, .iload_n 2, 1, 2, 0, 0, 0, 0, []),
  (129, .aload_n 1, 1, 1, 0, 0, 0, 0, []),
  (130, .getfield 44, 3, 2, 15, 0, 0, 0, []),
  (133, .if_icmp .gt (14), 3, 147, 0, 0, 0, 0, []),
  (136, .aload_n 0, 1, 0, 0, 0, 0, 0, []),
  (137, .iload_n 2, 1, 2, 0, 0, 0, 0, []),
  (138, .invokevirtual 59, 3, 125, 2, 0, 0, 0, []),
  (141, .iinc 2 (1), 3, 2, 0, 0, (1), 0, []),
  (144, .goto (-16), 3, 128, 0, 0, 0, 0, []),
  (147, .return_, 1, 0, 0, 0, 0, 0, [])]
set_option maxRecDepth 100000 in
theorem lX10_weighWorths_128_ck : lX10_weighWorths_128.all (ra_ck mX10_weighWorths 10) = true := by decide +kernel
def nX10_weighWorths_128 (N : Nat) : Nat → Nat → Nat → Int32 → ra_H → Option ra_H
  | 0, _, _, _, _ => none
  | n + 1, a0, a1, a2, h =>
  (ra_fI h 2 a1 15).bind fun x1 =>
  if a2 ≤ x1 then
    (fX10_placeLine N a0 a2 h).bind fun h2 =>
    let y3 := a2 + (1 : Int32)
    nX10_weighWorths_128 N n a0 a1 y3 h2
  else
    some h
def kX10_weighWorths_128 (N : Nat) (cs : Nat → Nat → Int32 → ra_H → Option ra_H) : Nat → List (Option Value) → List Value → ra_H → Option ra_H := (ra_k1 128 (fun L S h => match L, S with
  | [some (.ref a0), some (.ref a1), some (.int a2), _, _, _], [] => cs a0 a1 a2 h
  | _, _ => none) ra_k0)
theorem kX10_weighWorths_128_ok (N : Nat) (cs : Nat → Nat → Int32 → ra_H → Option ra_H) (hcs : ∀ a0 a1 a2 h r, cs a0 a1 a2 h = some r → ra_Ru 4 mX10_weighWorths 128 [some (.ref a0), some (.ref a1), some (.int a2), none, none, none] [] h (ra_oV r)) : ra_kok 4 mX10_weighWorths ra_oV (kX10_weighWorths_128 N cs) := (ra_k1_ok (by
  intro L S h a e
  split at e
  · exact ra_Ru.weak (hcs _ _ _ _ _ e) ⟨rfl, ⟨rfl, ⟨rfl, trivial⟩⟩⟩
  · cases e) ra_k0_ok)
set_option maxRecDepth 100000 in
theorem nX10_weighWorths_128_ok (N : Nat) : ∀ n a0 a1 a2 h r, nX10_weighWorths_128 N n a0 a1 a2 h = some r → ra_Ru 4 mX10_weighWorths 128 [some (.ref a0), some (.ref a1), some (.int a2), none, none, none] [] h (ra_oV r) := by
  intro n
  induction n with
  | zero => intro a0 a1 a2 h r e; cases e
  | succ n ih =>
    intro a0 a1 a2 h r e
    exact ra_sound (by omega) rfl ra_rV_ok (kX10_weighWorths_128_ok N (nX10_weighWorths_128 N n) ih) (fun m av h h1 e => (tVX10_weighWorths_ok N) m av h h1 e) (fun m av h x h1 e => (tIX10_weighWorths_ok N) m av h (x, h1) e) (fun m av h x h1 e => (ra_c0_ok (ro := ra_oJ)) m av h (x, h1) e) (fun m av h x h1 e => (ra_c0_ok (ro := ra_oR)) m av h (x, h1) e) (fun m av h x h1 e => (ra_c0_ok (ro := ra_oN)) m av h (x, h1) e) (fun m av h x h1 e => (ra_c0_ok (ro := ra_oF)) m av h (x, h1) e) 11 lX10_weighWorths_128 _ _ _ _ lX10_weighWorths_128_ck (show ra_run ra_rV (kX10_weighWorths_128 N (nX10_weighWorths_128 N n)) (tVX10_weighWorths N) (tIX10_weighWorths N) ra_c0 ra_c0 ra_c0 ra_c0 11 lX10_weighWorths_128 [some (.ref a0), some (.ref a1), some (.int a2), none, none, none] [] h = some r from e) _ _ rfl
def lX10_weighWorths_41 : List ra_I := [(41, .iload_n 2, 1, 2, 0, 0, 0, 0, []),
  (42, .aload_n 1, 1, 1, 0, 0, 0, 0, []),
  (43, .getfield 44, 3, 2, 15, 0, 0, 0, []),
  (46, .if_icmp .gt (80), 3, 126, 0, 0, 0, 0, []),
  (49, .iload_n 2, 1, 2, 0, 0, 0, 0, []),
  (50, .bipush (54), 2, 0, 0, 0, (54), 0, []),
  (52, .imul, 1, 0, 0, 0, 0, 0, []),
  (53, .istore_n 3, 1, 3, 0, 0, 0, 0, []),
  (54, .iconst (1), 1, 0, 0, 0, (1), 0, []),
  (55, .istore 4, 2, 4, 0, 0, 0, 0, []),
  (126, .iconst (1), 1, 0, 0, 0, (1), 0, []),
  (127, .istore_n 2, 1, 2, 0, 0, 0, 0, [])]
set_option maxRecDepth 100000 in
theorem lX10_weighWorths_41_ck : lX10_weighWorths_41.all (ra_ck mX10_weighWorths 10) = true := by decide +kernel
def nX10_weighWorths_41 (N : Nat) : Nat → Nat → Nat → Int32 → ra_H → Option ra_H
  | 0, _, _, _, _ => none
  | n + 1, a0, a1, a2, h =>
  (ra_fI h 2 a1 15).bind fun x1 =>
  if a2 ≤ x1 then
    let y2 := a2 * ((54 : Int32))
    nX10_weighWorths_57 N (nX10_weighWorths_41 N n) N a0 a1 a2 y2 ((1 : Int32)) h
  else
    nX10_weighWorths_128 N N a0 a1 ((1 : Int32)) h
def kX10_weighWorths_41 (N : Nat) (cs : Nat → Nat → Int32 → ra_H → Option ra_H) : Nat → List (Option Value) → List Value → ra_H → Option ra_H := (ra_k1 57 (fun L S h => match L, S with
  | [some (.ref a0), some (.ref a1), some (.int a2), some (.int a3), some (.int a4), _], [] => nX10_weighWorths_57 N cs N a0 a1 a2 a3 a4 h
  | _, _ => none) (ra_k1 128 (fun L S h => match L, S with
  | [some (.ref a0), some (.ref a1), some (.int a2), _, _, _], [] => nX10_weighWorths_128 N N a0 a1 a2 h
  | _, _ => none) ra_k0))
theorem kX10_weighWorths_41_ok (N : Nat) (cs : Nat → Nat → Int32 → ra_H → Option ra_H) (hcs : ∀ a0 a1 a2 h r, cs a0 a1 a2 h = some r → ra_Ru 4 mX10_weighWorths 41 [some (.ref a0), some (.ref a1), some (.int a2), none, none, none] [] h (ra_oV r)) : ra_kok 4 mX10_weighWorths ra_oV (kX10_weighWorths_41 N cs) := (ra_k1_ok (by
  intro L S h a e
  split at e
  · exact ra_Ru.weak (nX10_weighWorths_57_ok N cs hcs N _ _ _ _ _ _ _ e) ⟨rfl, ⟨rfl, ⟨rfl, ⟨rfl, ⟨rfl, trivial⟩⟩⟩⟩⟩
  · cases e) (ra_k1_ok (by
  intro L S h a e
  split at e
  · exact ra_Ru.weak (nX10_weighWorths_128_ok N N _ _ _ _ _ e) ⟨rfl, ⟨rfl, ⟨rfl, trivial⟩⟩⟩
  · cases e) ra_k0_ok))
set_option maxRecDepth 100000 in
theorem nX10_weighWorths_41_ok (N : Nat) : ∀ n a0 a1 a2 h r, nX10_weighWorths_41 N n a0 a1 a2 h = some r → ra_Ru 4 mX10_weighWorths 41 [some (.ref a0), some (.ref a1), some (.int a2), none, none, none] [] h (ra_oV r) := by
  intro n
  induction n with
  | zero => intro a0 a1 a2 h r e; cases e
  | succ n ih =>
    intro a0 a1 a2 h r e
    exact ra_sound (by omega) rfl ra_rV_ok (kX10_weighWorths_41_ok N (nX10_weighWorths_41 N n) ih) (fun m av h h1 e => (tVX10_weighWorths_ok N) m av h h1 e) (fun m av h x h1 e => (tIX10_weighWorths_ok N) m av h (x, h1) e) (fun m av h x h1 e => (ra_c0_ok (ro := ra_oJ)) m av h (x, h1) e) (fun m av h x h1 e => (ra_c0_ok (ro := ra_oR)) m av h (x, h1) e) (fun m av h x h1 e => (ra_c0_ok (ro := ra_oN)) m av h (x, h1) e) (fun m av h x h1 e => (ra_c0_ok (ro := ra_oF)) m av h (x, h1) e) 13 lX10_weighWorths_41 _ _ _ _ lX10_weighWorths_41_ck (show ra_run ra_rV (kX10_weighWorths_41 N (nX10_weighWorths_41 N n)) (tVX10_weighWorths N) (tIX10_weighWorths N) ra_c0 ra_c0 ra_c0 ra_c0 13 lX10_weighWorths_41 [some (.ref a0), some (.ref a1), some (.int a2), none, none, none] [] h = some r from e) _ _ rfl
def lX10_weighWorths_0 : List ra_I := [(0, .aload_n 0, 1, 0, 0, 0, 0, 0, []),
  (1, .aload_n 1, 1, 1, 0, 0, 0, 0, []),
  (2, .getfield 38, 3, 2, 13, 0, 0, 0, []),
  (5, .aload_n 1, 1, 1, 0, 0, 0, 0, []),
  (6, .getfield 44, 3, 2, 15, 0, 0, 0, []),
  (9, .iadd, 1, 0, 0, 0, 0, 0, []),
  (10, .iconst (1), 1, 0, 0, 0, (1), 0, []),
  (11, .iadd, 1, 0, 0, 0, 0, 0, []),
  (12, .putfield 47, 3, 10, 7, 0, 0, 0, []),
  (15, .aload_n 0, 1, 0, 0, 0, 0, 0, []),
  (16, .getfield 9, 3, 10, 0, 2, 0, 0, []),
  (19, .iconst (0), 1, 0, 0, 0, (0), 0, []),
  (20, .invokestatic 50, 3, 3, 2, 0, 0, 0, []),
  (23, .aload_n 0, 1, 0, 0, 0, 0, 0, []),
  (24, .getfield 15, 3, 10, 1, 2, 0, 0, []),
  (27, .iconst (0), 1, 0, 0, 0, (0), 0, []),
  (28, .invokestatic 50, 3, 3, 2, 0, 0, 0, []),
  (31, .aload_n 0, 1, 0, 0, 0, 0, 0, []),
  (32, .getfield 18, 3, 10, 2, 2, 0, 0, []),
  (35, .iconst (0), 1, 0, 0, 0, (0), 0, []),
  (36, .invokestatic 50, 3, 3, 2, 0, 0, 0, []),
  (39, .iconst (1), 1, 0, 0, 0, (1), 0, []),
  (40, .istore_n 2, 1, 2, 0, 0, 0, 0, [])]
set_option maxRecDepth 100000 in
theorem lX10_weighWorths_0_ck : lX10_weighWorths_0.all (ra_ck mX10_weighWorths 10) = true := by decide +kernel
def nX10_weighWorths_0 (N : Nat) (a0 : Nat) (a1 : Nat) (h : ra_H) : Option ra_H :=
  (ra_fI h 2 a1 13).bind fun x1 =>
  (ra_fI h 2 a1 15).bind fun x2 =>
  (ra_fW h 10 a0 7 (.int ((x1 + x2) + ((1 : Int32))))).bind fun h3 =>
  (ra_fR h3 10 a0 0).bind fun x4 =>
  (fJ7_fill_53178 N x4 ((0 : Int32)) h3).bind fun h5 =>
  (ra_fR h5 10 a0 1).bind fun x6 =>
  (fJ7_fill_53178 N x6 ((0 : Int32)) h5).bind fun h7 =>
  (ra_fR h7 10 a0 2).bind fun x8 =>
  (fJ7_fill_53178 N x8 ((0 : Int32)) h7).bind fun h9 =>
  nX10_weighWorths_41 N N a0 a1 ((1 : Int32)) h9
def kX10_weighWorths_0 (N : Nat) : Nat → List (Option Value) → List Value → ra_H → Option ra_H := (ra_k1 41 (fun L S h => match L, S with
  | [some (.ref a0), some (.ref a1), some (.int a2), _, _, _], [] => nX10_weighWorths_41 N N a0 a1 a2 h
  | _, _ => none) ra_k0)
theorem kX10_weighWorths_0_ok (N : Nat) : ra_kok 4 mX10_weighWorths ra_oV (kX10_weighWorths_0 N) := (ra_k1_ok (by
  intro L S h a e
  split at e
  · exact ra_Ru.weak (nX10_weighWorths_41_ok N N _ _ _ _ _ e) ⟨rfl, ⟨rfl, ⟨rfl, trivial⟩⟩⟩
  · cases e) ra_k0_ok)
set_option maxRecDepth 100000 in
theorem nX10_weighWorths_0_ok (N : Nat) (a0 : Nat) (a1 : Nat) (h : ra_H) (r : ra_H) (e : nX10_weighWorths_0 N a0 a1 h = some r) : ra_Ru 4 mX10_weighWorths 0 [some (.ref a0), some (.ref a1), none, none, none, none] [] h (ra_oV r) :=
  ra_sound (by omega) rfl ra_rV_ok (kX10_weighWorths_0_ok N) (fun m av h h1 e => (tVX10_weighWorths_ok N) m av h h1 e) (fun m av h x h1 e => (tIX10_weighWorths_ok N) m av h (x, h1) e) (fun m av h x h1 e => (ra_c0_ok (ro := ra_oJ)) m av h (x, h1) e) (fun m av h x h1 e => (ra_c0_ok (ro := ra_oR)) m av h (x, h1) e) (fun m av h x h1 e => (ra_c0_ok (ro := ra_oN)) m av h (x, h1) e) (fun m av h x h1 e => (ra_c0_ok (ro := ra_oF)) m av h (x, h1) e) 24 lX10_weighWorths_0 _ _ _ _ lX10_weighWorths_0_ck (show ra_run ra_rV (kX10_weighWorths_0 N) (tVX10_weighWorths N) (tIX10_weighWorths N) ra_c0 ra_c0 ra_c0 ra_c0 24 lX10_weighWorths_0 [some (.ref a0), some (.ref a1), none, none, none, none] [] h = some r from e) _ _ rfl
def fX10_weighWorths (N : Nat) (p0 : Nat) (p1 : Nat) (h : ra_H) : Option ra_H := match ra_isOb h p0 10 with
  | true => nX10_weighWorths_0 N p0 p1 h
  | false => none
set_option maxRecDepth 100000 in
theorem mtX10_weighWorths : ra_MT[121]? = some (mX10_weighWorths, 1, 1, (1, 10), (4, 237), (4, 238)) := rfl
theorem fX10_weighWorths_co (N : Nat) (p0 : Nat) (p1 : Nat) (h : ra_H) (r : ra_H) (e : fX10_weighWorths N p0 p1 h = some r) (D : Nat) (hD : 5 ≤ D) : ra_CO D 121 [.ref p0, .ref p1] h (ra_oV r).1 (ra_oV r).2 := by
  have hw : ra_nw2 [.ref p0, .ref p1] ≤ 6 := Nat.le_of_ble_eq_true rfl
  have hdb : ∀ v ∈ ([.ref p0, .ref p1] : List Value), ∀ x, v ≠ .double x := by
    intro v hv x hx
    simp [hx] at hv
  unfold fX10_weighWorths at e
  split at e
  · rename_i ho
    have e1 := e
    exact ⟨4, _, mtX10_weighWorths, hD, ra_ev_of (by decide) hdb hw trivial (ra_Ru.weak (nX10_weighWorths_0_ok N p0 p1 h _ e1) ⟨rfl, ⟨rfl, trivial⟩⟩), (fun _ => ⟨_, _, rfl, ra_rcv_of ho (by decide) rfl⟩), (fun h => absurd h (by decide))⟩
  · cases e
/-! RedMarks$World.draw(I)I -/
def mX9_draw : ra_M := (yX9_draw, cX9_draw, 2, (some .int))
def lX9_draw_0 : List ra_I := [(0, .aload_n 0, 1, 0, 0, 0, 0, 0, []),
  (1, .aload_n 0, 1, 0, 0, 0, 0, 0, []),
  (2, .getfield 25, 3, 9, 2, 0, 0, 0, []),
  (5, .sipush (1103), 3, 0, 0, 0, (1103), 0, []),
  (8, .imul, 1, 0, 0, 0, 0, 0, []),
  (9, .sipush (12345), 3, 0, 0, 0, (12345), 0, []),
  (12, .iadd, 1, 0, 0, 0, 0, 0, []),
  (13, .ldc 33, 2, 0, 0, 0, (1000003), 0, []),
  (15, .irem, 1, 0, 0, 0, 0, 0, []),
  (16, .putfield 25, 3, 9, 2, 0, 0, 0, []),
  (19, .aload_n 0, 1, 0, 0, 0, 0, 0, []),
  (20, .getfield 25, 3, 9, 2, 0, 0, 0, []),
  (23, .iload_n 1, 1, 1, 0, 0, 0, 0, []),
  (24, .irem, 1, 0, 0, 0, 0, 0, []),
  (25, .ireturn, 1, 0, 0, 0, 0, 0, [])]
set_option maxRecDepth 100000 in
theorem lX9_draw_0_ck : lX9_draw_0.all (ra_ck mX9_draw 9) = true := by decide +kernel
def nX9_draw_0 (N : Nat) (a0 : Nat) (a1 : Int32) (h : ra_H) : Option (Int32 × ra_H) :=
  (ra_fI h 9 a0 2).bind fun x1 =>
  if ((1000003 : Int32)) = 0 then none else
  (ra_fW h 9 a0 2 (.int (((x1 * ((1103 : Int32))) + ((12345 : Int32))) - ((x1 * ((1103 : Int32))) + ((12345 : Int32))) / ((1000003 : Int32)) * ((1000003 : Int32))))).bind fun h2 =>
  (ra_fI h2 9 a0 2).bind fun x3 =>
  if a1 = 0 then none else
  some (x3 - x3 / a1 * a1, h2)
def kX9_draw_0 (N : Nat) : Nat → List (Option Value) → List Value → ra_H → Option (Int32 × ra_H) := ra_k0
theorem kX9_draw_0_ok (N : Nat) : ra_kok 1 mX9_draw ra_oI (kX9_draw_0 N) := ra_k0_ok
set_option maxRecDepth 100000 in
theorem nX9_draw_0_ok (N : Nat) (a0 : Nat) (a1 : Int32) (h : ra_H) (r : (Int32 × ra_H)) (e : nX9_draw_0 N a0 a1 h = some r) : ra_Ru 1 mX9_draw 0 [some (.ref a0), some (.int a1)] [] h (ra_oI r) :=
  ra_sound (by omega) rfl ra_rI_ok (kX9_draw_0_ok N) (fun m av h h1 e => (ra_c0_ok (ro := ra_oV)) m av h h1 e) (fun m av h x h1 e => (ra_c0_ok (ro := ra_oI)) m av h (x, h1) e) (fun m av h x h1 e => (ra_c0_ok (ro := ra_oJ)) m av h (x, h1) e) (fun m av h x h1 e => (ra_c0_ok (ro := ra_oR)) m av h (x, h1) e) (fun m av h x h1 e => (ra_c0_ok (ro := ra_oN)) m av h (x, h1) e) (fun m av h x h1 e => (ra_c0_ok (ro := ra_oF)) m av h (x, h1) e) 16 lX9_draw_0 _ _ _ _ lX9_draw_0_ck (show ra_run ra_rI (kX9_draw_0 N) ra_c0 ra_c0 ra_c0 ra_c0 ra_c0 ra_c0 16 lX9_draw_0 [some (.ref a0), some (.int a1)] [] h = some r from e) _ _ rfl
def fX9_draw (N : Nat) (p0 : Nat) (p1 : Int32) (h : ra_H) : Option (Int32 × ra_H) := match ra_isOb h p0 9 with
  | true => nX9_draw_0 N p0 p1 h
  | false => none
set_option maxRecDepth 100000 in
theorem mtX9_draw : ra_MT[193]? = some (mX9_draw, 1, 1, (1, 12), (6, 67), (0, 59)) := rfl
theorem fX9_draw_co (N : Nat) (p0 : Nat) (p1 : Int32) (h : ra_H) (r : (Int32 × ra_H)) (e : fX9_draw N p0 p1 h = some r) (D : Nat) (hD : 2 ≤ D) : ra_CO D 193 [.ref p0, .int p1] h (ra_oI r).1 (ra_oI r).2 := by
  have hw : ra_nw2 [.ref p0, .int p1] ≤ 2 := Nat.le_of_ble_eq_true rfl
  have hdb : ∀ v ∈ ([.ref p0, .int p1] : List Value), ∀ x, v ≠ .double x := by
    intro v hv x hx
    simp [hx] at hv
  unfold fX9_draw at e
  split at e
  · rename_i ho
    have e1 := e
    exact ⟨1, _, mtX9_draw, hD, ra_ev_of (by decide) hdb hw trivial (ra_Ru.weak (nX9_draw_0_ok N p0 p1 h _ e1) ⟨rfl, ⟨rfl, trivial⟩⟩), (fun _ => ⟨_, _, rfl, ra_rcv_of ho (by decide) rfl⟩), (fun h => absurd h (by decide))⟩
  · cases e
/-! RedMarks$World.spread(III)I -/
def mX9_spread : ra_M := (yX9_spread, cX9_spread, 6, (some .int))
def tVX9_spread (N : Nat) : Nat → List Value → ra_H → Option ra_H := (ra_c1 3 (fun av h => match av with
  | [.ref z0, .int z1] => fJ7_fill_53178 N z0 z1 h
  | _ => none) ra_c0)
theorem tVX9_spread_ok (N : Nat) : ra_cok 2 ra_oV (tVX9_spread N) := (ra_c1_ok (by
  intro av h a e
  split at e
  · exact fJ7_fill_53178_co N _ _ _ _ e 2 (by omega)
  · cases e) ra_c0_ok)
def tIX9_spread (N : Nat) : Nat → List Value → ra_H → Option (Int32 × ra_H) := (ra_c1 193 (fun av h => match av with
  | [.ref z0, .int z1] => fX9_draw N z0 z1 h
  | _ => none) ra_c0)
theorem tIX9_spread_ok (N : Nat) : ra_cok 2 ra_oI (tIX9_spread N) := (ra_c1_ok (by
  intro av h a e
  split at e
  · exact fX9_draw_co N _ _ _ _ e 2 (by omega)
  · cases e) ra_c0_ok)
def lX9_spread_59 : List ra_I := [(59, .iinc 5 (1), 3, 5, 0, 0, (1), 0, []),
  (62, .goto (-38), 3, 24, 0, 0, 0, 0, [])]
set_option maxRecDepth 100000 in
theorem lX9_spread_59_ck : lX9_spread_59.all (ra_ck mX9_spread 9) = true := by decide +kernel
def nX9_spread_59 (N : Nat) (c24 : Nat → Int32 → Int32 → Int32 → Int32 → ra_H → Option (Int32 × ra_H)) (a0 : Nat) (a2 : Int32) (a3 : Int32) (a4 : Int32) (a5 : Int32) (h : ra_H) : Option (Int32 × ra_H) :=
  let y1 := a5 + (1 : Int32)
  c24 a0 a2 a3 a4 y1 h
def kX9_spread_59 (N : Nat) (c24 : Nat → Int32 → Int32 → Int32 → Int32 → ra_H → Option (Int32 × ra_H)) : Nat → List (Option Value) → List Value → ra_H → Option (Int32 × ra_H) := (ra_k1 24 (fun L S h => match L, S with
  | [some (.ref a0), _, some (.int a2), some (.int a3), some (.int a4), some (.int a5)], [] => c24 a0 a2 a3 a4 a5 h
  | _, _ => none) ra_k0)
theorem kX9_spread_59_ok (N : Nat) (c24 : Nat → Int32 → Int32 → Int32 → Int32 → ra_H → Option (Int32 × ra_H)) (hc24 : ∀ a0 a2 a3 a4 a5 h r, c24 a0 a2 a3 a4 a5 h = some r → ra_Ru 2 mX9_spread 24 [some (.ref a0), none, some (.int a2), some (.int a3), some (.int a4), some (.int a5)] [] h (ra_oI r)) : ra_kok 2 mX9_spread ra_oI (kX9_spread_59 N c24) := (ra_k1_ok (by
  intro L S h a e
  split at e
  · exact ra_Ru.weak (hc24 _ _ _ _ _ _ _ e) ⟨rfl, ⟨rfl, ⟨rfl, ⟨rfl, ⟨rfl, trivial⟩⟩⟩⟩⟩
  · cases e) ra_k0_ok)
set_option maxRecDepth 100000 in
theorem nX9_spread_59_ok (N : Nat) (c24 : Nat → Int32 → Int32 → Int32 → Int32 → ra_H → Option (Int32 × ra_H)) (hc24 : ∀ a0 a2 a3 a4 a5 h r, c24 a0 a2 a3 a4 a5 h = some r → ra_Ru 2 mX9_spread 24 [some (.ref a0), none, some (.int a2), some (.int a3), some (.int a4), some (.int a5)] [] h (ra_oI r)) (a0 : Nat) (a2 : Int32) (a3 : Int32) (a4 : Int32) (a5 : Int32) (h : ra_H) (r : (Int32 × ra_H)) (e : nX9_spread_59 N c24 a0 a2 a3 a4 a5 h = some r) : ra_Ru 2 mX9_spread 59 [some (.ref a0), none, some (.int a2), some (.int a3), some (.int a4), some (.int a5)] [] h (ra_oI r) :=
  ra_sound (by omega) rfl ra_rI_ok (kX9_spread_59_ok N c24 hc24) (fun m av h h1 e => (tVX9_spread_ok N) m av h h1 e) (fun m av h x h1 e => (tIX9_spread_ok N) m av h (x, h1) e) (fun m av h x h1 e => (ra_c0_ok (ro := ra_oJ)) m av h (x, h1) e) (fun m av h x h1 e => (ra_c0_ok (ro := ra_oR)) m av h (x, h1) e) (fun m av h x h1 e => (ra_c0_ok (ro := ra_oN)) m av h (x, h1) e) (fun m av h x h1 e => (ra_c0_ok (ro := ra_oF)) m av h (x, h1) e) 3 lX9_spread_59 _ _ _ _ lX9_spread_59_ck (show ra_run ra_rI (kX9_spread_59 N c24) (tVX9_spread N) (tIX9_spread N) ra_c0 ra_c0 ra_c0 ra_c0 3 lX9_spread_59 [some (.ref a0), none, some (.int a2), some (.int a3), some (.int a4), some (.int a5)] [] h = some r from e) _ _ rfl
def lX9_spread_24 : List ra_I := [(24, .iload 5, 2, 5, 0, 0, 0, 0, []),
  (26, .iload_n 3, 1, 3, 0, 0, 0, 0, []),
  (27, .if_icmp .ge (38), 3, 65, 0, 0, 0, 0, []),
  (30, .aload_n 0, 1, 0, 0, 0, 0, 0, []),
  (31, .bipush (100), 2, 0, 0, 0, (100), 0, []),
  (33, .invokevirtual 29, 3, 193, 2, 1, 0, 0, []),
  (36, .iload_n 2, 1, 2, 0, 0, 0, 0, []),
  (37, .if_icmp .ge (9), 3, 46, 0, 0, 0, 0, []),
  (40, .iinc 4 (1), 3, 4, 0, 0, (1), 0, []),
  (43, .goto (16), 3, 59, 0, 0, 0, 0, []),
  (46, .aload_n 0, 1, 0, 0, 0, 0, 0, []),
  (47, .getfield 9, 3, 9, 0, 2, 0, 0, []),
  (50, .iload 5, 2, 5, 0, 0, 0, 0, []),
  (52, .aload_n 0, 1, 0, 0, 0, 0, 0, []),
  (53, .bipush (12), 2, 0, 0, 0, (12), 0, []),
  (55, .invokevirtual 29, 3, 193, 2, 1, 0, 0, []),
  (58, .iastore, 1, 0, 0, 0, 0, 0, []),
  (65, .iload 4, 2, 4, 0, 0, 0, 0, []),
  (67, .ireturn, 1, 0, 0, 0, 0, 0, [])]
set_option maxRecDepth 100000 in
theorem lX9_spread_24_ck : lX9_spread_24.all (ra_ck mX9_spread 9) = true := by decide +kernel
def nX9_spread_24 (N : Nat) : Nat → Nat → Int32 → Int32 → Int32 → Int32 → ra_H → Option (Int32 × ra_H)
  | 0, _, _, _, _, _, _ => none
  | n + 1, a0, a2, a3, a4, a5, h =>
  if a5 < a3 then
    (fX9_draw N a0 ((100 : Int32)) h).bind fun q1 =>
    if q1.1 < a2 then
      let y5 := a4 + (1 : Int32)
      nX9_spread_59 N (nX9_spread_24 N n) a0 a2 a3 y5 a5 q1.2
    else
      (ra_fR q1.2 9 a0 0).bind fun x2 =>
      (fX9_draw N a0 ((12 : Int32)) q1.2).bind fun q3 =>
      (ra_aW q3.2 0 x2 a5 q3.1).bind fun h4 =>
      nX9_spread_59 N (nX9_spread_24 N n) a0 a2 a3 a4 a5 h4
  else
    some (a4, h)
def kX9_spread_24 (N : Nat) (cs : Nat → Int32 → Int32 → Int32 → Int32 → ra_H → Option (Int32 × ra_H)) : Nat → List (Option Value) → List Value → ra_H → Option (Int32 × ra_H) := (ra_k1 59 (fun L S h => match L, S with
  | [some (.ref a0), _, some (.int a2), some (.int a3), some (.int a4), some (.int a5)], [] => nX9_spread_59 N cs a0 a2 a3 a4 a5 h
  | _, _ => none) ra_k0)
theorem kX9_spread_24_ok (N : Nat) (cs : Nat → Int32 → Int32 → Int32 → Int32 → ra_H → Option (Int32 × ra_H)) (hcs : ∀ a0 a2 a3 a4 a5 h r, cs a0 a2 a3 a4 a5 h = some r → ra_Ru 2 mX9_spread 24 [some (.ref a0), none, some (.int a2), some (.int a3), some (.int a4), some (.int a5)] [] h (ra_oI r)) : ra_kok 2 mX9_spread ra_oI (kX9_spread_24 N cs) := (ra_k1_ok (by
  intro L S h a e
  split at e
  · exact ra_Ru.weak (nX9_spread_59_ok N cs hcs _ _ _ _ _ _ _ e) ⟨rfl, ⟨rfl, ⟨rfl, ⟨rfl, ⟨rfl, trivial⟩⟩⟩⟩⟩
  · cases e) ra_k0_ok)
set_option maxRecDepth 100000 in
theorem nX9_spread_24_ok (N : Nat) : ∀ n a0 a2 a3 a4 a5 h r, nX9_spread_24 N n a0 a2 a3 a4 a5 h = some r → ra_Ru 2 mX9_spread 24 [some (.ref a0), none, some (.int a2), some (.int a3), some (.int a4), some (.int a5)] [] h (ra_oI r) := by
  intro n
  induction n with
  | zero => intro a0 a2 a3 a4 a5 h r e; cases e
  | succ n ih =>
    intro a0 a2 a3 a4 a5 h r e
    exact ra_sound (by omega) rfl ra_rI_ok (kX9_spread_24_ok N (nX9_spread_24 N n) ih) (fun m av h h1 e => (tVX9_spread_ok N) m av h h1 e) (fun m av h x h1 e => (tIX9_spread_ok N) m av h (x, h1) e) (fun m av h x h1 e => (ra_c0_ok (ro := ra_oJ)) m av h (x, h1) e) (fun m av h x h1 e => (ra_c0_ok (ro := ra_oR)) m av h (x, h1) e) (fun m av h x h1 e => (ra_c0_ok (ro := ra_oN)) m av h (x, h1) e) (fun m av h x h1 e => (ra_c0_ok (ro := ra_oF)) m av h (x, h1) e) 20 lX9_spread_24 _ _ _ _ lX9_spread_24_ck (show ra_run ra_rI (kX9_spread_24 N (nX9_spread_24 N n)) (tVX9_spread N) (tIX9_spread N) ra_c0 ra_c0 ra_c0 ra_c0 20 lX9_spread_24 [some (.ref a0), none, some (.int a2), some (.int a3), some (.int a4), some (.int a5)] [] h = some r from e) _ _ rfl
def lX9_spread_0 : List ra_I := [(0, .aload_n 0, 1, 0, 0, 0, 0, 0, []),
  (1, .iconst (1), 1, 0, 0, 0, (1), 0, []),
  (2, .putfield 21, 3, 9, 1, 4, 0, 0, []),
  (5, .aload_n 0, 1, 0, 0, 0, 0, 0, []),
  (6, .iload_n 1, 1, 1, 0, 0, 0, 0, []),
  (7, .putfield 25, 3, 9, 2, 0, 0, 0, []),
  (10, .aload_n 0, 1, 0, 0, 0, 0, 0, []),
  (11, .getfield 9, 3, 9, 0, 2, 0, 0, []),
  (14, .iconst (-1), 1, 0, 0, 0, (-1), 0, []),
  (15, .invokestatic 15, 3, 3, 2, 0, 0, 0, []),
  (18, .iconst (0), 1, 0, 0, 0, (0), 0, []),
  (19, .istore 4, 2, 4, 0, 0, 0, 0, []),
  (21, .iconst (0), 1, 0, 0, 0, (0), 0, []),
  (22, .istore 5, 2, 5, 0, 0, 0, 0, [])]
set_option maxRecDepth 100000 in
theorem lX9_spread_0_ck : lX9_spread_0.all (ra_ck mX9_spread 9) = true := by decide +kernel
def nX9_spread_0 (N : Nat) (a0 : Nat) (a1 : Int32) (a2 : Int32) (a3 : Int32) (h : ra_H) : Option (Int32 × ra_H) :=
  if ((1 : Int32)) = 0 ∨ ((1 : Int32)) = 1 then
  (ra_fW h 9 a0 1 (.int ((1 : Int32)))).bind fun h1 =>
  (ra_fW h1 9 a0 2 (.int a1)).bind fun h2 =>
  (ra_fR h2 9 a0 0).bind fun x3 =>
  (fJ7_fill_53178 N x3 ((-1 : Int32)) h2).bind fun h4 =>
  nX9_spread_24 N N a0 a2 a3 ((0 : Int32)) ((0 : Int32)) h4
  else none
def kX9_spread_0 (N : Nat) : Nat → List (Option Value) → List Value → ra_H → Option (Int32 × ra_H) := (ra_k1 24 (fun L S h => match L, S with
  | [some (.ref a0), _, some (.int a2), some (.int a3), some (.int a4), some (.int a5)], [] => nX9_spread_24 N N a0 a2 a3 a4 a5 h
  | _, _ => none) ra_k0)
theorem kX9_spread_0_ok (N : Nat) : ra_kok 2 mX9_spread ra_oI (kX9_spread_0 N) := (ra_k1_ok (by
  intro L S h a e
  split at e
  · exact ra_Ru.weak (nX9_spread_24_ok N N _ _ _ _ _ _ _ e) ⟨rfl, ⟨rfl, ⟨rfl, ⟨rfl, ⟨rfl, trivial⟩⟩⟩⟩⟩
  · cases e) ra_k0_ok)
set_option maxRecDepth 100000 in
theorem nX9_spread_0_ok (N : Nat) (a0 : Nat) (a1 : Int32) (a2 : Int32) (a3 : Int32) (h : ra_H) (r : (Int32 × ra_H)) (e : nX9_spread_0 N a0 a1 a2 a3 h = some r) : ra_Ru 2 mX9_spread 0 [some (.ref a0), some (.int a1), some (.int a2), some (.int a3), none, none] [] h (ra_oI r) :=
  ra_sound (by omega) rfl ra_rI_ok (kX9_spread_0_ok N) (fun m av h h1 e => (tVX9_spread_ok N) m av h h1 e) (fun m av h x h1 e => (tIX9_spread_ok N) m av h (x, h1) e) (fun m av h x h1 e => (ra_c0_ok (ro := ra_oJ)) m av h (x, h1) e) (fun m av h x h1 e => (ra_c0_ok (ro := ra_oR)) m av h (x, h1) e) (fun m av h x h1 e => (ra_c0_ok (ro := ra_oN)) m av h (x, h1) e) (fun m av h x h1 e => (ra_c0_ok (ro := ra_oF)) m av h (x, h1) e) 15 lX9_spread_0 _ _ _ _ lX9_spread_0_ck (show ra_run ra_rI (kX9_spread_0 N) (tVX9_spread N) (tIX9_spread N) ra_c0 ra_c0 ra_c0 ra_c0 15 lX9_spread_0 [some (.ref a0), some (.int a1), some (.int a2), some (.int a3), none, none] [] h = some r from e) _ _ rfl
def fX9_spread (N : Nat) (p0 : Nat) (p1 : Int32) (p2 : Int32) (p3 : Int32) (h : ra_H) : Option (Int32 × ra_H) := match ra_isOb h p0 9 with
  | true => nX9_spread_0 N p0 p1 p2 p3 h
  | false => none
set_option maxRecDepth 100000 in
theorem mtX9_spread : ra_MT[192]? = some (mX9_spread, 1, 3, (1, 12), (6, 62), (6, 63)) := rfl
theorem fX9_spread_co (N : Nat) (p0 : Nat) (p1 : Int32) (p2 : Int32) (p3 : Int32) (h : ra_H) (r : (Int32 × ra_H)) (e : fX9_spread N p0 p1 p2 p3 h = some r) (D : Nat) (hD : 3 ≤ D) : ra_CO D 192 [.ref p0, .int p1, .int p2, .int p3] h (ra_oI r).1 (ra_oI r).2 := by
  have hw : ra_nw2 [.ref p0, .int p1, .int p2, .int p3] ≤ 6 := Nat.le_of_ble_eq_true rfl
  have hdb : ∀ v ∈ ([.ref p0, .int p1, .int p2, .int p3] : List Value), ∀ x, v ≠ .double x := by
    intro v hv x hx
    simp [hx] at hv
  unfold fX9_spread at e
  split at e
  · rename_i ho
    have e1 := e
    exact ⟨2, _, mtX9_spread, hD, ra_ev_of (by decide) hdb hw trivial (ra_Ru.weak (nX9_spread_0_ok N p0 p1 p2 p3 h _ e1) ⟨rfl, ⟨rfl, ⟨rfl, ⟨rfl, trivial⟩⟩⟩⟩), (fun _ => ⟨_, _, rfl, ra_rcv_of ho (by decide) rfl⟩), (fun h => absurd h (by decide))⟩
  · cases e
/-! RedMarks$Scheme.<init>([I[I[I)V -/
def mX4_init : ra_M := (yX4_init, cX4_init, 4, none)
def lX4_init_0 : List ra_I := [(0, .aload_n 0, 1, 0, 0, 0, 0, 0, []),
  (1, .invokespecial 1, 3, 0, 0, 23, 0, 0, []),
  (4, .aload_n 0, 1, 0, 0, 0, 0, 0, []),
  (5, .aload_n 1, 1, 1, 0, 0, 0, 0, []),
  (6, .putfield 7, 3, 4, 0, 2, 0, 0, []),
  (9, .aload_n 0, 1, 0, 0, 0, 0, 0, []),
  (10, .aload_n 2, 1, 2, 0, 0, 0, 0, []),
  (11, .putfield 13, 3, 4, 1, 2, 0, 0, []),
  (14, .aload_n 0, 1, 0, 0, 0, 0, 0, []),
  (15, .aload_n 3, 1, 3, 0, 0, 0, 0, []),
  (16, .putfield 16, 3, 4, 2, 2, 0, 0, []),
  (19, .return_, 1, 0, 0, 0, 0, 0, [])]
set_option maxRecDepth 100000 in
theorem lX4_init_0_ck : lX4_init_0.all (ra_ck mX4_init 4) = true := by decide +kernel
def nX4_init_0 (N : Nat) (a0 : Nat) (a1 : Nat) (a2 : Nat) (a3 : Nat) (h : ra_H) : Option ra_H :=
  (ra_fW h 4 a0 0 (.ref a1)).bind fun h1 =>
  (ra_fW h1 4 a0 1 (.ref a2)).bind fun h2 =>
  (ra_fW h2 4 a0 2 (.ref a3)).bind fun h3 =>
  some h3
def kX4_init_0 (N : Nat) : Nat → List (Option Value) → List Value → ra_H → Option ra_H := ra_k0
theorem kX4_init_0_ok (N : Nat) : ra_kok 1 mX4_init ra_oV (kX4_init_0 N) := ra_k0_ok
set_option maxRecDepth 100000 in
theorem nX4_init_0_ok (N : Nat) (a0 : Nat) (a1 : Nat) (a2 : Nat) (a3 : Nat) (h : ra_H) (r : ra_H) (e : nX4_init_0 N a0 a1 a2 a3 h = some r) : ra_Ru 1 mX4_init 0 [some (.ref a0), some (.ref a1), some (.ref a2), some (.ref a3)] [] h (ra_oV r) :=
  ra_sound (by omega) rfl ra_rV_ok (kX4_init_0_ok N) (fun m av h h1 e => (ra_c0_ok (ro := ra_oV)) m av h h1 e) (fun m av h x h1 e => (ra_c0_ok (ro := ra_oI)) m av h (x, h1) e) (fun m av h x h1 e => (ra_c0_ok (ro := ra_oJ)) m av h (x, h1) e) (fun m av h x h1 e => (ra_c0_ok (ro := ra_oR)) m av h (x, h1) e) (fun m av h x h1 e => (ra_c0_ok (ro := ra_oN)) m av h (x, h1) e) (fun m av h x h1 e => (ra_c0_ok (ro := ra_oF)) m av h (x, h1) e) 13 lX4_init_0 _ _ _ _ lX4_init_0_ck (show ra_run ra_rV (kX4_init_0 N) ra_c0 ra_c0 ra_c0 ra_c0 ra_c0 ra_c0 13 lX4_init_0 [some (.ref a0), some (.ref a1), some (.ref a2), some (.ref a3)] [] h = some r from e) _ _ rfl
def fX4_init (N : Nat) (p0 : Nat) (p1 : Nat) (p2 : Nat) (p3 : Nat) (h : ra_H) : Option ra_H := nX4_init_0 N p0 p1 p2 p3 h
set_option maxRecDepth 100000 in
theorem mtX4_init : ra_MT[78]? = some (mX4_init, 2, 3, (1, 19), (4, 45), (0, 0)) := rfl
theorem fX4_init_co (N : Nat) (p0 : Nat) (p1 : Nat) (p2 : Nat) (p3 : Nat) (h : ra_H) (r : ra_H) (e : fX4_init N p0 p1 p2 p3 h = some r) (D : Nat) (hD : 2 ≤ D) : ra_CO D 78 [.ref p0, .ref p1, .ref p2, .ref p3] h (ra_oV r).1 (ra_oV r).2 := by
  have hw : ra_nw2 [.ref p0, .ref p1, .ref p2, .ref p3] ≤ 4 := Nat.le_of_ble_eq_true rfl
  have hdb : ∀ v ∈ ([.ref p0, .ref p1, .ref p2, .ref p3] : List Value), ∀ x, v ≠ .double x := by
    intro v hv x hx
    simp [hx] at hv
  unfold fX4_init at e
  have e1 := e
  exact ⟨1, _, mtX4_init, hD, ra_ev_of (by decide) hdb hw trivial (ra_Ru.weak (nX4_init_0_ok N p0 p1 p2 p3 h _ e1) ⟨rfl, ⟨rfl, ⟨rfl, ⟨rfl, trivial⟩⟩⟩⟩), (fun h => absurd h (by decide)), (fun _ => ⟨_, _, rfl⟩)⟩
/-! RedMarks$World.houseOf(I)I -/
def mX9_houseOf : ra_M := (yX9_houseOf, cX9_houseOf, 2, (some .int))
def lX9_houseOf_20 : List ra_I := [(20, .ireturn, 1, 0, 0, 0, 0, 0, [])]
set_option maxRecDepth 100000 in
theorem lX9_houseOf_20_ck : lX9_houseOf_20.all (ra_ck mX9_houseOf 9) = true := by decide +kernel
def nX9_houseOf_20 (N : Nat) (b0 : Int32) (h : ra_H) : Option (Int32 × ra_H) :=
  some (b0, h)
def kX9_houseOf_20 (N : Nat) : Nat → List (Option Value) → List Value → ra_H → Option (Int32 × ra_H) := ra_k0
theorem kX9_houseOf_20_ok (N : Nat) : ra_kok 1 mX9_houseOf ra_oI (kX9_houseOf_20 N) := ra_k0_ok
set_option maxRecDepth 100000 in
theorem nX9_houseOf_20_ok (N : Nat) (b0 : Int32) (h : ra_H) (r : (Int32 × ra_H)) (e : nX9_houseOf_20 N b0 h = some r) : ra_Ru 1 mX9_houseOf 20 [none, none] [.int b0] h (ra_oI r) :=
  ra_sound (by omega) rfl ra_rI_ok (kX9_houseOf_20_ok N) (fun m av h h1 e => (ra_c0_ok (ro := ra_oV)) m av h h1 e) (fun m av h x h1 e => (ra_c0_ok (ro := ra_oI)) m av h (x, h1) e) (fun m av h x h1 e => (ra_c0_ok (ro := ra_oJ)) m av h (x, h1) e) (fun m av h x h1 e => (ra_c0_ok (ro := ra_oR)) m av h (x, h1) e) (fun m av h x h1 e => (ra_c0_ok (ro := ra_oN)) m av h (x, h1) e) (fun m av h x h1 e => (ra_c0_ok (ro := ra_oF)) m av h (x, h1) e) 2 lX9_houseOf_20 _ _ _ _ lX9_houseOf_20_ck (show ra_run ra_rI (kX9_houseOf_20 N) ra_c0 ra_c0 ra_c0 ra_c0 ra_c0 ra_c0 2 lX9_houseOf_20 [none, none] [.int b0] h = some r from e) _ _ rfl
def lX9_houseOf_19 : List ra_I := [(19, .iconst (-1), 1, 0, 0, 0, (-1), 0, [])]
set_option maxRecDepth 100000 in
theorem lX9_houseOf_19_ck : lX9_houseOf_19.all (ra_ck mX9_houseOf 9) = true := by decide +kernel
def nX9_houseOf_19 (N : Nat) (h : ra_H) : Option (Int32 × ra_H) :=
  nX9_houseOf_20 N ((-1 : Int32)) h
def kX9_houseOf_19 (N : Nat) : Nat → List (Option Value) → List Value → ra_H → Option (Int32 × ra_H) := (ra_k1 20 (fun L S h => match L, S with
  | [_, _], [.int b0] => nX9_houseOf_20 N b0 h
  | _, _ => none) ra_k0)
theorem kX9_houseOf_19_ok (N : Nat) : ra_kok 1 mX9_houseOf ra_oI (kX9_houseOf_19 N) := (ra_k1_ok (by
  intro L S h a e
  split at e
  · exact ra_Ru.weak (nX9_houseOf_20_ok N _ _ _ e) trivial
  · cases e) ra_k0_ok)
set_option maxRecDepth 100000 in
theorem nX9_houseOf_19_ok (N : Nat) (h : ra_H) (r : (Int32 × ra_H)) (e : nX9_houseOf_19 N h = some r) : ra_Ru 1 mX9_houseOf 19 [none, none] [] h (ra_oI r) :=
  ra_sound (by omega) rfl ra_rI_ok (kX9_houseOf_19_ok N) (fun m av h h1 e => (ra_c0_ok (ro := ra_oV)) m av h h1 e) (fun m av h x h1 e => (ra_c0_ok (ro := ra_oI)) m av h (x, h1) e) (fun m av h x h1 e => (ra_c0_ok (ro := ra_oJ)) m av h (x, h1) e) (fun m av h x h1 e => (ra_c0_ok (ro := ra_oR)) m av h (x, h1) e) (fun m av h x h1 e => (ra_c0_ok (ro := ra_oN)) m av h (x, h1) e) (fun m av h x h1 e => (ra_c0_ok (ro := ra_oF)) m av h (x, h1) e) 2 lX9_houseOf_19 _ _ _ _ lX9_houseOf_19_ck (show ra_run ra_rI (kX9_houseOf_19 N) ra_c0 ra_c0 ra_c0 ra_c0 ra_c0 ra_c0 2 lX9_houseOf_19 [none, none] [] h = some r from e) _ _ rfl
def lX9_houseOf_0 : List ra_I := [(0, .iload_n 1, 1, 1, 0, 0, 0, 0, []),
  (1, .ifCond .lt (18), 3, 19, 0, 0, 0, 0, []),
  (4, .iload_n 1, 1, 1, 0, 0, 0, 0, []),
  (5, .bipush (40), 2, 0, 0, 0, (40), 0, []),
  (7, .if_icmp .ge (12), 3, 19, 0, 0, 0, 0, []),
  (10, .aload_n 0, 1, 0, 0, 0, 0, 0, []),
  (11, .getfield 9, 3, 9, 0, 2, 0, 0, []),
  (14, .iload_n 1, 1, 1, 0, 0, 0, 0, []),
  (15, .iaload, 1, 0, 0, 0, 0, 0, []),
  (16, .goto (4), 3, 20, 0, 0, 0, 0, [])]
set_option maxRecDepth 100000 in
theorem lX9_houseOf_0_ck : lX9_houseOf_0.all (ra_ck mX9_houseOf 9) = true := by decide +kernel
def nX9_houseOf_0 (N : Nat) (a0 : Nat) (a1 : Int32) (h : ra_H) : Option (Int32 × ra_H) :=
  if a1 < 0 then
    nX9_houseOf_19 N h
  else
    if a1 < ((40 : Int32)) then
      (ra_fR h 9 a0 0).bind fun x1 =>
      (ra_aI h 0 x1 a1).bind fun x2 =>
      nX9_houseOf_20 N x2 h
    else
      nX9_houseOf_19 N h
def kX9_houseOf_0 (N : Nat) : Nat → List (Option Value) → List Value → ra_H → Option (Int32 × ra_H) := (ra_k1 19 (fun L S h => match L, S with
  | [_, _], [] => nX9_houseOf_19 N h
  | _, _ => none) (ra_k1 20 (fun L S h => match L, S with
  | [_, _], [.int b0] => nX9_houseOf_20 N b0 h
  | _, _ => none) ra_k0))
theorem kX9_houseOf_0_ok (N : Nat) : ra_kok 1 mX9_houseOf ra_oI (kX9_houseOf_0 N) := (ra_k1_ok (by
  intro L S h a e
  split at e
  · exact ra_Ru.weak (nX9_houseOf_19_ok N _ _ e) trivial
  · cases e) (ra_k1_ok (by
  intro L S h a e
  split at e
  · exact ra_Ru.weak (nX9_houseOf_20_ok N _ _ _ e) trivial
  · cases e) ra_k0_ok))
set_option maxRecDepth 100000 in
theorem nX9_houseOf_0_ok (N : Nat) (a0 : Nat) (a1 : Int32) (h : ra_H) (r : (Int32 × ra_H)) (e : nX9_houseOf_0 N a0 a1 h = some r) : ra_Ru 1 mX9_houseOf 0 [some (.ref a0), some (.int a1)] [] h (ra_oI r) :=
  ra_sound (by omega) rfl ra_rI_ok (kX9_houseOf_0_ok N) (fun m av h h1 e => (ra_c0_ok (ro := ra_oV)) m av h h1 e) (fun m av h x h1 e => (ra_c0_ok (ro := ra_oI)) m av h (x, h1) e) (fun m av h x h1 e => (ra_c0_ok (ro := ra_oJ)) m av h (x, h1) e) (fun m av h x h1 e => (ra_c0_ok (ro := ra_oR)) m av h (x, h1) e) (fun m av h x h1 e => (ra_c0_ok (ro := ra_oN)) m av h (x, h1) e) (fun m av h x h1 e => (ra_c0_ok (ro := ra_oF)) m av h (x, h1) e) 11 lX9_houseOf_0 _ _ _ _ lX9_houseOf_0_ck (show ra_run ra_rI (kX9_houseOf_0 N) ra_c0 ra_c0 ra_c0 ra_c0 ra_c0 ra_c0 11 lX9_houseOf_0 [some (.ref a0), some (.int a1)] [] h = some r from e) _ _ rfl
def fX9_houseOf (N : Nat) (p0 : Nat) (p1 : Int32) (h : ra_H) : Option (Int32 × ra_H) := match ra_isOb h p0 9 with
  | true => nX9_houseOf_0 N p0 p1 h
  | false => none
set_option maxRecDepth 100000 in
theorem mtX9_houseOf : ra_MT[195]? = some (mX9_houseOf, 1, 1, (1, 12), (6, 75), (6, 76)) := rfl
theorem fX9_houseOf_co (N : Nat) (p0 : Nat) (p1 : Int32) (h : ra_H) (r : (Int32 × ra_H)) (e : fX9_houseOf N p0 p1 h = some r) (D : Nat) (hD : 2 ≤ D) : ra_CO D 195 [.ref p0, .int p1] h (ra_oI r).1 (ra_oI r).2 := by
  have hw : ra_nw2 [.ref p0, .int p1] ≤ 2 := Nat.le_of_ble_eq_true rfl
  have hdb : ∀ v ∈ ([.ref p0, .int p1] : List Value), ∀ x, v ≠ .double x := by
    intro v hv x hx
    simp [hx] at hv
  unfold fX9_houseOf at e
  split at e
  · rename_i ho
    have e1 := e
    exact ⟨1, _, mtX9_houseOf, hD, ra_ev_of (by decide) hdb hw trivial (ra_Ru.weak (nX9_houseOf_0_ok N p0 p1 h _ e1) ⟨rfl, ⟨rfl, trivial⟩⟩), (fun _ => ⟨_, _, rfl, ra_rcv_of ho (by decide) rfl⟩), (fun h => absurd h (by decide))⟩
  · cases e
