/-! RedMarksModel.<init>()V -/
def mX12_init : ra_M := (yX12_init, cX12_init, 2, none)
def lX12_init_469 : List ra_I := [(469, .iload_n 1, 1, 1, 0, 0, 0, 0, []),
  (470, .bipush (10), 2, 0, 0, 0, (10), 0, []),
  (472, .if_icmp .ge (26), 3, 498, 0, 0, 0, 0, []),
  (475, .aload_n 0, 1, 0, 0, 0, 0, 0, []),
  (476, .getfield 13, 3, 12, 3, 2, 0, 0, []),
  (479, .sipush (735), 3, 0, 0, 0, (735), 0, []),
  (482, .iconst (2), 1, 0, 0, 0, (2), 0, []),
  (483, .iload_n 1, 1, 1, 0, 0, 0, 0, []),
  (484, .imul, 1, 0, 0, 0, 0, 0, []),
  (485, .iadd, 1, 0, 0, 0, 0, 0, []),
  (486, .iconst (1), 1, 0, 0, 0, (1), 0, []),
  (487, .iadd, 1, 0, 0, 0, 0, 0, []),
  (488, .sipush (199), 3, 0, 0, 0, (199), 0, []),
  (491, .iastore, 1, 0, 0, 0, 0, 0, []),
  (492, .iinc 1 (1), 3, 1, 0, 0, (1), 0, []),
  (495, .goto (-26), 3, 469, 0, 0, 0, 0, []),
  (498, .return_, 1, 0, 0, 0, 0, 0, [])]
set_option maxRecDepth 100000 in
theorem lX12_init_469_ck : lX12_init_469.all (ra_ck mX12_init 12) = true := by decide +kernel
def nX12_init_469 (N : Nat) : Nat → Nat → Int32 → ra_H → Option ra_H
  | 0, _, _, _ => none
  | n + 1, a0, a1, h =>
  if a1 < ((10 : Int32)) then
    (ra_fR h 12 a0 3).bind fun x1 =>
    (ra_aW h 0 x1 ((((735 : Int32)) + (((2 : Int32)) * a1)) + ((1 : Int32))) ((199 : Int32))).bind fun h2 =>
    let y3 := a1 + (1 : Int32)
    nX12_init_469 N n a0 y3 h2
  else
    some h
def kX12_init_469 (N : Nat) (cs : Nat → Int32 → ra_H → Option ra_H) : Nat → List (Option Value) → List Value → ra_H → Option ra_H := (ra_k1 469 (fun L S h => match L, S with
  | [some (.ref a0), some (.int a1)], [] => cs a0 a1 h
  | _, _ => none) ra_k0)
theorem kX12_init_469_ok (N : Nat) (cs : Nat → Int32 → ra_H → Option ra_H) (hcs : ∀ a0 a1 h r, cs a0 a1 h = some r → ra_Ru 1 mX12_init 469 [some (.ref a0), some (.int a1)] [] h (ra_oV r)) : ra_kok 1 mX12_init ra_oV (kX12_init_469 N cs) := (ra_k1_ok (by
  intro L S h a e
  split at e
  · exact ra_Ru.weak (hcs _ _ _ _ e) ⟨rfl, ⟨rfl, trivial⟩⟩
  · cases e) ra_k0_ok)
set_option maxRecDepth 100000 in
theorem nX12_init_469_ok (N : Nat) : ∀ n a0 a1 h r, nX12_init_469 N n a0 a1 h = some r → ra_Ru 1 mX12_init 469 [some (.ref a0), some (.int a1)] [] h (ra_oV r) := by
  intro n
  induction n with
  | zero => intro a0 a1 h r e; cases e
  | succ n ih =>
    intro a0 a1 h r e
    exact ra_sound (by omega) rfl ra_rV_ok (kX12_init_469_ok N (nX12_init_469 N n) ih) (fun m av h h1 e => (ra_c0_ok (ro := ra_oV)) m av h h1 e) (fun m av h x h1 e => (ra_c0_ok (ro := ra_oI)) m av h (x, h1) e) (fun m av h x h1 e => (ra_c0_ok (ro := ra_oJ)) m av h (x, h1) e) (fun m av h x h1 e => (ra_c0_ok (ro := ra_oR)) m av h (x, h1) e) (fun m av h x h1 e => (ra_c0_ok (ro := ra_oN)) m av h (x, h1) e) (fun m av h x h1 e => (ra_c0_ok (ro := ra_oF)) m av h (x, h1) e) 18 lX12_init_469 _ _ _ _ lX12_init_469_ck (show ra_run ra_rV (kX12_init_469 N (nX12_init_469 N n)) ra_c0 ra_c0 ra_c0 ra_c0 ra_c0 ra_c0 18 lX12_init_469 [some (.ref a0), some (.int a1)] [] h = some r from e) _ _ rfl
def lX12_init_440 : List ra_I := [(440, .iload_n 1, 1, 1, 0, 0, 0, 0, []),
  (441, .bipush (12), 2, 0, 0, 0, (12), 0, []),
  (443, .if_icmp .ge (24), 3, 467, 0, 0, 0, 0, []),
  (446, .aload_n 0, 1, 0, 0, 0, 0, 0, []),
  (447, .getfield 13, 3, 12, 3, 2, 0, 0, []),
  (450, .sipush (610), 3, 0, 0, 0, (610), 0, []),
  (453, .iconst (3), 1, 0, 0, 0, (3), 0, []),
  (454, .iload_n 1, 1, 1, 0, 0, 0, 0, []),
  (455, .imul, 1, 0, 0, 0, 0, 0, []),
  (456, .iadd, 1, 0, 0, 0, 0, 0, []),
  (457, .iconst (2), 1, 0, 0, 0, (2), 0, []),
  (458, .iadd, 1, 0, 0, 0, 0, 0, []),
  (459, .iconst (1), 1, 0, 0, 0, (1), 0, []),
  (460, .iastore, 1, 0, 0, 0, 0, 0, []),
  (461, .iinc 1 (1), 3, 1, 0, 0, (1), 0, []),
  (464, .goto (-24), 3, 440, 0, 0, 0, 0, []),
  (467, .iconst (0), 1, 0, 0, 0, (0), 0, []),
  (468, .istore_n 1, 1, 1, 0, 0, 0, 0, [])]
set_option maxRecDepth 100000 in
theorem lX12_init_440_ck : lX12_init_440.all (ra_ck mX12_init 12) = true := by decide +kernel
def nX12_init_440 (N : Nat) : Nat → Nat → Int32 → ra_H → Option ra_H
  | 0, _, _, _ => none
  | n + 1, a0, a1, h =>
  if a1 < ((12 : Int32)) then
    (ra_fR h 12 a0 3).bind fun x1 =>
    (ra_aW h 0 x1 ((((610 : Int32)) + (((3 : Int32)) * a1)) + ((2 : Int32))) ((1 : Int32))).bind fun h2 =>
    let y3 := a1 + (1 : Int32)
    nX12_init_440 N n a0 y3 h2
  else
    nX12_init_469 N N a0 ((0 : Int32)) h
def kX12_init_440 (N : Nat) (cs : Nat → Int32 → ra_H → Option ra_H) : Nat → List (Option Value) → List Value → ra_H → Option ra_H := (ra_k1 440 (fun L S h => match L, S with
  | [some (.ref a0), some (.int a1)], [] => cs a0 a1 h
  | _, _ => none) (ra_k1 469 (fun L S h => match L, S with
  | [some (.ref a0), some (.int a1)], [] => nX12_init_469 N N a0 a1 h
  | _, _ => none) ra_k0))
theorem kX12_init_440_ok (N : Nat) (cs : Nat → Int32 → ra_H → Option ra_H) (hcs : ∀ a0 a1 h r, cs a0 a1 h = some r → ra_Ru 1 mX12_init 440 [some (.ref a0), some (.int a1)] [] h (ra_oV r)) : ra_kok 1 mX12_init ra_oV (kX12_init_440 N cs) := (ra_k1_ok (by
  intro L S h a e
  split at e
  · exact ra_Ru.weak (hcs _ _ _ _ e) ⟨rfl, ⟨rfl, trivial⟩⟩
  · cases e) (ra_k1_ok (by
  intro L S h a e
  split at e
  · exact ra_Ru.weak (nX12_init_469_ok N N _ _ _ _ e) ⟨rfl, ⟨rfl, trivial⟩⟩
  · cases e) ra_k0_ok))
set_option maxRecDepth 100000 in
theorem nX12_init_440_ok (N : Nat) : ∀ n a0 a1 h r, nX12_init_440 N n a0 a1 h = some r → ra_Ru 1 mX12_init 440 [some (.ref a0), some (.int a1)] [] h (ra_oV r) := by
  intro n
  induction n with
  | zero => intro a0 a1 h r e; cases e
  | succ n ih =>
    intro a0 a1 h r e
    exact ra_sound (by omega) rfl ra_rV_ok (kX12_init_440_ok N (nX12_init_440 N n) ih) (fun m av h h1 e => (ra_c0_ok (ro := ra_oV)) m av h h1 e) (fun m av h x h1 e => (ra_c0_ok (ro := ra_oI)) m av h (x, h1) e) (fun m av h x h1 e => (ra_c0_ok (ro := ra_oJ)) m av h (x, h1) e) (fun m av h x h1 e => (ra_c0_ok (ro := ra_oR)) m av h (x, h1) e) (fun m av h x h1 e => (ra_c0_ok (ro := ra_oN)) m av h (x, h1) e) (fun m av h x h1 e => (ra_c0_ok (ro := ra_oF)) m av h (x, h1) e) 19 lX12_init_440 _ _ _ _ lX12_init_440_ck (show ra_run ra_rV (kX12_init_440 N (nX12_init_440 N n)) ra_c0 ra_c0 ra_c0 ra_c0 ra_c0 ra_c0 19 lX12_init_440 [some (.ref a0), some (.int a1)] [] h = some r from e) _ _ rfl
def lX12_init_396 : List ra_I := [(396, .iload_n 1, 1, 1, 0, 0, 0, 0, []),
  (397, .bipush (54), 2, 0, 0, 0, (54), 0, []),
  (399, .if_icmp .ge (39), 3, 438, 0, 0, 0, 0, []),
  (402, .aload_n 0, 1, 0, 0, 0, 0, 0, []),
  (403, .getfield 13, 3, 12, 3, 2, 0, 0, []),
  (406, .sipush (500), 3, 0, 0, 0, (500), 0, []),
  (409, .iconst (2), 1, 0, 0, 0, (2), 0, []),
  (410, .iload_n 1, 1, 1, 0, 0, 0, 0, []),
  (411, .imul, 1, 0, 0, 0, 0, 0, []),
  (412, .iadd, 1, 0, 0, 0, 0, 0, []),
  (413, .bipush (100), 2, 0, 0, 0, (100), 0, []),
  (415, .iastore, 1, 0, 0, 0, 0, 0, []),
  (416, .aload_n 0, 1, 0, 0, 0, 0, 0, []),
  (417, .getfield 13, 3, 12, 3, 2, 0, 0, []),
  (420, .sipush (500), 3, 0, 0, 0, (500), 0, []),
  (423, .iconst (2), 1, 0, 0, 0, (2), 0, []),
  (424, .iload_n 1, 1, 1, 0, 0, 0, 0, []),
  (425, .imul, 1, 0, 0, 0, 0, 0, []),
  (426, .iadd, 1, 0, 0, 0, 0, 0, []),
  (427, .iconst (1), 1, 0, 0, 0, (1), 0, []),
  (428, .iadd, 1, 0, 0, 0, 0, 0, []),
  (429, .bipush (40), 2, 0, 0, 0, (40), 0, []),
  (431, .iastore, 1, 0, 0, 0, 0, 0, []),
  (432, .iinc 1 (1), 3, 1, 0, 0, (1), 0, []),
  (435, .goto (-39), 3, 396, 0, 0, 0, 0, []),
  (438, .iconst (0), 1, 0, 0, 0, (0), 0, []),
  (439, .istore_n 1, 1, 1, 0, 0, 0, 0, [])]
set_option maxRecDepth 100000 in
theorem lX12_init_396_ck : lX12_init_396.all (ra_ck mX12_init 12) = true := by decide +kernel
def nX12_init_396 (N : Nat) : Nat → Nat → Int32 → ra_H → Option ra_H
  | 0, _, _, _ => none
  | n + 1, a0, a1, h =>
  if a1 < ((54 : Int32)) then
    (ra_fR h 12 a0 3).bind fun x1 =>
    (ra_aW h 0 x1 (((500 : Int32)) + (((2 : Int32)) * a1)) ((100 : Int32))).bind fun h2 =>
    (ra_fR h2 12 a0 3).bind fun x3 =>
    (ra_aW h2 0 x3 ((((500 : Int32)) + (((2 : Int32)) * a1)) + ((1 : Int32))) ((40 : Int32))).bind fun h4 =>
    let y5 := a1 + (1 : Int32)
    nX12_init_396 N n a0 y5 h4
  else
    nX12_init_440 N N a0 ((0 : Int32)) h
def kX12_init_396 (N : Nat) (cs : Nat → Int32 → ra_H → Option ra_H) : Nat → List (Option Value) → List Value → ra_H → Option ra_H := (ra_k1 396 (fun L S h => match L, S with
  | [some (.ref a0), some (.int a1)], [] => cs a0 a1 h
  | _, _ => none) (ra_k1 440 (fun L S h => match L, S with
  | [some (.ref a0), some (.int a1)], [] => nX12_init_440 N N a0 a1 h
  | _, _ => none) ra_k0))
theorem kX12_init_396_ok (N : Nat) (cs : Nat → Int32 → ra_H → Option ra_H) (hcs : ∀ a0 a1 h r, cs a0 a1 h = some r → ra_Ru 1 mX12_init 396 [some (.ref a0), some (.int a1)] [] h (ra_oV r)) : ra_kok 1 mX12_init ra_oV (kX12_init_396 N cs) := (ra_k1_ok (by
  intro L S h a e
  split at e
  · exact ra_Ru.weak (hcs _ _ _ _ e) ⟨rfl, ⟨rfl, trivial⟩⟩
  · cases e) (ra_k1_ok (by
  intro L S h a e
  split at e
  · exact ra_Ru.weak (nX12_init_440_ok N N _ _ _ _ e) ⟨rfl, ⟨rfl, trivial⟩⟩
  · cases e) ra_k0_ok))
set_option maxRecDepth 100000 in
theorem nX12_init_396_ok (N : Nat) : ∀ n a0 a1 h r, nX12_init_396 N n a0 a1 h = some r → ra_Ru 1 mX12_init 396 [some (.ref a0), some (.int a1)] [] h (ra_oV r) := by
  intro n
  induction n with
  | zero => intro a0 a1 h r e; cases e
  | succ n ih =>
    intro a0 a1 h r e
    exact ra_sound (by omega) rfl ra_rV_ok (kX12_init_396_ok N (nX12_init_396 N n) ih) (fun m av h h1 e => (ra_c0_ok (ro := ra_oV)) m av h h1 e) (fun m av h x h1 e => (ra_c0_ok (ro := ra_oI)) m av h (x, h1) e) (fun m av h x h1 e => (ra_c0_ok (ro := ra_oJ)) m av h (x, h1) e) (fun m av h x h1 e => (ra_c0_ok (ro := ra_oR)) m av h (x, h1) e) (fun m av h x h1 e => (ra_c0_ok (ro := ra_oN)) m av h (x, h1) e) (fun m av h x h1 e => (ra_c0_ok (ro := ra_oF)) m av h (x, h1) e) 28 lX12_init_396 _ _ _ _ lX12_init_396_ck (show ra_run ra_rV (kX12_init_396 N (nX12_init_396 N n)) ra_c0 ra_c0 ra_c0 ra_c0 ra_c0 ra_c0 28 lX12_init_396 [some (.ref a0), some (.int a1)] [] h = some r from e) _ _ rfl
def lX12_init_0 : List ra_I := [(0, .aload_n 0, 1, 0, 0, 0, 0, 0, []),
  (1, .invokespecial 1, 3, 0, 0, 23, 0, 0, []),
  (4, .aload_n 0, 1, 0, 0, 0, 0, 0, []),
  (5, .bipush (7), 2, 0, 0, 0, (7), 0, []),
  (7, .newarray .int, 2, 0, 0, 0, 0, 0, []),
  (9, .putfield 7, 3, 12, 2, 2, 0, 0, []),
  (12, .aload_n 0, 1, 0, 0, 0, 0, 0, []),
  (13, .sipush (7960), 3, 0, 0, 0, (7960), 0, []),
  (16, .newarray .int, 2, 0, 0, 0, 0, 0, []),
  (18, .putfield 13, 3, 12, 3, 2, 0, 0, []),
  (21, .aload_n 0, 1, 0, 0, 0, 0, 0, []),
  (22, .sipush (15920), 3, 0, 0, 0, (15920), 0, []),
  (25, .newarray .int, 2, 0, 0, 0, 0, 0, []),
  (27, .putfield 16, 3, 12, 4, 2, 0, 0, []),
  (30, .aload_n 0, 1, 0, 0, 0, 0, 0, []),
  (31, .iconst (2), 1, 0, 0, 0, (2), 0, []),
  (32, .newarray .boolean, 2, 2, 0, 0, 0, 0, []),
  (34, .putfield 19, 3, 12, 5, 2, 0, 0, []),
  (37, .aload_n 0, 1, 0, 0, 0, 0, 0, []),
  (38, .sipush (400), 3, 0, 0, 0, (400), 0, []),
  (41, .newarray .int, 2, 0, 0, 0, 0, 0, []),
  (43, .putfield 23, 3, 12, 7, 2, 0, 0, []),
  (46, .aload_n 0, 1, 0, 0, 0, 0, 0, []),
  (47, .iconst (-1), 1, 0, 0, 0, (-1), 0, []),
  (48, .putfield 26, 3, 12, 13, 0, 0, 0, []),
  (51, .aload_n 0, 1, 0, 0, 0, 0, 0, []),
  (52, .bipush (96), 2, 0, 0, 0, (96), 0, []),
  (54, .newarray .int, 2, 0, 0, 0, 0, 0, []),
  (56, .putfield 30, 3, 12, 16, 2, 0, 0, []),
  (59, .aload_n 0, 1, 0, 0, 0, 0, 0, []),
  (60, .sipush (400), 3, 0, 0, 0, (400), 0, []),
  (63, .newarray .int, 2, 0, 0, 0, 0, 0, []),
  (65, .putfield 33, 3, 12, 18, 2, 0, 0, []),
  (68, .aload_n 0, 1, 0, 0, 0, 0, 0, []),
  (69, .sipush (400), 3, 0, 0, 0, (400), 0, []),
  (72, .newarray .int, 2, 0, 0, 0, 0, 0, []),
  (74, .putfield 36, 3, 12, 19, 2, 0, 0, []),
  (77, .aload_n 0, 1, 0, 0, 0, 0, 0, []),
  (78, .sipush (400), 3, 0, 0, 0, (400), 0, []),
  (81, .newarray .int, 2, 0, 0, 0, 0, 0, []),
  (83, .putfield 39, 3, 12, 21, 2, 0, 0, []),
  (86, .aload_n 0, 1, 0, 0, 0, 0, 0, []),
  (87, .sipush (400), 3, 0, 0, 0, (400), 0, []),
  (90, .newarray .int, 2, 0, 0, 0, 0, 0, []),
  (92, .putfield 42, 3, 12, 22, 2, 0, 0, []),
  (95, .aload_n 0, 1, 0, 0, 0, 0, 0, []),
  (96, .bipush (12), 2, 0, 0, 0, (12), 0, []),
  (98, .newarray .long, 2, 1, 0, 0, 0, 0, []),
  (100, .dup, 1, 0, 0, 0, 0, 0, []),
  (101, .iconst (0), 1, 0, 0, 0, (0), 0, []),
  (102, .ldc2_w 45, 3, 0, 0, 0, 0, (408572082), []),
  (105, .lastore, 1, 0, 0, 0, 0, 0, []),
  (106, .dup, 1, 0, 0, 0, 0, 0, []),
  (107, .iconst (1), 1, 0, 0, 0, (1), 0, []),
  (108, .ldc2_w 47, 3, 0, 0, 0, 0, (492210354), []),
  (111, .lastore, 1, 0, 0, 0, 0, 0, []),
  (112, .dup, 1, 0, 0, 0, 0, 0, []),
  (113, .iconst (2), 1, 0, 0, 0, (2), 0, []),
  (114, .ldc2_w 49, 3, 0, 0, 0, 0, (99749), []),
  (117, .lastore, 1, 0, 0, 0, 0, 0, []),
  (118, .dup, 1, 0, 0, 0, 0, 0, []),
  (119, .iconst (3), 1, 0, 0, 0, (3), 0, []),
  (120, .ldc2_w 51, 3, 0, 0, 0, 0, (21242987), []),
  (123, .lastore, 1, 0, 0, 0, 0, 0, []),
  (124, .dup, 1, 0, 0, 0, 0, 0, []),
  (125, .iconst (4), 1, 0, 0, 0, (4), 0, []),
  (126, .ldc2_w 53, 3, 0, 0, 0, 0, (656780), []),
  (129, .lastore, 1, 0, 0, 0, 0, 0, []),
  (130, .dup, 1, 0, 0, 0, 0, 0, []),
  (131, .iconst (5), 1, 0, 0, 0, (5), 0, []),
  (132, .ldc2_w 55, 3, 0, 0, 0, 0, (277893), []),
  (135, .lastore, 1, 0, 0, 0, 0, 0, []),
  (136, .dup, 1, 0, 0, 0, 0, 0, []),
  (137, .bipush (6), 2, 0, 0, 0, (6), 0, []),
  (139, .ldc2_w 57, 3, 0, 0, 0, 0, (273980692), []),
  (142, .lastore, 1, 0, 0, 0, 0, 0, []),
  (143, .dup, 1, 0, 0, 0, 0, 0, []),
  (144, .bipush (7), 2, 0, 0, 0, (7), 0, []),
  (146, .ldc2_w 59, 3, 0, 0, 0, 0, (643122), []),
  (149, .lastore, 1, 0, 0, 0, 0, 0, []),
  (150, .dup, 1, 0, 0, 0, 0, 0, []),
  (151, .bipush (8), 2, 0, 0, 0, (8), 0, []),
  (153, .ldc2_w 61, 3, 0, 0, 0, 0, (132528), []),
  (156, .lastore, 1, 0, 0, 0, 0, 0, []),
  (157, .dup, 1, 0, 0, 0, 0, 0, []),
  (158, .bipush (9), 2, 0, 0, 0, (9), 0, []),
  (160, .ldc2_w 63, 3, 0, 0, 0, 0, (769604), []),
  (163, .lastore, 1, 0, 0, 0, 0, 0, []),
  (164, .dup, 1, 0, 0, 0, 0, 0, []),
  (165, .bipush (10), 2, 0, 0, 0, (10), 0, []),
  (167, .ldc2_w 65, 3, 0, 0, 0, 0, (21108167796), []),
  (170, .lastore, 1, 0, 0, 0, 0, 0, []),
  (171, .dup, 1, 0, 0, 0, 0, 0, []),
  (172, .bipush (11), 2, 0, 0, 0, (11), 0, []),
  (174, .ldc2_w 67, 3, 0, 0, 0, 0, (8902245), []),
  (177, .lastore, 1, 0, 0, 0, 0, 0, []),
  (178, .putfield 69, 3, 12, 25, 2, 0, 0, []),
  (181, .aload_n 0, 1, 0, 0, 0, 0, 0, []),
  (182, .iconst (5), 1, 0, 0, 0, (5), 0, []),
  (183, .newarray .long, 2, 1, 0, 0, 0, 0, []),
  (185, .dup, 1, 0, 0, 0, 0, 0, []),
  (186, .iconst (0), 1, 0, 0, 0, (0), 0, []),
  (187, .ldc2_w 73, 3, 0, 0, 0, 0, (2105), []),
  (190, .lastore, 1, 0, 0, 0, 0, 0, []),
  (191, .dup, 1, 0, 0, 0, 0, 0, []),
  (192, .iconst (1), 1, 0, 0, 0, (1), 0, []),
  (193, .ldc2_w 75, 3, 0, 0, 0, 0, (20190598), []),
  (196, .lastore, 1, 0, 0, 0, 0, 0, []),
  (197, .dup, 1, 0, 0, 0, 0, 0, []),
  (198, .iconst (2), 1, 0, 0, 0, (2), 0, []),
  (199, .ldc2_w 77, 3, 0, 0, 0, 0, (17171557), []),
  (202, .lastore, 1, 0, 0, 0, 0, 0, []),
  (203, .dup, 1, 0, 0, 0, 0, 0, []),
  (204, .iconst (3), 1, 0, 0, 0, (3), 0, []),
  (205, .ldc2_w 79, 3, 0, 0, 0, 0, (513619), []),
  (208, .lastore, 1, 0, 0, 0, 0, 0, []),
  (209, .dup, 1, 0, 0, 0, 0, 0, []),
  (210, .iconst (4), 1, 0, 0, 0, (4), 0, []),
  (211, .ldc2_w 81, 3, 0, 0, 0, 0, (6337125), []),
  (214, .lastore, 1, 0, 0, 0, 0, 0, []),
  (215, .putfield 83, 3, 12, 26, 2, 0, 0, []),
  (218, .aload_n 0, 1, 0, 0, 0, 0, 0, []),
  (219, .bipush (13), 2, 0, 0, 0, (13), 0, []),
  (221, .newarray .long, 2, 1, 0, 0, 0, 0, []),
  (223, .putfield 86, 3, 12, 28, 2, 0, 0, []),
  (226, .aload_n 0, 1, 0, 0, 0, 0, 0, []),
  (227, .sipush (400), 3, 0, 0, 0, (400), 0, []),
  (230, .newarray .long, 2, 1, 0, 0, 0, 0, []),
  (232, .putfield 89, 3, 12, 29, 2, 0, 0, []),
  (235, .aload_n 0, 1, 0, 0, 0, 0, 0, []),
  (236, .sipush (320), 3, 0, 0, 0, (320), 0, []),
  (239, .newarray .int, 2, 0, 0, 0, 0, 0, []),
  (241, .putfield 92, 3, 12, 35, 2, 0, 0, []),
  (244, .aload_n 0, 1, 0, 0, 0, 0, 0, []),
  (245, .sipush (320), 3, 0, 0, 0, (320), 0, []),
  (248, .newarray .boolean, 2, 2, 0, 0, 0, 0, []),
  (250, .putfield 95, 3, 12, 36, 2, 0, 0, []),
  (253, .aload_n 0, 1, 0, 0, 0, 0, 0, []),
  (254, .sipush (5400), 3, 0, 0, 0, (5400), 0, []),
  (257, .newarray .int, 2, 0, 0, 0, 0, 0, []),
  (259, .putfield 98, 3, 12, 37, 2, 0, 0, []),
  (262, .aload_n 0, 1, 0, 0, 0, 0, 0, []),
  (263, .bipush (40), 2, 0, 0, 0, (40), 0, []),
  (265, .newarray .int, 2, 0, 0, 0, 0, 0, []),
  (267, .putfield 101, 3, 12, 39, 2, 0, 0, []),
  (270, .aload_n 0, 1, 0, 0, 0, 0, 0, []),
  (271, .bipush (40), 2, 0, 0, 0, (40), 0, []),
  (273, .newarray .int, 2, 0, 0, 0, 0, 0, []),
  (275, .putfield 104, 3, 12, 40, 2, 0, 0, []),
  (278, .aload_n 0, 1, 0, 0, 0, 0, 0, []),
  (279, .bipush (100), 2, 0, 0, 0, (100), 0, []),
  (281, .newarray .int, 2, 0, 0, 0, 0, 0, []),
  (283, .putfield 107, 3, 12, 42, 2, 0, 0, []),
  (286, .aload_n 0, 1, 0, 0, 0, 0, 0, []),
  (287, .ldc 110, 2, 0, 0, 0, (167936), 0, []),
  (289, .newarray .int, 2, 0, 0, 0, 0, 0, []),
  (291, .putfield 111, 3, 12, 44, 2, 0, 0, []),
  (294, .aload_n 0, 1, 0, 0, 0, 0, 0, []),
  (295, .sipush (4096), 3, 0, 0, 0, (4096), 0, []),
  (298, .newarray .long, 2, 1, 0, 0, 0, 0, []),
  (300, .putfield 114, 3, 12, 45, 2, 0, 0, []),
  (303, .aload_n 0, 1, 0, 0, 0, 0, 0, []),
  (304, .sipush (4096), 3, 0, 0, 0, (4096), 0, []),
  (307, .newarray .long, 2, 1, 0, 0, 0, 0, []),
  (309, .putfield 117, 3, 12, 46, 2, 0, 0, []),
  (312, .aload_n 0, 1, 0, 0, 0, 0, 0, []),
  (313, .sipush (4096), 3, 0, 0, 0, (4096), 0, []),
  (316, .newarray .boolean, 2, 2, 0, 0, 0, 0, []),
  (318, .putfield 120, 3, 12, 47, 2, 0, 0, []),
  (321, .aload_n 0, 1, 0, 0, 0, 0, 0, []),
  (322, .sipush (4096), 3, 0, 0, 0, (4096), 0, []),
  (325, .newarray .boolean, 2, 2, 0, 0, 0, 0, []),
  (327, .putfield 123, 3, 12, 48, 2, 0, 0, []),
  (330, .aload_n 0, 1, 0, 0, 0, 0, 0, []),
  (331, .bipush (40), 2, 0, 0, 0, (40), 0, []),
  (333, .newarray .int, 2, 0, 0, 0, 0, 0, []),
  (335, .putfield 126, 3, 12, 49, 2, 0, 0, []),
  (338, .aload_n 0, 1, 0, 0, 0, 0, 0, []),
  (339, .bipush (40), 2, 0, 0, 0, (40), 0, []),
  (341, .newarray .boolean, 2, 2, 0, 0, 0, 0, []),
  (343, .putfield 129, 3, 12, 50, 2, 0, 0, []),
  (346, .aload_n 0, 1, 0, 0, 0, 0, 0, []),
  (347, .sipush (361), 3, 0, 0, 0, (361), 0, []),
  (350, .newarray .int, 2, 0, 0, 0, 0, 0, []),
  (352, .putfield 132, 3, 12, 52, 2, 0, 0, []),
  (355, .aload_n 0, 1, 0, 0, 0, 0, 0, []),
  (356, .sipush (4608), 3, 0, 0, 0, (4608), 0, []),
  (359, .newarray .int, 2, 0, 0, 0, 0, 0, []),
  (361, .putfield 135, 3, 12, 53, 2, 0, 0, []),
  (364, .aload_n 0, 1, 0, 0, 0, 0, 0, []),
  (365, .bipush (9), 2, 0, 0, 0, (9), 0, []),
  (367, .newarray .int, 2, 0, 0, 0, 0, 0, []),
  (369, .putfield 138, 3, 12, 54, 2, 0, 0, []),
  (372, .aload_n 0, 1, 0, 0, 0, 0, 0, []),
  (373, .iconst (-1), 1, 0, 0, 0, (-1), 0, []),
  (374, .putfield 141, 3, 12, 56, 0, 0, 0, []),
  (377, .aload_n 0, 1, 0, 0, 0, 0, 0, []),
  (378, .bipush (40), 2, 0, 0, 0, (40), 0, []),
  (380, .newarray .int, 2, 0, 0, 0, 0, 0, []),
  (382, .putfield 144, 3, 12, 57, 2, 0, 0, []),
  (385, .aload_n 0, 1, 0, 0, 0, 0, 0, []),
  (386, .getfield 13, 3, 12, 3, 2, 0, 0, []),
  (389, .sipush (484), 3, 0, 0, 0, (484), 0, []),
  (392, .iconst (-1), 1, 0, 0, 0, (-1), 0, []),
  (393, .iastore, 1, 0, 0, 0, 0, 0, []),
  (394, .iconst (0), 1, 0, 0, 0, (0), 0, []),
  (395, .istore_n 1, 1, 1, 0, 0, 0, 0, [])]
set_option maxRecDepth 100000 in
theorem lX12_init_0_ck : lX12_init_0.all (ra_ck mX12_init 12) = true := by decide +kernel
def nX12_init_0 (N : Nat) (a0 : Nat) (h : ra_H) : Option ra_H :=
  if ((7 : Int32)) < 0 ∨ 50000000 < (Int32.toNatClampNeg ((7 : Int32))) then none else
  let h1 := ra_mk h (ra_na 0 (Int32.toNatClampNeg ((7 : Int32)))) (Int32.toNatClampNeg ((7 : Int32)))
  (ra_fW h1 12 a0 2 (.ref h.2.1)).bind fun h2 =>
  if ((7960 : Int32)) < 0 ∨ 50000000 < (Int32.toNatClampNeg ((7960 : Int32))) then none else
  let h3 := ra_mk h2 (ra_na 0 (Int32.toNatClampNeg ((7960 : Int32)))) (Int32.toNatClampNeg ((7960 : Int32)))
  (ra_fW h3 12 a0 3 (.ref h2.2.1)).bind fun h4 =>
  if ((15920 : Int32)) < 0 ∨ 50000000 < (Int32.toNatClampNeg ((15920 : Int32))) then none else
  let h5 := ra_mk h4 (ra_na 0 (Int32.toNatClampNeg ((15920 : Int32)))) (Int32.toNatClampNeg ((15920 : Int32)))
  (ra_fW h5 12 a0 4 (.ref h4.2.1)).bind fun h6 =>
  if ((2 : Int32)) < 0 ∨ 50000000 < (Int32.toNatClampNeg ((2 : Int32))) then none else
  let h7 := ra_mk h6 (ra_na 2 (Int32.toNatClampNeg ((2 : Int32)))) (Int32.toNatClampNeg ((2 : Int32)))
  (ra_fW h7 12 a0 5 (.ref h6.2.1)).bind fun h8 =>
  if ((400 : Int32)) < 0 ∨ 50000000 < (Int32.toNatClampNeg ((400 : Int32))) then none else
  let h9 := ra_mk h8 (ra_na 0 (Int32.toNatClampNeg ((400 : Int32)))) (Int32.toNatClampNeg ((400 : Int32)))
  (ra_fW h9 12 a0 7 (.ref h8.2.1)).bind fun h10 =>
  (ra_fW h10 12 a0 13 (.int ((-1 : Int32)))).bind fun h11 =>
  if ((96 : Int32)) < 0 ∨ 50000000 < (Int32.toNatClampNeg ((96 : Int32))) then none else
  let h12 := ra_mk h11 (ra_na 0 (Int32.toNatClampNeg ((96 : Int32)))) (Int32.toNatClampNeg ((96 : Int32)))
  (ra_fW h12 12 a0 16 (.ref h11.2.1)).bind fun h13 =>
  if ((400 : Int32)) < 0 ∨ 50000000 < (Int32.toNatClampNeg ((400 : Int32))) then none else
  let h14 := ra_mk h13 (ra_na 0 (Int32.toNatClampNeg ((400 : Int32)))) (Int32.toNatClampNeg ((400 : Int32)))
  (ra_fW h14 12 a0 18 (.ref h13.2.1)).bind fun h15 =>
  if ((400 : Int32)) < 0 ∨ 50000000 < (Int32.toNatClampNeg ((400 : Int32))) then none else
  let h16 := ra_mk h15 (ra_na 0 (Int32.toNatClampNeg ((400 : Int32)))) (Int32.toNatClampNeg ((400 : Int32)))
  (ra_fW h16 12 a0 19 (.ref h15.2.1)).bind fun h17 =>
  if ((400 : Int32)) < 0 ∨ 50000000 < (Int32.toNatClampNeg ((400 : Int32))) then none else
  let h18 := ra_mk h17 (ra_na 0 (Int32.toNatClampNeg ((400 : Int32)))) (Int32.toNatClampNeg ((400 : Int32)))
  (ra_fW h18 12 a0 21 (.ref h17.2.1)).bind fun h19 =>
  if ((400 : Int32)) < 0 ∨ 50000000 < (Int32.toNatClampNeg ((400 : Int32))) then none else
  let h20 := ra_mk h19 (ra_na 0 (Int32.toNatClampNeg ((400 : Int32)))) (Int32.toNatClampNeg ((400 : Int32)))
  (ra_fW h20 12 a0 22 (.ref h19.2.1)).bind fun h21 =>
  if ((12 : Int32)) < 0 ∨ 50000000 < (Int32.toNatClampNeg ((12 : Int32))) then none else
  let h22 := ra_mk h21 (ra_na 1 (Int32.toNatClampNeg ((12 : Int32)))) (Int32.toNatClampNeg ((12 : Int32)))
  (ra_aWJ h22 h21.2.1 ((0 : Int32)) ((408572082 : Int64))).bind fun h23 =>
  (ra_aWJ h23 h21.2.1 ((1 : Int32)) ((492210354 : Int64))).bind fun h24 =>
  (ra_aWJ h24 h21.2.1 ((2 : Int32)) ((99749 : Int64))).bind fun h25 =>
  (ra_aWJ h25 h21.2.1 ((3 : Int32)) ((21242987 : Int64))).bind fun h26 =>
  (ra_aWJ h26 h21.2.1 ((4 : Int32)) ((656780 : Int64))).bind fun h27 =>
  (ra_aWJ h27 h21.2.1 ((5 : Int32)) ((277893 : Int64))).bind fun h28 =>
  (ra_aWJ h28 h21.2.1 ((6 : Int32)) ((273980692 : Int64))).bind fun h29 =>
  (ra_aWJ h29 h21.2.1 ((7 : Int32)) ((643122 : Int64))).bind fun h30 =>
  (ra_aWJ h30 h21.2.1 ((8 : Int32)) ((132528 : Int64))).bind fun h31 =>
  (ra_aWJ h31 h21.2.1 ((9 : Int32)) ((769604 : Int64))).bind fun h32 =>
  (ra_aWJ h32 h21.2.1 ((10 : Int32)) ((21108167796 : Int64))).bind fun h33 =>
  (ra_aWJ h33 h21.2.1 ((11 : Int32)) ((8902245 : Int64))).bind fun h34 =>
  (ra_fW h34 12 a0 25 (.ref h21.2.1)).bind fun h35 =>
  if ((5 : Int32)) < 0 ∨ 50000000 < (Int32.toNatClampNeg ((5 : Int32))) then none else
  let h36 := ra_mk h35 (ra_na 1 (Int32.toNatClampNeg ((5 : Int32)))) (Int32.toNatClampNeg ((5 : Int32)))
  (ra_aWJ h36 h35.2.1 ((0 : Int32)) ((2105 : Int64))).bind fun h37 =>
  (ra_aWJ h37 h35.2.1 ((1 : Int32)) ((20190598 : Int64))).bind fun h38 =>
  (ra_aWJ h38 h35.2.1 ((2 : Int32)) ((17171557 : Int64))).bind fun h39 =>
  (ra_aWJ h39 h35.2.1 ((3 : Int32)) ((513619 : Int64))).bind fun h40 =>
  (ra_aWJ h40 h35.2.1 ((4 : Int32)) ((6337125 : Int64))).bind fun h41 =>
  (ra_fW h41 12 a0 26 (.ref h35.2.1)).bind fun h42 =>
  if ((13 : Int32)) < 0 ∨ 50000000 < (Int32.toNatClampNeg ((13 : Int32))) then none else
  let h43 := ra_mk h42 (ra_na 1 (Int32.toNatClampNeg ((13 : Int32)))) (Int32.toNatClampNeg ((13 : Int32)))
  (ra_fW h43 12 a0 28 (.ref h42.2.1)).bind fun h44 =>
  if ((400 : Int32)) < 0 ∨ 50000000 < (Int32.toNatClampNeg ((400 : Int32))) then none else
  let h45 := ra_mk h44 (ra_na 1 (Int32.toNatClampNeg ((400 : Int32)))) (Int32.toNatClampNeg ((400 : Int32)))
  (ra_fW h45 12 a0 29 (.ref h44.2.1)).bind fun h46 =>
  if ((320 : Int32)) < 0 ∨ 50000000 < (Int32.toNatClampNeg ((320 : Int32))) then none else
  let h47 := ra_mk h46 (ra_na 0 (Int32.toNatClampNeg ((320 : Int32)))) (Int32.toNatClampNeg ((320 : Int32)))
  (ra_fW h47 12 a0 35 (.ref h46.2.1)).bind fun h48 =>
  if ((320 : Int32)) < 0 ∨ 50000000 < (Int32.toNatClampNeg ((320 : Int32))) then none else
  let h49 := ra_mk h48 (ra_na 2 (Int32.toNatClampNeg ((320 : Int32)))) (Int32.toNatClampNeg ((320 : Int32)))
  (ra_fW h49 12 a0 36 (.ref h48.2.1)).bind fun h50 =>
  if ((5400 : Int32)) < 0 ∨ 50000000 < (Int32.toNatClampNeg ((5400 : Int32))) then none else
  let h51 := ra_mk h50 (ra_na 0 (Int32.toNatClampNeg ((5400 : Int32)))) (Int32.toNatClampNeg ((5400 : Int32)))
  (ra_fW h51 12 a0 37 (.ref h50.2.1)).bind fun h52 =>
  if ((40 : Int32)) < 0 ∨ 50000000 < (Int32.toNatClampNeg ((40 : Int32))) then none else
  let h53 := ra_mk h52 (ra_na 0 (Int32.toNatClampNeg ((40 : Int32)))) (Int32.toNatClampNeg ((40 : Int32)))
  (ra_fW h53 12 a0 39 (.ref h52.2.1)).bind fun h54 =>
  if ((40 : Int32)) < 0 ∨ 50000000 < (Int32.toNatClampNeg ((40 : Int32))) then none else
  let h55 := ra_mk h54 (ra_na 0 (Int32.toNatClampNeg ((40 : Int32)))) (Int32.toNatClampNeg ((40 : Int32)))
  (ra_fW h55 12 a0 40 (.ref h54.2.1)).bind fun h56 =>
  if ((100 : Int32)) < 0 ∨ 50000000 < (Int32.toNatClampNeg ((100 : Int32))) then none else
  let h57 := ra_mk h56 (ra_na 0 (Int32.toNatClampNeg ((100 : Int32)))) (Int32.toNatClampNeg ((100 : Int32)))
  (ra_fW h57 12 a0 42 (.ref h56.2.1)).bind fun h58 =>
  if ((167936 : Int32)) < 0 ∨ 50000000 < (Int32.toNatClampNeg ((167936 : Int32))) then none else
  let h59 := ra_mk h58 (ra_na 0 (Int32.toNatClampNeg ((167936 : Int32)))) (Int32.toNatClampNeg ((167936 : Int32)))
  (ra_fW h59 12 a0 44 (.ref h58.2.1)).bind fun h60 =>
  if ((4096 : Int32)) < 0 ∨ 50000000 < (Int32.toNatClampNeg ((4096 : Int32))) then none else
  let h61 := ra_mk h60 (ra_na 1 (Int32.toNatClampNeg ((4096 : Int32)))) (Int32.toNatClampNeg ((4096 : Int32)))
  (ra_fW h61 12 a0 45 (.ref h60.2.1)).bind fun h62 =>
  if ((4096 : Int32)) < 0 ∨ 50000000 < (Int32.toNatClampNeg ((4096 : Int32))) then none else
  let h63 := ra_mk h62 (ra_na 1 (Int32.toNatClampNeg ((4096 : Int32)))) (Int32.toNatClampNeg ((4096 : Int32)))
  (ra_fW h63 12 a0 46 (.ref h62.2.1)).bind fun h64 =>
  if ((4096 : Int32)) < 0 ∨ 50000000 < (Int32.toNatClampNeg ((4096 : Int32))) then none else
  let h65 := ra_mk h64 (ra_na 2 (Int32.toNatClampNeg ((4096 : Int32)))) (Int32.toNatClampNeg ((4096 : Int32)))
  (ra_fW h65 12 a0 47 (.ref h64.2.1)).bind fun h66 =>
  if ((4096 : Int32)) < 0 ∨ 50000000 < (Int32.toNatClampNeg ((4096 : Int32))) then none else
  let h67 := ra_mk h66 (ra_na 2 (Int32.toNatClampNeg ((4096 : Int32)))) (Int32.toNatClampNeg ((4096 : Int32)))
  (ra_fW h67 12 a0 48 (.ref h66.2.1)).bind fun h68 =>
  if ((40 : Int32)) < 0 ∨ 50000000 < (Int32.toNatClampNeg ((40 : Int32))) then none else
  let h69 := ra_mk h68 (ra_na 0 (Int32.toNatClampNeg ((40 : Int32)))) (Int32.toNatClampNeg ((40 : Int32)))
  (ra_fW h69 12 a0 49 (.ref h68.2.1)).bind fun h70 =>
  if ((40 : Int32)) < 0 ∨ 50000000 < (Int32.toNatClampNeg ((40 : Int32))) then none else
  let h71 := ra_mk h70 (ra_na 2 (Int32.toNatClampNeg ((40 : Int32)))) (Int32.toNatClampNeg ((40 : Int32)))
  (ra_fW h71 12 a0 50 (.ref h70.2.1)).bind fun h72 =>
  if ((361 : Int32)) < 0 ∨ 50000000 < (Int32.toNatClampNeg ((361 : Int32))) then none else
  let h73 := ra_mk h72 (ra_na 0 (Int32.toNatClampNeg ((361 : Int32)))) (Int32.toNatClampNeg ((361 : Int32)))
  (ra_fW h73 12 a0 52 (.ref h72.2.1)).bind fun h74 =>
  if ((4608 : Int32)) < 0 ∨ 50000000 < (Int32.toNatClampNeg ((4608 : Int32))) then none else
  let h75 := ra_mk h74 (ra_na 0 (Int32.toNatClampNeg ((4608 : Int32)))) (Int32.toNatClampNeg ((4608 : Int32)))
  (ra_fW h75 12 a0 53 (.ref h74.2.1)).bind fun h76 =>
  if ((9 : Int32)) < 0 ∨ 50000000 < (Int32.toNatClampNeg ((9 : Int32))) then none else
  let h77 := ra_mk h76 (ra_na 0 (Int32.toNatClampNeg ((9 : Int32)))) (Int32.toNatClampNeg ((9 : Int32)))
  (ra_fW h77 12 a0 54 (.ref h76.2.1)).bind fun h78 =>
  (ra_fW h78 12 a0 56 (.int ((-1 : Int32)))).bind fun h79 =>
  if ((40 : Int32)) < 0 ∨ 50000000 < (Int32.toNatClampNeg ((40 : Int32))) then none else
  let h80 := ra_mk h79 (ra_na 0 (Int32.toNatClampNeg ((40 : Int32)))) (Int32.toNatClampNeg ((40 : Int32)))
  (ra_fW h80 12 a0 57 (.ref h79.2.1)).bind fun h81 =>
  (ra_fR h81 12 a0 3).bind fun x82 =>
  (ra_aW h81 0 x82 ((484 : Int32)) ((-1 : Int32))).bind fun h83 =>
  nX12_init_396 N N a0 ((0 : Int32)) h83
def kX12_init_0 (N : Nat) : Nat → List (Option Value) → List Value → ra_H → Option ra_H := (ra_k1 396 (fun L S h => match L, S with
  | [some (.ref a0), some (.int a1)], [] => nX12_init_396 N N a0 a1 h
  | _, _ => none) ra_k0)
theorem kX12_init_0_ok (N : Nat) : ra_kok 1 mX12_init ra_oV (kX12_init_0 N) := (ra_k1_ok (by
  intro L S h a e
  split at e
  · exact ra_Ru.weak (nX12_init_396_ok N N _ _ _ _ e) ⟨rfl, ⟨rfl, trivial⟩⟩
  · cases e) ra_k0_ok)
set_option maxRecDepth 100000 in
theorem nX12_init_0_ok (N : Nat) (a0 : Nat) (h : ra_H) (r : ra_H) (e : nX12_init_0 N a0 h = some r) : ra_Ru 1 mX12_init 0 [some (.ref a0), none] [] h (ra_oV r) :=
  ra_sound (by omega) rfl ra_rV_ok (kX12_init_0_ok N) (fun m av h h1 e => (ra_c0_ok (ro := ra_oV)) m av h h1 e) (fun m av h x h1 e => (ra_c0_ok (ro := ra_oI)) m av h (x, h1) e) (fun m av h x h1 e => (ra_c0_ok (ro := ra_oJ)) m av h (x, h1) e) (fun m av h x h1 e => (ra_c0_ok (ro := ra_oR)) m av h (x, h1) e) (fun m av h x h1 e => (ra_c0_ok (ro := ra_oN)) m av h (x, h1) e) (fun m av h x h1 e => (ra_c0_ok (ro := ra_oF)) m av h (x, h1) e) 208 lX12_init_0 _ _ _ _ lX12_init_0_ck (show ra_run ra_rV (kX12_init_0 N) ra_c0 ra_c0 ra_c0 ra_c0 ra_c0 ra_c0 208 lX12_init_0 [some (.ref a0), none] [] h = some r from e) _ _ rfl
def fX12_init (N : Nat) (p0 : Nat) (h : ra_H) : Option ra_H := nX12_init_0 N p0 h
set_option maxRecDepth 100000 in
theorem mtX12_init : ra_MT[207]? = some (mX12_init, 2, 0, (1, 13), (6, 127), (0, 0)) := rfl
theorem fX12_init_co (N : Nat) (p0 : Nat) (h : ra_H) (r : ra_H) (e : fX12_init N p0 h = some r) (D : Nat) (hD : 2 ≤ D) : ra_CO D 207 [.ref p0] h (ra_oV r).1 (ra_oV r).2 := by
  have hw : ra_nw2 [.ref p0] ≤ 2 := Nat.le_of_ble_eq_true rfl
  have hdb : ∀ v ∈ ([.ref p0] : List Value), ∀ x, v ≠ .double x := by
    intro v hv x hx
    simp [hx] at hv
  unfold fX12_init at e
  have e1 := e
  exact ⟨1, _, mtX12_init, hD, ra_ev_of (by decide) hdb hw trivial (ra_Ru.weak (nX12_init_0_ok N p0 h _ e1) ⟨rfl, trivial⟩), (fun h => absurd h (by decide)), (fun _ => ⟨_, _, rfl⟩)⟩
/-! RedMarksModel.after(II)I -/
def mX12_after : ra_M := (yX12_after, cX12_after, 3, (some .int))
def lX12_after_21 : List ra_I := [(21, .ireturn, 1, 0, 0, 0, 0, 0, [])]
set_option maxRecDepth 100000 in
theorem lX12_after_21_ck : lX12_after_21.all (ra_ck mX12_after 12) = true := by decide +kernel
def nX12_after_21 (N : Nat) (b0 : Int32) (h : ra_H) : Option (Int32 × ra_H) :=
  some (b0, h)
def kX12_after_21 (N : Nat) : Nat → List (Option Value) → List Value → ra_H → Option (Int32 × ra_H) := ra_k0
theorem kX12_after_21_ok (N : Nat) : ra_kok 1 mX12_after ra_oI (kX12_after_21 N) := ra_k0_ok
set_option maxRecDepth 100000 in
theorem nX12_after_21_ok (N : Nat) (b0 : Int32) (h : ra_H) (r : (Int32 × ra_H)) (e : nX12_after_21 N b0 h = some r) : ra_Ru 1 mX12_after 21 [none, none, none] [.int b0] h (ra_oI r) :=
  ra_sound (by omega) rfl ra_rI_ok (kX12_after_21_ok N) (fun m av h h1 e => (ra_c0_ok (ro := ra_oV)) m av h h1 e) (fun m av h x h1 e => (ra_c0_ok (ro := ra_oI)) m av h (x, h1) e) (fun m av h x h1 e => (ra_c0_ok (ro := ra_oJ)) m av h (x, h1) e) (fun m av h x h1 e => (ra_c0_ok (ro := ra_oR)) m av h (x, h1) e) (fun m av h x h1 e => (ra_c0_ok (ro := ra_oN)) m av h (x, h1) e) (fun m av h x h1 e => (ra_c0_ok (ro := ra_oF)) m av h (x, h1) e) 2 lX12_after_21 _ _ _ _ lX12_after_21_ck (show ra_run ra_rI (kX12_after_21 N) ra_c0 ra_c0 ra_c0 ra_c0 ra_c0 ra_c0 2 lX12_after_21 [none, none, none] [.int b0] h = some r from e) _ _ rfl
def lX12_after_0 : List ra_I := [(0, .iload_n 2, 1, 2, 0, 0, 0, 0, []),
  (1, .aload_n 0, 1, 0, 0, 0, 0, 0, []),
  (2, .getfield 13, 3, 12, 3, 2, 0, 0, []),
  (5, .sipush (482), 3, 0, 0, 0, (482), 0, []),
  (8, .iaload, 1, 0, 0, 0, 0, 0, []),
  (9, .if_icmp .ne (7), 3, 16, 0, 0, 0, 0, []),
  (12, .iload_n 1, 1, 1, 0, 0, 0, 0, []),
  (13, .goto (8), 3, 21, 0, 0, 0, 0, []),
  (16, .iload_n 1, 1, 1, 0, 0, 0, 0, []),
  (17, .iconst (1), 1, 0, 0, 0, (1), 0, []),
  (18, .iload_n 2, 1, 2, 0, 0, 0, 0, []),
  (19, .ishl, 1, 0, 0, 0, 0, 0, []),
  (20, .ior, 1, 0, 0, 0, 0, 0, [])]
set_option maxRecDepth 100000 in
theorem lX12_after_0_ck : lX12_after_0.all (ra_ck mX12_after 12) = true := by decide +kernel
def nX12_after_0 (N : Nat) (a0 : Nat) (a1 : Int32) (a2 : Int32) (h : ra_H) : Option (Int32 × ra_H) :=
  (ra_fR h 12 a0 3).bind fun x1 =>
  (ra_aI h 0 x1 ((482 : Int32))).bind fun x2 =>
  if a2 = x2 then
    nX12_after_21 N a1 h
  else
    nX12_after_21 N (a1 ||| (((1 : Int32)) <<< (a2 &&& 31))) h
def kX12_after_0 (N : Nat) : Nat → List (Option Value) → List Value → ra_H → Option (Int32 × ra_H) := (ra_k1 21 (fun L S h => match L, S with
  | [_, _, _], [.int b0] => nX12_after_21 N b0 h
  | _, _ => none) ra_k0)
theorem kX12_after_0_ok (N : Nat) : ra_kok 1 mX12_after ra_oI (kX12_after_0 N) := (ra_k1_ok (by
  intro L S h a e
  split at e
  · exact ra_Ru.weak (nX12_after_21_ok N _ _ _ e) trivial
  · cases e) ra_k0_ok)
set_option maxRecDepth 100000 in
theorem nX12_after_0_ok (N : Nat) (a0 : Nat) (a1 : Int32) (a2 : Int32) (h : ra_H) (r : (Int32 × ra_H)) (e : nX12_after_0 N a0 a1 a2 h = some r) : ra_Ru 1 mX12_after 0 [some (.ref a0), some (.int a1), some (.int a2)] [] h (ra_oI r) :=
  ra_sound (by omega) rfl ra_rI_ok (kX12_after_0_ok N) (fun m av h h1 e => (ra_c0_ok (ro := ra_oV)) m av h h1 e) (fun m av h x h1 e => (ra_c0_ok (ro := ra_oI)) m av h (x, h1) e) (fun m av h x h1 e => (ra_c0_ok (ro := ra_oJ)) m av h (x, h1) e) (fun m av h x h1 e => (ra_c0_ok (ro := ra_oR)) m av h (x, h1) e) (fun m av h x h1 e => (ra_c0_ok (ro := ra_oN)) m av h (x, h1) e) (fun m av h x h1 e => (ra_c0_ok (ro := ra_oF)) m av h (x, h1) e) 14 lX12_after_0 _ _ _ _ lX12_after_0_ck (show ra_run ra_rI (kX12_after_0 N) ra_c0 ra_c0 ra_c0 ra_c0 ra_c0 ra_c0 14 lX12_after_0 [some (.ref a0), some (.int a1), some (.int a2)] [] h = some r from e) _ _ rfl
def fX12_after (N : Nat) (p0 : Nat) (p1 : Int32) (p2 : Int32) (h : ra_H) : Option (Int32 × ra_H) := match ra_isOb h p0 12 with
  | true => nX12_after_0 N p0 p1 p2 h
  | false => none
set_option maxRecDepth 100000 in
theorem mtX12_after : ra_MT[290]? = some (mX12_after, 1, 2, (1, 13), (8, 200), (0, 107)) := rfl
theorem fX12_after_co (N : Nat) (p0 : Nat) (p1 : Int32) (p2 : Int32) (h : ra_H) (r : (Int32 × ra_H)) (e : fX12_after N p0 p1 p2 h = some r) (D : Nat) (hD : 2 ≤ D) : ra_CO D 290 [.ref p0, .int p1, .int p2] h (ra_oI r).1 (ra_oI r).2 := by
  have hw : ra_nw2 [.ref p0, .int p1, .int p2] ≤ 3 := Nat.le_of_ble_eq_true rfl
  have hdb : ∀ v ∈ ([.ref p0, .int p1, .int p2] : List Value), ∀ x, v ≠ .double x := by
    intro v hv x hx
    simp [hx] at hv
  unfold fX12_after at e
  split at e
  · rename_i ho
    have e1 := e
    exact ⟨1, _, mtX12_after, hD, ra_ev_of (by decide) hdb hw trivial (ra_Ru.weak (nX12_after_0_ok N p0 p1 p2 h _ e1) ⟨rfl, ⟨rfl, ⟨rfl, trivial⟩⟩⟩), (fun _ => ⟨_, _, rfl, ra_rcv_of ho (by decide) rfl⟩), (fun h => absurd h (by decide))⟩
  · cases e
/-! RedMarksModel.in(JJJ)Z -/
def mX12_in : ra_M := (yX12_in, cX12_in, 6, (some .boolean))
def lX12_in_18 : List ra_I := [(18, .ireturn, 1, 0, 0, 0, 0, 0, [])]
set_option maxRecDepth 100000 in
theorem lX12_in_18_ck : lX12_in_18.all (ra_ck mX12_in 12) = true := by decide +kernel
def nX12_in_18 (N : Nat) (b0 : Int32) (h : ra_H) : Option (Int32 × ra_H) :=
  some (b0, h)
def kX12_in_18 (N : Nat) : Nat → List (Option Value) → List Value → ra_H → Option (Int32 × ra_H) := ra_k0
theorem kX12_in_18_ok (N : Nat) : ra_kok 1 mX12_in ra_oI (kX12_in_18 N) := ra_k0_ok
set_option maxRecDepth 100000 in
theorem nX12_in_18_ok (N : Nat) (b0 : Int32) (h : ra_H) (r : (Int32 × ra_H)) (e : nX12_in_18 N b0 h = some r) : ra_Ru 1 mX12_in 18 [none, none, none, none, none, none] [.int b0] h (ra_oI r) :=
  ra_sound (by omega) rfl ra_rI_ok (kX12_in_18_ok N) (fun m av h h1 e => (ra_c0_ok (ro := ra_oV)) m av h h1 e) (fun m av h x h1 e => (ra_c0_ok (ro := ra_oI)) m av h (x, h1) e) (fun m av h x h1 e => (ra_c0_ok (ro := ra_oJ)) m av h (x, h1) e) (fun m av h x h1 e => (ra_c0_ok (ro := ra_oR)) m av h (x, h1) e) (fun m av h x h1 e => (ra_c0_ok (ro := ra_oN)) m av h (x, h1) e) (fun m av h x h1 e => (ra_c0_ok (ro := ra_oF)) m av h (x, h1) e) 2 lX12_in_18 _ _ _ _ lX12_in_18_ck (show ra_run ra_rI (kX12_in_18 N) ra_c0 ra_c0 ra_c0 ra_c0 ra_c0 ra_c0 2 lX12_in_18 [none, none, none, none, none, none] [.int b0] h = some r from e) _ _ rfl
def lX12_in_17 : List ra_I := [(17, .iconst (0), 1, 0, 0, 0, (0), 0, [])]
set_option maxRecDepth 100000 in
theorem lX12_in_17_ck : lX12_in_17.all (ra_ck mX12_in 12) = true := by decide +kernel
def nX12_in_17 (N : Nat) (h : ra_H) : Option (Int32 × ra_H) :=
  nX12_in_18 N ((0 : Int32)) h
def kX12_in_17 (N : Nat) : Nat → List (Option Value) → List Value → ra_H → Option (Int32 × ra_H) := (ra_k1 18 (fun L S h => match L, S with
  | [_, _, _, _, _, _], [.int b0] => nX12_in_18 N b0 h
  | _, _ => none) ra_k0)
theorem kX12_in_17_ok (N : Nat) : ra_kok 1 mX12_in ra_oI (kX12_in_17 N) := (ra_k1_ok (by
  intro L S h a e
  split at e
  · exact ra_Ru.weak (nX12_in_18_ok N _ _ _ e) trivial
  · cases e) ra_k0_ok)
set_option maxRecDepth 100000 in
theorem nX12_in_17_ok (N : Nat) (h : ra_H) (r : (Int32 × ra_H)) (e : nX12_in_17 N h = some r) : ra_Ru 1 mX12_in 17 [none, none, none, none, none, none] [] h (ra_oI r) :=
  ra_sound (by omega) rfl ra_rI_ok (kX12_in_17_ok N) (fun m av h h1 e => (ra_c0_ok (ro := ra_oV)) m av h h1 e) (fun m av h x h1 e => (ra_c0_ok (ro := ra_oI)) m av h (x, h1) e) (fun m av h x h1 e => (ra_c0_ok (ro := ra_oJ)) m av h (x, h1) e) (fun m av h x h1 e => (ra_c0_ok (ro := ra_oR)) m av h (x, h1) e) (fun m av h x h1 e => (ra_c0_ok (ro := ra_oN)) m av h (x, h1) e) (fun m av h x h1 e => (ra_c0_ok (ro := ra_oF)) m av h (x, h1) e) 2 lX12_in_17 _ _ _ _ lX12_in_17_ck (show ra_run ra_rI (kX12_in_17 N) ra_c0 ra_c0 ra_c0 ra_c0 ra_c0 ra_c0 2 lX12_in_17 [none, none, none, none, none, none] [] h = some r from e) _ _ rfl
def lX12_in_0 : List ra_I := [(0, .lload_n 0, 1, 0, 0, 0, 0, 0, []),
  (1, .lload_n 2, 1, 2, 0, 0, 0, 0, []),
  (2, .lcmp, 1, 0, 0, 0, 0, 0, []),
  (3, .ifCond .lt (14), 3, 17, 0, 0, 0, 0, []),
  (6, .lload_n 0, 1, 0, 0, 0, 0, 0, []),
  (7, .lload 4, 2, 4, 0, 0, 0, 0, []),
  (9, .lcmp, 1, 0, 0, 0, 0, 0, []),
  (10, .ifCond .gt (7), 3, 17, 0, 0, 0, 0, []),
  (13, .iconst (1), 1, 0, 0, 0, (1), 0, []),
  (14, .goto (4), 3, 18, 0, 0, 0, 0, [])]
set_option maxRecDepth 100000 in
theorem lX12_in_0_ck : lX12_in_0.all (ra_ck mX12_in 12) = true := by decide +kernel
def nX12_in_0 (N : Nat) (a0 : Int64) (a2 : Int64) (a4 : Int64) (h : ra_H) : Option (Int32 × ra_H) :=
  if (lg_cmp a0 a2) < 0 then
    nX12_in_17 N h
  else
    if (lg_cmp a0 a4) ≤ 0 then
      nX12_in_18 N ((1 : Int32)) h
    else
      nX12_in_17 N h
def kX12_in_0 (N : Nat) : Nat → List (Option Value) → List Value → ra_H → Option (Int32 × ra_H) := (ra_k1 17 (fun L S h => match L, S with
  | [_, _, _, _, _, _], [] => nX12_in_17 N h
  | _, _ => none) (ra_k1 18 (fun L S h => match L, S with
  | [_, _, _, _, _, _], [.int b0] => nX12_in_18 N b0 h
  | _, _ => none) ra_k0))
theorem kX12_in_0_ok (N : Nat) : ra_kok 1 mX12_in ra_oI (kX12_in_0 N) := (ra_k1_ok (by
  intro L S h a e
  split at e
  · exact ra_Ru.weak (nX12_in_17_ok N _ _ e) trivial
  · cases e) (ra_k1_ok (by
  intro L S h a e
  split at e
  · exact ra_Ru.weak (nX12_in_18_ok N _ _ _ e) trivial
  · cases e) ra_k0_ok))
set_option maxRecDepth 100000 in
theorem nX12_in_0_ok (N : Nat) (a0 : Int64) (a2 : Int64) (a4 : Int64) (h : ra_H) (r : (Int32 × ra_H)) (e : nX12_in_0 N a0 a2 a4 h = some r) : ra_Ru 1 mX12_in 0 [some (.long a0), none, some (.long a2), none, some (.long a4), none] [] h (ra_oI r) :=
  ra_sound (by omega) rfl ra_rI_ok (kX12_in_0_ok N) (fun m av h h1 e => (ra_c0_ok (ro := ra_oV)) m av h h1 e) (fun m av h x h1 e => (ra_c0_ok (ro := ra_oI)) m av h (x, h1) e) (fun m av h x h1 e => (ra_c0_ok (ro := ra_oJ)) m av h (x, h1) e) (fun m av h x h1 e => (ra_c0_ok (ro := ra_oR)) m av h (x, h1) e) (fun m av h x h1 e => (ra_c0_ok (ro := ra_oN)) m av h (x, h1) e) (fun m av h x h1 e => (ra_c0_ok (ro := ra_oF)) m av h (x, h1) e) 11 lX12_in_0 _ _ _ _ lX12_in_0_ck (show ra_run ra_rI (kX12_in_0 N) ra_c0 ra_c0 ra_c0 ra_c0 ra_c0 ra_c0 11 lX12_in_0 [some (.long a0), none, some (.long a2), none, some (.long a4), none] [] h = some r from e) _ _ rfl
def fX12_in (N : Nat) (p0 : Int64) (p1 : Int64) (p2 : Int64) (h : ra_H) : Option (Int32 × ra_H) := (nX12_in_0 N p0 p1 p2 h).bind (fun q => ra_rz q.1 q.2)
set_option maxRecDepth 100000 in
theorem mtX12_in : ra_MT[209]? = some (mX12_in, 0, 3, (1, 13), (7, 89), (0, 0)) := rfl
theorem fX12_in_co (N : Nat) (p0 : Int64) (p1 : Int64) (p2 : Int64) (h : ra_H) (r : (Int32 × ra_H)) (e : fX12_in N p0 p1 p2 h = some r) (D : Nat) (hD : 2 ≤ D) : ra_CO D 209 [.long p0, .long p1, .long p2] h (ra_oI r).1 (ra_oI r).2 := by
  have hw : ra_nw2 [.long p0, .long p1, .long p2] ≤ 6 := Nat.le_of_ble_eq_true rfl
  have hdb : ∀ v ∈ ([.long p0, .long p1, .long p2] : List Value), ∀ x, v ≠ .double x := by
    intro v hv x hx
    simp [hx] at hv
  unfold fX12_in at e
  obtain ⟨q, e1, e2⟩ := Option.bind_eq_some_iff.mp e
  obtain ⟨rfl, hz⟩ := ra_rz_of e2
  exact ⟨1, _, mtX12_in, hD, ra_ev_of (by decide) hdb hw hz (ra_Ru.weak (nX12_in_0_ok N p0 p1 p2 h _ e1) ⟨rfl, ⟨rfl, ⟨rfl, trivial⟩⟩⟩), (fun h => absurd h (by decide)), (fun h => absurd h (by decide))⟩
/-! RedMarksModel.agreeOf(II)I -/
def mX12_agreeOf : ra_M := (yX12_agreeOf, cX12_agreeOf, 7, (some .int))
def tIX12_agreeOf (N : Nat) : Nat → List Value → ra_H → Option (Int32 × ra_H) := (ra_c1 209 (fun av h => match av with
  | [.long z0, .long z1, .long z2] => fX12_in N z0 z1 z2 h
  | _ => none) ra_c0)
theorem tIX12_agreeOf_ok (N : Nat) : ra_cok 2 ra_oI (tIX12_agreeOf N) := (ra_c1_ok (by
  intro av h a e
  split at e
  · exact fX12_in_co N _ _ _ _ _ e 2 (by omega)
  · cases e) ra_c0_ok)
def lX12_agreeOf_182 : List ra_I := [(182, .iload 6, 2, 6, 0, 0, 0, 0, []),
  (184, .ireturn, 1, 0, 0, 0, 0, 0, [])]
set_option maxRecDepth 100000 in
theorem lX12_agreeOf_182_ck : lX12_agreeOf_182.all (ra_ck mX12_agreeOf 12) = true := by decide +kernel
def nX12_agreeOf_182 (N : Nat) (a6 : Int32) (h : ra_H) : Option (Int32 × ra_H) :=
  some (a6, h)
def kX12_agreeOf_182 (N : Nat) : Nat → List (Option Value) → List Value → ra_H → Option (Int32 × ra_H) := ra_k0
theorem kX12_agreeOf_182_ok (N : Nat) : ra_kok 2 mX12_agreeOf ra_oI (kX12_agreeOf_182 N) := ra_k0_ok
set_option maxRecDepth 100000 in
theorem nX12_agreeOf_182_ok (N : Nat) (a6 : Int32) (h : ra_H) (r : (Int32 × ra_H)) (e : nX12_agreeOf_182 N a6 h = some r) : ra_Ru 2 mX12_agreeOf 182 [none, none, none, none, none, none, some (.int a6)] [] h (ra_oI r) :=
  ra_sound (by omega) rfl ra_rI_ok (kX12_agreeOf_182_ok N) (fun m av h h1 e => (ra_c0_ok (ro := ra_oV)) m av h h1 e) (fun m av h x h1 e => (tIX12_agreeOf_ok N) m av h (x, h1) e) (fun m av h x h1 e => (ra_c0_ok (ro := ra_oJ)) m av h (x, h1) e) (fun m av h x h1 e => (ra_c0_ok (ro := ra_oR)) m av h (x, h1) e) (fun m av h x h1 e => (ra_c0_ok (ro := ra_oN)) m av h (x, h1) e) (fun m av h x h1 e => (ra_c0_ok (ro := ra_oF)) m av h (x, h1) e) 3 lX12_agreeOf_182 _ _ _ _ lX12_agreeOf_182_ck (show ra_run ra_rI (kX12_agreeOf_182 N) ra_c0 (tIX12_agreeOf N) ra_c0 ra_c0 ra_c0 ra_c0 3 lX12_agreeOf_182 [none, none, none, none, none, none, some (.int a6)] [] h = some r from e) _ _ rfl
def lX12_agreeOf_179 : List ra_I := [(179, .iadd, 1, 0, 0, 0, 0, 0, []),
  (180, .istore 6, 2, 6, 0, 0, 0, 0, [])]
set_option maxRecDepth 100000 in
theorem lX12_agreeOf_179_ck : lX12_agreeOf_179.all (ra_ck mX12_agreeOf 12) = true := by decide +kernel
def nX12_agreeOf_179 (N : Nat) (b0 : Int32) (b1 : Int32) (h : ra_H) : Option (Int32 × ra_H) :=
  let y1 := b0 + b1
  nX12_agreeOf_182 N y1 h
def kX12_agreeOf_179 (N : Nat) : Nat → List (Option Value) → List Value → ra_H → Option (Int32 × ra_H) := (ra_k1 182 (fun L S h => match L, S with
  | [_, _, _, _, _, _, some (.int a6)], [] => nX12_agreeOf_182 N a6 h
  | _, _ => none) ra_k0)
theorem kX12_agreeOf_179_ok (N : Nat) : ra_kok 2 mX12_agreeOf ra_oI (kX12_agreeOf_179 N) := (ra_k1_ok (by
  intro L S h a e
  split at e
  · exact ra_Ru.weak (nX12_agreeOf_182_ok N _ _ _ e) ⟨rfl, trivial⟩
  · cases e) ra_k0_ok)
set_option maxRecDepth 100000 in
theorem nX12_agreeOf_179_ok (N : Nat) (b0 : Int32) (b1 : Int32) (h : ra_H) (r : (Int32 × ra_H)) (e : nX12_agreeOf_179 N b0 b1 h = some r) : ra_Ru 2 mX12_agreeOf 179 [none, none, none, none, none, none, none] [.int b1, .int b0] h (ra_oI r) :=
  ra_sound (by omega) rfl ra_rI_ok (kX12_agreeOf_179_ok N) (fun m av h h1 e => (ra_c0_ok (ro := ra_oV)) m av h h1 e) (fun m av h x h1 e => (tIX12_agreeOf_ok N) m av h (x, h1) e) (fun m av h x h1 e => (ra_c0_ok (ro := ra_oJ)) m av h (x, h1) e) (fun m av h x h1 e => (ra_c0_ok (ro := ra_oR)) m av h (x, h1) e) (fun m av h x h1 e => (ra_c0_ok (ro := ra_oN)) m av h (x, h1) e) (fun m av h x h1 e => (ra_c0_ok (ro := ra_oF)) m av h (x, h1) e) 3 lX12_agreeOf_179 _ _ _ _ lX12_agreeOf_179_ck (show ra_run ra_rI (kX12_agreeOf_179 N) ra_c0 (tIX12_agreeOf N) ra_c0 ra_c0 ra_c0 ra_c0 3 lX12_agreeOf_179 [none, none, none, none, none, none, none] [.int b1, .int b0] h = some r from e) _ _ rfl
def lX12_agreeOf_177 : List ra_I := [(177, .bipush (-6), 2, 0, 0, 0, (-6), 0, [])]
set_option maxRecDepth 100000 in
theorem lX12_agreeOf_177_ck : lX12_agreeOf_177.all (ra_ck mX12_agreeOf 12) = true := by decide +kernel
def nX12_agreeOf_177 (N : Nat) (b0 : Int32) (h : ra_H) : Option (Int32 × ra_H) :=
  nX12_agreeOf_179 N b0 ((-6 : Int32)) h
def kX12_agreeOf_177 (N : Nat) : Nat → List (Option Value) → List Value → ra_H → Option (Int32 × ra_H) := (ra_k1 179 (fun L S h => match L, S with
  | [_, _, _, _, _, _, _], [.int b1, .int b0] => nX12_agreeOf_179 N b0 b1 h
  | _, _ => none) ra_k0)
theorem kX12_agreeOf_177_ok (N : Nat) : ra_kok 2 mX12_agreeOf ra_oI (kX12_agreeOf_177 N) := (ra_k1_ok (by
  intro L S h a e
  split at e
  · exact ra_Ru.weak (nX12_agreeOf_179_ok N _ _ _ _ e) trivial
  · cases e) ra_k0_ok)
set_option maxRecDepth 100000 in
theorem nX12_agreeOf_177_ok (N : Nat) (b0 : Int32) (h : ra_H) (r : (Int32 × ra_H)) (e : nX12_agreeOf_177 N b0 h = some r) : ra_Ru 2 mX12_agreeOf 177 [none, none, none, none, none, none, none] [.int b0] h (ra_oI r) :=
  ra_sound (by omega) rfl ra_rI_ok (kX12_agreeOf_177_ok N) (fun m av h h1 e => (ra_c0_ok (ro := ra_oV)) m av h h1 e) (fun m av h x h1 e => (tIX12_agreeOf_ok N) m av h (x, h1) e) (fun m av h x h1 e => (ra_c0_ok (ro := ra_oJ)) m av h (x, h1) e) (fun m av h x h1 e => (ra_c0_ok (ro := ra_oR)) m av h (x, h1) e) (fun m av h x h1 e => (ra_c0_ok (ro := ra_oN)) m av h (x, h1) e) (fun m av h x h1 e => (ra_c0_ok (ro := ra_oF)) m av h (x, h1) e) 2 lX12_agreeOf_177 _ _ _ _ lX12_agreeOf_177_ck (show ra_run ra_rI (kX12_agreeOf_177 N) ra_c0 (tIX12_agreeOf N) ra_c0 ra_c0 ra_c0 ra_c0 2 lX12_agreeOf_177 [none, none, none, none, none, none, none] [.int b0] h = some r from e) _ _ rfl
def lX12_agreeOf_107 : List ra_I := [(107, .iadd, 1, 0, 0, 0, 0, 0, []),
  (108, .istore 6, 2, 6, 0, 0, 0, 0, []),
  (110, .aload_n 0, 1, 0, 0, 0, 0, 0, []),
  (111, .getfield 13, 3, 12, 3, 2, 0, 0, []),
  (114, .iload_n 3, 1, 3, 0, 0, 0, 0, []),
  (115, .iconst (3), 1, 0, 0, 0, (3), 0, []),
  (116, .iadd, 1, 0, 0, 0, 0, 0, []),
  (117, .iaload, 1, 0, 0, 0, 0, 0, []),
  (118, .iconst (-1), 1, 0, 0, 0, (-1), 0, []),
  (119, .if_icmp .eq (63), 3, 182, 0, 0, 0, 0, []),
  (122, .aload_n 0, 1, 0, 0, 0, 0, 0, []),
  (123, .getfield 13, 3, 12, 3, 2, 0, 0, []),
  (126, .iload 4, 2, 4, 0, 0, 0, 0, []),
  (128, .iaload, 1, 0, 0, 0, 0, 0, []),
  (129, .iconst (-1), 1, 0, 0, 0, (-1), 0, []),
  (130, .if_icmp .eq (52), 3, 182, 0, 0, 0, 0, []),
  (133, .iload 6, 2, 6, 0, 0, 0, 0, []),
  (135, .aload_n 0, 1, 0, 0, 0, 0, 0, []),
  (136, .getfield 13, 3, 12, 3, 2, 0, 0, []),
  (139, .iload_n 3, 1, 3, 0, 0, 0, 0, []),
  (140, .iconst (3), 1, 0, 0, 0, (3), 0, []),
  (141, .iadd, 1, 0, 0, 0, 0, 0, []),
  (142, .iaload, 1, 0, 0, 0, 0, 0, []),
  (143, .aload_n 0, 1, 0, 0, 0, 0, 0, []),
  (144, .getfield 13, 3, 12, 3, 2, 0, 0, []),
  (147, .iload 4, 2, 4, 0, 0, 0, 0, []),
  (149, .iaload, 1, 0, 0, 0, 0, 0, []),
  (150, .if_icmp .ne (27), 3, 177, 0, 0, 0, 0, []),
  (153, .aload_n 0, 1, 0, 0, 0, 0, 0, []),
  (154, .getfield 13, 3, 12, 3, 2, 0, 0, []),
  (157, .iload_n 3, 1, 3, 0, 0, 0, 0, []),
  (158, .iconst (4), 1, 0, 0, 0, (4), 0, []),
  (159, .iadd, 1, 0, 0, 0, 0, 0, []),
  (160, .iaload, 1, 0, 0, 0, 0, 0, []),
  (161, .aload_n 0, 1, 0, 0, 0, 0, 0, []),
  (162, .getfield 13, 3, 12, 3, 2, 0, 0, []),
  (165, .iload 4, 2, 4, 0, 0, 0, 0, []),
  (167, .iconst (1), 1, 0, 0, 0, (1), 0, []),
  (168, .iadd, 1, 0, 0, 0, 0, 0, []),
  (169, .iaload, 1, 0, 0, 0, 0, 0, []),
  (170, .if_icmp .ne (7), 3, 177, 0, 0, 0, 0, []),
  (173, .iconst (4), 1, 0, 0, 0, (4), 0, []),
  (174, .goto (5), 3, 179, 0, 0, 0, 0, [])]
set_option maxRecDepth 100000 in
theorem lX12_agreeOf_107_ck : lX12_agreeOf_107.all (ra_ck mX12_agreeOf 12) = true := by decide +kernel
def nX12_agreeOf_107 (N : Nat) (a0 : Nat) (a3 : Int32) (a4 : Int32) (b0 : Int32) (b1 : Int32) (h : ra_H) : Option (Int32 × ra_H) :=
  let y1 := b0 + b1
  (ra_fR h 12 a0 3).bind fun x2 =>
  (ra_aI h 0 x2 (a3 + ((3 : Int32)))).bind fun x3 =>
  if x3 = ((-1 : Int32)) then
    nX12_agreeOf_182 N y1 h
  else
    (ra_fR h 12 a0 3).bind fun x4 =>
    (ra_aI h 0 x4 a4).bind fun x5 =>
    if x5 = ((-1 : Int32)) then
      nX12_agreeOf_182 N y1 h
    else
      (ra_fR h 12 a0 3).bind fun x6 =>
      (ra_aI h 0 x6 (a3 + ((3 : Int32)))).bind fun x7 =>
      (ra_fR h 12 a0 3).bind fun x8 =>
      (ra_aI h 0 x8 a4).bind fun x9 =>
      if x7 = x9 then
        (ra_fR h 12 a0 3).bind fun x10 =>
        (ra_aI h 0 x10 (a3 + ((4 : Int32)))).bind fun x11 =>
        (ra_fR h 12 a0 3).bind fun x12 =>
        (ra_aI h 0 x12 (a4 + ((1 : Int32)))).bind fun x13 =>
        if x11 = x13 then
          nX12_agreeOf_179 N y1 ((4 : Int32)) h
        else
          nX12_agreeOf_177 N y1 h
      else
        nX12_agreeOf_177 N y1 h
def kX12_agreeOf_107 (N : Nat) : Nat → List (Option Value) → List Value → ra_H → Option (Int32 × ra_H) := (ra_k1 177 (fun L S h => match L, S with
  | [_, _, _, _, _, _, _], [.int b0] => nX12_agreeOf_177 N b0 h
  | _, _ => none) (ra_k1 179 (fun L S h => match L, S with
  | [_, _, _, _, _, _, _], [.int b1, .int b0] => nX12_agreeOf_179 N b0 b1 h
  | _, _ => none) (ra_k1 182 (fun L S h => match L, S with
  | [_, _, _, _, _, _, some (.int a6)], [] => nX12_agreeOf_182 N a6 h
  | _, _ => none) ra_k0)))
theorem kX12_agreeOf_107_ok (N : Nat) : ra_kok 2 mX12_agreeOf ra_oI (kX12_agreeOf_107 N) := (ra_k1_ok (by
  intro L S h a e
  split at e
  · exact ra_Ru.weak (nX12_agreeOf_177_ok N _ _ _ e) trivial
  · cases e) (ra_k1_ok (by
  intro L S h a e
  split at e
  · exact ra_Ru.weak (nX12_agreeOf_179_ok N _ _ _ _ e) trivial
  · cases e) (ra_k1_ok (by
  intro L S h a e
  split at e
  · exact ra_Ru.weak (nX12_agreeOf_182_ok N _ _ _ e) ⟨rfl, trivial⟩
  · cases e) ra_k0_ok)))
set_option maxRecDepth 100000 in
theorem nX12_agreeOf_107_ok (N : Nat) (a0 : Nat) (a3 : Int32) (a4 : Int32) (b0 : Int32) (b1 : Int32) (h : ra_H) (r : (Int32 × ra_H)) (e : nX12_agreeOf_107 N a0 a3 a4 b0 b1 h = some r) : ra_Ru 2 mX12_agreeOf 107 [some (.ref a0), none, none, some (.int a3), some (.int a4), none, none] [.int b1, .int b0] h (ra_oI r) :=
  ra_sound (by omega) rfl ra_rI_ok (kX12_agreeOf_107_ok N) (fun m av h h1 e => (ra_c0_ok (ro := ra_oV)) m av h h1 e) (fun m av h x h1 e => (tIX12_agreeOf_ok N) m av h (x, h1) e) (fun m av h x h1 e => (ra_c0_ok (ro := ra_oJ)) m av h (x, h1) e) (fun m av h x h1 e => (ra_c0_ok (ro := ra_oR)) m av h (x, h1) e) (fun m av h x h1 e => (ra_c0_ok (ro := ra_oN)) m av h (x, h1) e) (fun m av h x h1 e => (ra_c0_ok (ro := ra_oF)) m av h (x, h1) e) 44 lX12_agreeOf_107 _ _ _ _ lX12_agreeOf_107_ck (show ra_run ra_rI (kX12_agreeOf_107 N) ra_c0 (tIX12_agreeOf N) ra_c0 ra_c0 ra_c0 ra_c0 44 lX12_agreeOf_107 [some (.ref a0), none, none, some (.int a3), some (.int a4), none, none] [.int b1, .int b0] h = some r from e) _ _ rfl
def lX12_agreeOf_86 : List ra_I := [(86, .iadd, 1, 0, 0, 0, 0, 0, []),
  (87, .iload 5, 2, 5, 0, 0, 0, 0, []),
  (89, .i2l, 1, 0, 0, 0, 0, 0, []),
  (90, .ldc2_w 446, 3, 0, 0, 0, 0, (-2), []),
  (93, .ldc2_w 173, 3, 0, 0, 0, 0, (2), []),
  (96, .invokestatic 153, 3, 209, 3, 1, 0, 0, []),
  (99, .ifCond .eq (7), 3, 106, 0, 0, 0, 0, []),
  (102, .iconst (2), 1, 0, 0, 0, (2), 0, []),
  (103, .goto (4), 3, 107, 0, 0, 0, 0, []),
  (106, .iconst (0), 1, 0, 0, 0, (0), 0, [])]
set_option maxRecDepth 100000 in
theorem lX12_agreeOf_86_ck : lX12_agreeOf_86.all (ra_ck mX12_agreeOf 12) = true := by decide +kernel
def nX12_agreeOf_86 (N : Nat) (a0 : Nat) (a3 : Int32) (a4 : Int32) (a5 : Int32) (b0 : Int32) (b1 : Int32) (h : ra_H) : Option (Int32 × ra_H) :=
  (fX12_in N (Int32.toInt64 a5) ((-2 : Int64)) ((2 : Int64)) h).bind fun q1 =>
  if q1.1 = 0 then
    nX12_agreeOf_107 N a0 a3 a4 (b0 + b1) ((0 : Int32)) q1.2
  else
    nX12_agreeOf_107 N a0 a3 a4 (b0 + b1) ((2 : Int32)) q1.2
def kX12_agreeOf_86 (N : Nat) : Nat → List (Option Value) → List Value → ra_H → Option (Int32 × ra_H) := (ra_k1 107 (fun L S h => match L, S with
  | [some (.ref a0), _, _, some (.int a3), some (.int a4), _, _], [.int b1, .int b0] => nX12_agreeOf_107 N a0 a3 a4 b0 b1 h
  | _, _ => none) ra_k0)
theorem kX12_agreeOf_86_ok (N : Nat) : ra_kok 2 mX12_agreeOf ra_oI (kX12_agreeOf_86 N) := (ra_k1_ok (by
  intro L S h a e
  split at e
  · exact ra_Ru.weak (nX12_agreeOf_107_ok N _ _ _ _ _ _ _ e) ⟨rfl, ⟨rfl, ⟨rfl, trivial⟩⟩⟩
  · cases e) ra_k0_ok)
set_option maxRecDepth 100000 in
theorem nX12_agreeOf_86_ok (N : Nat) (a0 : Nat) (a3 : Int32) (a4 : Int32) (a5 : Int32) (b0 : Int32) (b1 : Int32) (h : ra_H) (r : (Int32 × ra_H)) (e : nX12_agreeOf_86 N a0 a3 a4 a5 b0 b1 h = some r) : ra_Ru 2 mX12_agreeOf 86 [some (.ref a0), none, none, some (.int a3), some (.int a4), some (.int a5), none] [.int b1, .int b0] h (ra_oI r) :=
  ra_sound (by omega) rfl ra_rI_ok (kX12_agreeOf_86_ok N) (fun m av h h1 e => (ra_c0_ok (ro := ra_oV)) m av h h1 e) (fun m av h x h1 e => (tIX12_agreeOf_ok N) m av h (x, h1) e) (fun m av h x h1 e => (ra_c0_ok (ro := ra_oJ)) m av h (x, h1) e) (fun m av h x h1 e => (ra_c0_ok (ro := ra_oR)) m av h (x, h1) e) (fun m av h x h1 e => (ra_c0_ok (ro := ra_oN)) m av h (x, h1) e) (fun m av h x h1 e => (ra_c0_ok (ro := ra_oF)) m av h (x, h1) e) 11 lX12_agreeOf_86 _ _ _ _ lX12_agreeOf_86_ck (show ra_run ra_rI (kX12_agreeOf_86 N) ra_c0 (tIX12_agreeOf N) ra_c0 ra_c0 ra_c0 ra_c0 11 lX12_agreeOf_86 [some (.ref a0), none, none, some (.int a3), some (.int a4), some (.int a5), none] [.int b1, .int b0] h = some r from e) _ _ rfl
def lX12_agreeOf_60 : List ra_I := [(60, .aload_n 0, 1, 0, 0, 0, 0, 0, []),
  (61, .getfield 13, 3, 12, 3, 2, 0, 0, []),
  (64, .iload_n 3, 1, 3, 0, 0, 0, 0, []),
  (65, .iconst (1), 1, 0, 0, 0, (1), 0, []),
  (66, .iadd, 1, 0, 0, 0, 0, 0, []),
  (67, .iaload, 1, 0, 0, 0, 0, 0, []),
  (68, .aload_n 0, 1, 0, 0, 0, 0, 0, []),
  (69, .getfield 13, 3, 12, 3, 2, 0, 0, []),
  (72, .iload 4, 2, 4, 0, 0, 0, 0, []),
  (74, .bipush (10), 2, 0, 0, 0, (10), 0, []),
  (76, .iadd, 1, 0, 0, 0, 0, 0, []),
  (77, .iaload, 1, 0, 0, 0, 0, 0, []),
  (78, .if_icmp .ne (7), 3, 85, 0, 0, 0, 0, []),
  (81, .iconst (3), 1, 0, 0, 0, (3), 0, []),
  (82, .goto (4), 3, 86, 0, 0, 0, 0, []),
  (85, .iconst (0), 1, 0, 0, 0, (0), 0, [])]
set_option maxRecDepth 100000 in
theorem lX12_agreeOf_60_ck : lX12_agreeOf_60.all (ra_ck mX12_agreeOf 12) = true := by decide +kernel
def nX12_agreeOf_60 (N : Nat) (a0 : Nat) (a3 : Int32) (a4 : Int32) (a5 : Int32) (b0 : Int32) (h : ra_H) : Option (Int32 × ra_H) :=
  (ra_fR h 12 a0 3).bind fun x1 =>
  (ra_aI h 0 x1 (a3 + ((1 : Int32)))).bind fun x2 =>
  (ra_fR h 12 a0 3).bind fun x3 =>
  (ra_aI h 0 x3 (a4 + ((10 : Int32)))).bind fun x4 =>
  if x2 = x4 then
    nX12_agreeOf_86 N a0 a3 a4 a5 b0 ((3 : Int32)) h
  else
    nX12_agreeOf_86 N a0 a3 a4 a5 b0 ((0 : Int32)) h
def kX12_agreeOf_60 (N : Nat) : Nat → List (Option Value) → List Value → ra_H → Option (Int32 × ra_H) := (ra_k1 86 (fun L S h => match L, S with
  | [some (.ref a0), _, _, some (.int a3), some (.int a4), some (.int a5), _], [.int b1, .int b0] => nX12_agreeOf_86 N a0 a3 a4 a5 b0 b1 h
  | _, _ => none) ra_k0)
theorem kX12_agreeOf_60_ok (N : Nat) : ra_kok 2 mX12_agreeOf ra_oI (kX12_agreeOf_60 N) := (ra_k1_ok (by
  intro L S h a e
  split at e
  · exact ra_Ru.weak (nX12_agreeOf_86_ok N _ _ _ _ _ _ _ _ e) ⟨rfl, ⟨rfl, ⟨rfl, ⟨rfl, trivial⟩⟩⟩⟩
  · cases e) ra_k0_ok)
set_option maxRecDepth 100000 in
theorem nX12_agreeOf_60_ok (N : Nat) (a0 : Nat) (a3 : Int32) (a4 : Int32) (a5 : Int32) (b0 : Int32) (h : ra_H) (r : (Int32 × ra_H)) (e : nX12_agreeOf_60 N a0 a3 a4 a5 b0 h = some r) : ra_Ru 2 mX12_agreeOf 60 [some (.ref a0), none, none, some (.int a3), some (.int a4), some (.int a5), none] [.int b0] h (ra_oI r) :=
  ra_sound (by omega) rfl ra_rI_ok (kX12_agreeOf_60_ok N) (fun m av h h1 e => (ra_c0_ok (ro := ra_oV)) m av h h1 e) (fun m av h x h1 e => (tIX12_agreeOf_ok N) m av h (x, h1) e) (fun m av h x h1 e => (ra_c0_ok (ro := ra_oJ)) m av h (x, h1) e) (fun m av h x h1 e => (ra_c0_ok (ro := ra_oR)) m av h (x, h1) e) (fun m av h x h1 e => (ra_c0_ok (ro := ra_oN)) m av h (x, h1) e) (fun m av h x h1 e => (ra_c0_ok (ro := ra_oF)) m av h (x, h1) e) 17 lX12_agreeOf_60 _ _ _ _ lX12_agreeOf_60_ck (show ra_run ra_rI (kX12_agreeOf_60 N) ra_c0 (tIX12_agreeOf N) ra_c0 ra_c0 ra_c0 ra_c0 17 lX12_agreeOf_60 [some (.ref a0), none, none, some (.int a3), some (.int a4), some (.int a5), none] [.int b0] h = some r from e) _ _ rfl
def lX12_agreeOf_0 : List ra_I := [(0, .sipush (650), 3, 0, 0, 0, (650), 0, []),
  (3, .bipush (6), 2, 0, 0, 0, (6), 0, []),
  (5, .iload_n 1, 1, 1, 0, 0, 0, 0, []),
  (6, .imul, 1, 0, 0, 0, 0, 0, []),
  (7, .iadd, 1, 0, 0, 0, 0, 0, []),
  (8, .istore_n 3, 1, 3, 0, 0, 0, 0, []),
  (9, .bipush (12), 2, 0, 0, 0, (12), 0, []),
  (11, .iload_n 2, 1, 2, 0, 0, 0, 0, []),
  (12, .imul, 1, 0, 0, 0, 0, 0, []),
  (13, .istore 4, 2, 4, 0, 0, 0, 0, []),
  (15, .aload_n 0, 1, 0, 0, 0, 0, 0, []),
  (16, .getfield 13, 3, 12, 3, 2, 0, 0, []),
  (19, .iload_n 3, 1, 3, 0, 0, 0, 0, []),
  (20, .iconst (2), 1, 0, 0, 0, (2), 0, []),
  (21, .iadd, 1, 0, 0, 0, 0, 0, []),
  (22, .iaload, 1, 0, 0, 0, 0, 0, []),
  (23, .aload_n 0, 1, 0, 0, 0, 0, 0, []),
  (24, .getfield 13, 3, 12, 3, 2, 0, 0, []),
  (27, .iload 4, 2, 4, 0, 0, 0, 0, []),
  (29, .iconst (3), 1, 0, 0, 0, (3), 0, []),
  (30, .iadd, 1, 0, 0, 0, 0, 0, []),
  (31, .iaload, 1, 0, 0, 0, 0, 0, []),
  (32, .isub, 1, 0, 0, 0, 0, 0, []),
  (33, .istore 5, 2, 5, 0, 0, 0, 0, []),
  (35, .aload_n 0, 1, 0, 0, 0, 0, 0, []),
  (36, .getfield 13, 3, 12, 3, 2, 0, 0, []),
  (39, .iload_n 3, 1, 3, 0, 0, 0, 0, []),
  (40, .iaload, 1, 0, 0, 0, 0, 0, []),
  (41, .aload_n 0, 1, 0, 0, 0, 0, 0, []),
  (42, .getfield 13, 3, 12, 3, 2, 0, 0, []),
  (45, .iload 4, 2, 4, 0, 0, 0, 0, []),
  (47, .bipush (9), 2, 0, 0, 0, (9), 0, []),
  (49, .iadd, 1, 0, 0, 0, 0, 0, []),
  (50, .iaload, 1, 0, 0, 0, 0, 0, []),
  (51, .if_icmp .ne (8), 3, 59, 0, 0, 0, 0, []),
  (54, .bipush (8), 2, 0, 0, 0, (8), 0, []),
  (56, .goto (4), 3, 60, 0, 0, 0, 0, []),
  (59, .iconst (0), 1, 0, 0, 0, (0), 0, [])]
set_option maxRecDepth 100000 in
theorem lX12_agreeOf_0_ck : lX12_agreeOf_0.all (ra_ck mX12_agreeOf 12) = true := by decide +kernel
def nX12_agreeOf_0 (N : Nat) (a0 : Nat) (a1 : Int32) (a2 : Int32) (h : ra_H) : Option (Int32 × ra_H) :=
  let y1 := ((650 : Int32)) + (((6 : Int32)) * a1)
  let y2 := ((12 : Int32)) * a2
  (ra_fR h 12 a0 3).bind fun x3 =>
  (ra_aI h 0 x3 (y1 + ((2 : Int32)))).bind fun x4 =>
  (ra_fR h 12 a0 3).bind fun x5 =>
  (ra_aI h 0 x5 (y2 + ((3 : Int32)))).bind fun x6 =>
  let y7 := x4 - x6
  (ra_fR h 12 a0 3).bind fun x8 =>
  (ra_aI h 0 x8 y1).bind fun x9 =>
  (ra_fR h 12 a0 3).bind fun x10 =>
  (ra_aI h 0 x10 (y2 + ((9 : Int32)))).bind fun x11 =>
  if x9 = x11 then
    nX12_agreeOf_60 N a0 y1 y2 y7 ((8 : Int32)) h
  else
    nX12_agreeOf_60 N a0 y1 y2 y7 ((0 : Int32)) h
def kX12_agreeOf_0 (N : Nat) : Nat → List (Option Value) → List Value → ra_H → Option (Int32 × ra_H) := (ra_k1 60 (fun L S h => match L, S with
  | [some (.ref a0), _, _, some (.int a3), some (.int a4), some (.int a5), _], [.int b0] => nX12_agreeOf_60 N a0 a3 a4 a5 b0 h
  | _, _ => none) ra_k0)
theorem kX12_agreeOf_0_ok (N : Nat) : ra_kok 2 mX12_agreeOf ra_oI (kX12_agreeOf_0 N) := (ra_k1_ok (by
  intro L S h a e
  split at e
  · exact ra_Ru.weak (nX12_agreeOf_60_ok N _ _ _ _ _ _ _ e) ⟨rfl, ⟨rfl, ⟨rfl, ⟨rfl, trivial⟩⟩⟩⟩
  · cases e) ra_k0_ok)
set_option maxRecDepth 100000 in
theorem nX12_agreeOf_0_ok (N : Nat) (a0 : Nat) (a1 : Int32) (a2 : Int32) (h : ra_H) (r : (Int32 × ra_H)) (e : nX12_agreeOf_0 N a0 a1 a2 h = some r) : ra_Ru 2 mX12_agreeOf 0 [some (.ref a0), some (.int a1), some (.int a2), none, none, none, none] [] h (ra_oI r) :=
  ra_sound (by omega) rfl ra_rI_ok (kX12_agreeOf_0_ok N) (fun m av h h1 e => (ra_c0_ok (ro := ra_oV)) m av h h1 e) (fun m av h x h1 e => (tIX12_agreeOf_ok N) m av h (x, h1) e) (fun m av h x h1 e => (ra_c0_ok (ro := ra_oJ)) m av h (x, h1) e) (fun m av h x h1 e => (ra_c0_ok (ro := ra_oR)) m av h (x, h1) e) (fun m av h x h1 e => (ra_c0_ok (ro := ra_oN)) m av h (x, h1) e) (fun m av h x h1 e => (ra_c0_ok (ro := ra_oF)) m av h (x, h1) e) 39 lX12_agreeOf_0 _ _ _ _ lX12_agreeOf_0_ck (show ra_run ra_rI (kX12_agreeOf_0 N) ra_c0 (tIX12_agreeOf N) ra_c0 ra_c0 ra_c0 ra_c0 39 lX12_agreeOf_0 [some (.ref a0), some (.int a1), some (.int a2), none, none, none, none] [] h = some r from e) _ _ rfl
def fX12_agreeOf (N : Nat) (p0 : Nat) (p1 : Int32) (p2 : Int32) (h : ra_H) : Option (Int32 × ra_H) := match ra_isOb h p0 12 with
  | true => nX12_agreeOf_0 N p0 p1 p2 h
  | false => none
set_option maxRecDepth 100000 in
theorem mtX12_agreeOf : ra_MT[284]? = some (mX12_agreeOf, 1, 2, (1, 13), (8, 175), (0, 102)) := rfl
theorem fX12_agreeOf_co (N : Nat) (p0 : Nat) (p1 : Int32) (p2 : Int32) (h : ra_H) (r : (Int32 × ra_H)) (e : fX12_agreeOf N p0 p1 p2 h = some r) (D : Nat) (hD : 3 ≤ D) : ra_CO D 284 [.ref p0, .int p1, .int p2] h (ra_oI r).1 (ra_oI r).2 := by
  have hw : ra_nw2 [.ref p0, .int p1, .int p2] ≤ 7 := Nat.le_of_ble_eq_true rfl
  have hdb : ∀ v ∈ ([.ref p0, .int p1, .int p2] : List Value), ∀ x, v ≠ .double x := by
    intro v hv x hx
    simp [hx] at hv
  unfold fX12_agreeOf at e
  split at e
  · rename_i ho
    have e1 := e
    exact ⟨2, _, mtX12_agreeOf, hD, ra_ev_of (by decide) hdb hw trivial (ra_Ru.weak (nX12_agreeOf_0_ok N p0 p1 p2 h _ e1) ⟨rfl, ⟨rfl, ⟨rfl, trivial⟩⟩⟩), (fun _ => ⟨_, _, rfl, ra_rcv_of ho (by decide) rfl⟩), (fun h => absurd h (by decide))⟩
  · cases e
/-! RedMarksModel.isBook(I)Z -/
def mX12_isBook : ra_M := (yX12_isBook, cX12_isBook, 2, (some .boolean))
def tIX12_isBook (N : Nat) : Nat → List Value → ra_H → Option (Int32 × ra_H) := (ra_c1 209 (fun av h => match av with
  | [.long z0, .long z1, .long z2] => fX12_in N z0 z1 z2 h
  | _ => none) ra_c0)
theorem tIX12_isBook_ok (N : Nat) : ra_cok 2 ra_oI (tIX12_isBook N) := (ra_c1_ok (by
  intro av h a e
  split at e
  · exact fX12_in_co N _ _ _ _ _ e 2 (by omega)
  · cases e) ra_c0_ok)
def lX12_isBook_0 : List ra_I := [(0, .iload_n 1, 1, 1, 0, 0, 0, 0, []),
  (1, .i2l, 1, 0, 0, 0, 0, 0, []),
  (2, .lconst 0, 1, 0, 0, 0, 0, 0, []),
  (3, .aload_n 0, 1, 0, 0, 0, 0, 0, []),
  (4, .getfield 13, 3, 12, 3, 2, 0, 0, []),
  (7, .sipush (480), 3, 0, 0, 0, (480), 0, []),
  (10, .iaload, 1, 0, 0, 0, 0, 0, []),
  (11, .i2l, 1, 0, 0, 0, 0, 0, []),
  (12, .lconst 1, 1, 0, 0, 0, 0, 1, []),
  (13, .lsub, 1, 0, 0, 0, 0, 0, []),
  (14, .invokestatic 153, 3, 209, 3, 1, 0, 0, []),
  (17, .ireturn, 1, 0, 0, 0, 0, 0, [])]
set_option maxRecDepth 100000 in
theorem lX12_isBook_0_ck : lX12_isBook_0.all (ra_ck mX12_isBook 12) = true := by decide +kernel
def nX12_isBook_0 (N : Nat) (a0 : Nat) (a1 : Int32) (h : ra_H) : Option (Int32 × ra_H) :=
  (ra_fR h 12 a0 3).bind fun x1 =>
  (ra_aI h 0 x1 ((480 : Int32))).bind fun x2 =>
  (fX12_in N (Int32.toInt64 a1) ((0 : Int64)) ((Int32.toInt64 x2) - ((1 : Int64))) h).bind fun q3 =>
  some (q3.1, q3.2)
def kX12_isBook_0 (N : Nat) : Nat → List (Option Value) → List Value → ra_H → Option (Int32 × ra_H) := ra_k0
theorem kX12_isBook_0_ok (N : Nat) : ra_kok 2 mX12_isBook ra_oI (kX12_isBook_0 N) := ra_k0_ok
set_option maxRecDepth 100000 in
theorem nX12_isBook_0_ok (N : Nat) (a0 : Nat) (a1 : Int32) (h : ra_H) (r : (Int32 × ra_H)) (e : nX12_isBook_0 N a0 a1 h = some r) : ra_Ru 2 mX12_isBook 0 [some (.ref a0), some (.int a1)] [] h (ra_oI r) :=
  ra_sound (by omega) rfl ra_rI_ok (kX12_isBook_0_ok N) (fun m av h h1 e => (ra_c0_ok (ro := ra_oV)) m av h h1 e) (fun m av h x h1 e => (tIX12_isBook_ok N) m av h (x, h1) e) (fun m av h x h1 e => (ra_c0_ok (ro := ra_oJ)) m av h (x, h1) e) (fun m av h x h1 e => (ra_c0_ok (ro := ra_oR)) m av h (x, h1) e) (fun m av h x h1 e => (ra_c0_ok (ro := ra_oN)) m av h (x, h1) e) (fun m av h x h1 e => (ra_c0_ok (ro := ra_oF)) m av h (x, h1) e) 13 lX12_isBook_0 _ _ _ _ lX12_isBook_0_ck (show ra_run ra_rI (kX12_isBook_0 N) ra_c0 (tIX12_isBook N) ra_c0 ra_c0 ra_c0 ra_c0 13 lX12_isBook_0 [some (.ref a0), some (.int a1)] [] h = some r from e) _ _ rfl
def fX12_isBook (N : Nat) (p0 : Nat) (p1 : Int32) (h : ra_H) : Option (Int32 × ra_H) := match ra_isOb h p0 12 with
  | true => (nX12_isBook_0 N p0 p1 h).bind (fun q => ra_rz q.1 q.2)
  | false => none
set_option maxRecDepth 100000 in
theorem mtX12_isBook : ra_MT[218]? = some (mX12_isBook, 1, 1, (1, 13), (7, 132), (0, 64)) := rfl
theorem fX12_isBook_co (N : Nat) (p0 : Nat) (p1 : Int32) (h : ra_H) (r : (Int32 × ra_H)) (e : fX12_isBook N p0 p1 h = some r) (D : Nat) (hD : 3 ≤ D) : ra_CO D 218 [.ref p0, .int p1] h (ra_oI r).1 (ra_oI r).2 := by
  have hw : ra_nw2 [.ref p0, .int p1] ≤ 2 := Nat.le_of_ble_eq_true rfl
  have hdb : ∀ v ∈ ([.ref p0, .int p1] : List Value), ∀ x, v ≠ .double x := by
    intro v hv x hx
    simp [hx] at hv
  unfold fX12_isBook at e
  split at e
  · rename_i ho
    obtain ⟨q, e1, e2⟩ := Option.bind_eq_some_iff.mp e
    obtain ⟨rfl, hz⟩ := ra_rz_of e2
    exact ⟨2, _, mtX12_isBook, hD, ra_ev_of (by decide) hdb hw hz (ra_Ru.weak (nX12_isBook_0_ok N p0 p1 h _ e1) ⟨rfl, ⟨rfl, trivial⟩⟩), (fun _ => ⟨_, _, rfl, ra_rcv_of ho (by decide) rfl⟩), (fun h => absurd h (by decide))⟩
  · cases e
/-! RedMarksModel.isLine(I)Z -/
def mX12_isLine : ra_M := (yX12_isLine, cX12_isLine, 2, (some .boolean))
def tIX12_isLine (N : Nat) : Nat → List Value → ra_H → Option (Int32 × ra_H) := (ra_c1 209 (fun av h => match av with
  | [.long z0, .long z1, .long z2] => fX12_in N z0 z1 z2 h
  | _ => none) ra_c0)
theorem tIX12_isLine_ok (N : Nat) : ra_cok 2 ra_oI (tIX12_isLine N) := (ra_c1_ok (by
  intro av h a e
  split at e
  · exact fX12_in_co N _ _ _ _ _ e 2 (by omega)
  · cases e) ra_c0_ok)
def lX12_isLine_0 : List ra_I := [(0, .iload_n 1, 1, 1, 0, 0, 0, 0, []),
  (1, .i2l, 1, 0, 0, 0, 0, 0, []),
  (2, .lconst 0, 1, 0, 0, 0, 0, 0, []),
  (3, .aload_n 0, 1, 0, 0, 0, 0, 0, []),
  (4, .getfield 13, 3, 12, 3, 2, 0, 0, []),
  (7, .sipush (482), 3, 0, 0, 0, (482), 0, []),
  (10, .iaload, 1, 0, 0, 0, 0, 0, []),
  (11, .i2l, 1, 0, 0, 0, 0, 0, []),
  (12, .lconst 1, 1, 0, 0, 0, 0, 1, []),
  (13, .lsub, 1, 0, 0, 0, 0, 0, []),
  (14, .invokestatic 153, 3, 209, 3, 1, 0, 0, []),
  (17, .ireturn, 1, 0, 0, 0, 0, 0, [])]
set_option maxRecDepth 100000 in
theorem lX12_isLine_0_ck : lX12_isLine_0.all (ra_ck mX12_isLine 12) = true := by decide +kernel
def nX12_isLine_0 (N : Nat) (a0 : Nat) (a1 : Int32) (h : ra_H) : Option (Int32 × ra_H) :=
  (ra_fR h 12 a0 3).bind fun x1 =>
  (ra_aI h 0 x1 ((482 : Int32))).bind fun x2 =>
  (fX12_in N (Int32.toInt64 a1) ((0 : Int64)) ((Int32.toInt64 x2) - ((1 : Int64))) h).bind fun q3 =>
  some (q3.1, q3.2)
def kX12_isLine_0 (N : Nat) : Nat → List (Option Value) → List Value → ra_H → Option (Int32 × ra_H) := ra_k0
theorem kX12_isLine_0_ok (N : Nat) : ra_kok 2 mX12_isLine ra_oI (kX12_isLine_0 N) := ra_k0_ok
set_option maxRecDepth 100000 in
theorem nX12_isLine_0_ok (N : Nat) (a0 : Nat) (a1 : Int32) (h : ra_H) (r : (Int32 × ra_H)) (e : nX12_isLine_0 N a0 a1 h = some r) : ra_Ru 2 mX12_isLine 0 [some (.ref a0), some (.int a1)] [] h (ra_oI r) :=
  ra_sound (by omega) rfl ra_rI_ok (kX12_isLine_0_ok N) (fun m av h h1 e => (ra_c0_ok (ro := ra_oV)) m av h h1 e) (fun m av h x h1 e => (tIX12_isLine_ok N) m av h (x, h1) e) (fun m av h x h1 e => (ra_c0_ok (ro := ra_oJ)) m av h (x, h1) e) (fun m av h x h1 e => (ra_c0_ok (ro := ra_oR)) m av h (x, h1) e) (fun m av h x h1 e => (ra_c0_ok (ro := ra_oN)) m av h (x, h1) e) (fun m av h x h1 e => (ra_c0_ok (ro := ra_oF)) m av h (x, h1) e) 13 lX12_isLine_0 _ _ _ _ lX12_isLine_0_ck (show ra_run ra_rI (kX12_isLine_0 N) ra_c0 (tIX12_isLine N) ra_c0 ra_c0 ra_c0 ra_c0 13 lX12_isLine_0 [some (.ref a0), some (.int a1)] [] h = some r from e) _ _ rfl
def fX12_isLine (N : Nat) (p0 : Nat) (p1 : Int32) (h : ra_H) : Option (Int32 × ra_H) := match ra_isOb h p0 12 with
  | true => (nX12_isLine_0 N p0 p1 h).bind (fun q => ra_rz q.1 q.2)
  | false => none
set_option maxRecDepth 100000 in
theorem mtX12_isLine : ra_MT[280]? = some (mX12_isLine, 1, 1, (1, 13), (8, 159), (0, 100)) := rfl
theorem fX12_isLine_co (N : Nat) (p0 : Nat) (p1 : Int32) (h : ra_H) (r : (Int32 × ra_H)) (e : fX12_isLine N p0 p1 h = some r) (D : Nat) (hD : 3 ≤ D) : ra_CO D 280 [.ref p0, .int p1] h (ra_oI r).1 (ra_oI r).2 := by
  have hw : ra_nw2 [.ref p0, .int p1] ≤ 2 := Nat.le_of_ble_eq_true rfl
  have hdb : ∀ v ∈ ([.ref p0, .int p1] : List Value), ∀ x, v ≠ .double x := by
    intro v hv x hx
    simp [hx] at hv
  unfold fX12_isLine at e
  split at e
  · rename_i ho
    obtain ⟨q, e1, e2⟩ := Option.bind_eq_some_iff.mp e
    obtain ⟨rfl, hz⟩ := ra_rz_of e2
    exact ⟨2, _, mtX12_isLine, hD, ra_ev_of (by decide) hdb hw hz (ra_Ru.weak (nX12_isLine_0_ok N p0 p1 h _ e1) ⟨rfl, ⟨rfl, trivial⟩⟩), (fun _ => ⟨_, _, rfl, ra_rcv_of ho (by decide) rfl⟩), (fun h => absurd h (by decide))⟩
  · cases e
/-! RedMarksModel.agree(II)I -/
def mX12_agree : ra_M := (yX12_agree, cX12_agree, 3, (some .int))
def tIX12_agree (N : Nat) : Nat → List Value → ra_H → Option (Int32 × ra_H) := (ra_c1 218 (fun av h => match av with
  | [.ref z0, .int z1] => fX12_isBook N z0 z1 h
  | _ => none) (ra_c1 280 (fun av h => match av with
  | [.ref z0, .int z1] => fX12_isLine N z0 z1 h
  | _ => none) (ra_c1 284 (fun av h => match av with
  | [.ref z0, .int z1, .int z2] => fX12_agreeOf N z0 z1 z2 h
  | _ => none) ra_c0)))
theorem tIX12_agree_ok (N : Nat) : ra_cok 3 ra_oI (tIX12_agree N) := (ra_c1_ok (by
  intro av h a e
  split at e
  · exact fX12_isBook_co N _ _ _ _ e 3 (by omega)
  · cases e) (ra_c1_ok (by
  intro av h a e
  split at e
  · exact fX12_isLine_co N _ _ _ _ e 3 (by omega)
  · cases e) (ra_c1_ok (by
  intro av h a e
  split at e
  · exact fX12_agreeOf_co N _ _ _ _ _ e 3 (by omega)
  · cases e) ra_c0_ok)))
def lX12_agree_33 : List ra_I := [(33, .ireturn, 1, 0, 0, 0, 0, 0, [])]
set_option maxRecDepth 100000 in
theorem lX12_agree_33_ck : lX12_agree_33.all (ra_ck mX12_agree 12) = true := by decide +kernel
def nX12_agree_33 (N : Nat) (b0 : Int32) (h : ra_H) : Option (Int32 × ra_H) :=
  some (b0, h)
def kX12_agree_33 (N : Nat) : Nat → List (Option Value) → List Value → ra_H → Option (Int32 × ra_H) := ra_k0
theorem kX12_agree_33_ok (N : Nat) : ra_kok 3 mX12_agree ra_oI (kX12_agree_33 N) := ra_k0_ok
set_option maxRecDepth 100000 in
theorem nX12_agree_33_ok (N : Nat) (b0 : Int32) (h : ra_H) (r : (Int32 × ra_H)) (e : nX12_agree_33 N b0 h = some r) : ra_Ru 3 mX12_agree 33 [none, none, none] [.int b0] h (ra_oI r) :=
  ra_sound (by omega) rfl ra_rI_ok (kX12_agree_33_ok N) (fun m av h h1 e => (ra_c0_ok (ro := ra_oV)) m av h h1 e) (fun m av h x h1 e => (tIX12_agree_ok N) m av h (x, h1) e) (fun m av h x h1 e => (ra_c0_ok (ro := ra_oJ)) m av h (x, h1) e) (fun m av h x h1 e => (ra_c0_ok (ro := ra_oR)) m av h (x, h1) e) (fun m av h x h1 e => (ra_c0_ok (ro := ra_oN)) m av h (x, h1) e) (fun m av h x h1 e => (ra_c0_ok (ro := ra_oF)) m av h (x, h1) e) 2 lX12_agree_33 _ _ _ _ lX12_agree_33_ck (show ra_run ra_rI (kX12_agree_33 N) ra_c0 (tIX12_agree N) ra_c0 ra_c0 ra_c0 ra_c0 2 lX12_agree_33 [none, none, none] [.int b0] h = some r from e) _ _ rfl
def lX12_agree_30 : List ra_I := [(30, .sipush (-1000), 3, 0, 0, 0, (-1000), 0, [])]
set_option maxRecDepth 100000 in
theorem lX12_agree_30_ck : lX12_agree_30.all (ra_ck mX12_agree 12) = true := by decide +kernel
def nX12_agree_30 (N : Nat) (h : ra_H) : Option (Int32 × ra_H) :=
  nX12_agree_33 N ((-1000 : Int32)) h
def kX12_agree_30 (N : Nat) : Nat → List (Option Value) → List Value → ra_H → Option (Int32 × ra_H) := (ra_k1 33 (fun L S h => match L, S with
  | [_, _, _], [.int b0] => nX12_agree_33 N b0 h
  | _, _ => none) ra_k0)
theorem kX12_agree_30_ok (N : Nat) : ra_kok 3 mX12_agree ra_oI (kX12_agree_30 N) := (ra_k1_ok (by
  intro L S h a e
  split at e
  · exact ra_Ru.weak (nX12_agree_33_ok N _ _ _ e) trivial
  · cases e) ra_k0_ok)
set_option maxRecDepth 100000 in
theorem nX12_agree_30_ok (N : Nat) (h : ra_H) (r : (Int32 × ra_H)) (e : nX12_agree_30 N h = some r) : ra_Ru 3 mX12_agree 30 [none, none, none] [] h (ra_oI r) :=
  ra_sound (by omega) rfl ra_rI_ok (kX12_agree_30_ok N) (fun m av h h1 e => (ra_c0_ok (ro := ra_oV)) m av h h1 e) (fun m av h x h1 e => (tIX12_agree_ok N) m av h (x, h1) e) (fun m av h x h1 e => (ra_c0_ok (ro := ra_oJ)) m av h (x, h1) e) (fun m av h x h1 e => (ra_c0_ok (ro := ra_oR)) m av h (x, h1) e) (fun m av h x h1 e => (ra_c0_ok (ro := ra_oN)) m av h (x, h1) e) (fun m av h x h1 e => (ra_c0_ok (ro := ra_oF)) m av h (x, h1) e) 2 lX12_agree_30 _ _ _ _ lX12_agree_30_ck (show ra_run ra_rI (kX12_agree_30 N) ra_c0 (tIX12_agree N) ra_c0 ra_c0 ra_c0 ra_c0 2 lX12_agree_30 [none, none, none] [] h = some r from e) _ _ rfl
def lX12_agree_0 : List ra_I := [(0, .aload_n 0, 1, 0, 0, 0, 0, 0, []),
  (1, .iconst (0), 1, 0, 0, 0, (0), 0, []),
  (2, .putfield 147, 3, 12, 0, 0, 0, 0, []),
  (5, .aload_n 0, 1, 0, 0, 0, 0, 0, []),
  (6, .iload_n 1, 1, 1, 0, 0, 0, 0, []),
  (7, .invokevirtual 440, 3, 280, 2, 1, 0, 0, []),
  (10, .ifCond .eq (20), 3, 30, 0, 0, 0, 0, []),
  (13, .aload_n 0, 1, 0, 0, 0, 0, 0, []),
  (14, .iload_n 2, 1, 2, 0, 0, 0, 0, []),
  (15, .invokevirtual 198, 3, 218, 2, 1, 0, 0, []),
  (18, .ifCond .eq (12), 3, 30, 0, 0, 0, 0, []),
  (21, .aload_n 0, 1, 0, 0, 0, 0, 0, []),
  (22, .iload_n 1, 1, 1, 0, 0, 0, 0, []),
  (23, .iload_n 2, 1, 2, 0, 0, 0, 0, []),
  (24, .invokevirtual 448, 3, 284, 3, 1, 0, 0, []),
  (27, .goto (6), 3, 33, 0, 0, 0, 0, [])]
set_option maxRecDepth 100000 in
theorem lX12_agree_0_ck : lX12_agree_0.all (ra_ck mX12_agree 12) = true := by decide +kernel
def nX12_agree_0 (N : Nat) (a0 : Nat) (a1 : Int32) (a2 : Int32) (h : ra_H) : Option (Int32 × ra_H) :=
  (ra_fW h 12 a0 0 (.int ((0 : Int32)))).bind fun h1 =>
  (fX12_isLine N a0 a1 h1).bind fun q2 =>
  if q2.1 = 0 then
    nX12_agree_30 N q2.2
  else
    (fX12_isBook N a0 a2 q2.2).bind fun q3 =>
    if q3.1 = 0 then
      nX12_agree_30 N q3.2
    else
      (fX12_agreeOf N a0 a1 a2 q3.2).bind fun q4 =>
      nX12_agree_33 N q4.1 q4.2
def kX12_agree_0 (N : Nat) : Nat → List (Option Value) → List Value → ra_H → Option (Int32 × ra_H) := (ra_k1 30 (fun L S h => match L, S with
  | [_, _, _], [] => nX12_agree_30 N h
  | _, _ => none) (ra_k1 33 (fun L S h => match L, S with
  | [_, _, _], [.int b0] => nX12_agree_33 N b0 h
  | _, _ => none) ra_k0))
theorem kX12_agree_0_ok (N : Nat) : ra_kok 3 mX12_agree ra_oI (kX12_agree_0 N) := (ra_k1_ok (by
  intro L S h a e
  split at e
  · exact ra_Ru.weak (nX12_agree_30_ok N _ _ e) trivial
  · cases e) (ra_k1_ok (by
  intro L S h a e
  split at e
  · exact ra_Ru.weak (nX12_agree_33_ok N _ _ _ e) trivial
  · cases e) ra_k0_ok))
set_option maxRecDepth 100000 in
theorem nX12_agree_0_ok (N : Nat) (a0 : Nat) (a1 : Int32) (a2 : Int32) (h : ra_H) (r : (Int32 × ra_H)) (e : nX12_agree_0 N a0 a1 a2 h = some r) : ra_Ru 3 mX12_agree 0 [some (.ref a0), some (.int a1), some (.int a2)] [] h (ra_oI r) :=
  ra_sound (by omega) rfl ra_rI_ok (kX12_agree_0_ok N) (fun m av h h1 e => (ra_c0_ok (ro := ra_oV)) m av h h1 e) (fun m av h x h1 e => (tIX12_agree_ok N) m av h (x, h1) e) (fun m av h x h1 e => (ra_c0_ok (ro := ra_oJ)) m av h (x, h1) e) (fun m av h x h1 e => (ra_c0_ok (ro := ra_oR)) m av h (x, h1) e) (fun m av h x h1 e => (ra_c0_ok (ro := ra_oN)) m av h (x, h1) e) (fun m av h x h1 e => (ra_c0_ok (ro := ra_oF)) m av h (x, h1) e) 17 lX12_agree_0 _ _ _ _ lX12_agree_0_ck (show ra_run ra_rI (kX12_agree_0 N) ra_c0 (tIX12_agree N) ra_c0 ra_c0 ra_c0 ra_c0 17 lX12_agree_0 [some (.ref a0), some (.int a1), some (.int a2)] [] h = some r from e) _ _ rfl
def fX12_agree (N : Nat) (p0 : Nat) (p1 : Int32) (p2 : Int32) (h : ra_H) : Option (Int32 × ra_H) := match ra_isOb h p0 12 with
  | true => nX12_agree_0 N p0 p1 p2 h
  | false => none
set_option maxRecDepth 100000 in
theorem mtX12_agree : ra_MT[283]? = some (mX12_agree, 1, 2, (1, 13), (8, 170), (8, 171)) := rfl
theorem fX12_agree_co (N : Nat) (p0 : Nat) (p1 : Int32) (p2 : Int32) (h : ra_H) (r : (Int32 × ra_H)) (e : fX12_agree N p0 p1 p2 h = some r) (D : Nat) (hD : 4 ≤ D) : ra_CO D 283 [.ref p0, .int p1, .int p2] h (ra_oI r).1 (ra_oI r).2 := by
  have hw : ra_nw2 [.ref p0, .int p1, .int p2] ≤ 3 := Nat.le_of_ble_eq_true rfl
  have hdb : ∀ v ∈ ([.ref p0, .int p1, .int p2] : List Value), ∀ x, v ≠ .double x := by
    intro v hv x hx
    simp [hx] at hv
  unfold fX12_agree at e
  split at e
  · rename_i ho
    have e1 := e
    exact ⟨3, _, mtX12_agree, hD, ra_ev_of (by decide) hdb hw trivial (ra_Ru.weak (nX12_agree_0_ok N p0 p1 p2 h _ e1) ⟨rfl, ⟨rfl, ⟨rfl, trivial⟩⟩⟩), (fun _ => ⟨_, _, rfl, ra_rcv_of ho (by decide) rfl⟩), (fun h => absurd h (by decide))⟩
  · cases e
/-! RedMarksModel.apart(II)I -/
def mX12_apart : ra_M := (yX12_apart, cX12_apart, 4, (some .int))
def lX12_apart_68 : List ra_I := [(68, .iadd, 1, 0, 0, 0, 0, 0, []),
  (69, .ireturn, 1, 0, 0, 0, 0, 0, [])]
set_option maxRecDepth 100000 in
theorem lX12_apart_68_ck : lX12_apart_68.all (ra_ck mX12_apart 12) = true := by decide +kernel
def nX12_apart_68 (N : Nat) (b0 : Int32) (b1 : Int32) (h : ra_H) : Option (Int32 × ra_H) :=
  some (b0 + b1, h)
def kX12_apart_68 (N : Nat) : Nat → List (Option Value) → List Value → ra_H → Option (Int32 × ra_H) := ra_k0
theorem kX12_apart_68_ok (N : Nat) : ra_kok 1 mX12_apart ra_oI (kX12_apart_68 N) := ra_k0_ok
set_option maxRecDepth 100000 in
theorem nX12_apart_68_ok (N : Nat) (b0 : Int32) (b1 : Int32) (h : ra_H) (r : (Int32 × ra_H)) (e : nX12_apart_68 N b0 b1 h = some r) : ra_Ru 1 mX12_apart 68 [none, none, none, none] [.int b1, .int b0] h (ra_oI r) :=
  ra_sound (by omega) rfl ra_rI_ok (kX12_apart_68_ok N) (fun m av h h1 e => (ra_c0_ok (ro := ra_oV)) m av h h1 e) (fun m av h x h1 e => (ra_c0_ok (ro := ra_oI)) m av h (x, h1) e) (fun m av h x h1 e => (ra_c0_ok (ro := ra_oJ)) m av h (x, h1) e) (fun m av h x h1 e => (ra_c0_ok (ro := ra_oR)) m av h (x, h1) e) (fun m av h x h1 e => (ra_c0_ok (ro := ra_oN)) m av h (x, h1) e) (fun m av h x h1 e => (ra_c0_ok (ro := ra_oF)) m av h (x, h1) e) 3 lX12_apart_68 _ _ _ _ lX12_apart_68_ck (show ra_run ra_rI (kX12_apart_68 N) ra_c0 ra_c0 ra_c0 ra_c0 ra_c0 ra_c0 3 lX12_apart_68 [none, none, none, none] [.int b1, .int b0] h = some r from e) _ _ rfl
def lX12_apart_36 : List ra_I := [(36, .aload_n 0, 1, 0, 0, 0, 0, 0, []),
  (37, .getfield 13, 3, 12, 3, 2, 0, 0, []),
  (40, .bipush (12), 2, 0, 0, 0, (12), 0, []),
  (42, .iload_n 1, 1, 1, 0, 0, 0, 0, []),
  (43, .imul, 1, 0, 0, 0, 0, 0, []),
  (44, .bipush (7), 2, 0, 0, 0, (7), 0, []),
  (46, .iadd, 1, 0, 0, 0, 0, 0, []),
  (47, .iaload, 1, 0, 0, 0, 0, 0, []),
  (48, .aload_n 0, 1, 0, 0, 0, 0, 0, []),
  (49, .getfield 13, 3, 12, 3, 2, 0, 0, []),
  (52, .bipush (12), 2, 0, 0, 0, (12), 0, []),
  (54, .iload_n 2, 1, 2, 0, 0, 0, 0, []),
  (55, .imul, 1, 0, 0, 0, 0, 0, []),
  (56, .bipush (7), 2, 0, 0, 0, (7), 0, []),
  (58, .iadd, 1, 0, 0, 0, 0, 0, []),
  (59, .iaload, 1, 0, 0, 0, 0, 0, []),
  (60, .if_icmp .ne (7), 3, 67, 0, 0, 0, 0, []),
  (63, .iconst (0), 1, 0, 0, 0, (0), 0, []),
  (64, .goto (4), 3, 68, 0, 0, 0, 0, []),
  (67, .iconst (2), 1, 0, 0, 0, (2), 0, [])]
set_option maxRecDepth 100000 in
theorem lX12_apart_36_ck : lX12_apart_36.all (ra_ck mX12_apart 12) = true := by decide +kernel
def nX12_apart_36 (N : Nat) (a0 : Nat) (a1 : Int32) (a2 : Int32) (b0 : Int32) (h : ra_H) : Option (Int32 × ra_H) :=
  (ra_fR h 12 a0 3).bind fun x1 =>
  (ra_aI h 0 x1 ((((12 : Int32)) * a1) + ((7 : Int32)))).bind fun x2 =>
  (ra_fR h 12 a0 3).bind fun x3 =>
  (ra_aI h 0 x3 ((((12 : Int32)) * a2) + ((7 : Int32)))).bind fun x4 =>
  if x2 = x4 then
    nX12_apart_68 N b0 ((0 : Int32)) h
  else
    nX12_apart_68 N b0 ((2 : Int32)) h
def kX12_apart_36 (N : Nat) : Nat → List (Option Value) → List Value → ra_H → Option (Int32 × ra_H) := (ra_k1 68 (fun L S h => match L, S with
  | [_, _, _, _], [.int b1, .int b0] => nX12_apart_68 N b0 b1 h
  | _, _ => none) ra_k0)
theorem kX12_apart_36_ok (N : Nat) : ra_kok 1 mX12_apart ra_oI (kX12_apart_36 N) := (ra_k1_ok (by
  intro L S h a e
  split at e
  · exact ra_Ru.weak (nX12_apart_68_ok N _ _ _ _ e) trivial
  · cases e) ra_k0_ok)
set_option maxRecDepth 100000 in
theorem nX12_apart_36_ok (N : Nat) (a0 : Nat) (a1 : Int32) (a2 : Int32) (b0 : Int32) (h : ra_H) (r : (Int32 × ra_H)) (e : nX12_apart_36 N a0 a1 a2 b0 h = some r) : ra_Ru 1 mX12_apart 36 [some (.ref a0), some (.int a1), some (.int a2), none] [.int b0] h (ra_oI r) :=
  ra_sound (by omega) rfl ra_rI_ok (kX12_apart_36_ok N) (fun m av h h1 e => (ra_c0_ok (ro := ra_oV)) m av h h1 e) (fun m av h x h1 e => (ra_c0_ok (ro := ra_oI)) m av h (x, h1) e) (fun m av h x h1 e => (ra_c0_ok (ro := ra_oJ)) m av h (x, h1) e) (fun m av h x h1 e => (ra_c0_ok (ro := ra_oR)) m av h (x, h1) e) (fun m av h x h1 e => (ra_c0_ok (ro := ra_oN)) m av h (x, h1) e) (fun m av h x h1 e => (ra_c0_ok (ro := ra_oF)) m av h (x, h1) e) 21 lX12_apart_36 _ _ _ _ lX12_apart_36_ck (show ra_run ra_rI (kX12_apart_36 N) ra_c0 ra_c0 ra_c0 ra_c0 ra_c0 ra_c0 21 lX12_apart_36 [some (.ref a0), some (.int a1), some (.int a2), none] [.int b0] h = some r from e) _ _ rfl
def lX12_apart_0 : List ra_I := [(0, .aload_n 0, 1, 0, 0, 0, 0, 0, []),
  (1, .getfield 13, 3, 12, 3, 2, 0, 0, []),
  (4, .bipush (12), 2, 0, 0, 0, (12), 0, []),
  (6, .iload_n 1, 1, 1, 0, 0, 0, 0, []),
  (7, .imul, 1, 0, 0, 0, 0, 0, []),
  (8, .bipush (8), 2, 0, 0, 0, (8), 0, []),
  (10, .iadd, 1, 0, 0, 0, 0, 0, []),
  (11, .iaload, 1, 0, 0, 0, 0, 0, []),
  (12, .aload_n 0, 1, 0, 0, 0, 0, 0, []),
  (13, .getfield 13, 3, 12, 3, 2, 0, 0, []),
  (16, .bipush (12), 2, 0, 0, 0, (12), 0, []),
  (18, .iload_n 2, 1, 2, 0, 0, 0, 0, []),
  (19, .imul, 1, 0, 0, 0, 0, 0, []),
  (20, .bipush (8), 2, 0, 0, 0, (8), 0, []),
  (22, .iadd, 1, 0, 0, 0, 0, 0, []),
  (23, .iaload, 1, 0, 0, 0, 0, 0, []),
  (24, .isub, 1, 0, 0, 0, 0, 0, []),
  (25, .istore_n 3, 1, 3, 0, 0, 0, 0, []),
  (26, .iload_n 3, 1, 3, 0, 0, 0, 0, []),
  (27, .ifCond .ge (8), 3, 35, 0, 0, 0, 0, []),
  (30, .iload_n 3, 1, 3, 0, 0, 0, 0, []),
  (31, .ineg, 1, 0, 0, 0, 0, 0, []),
  (32, .goto (4), 3, 36, 0, 0, 0, 0, []),
  (35, .iload_n 3, 1, 3, 0, 0, 0, 0, [])]
set_option maxRecDepth 100000 in
theorem lX12_apart_0_ck : lX12_apart_0.all (ra_ck mX12_apart 12) = true := by decide +kernel
def nX12_apart_0 (N : Nat) (a0 : Nat) (a1 : Int32) (a2 : Int32) (h : ra_H) : Option (Int32 × ra_H) :=
  (ra_fR h 12 a0 3).bind fun x1 =>
  (ra_aI h 0 x1 ((((12 : Int32)) * a1) + ((8 : Int32)))).bind fun x2 =>
  (ra_fR h 12 a0 3).bind fun x3 =>
  (ra_aI h 0 x3 ((((12 : Int32)) * a2) + ((8 : Int32)))).bind fun x4 =>
  let y5 := x2 - x4
  if y5 < 0 then
    nX12_apart_36 N a0 a1 a2 (-y5) h
  else
    nX12_apart_36 N a0 a1 a2 y5 h
def kX12_apart_0 (N : Nat) : Nat → List (Option Value) → List Value → ra_H → Option (Int32 × ra_H) := (ra_k1 36 (fun L S h => match L, S with
  | [some (.ref a0), some (.int a1), some (.int a2), _], [.int b0] => nX12_apart_36 N a0 a1 a2 b0 h
  | _, _ => none) ra_k0)
theorem kX12_apart_0_ok (N : Nat) : ra_kok 1 mX12_apart ra_oI (kX12_apart_0 N) := (ra_k1_ok (by
  intro L S h a e
  split at e
  · exact ra_Ru.weak (nX12_apart_36_ok N _ _ _ _ _ _ e) ⟨rfl, ⟨rfl, ⟨rfl, trivial⟩⟩⟩
  · cases e) ra_k0_ok)
set_option maxRecDepth 100000 in
theorem nX12_apart_0_ok (N : Nat) (a0 : Nat) (a1 : Int32) (a2 : Int32) (h : ra_H) (r : (Int32 × ra_H)) (e : nX12_apart_0 N a0 a1 a2 h = some r) : ra_Ru 1 mX12_apart 0 [some (.ref a0), some (.int a1), some (.int a2), none] [] h (ra_oI r) :=
  ra_sound (by omega) rfl ra_rI_ok (kX12_apart_0_ok N) (fun m av h h1 e => (ra_c0_ok (ro := ra_oV)) m av h h1 e) (fun m av h x h1 e => (ra_c0_ok (ro := ra_oI)) m av h (x, h1) e) (fun m av h x h1 e => (ra_c0_ok (ro := ra_oJ)) m av h (x, h1) e) (fun m av h x h1 e => (ra_c0_ok (ro := ra_oR)) m av h (x, h1) e) (fun m av h x h1 e => (ra_c0_ok (ro := ra_oN)) m av h (x, h1) e) (fun m av h x h1 e => (ra_c0_ok (ro := ra_oF)) m av h (x, h1) e) 25 lX12_apart_0 _ _ _ _ lX12_apart_0_ck (show ra_run ra_rI (kX12_apart_0 N) ra_c0 ra_c0 ra_c0 ra_c0 ra_c0 ra_c0 25 lX12_apart_0 [some (.ref a0), some (.int a1), some (.int a2), none] [] h = some r from e) _ _ rfl
def fX12_apart (N : Nat) (p0 : Nat) (p1 : Int32) (p2 : Int32) (h : ra_H) : Option (Int32 × ra_H) := match ra_isOb h p0 12 with
  | true => nX12_apart_0 N p0 p1 p2 h
  | false => none
set_option maxRecDepth 100000 in
theorem mtX12_apart : ra_MT[308]? = some (mX12_apart, 1, 2, (1, 13), (9, 33), (0, 113)) := rfl
theorem fX12_apart_co (N : Nat) (p0 : Nat) (p1 : Int32) (p2 : Int32) (h : ra_H) (r : (Int32 × ra_H)) (e : fX12_apart N p0 p1 p2 h = some r) (D : Nat) (hD : 2 ≤ D) : ra_CO D 308 [.ref p0, .int p1, .int p2] h (ra_oI r).1 (ra_oI r).2 := by
  have hw : ra_nw2 [.ref p0, .int p1, .int p2] ≤ 4 := Nat.le_of_ble_eq_true rfl
  have hdb : ∀ v ∈ ([.ref p0, .int p1, .int p2] : List Value), ∀ x, v ≠ .double x := by
    intro v hv x hx
    simp [hx] at hv
  unfold fX12_apart at e
  split at e
  · rename_i ho
    have e1 := e
    exact ⟨1, _, mtX12_apart, hD, ra_ev_of (by decide) hdb hw trivial (ra_Ru.weak (nX12_apart_0_ok N p0 p1 p2 h _ e1) ⟨rfl, ⟨rfl, ⟨rfl, trivial⟩⟩⟩), (fun _ => ⟨_, _, rfl, ra_rcv_of ho (by decide) rfl⟩), (fun h => absurd h (by decide))⟩
  · cases e
/-! RedMarksModel.reckon(IJJ)J -/
def mX12_reckon : ra_M := (yX12_reckon, cX12_reckon, 6, (some .long))
def lX12_reckon_86 : List ra_I := [(86, .lreturn, 1, 0, 0, 0, 0, 0, [])]
set_option maxRecDepth 100000 in
theorem lX12_reckon_86_ck : lX12_reckon_86.all (ra_ck mX12_reckon 12) = true := by decide +kernel
def nX12_reckon_86 (N : Nat) (b0 : Int64) (h : ra_H) : Option (Int64 × ra_H) :=
  some (b0, h)
def kX12_reckon_86 (N : Nat) : Nat → List (Option Value) → List Value → ra_H → Option (Int64 × ra_H) := ra_k0
theorem kX12_reckon_86_ok (N : Nat) : ra_kok 1 mX12_reckon ra_oJ (kX12_reckon_86 N) := ra_k0_ok
set_option maxRecDepth 100000 in
theorem nX12_reckon_86_ok (N : Nat) (b0 : Int64) (h : ra_H) (r : (Int64 × ra_H)) (e : nX12_reckon_86 N b0 h = some r) : ra_Ru 1 mX12_reckon 86 [none, none, none, none, none, none] [.long b0] h (ra_oJ r) :=
  ra_sound (by omega) rfl ra_rJ_ok (kX12_reckon_86_ok N) (fun m av h h1 e => (ra_c0_ok (ro := ra_oV)) m av h h1 e) (fun m av h x h1 e => (ra_c0_ok (ro := ra_oI)) m av h (x, h1) e) (fun m av h x h1 e => (ra_c0_ok (ro := ra_oJ)) m av h (x, h1) e) (fun m av h x h1 e => (ra_c0_ok (ro := ra_oR)) m av h (x, h1) e) (fun m av h x h1 e => (ra_c0_ok (ro := ra_oN)) m av h (x, h1) e) (fun m av h x h1 e => (ra_c0_ok (ro := ra_oF)) m av h (x, h1) e) 2 lX12_reckon_86 _ _ _ _ lX12_reckon_86_ck (show ra_run ra_rJ (kX12_reckon_86 N) ra_c0 ra_c0 ra_c0 ra_c0 ra_c0 ra_c0 2 lX12_reckon_86 [none, none, none, none, none, none] [.long b0] h = some r from e) _ _ rfl
def lX12_reckon_68 : List ra_I := [(68, .putfield 361, 3, 12, 30, 4, 0, 0, []),
  (71, .aload_n 0, 1, 0, 0, 0, 0, 0, []),
  (72, .getfield 361, 3, 12, 30, 0, 0, 0, []),
  (75, .ifCond .eq (7), 3, 82, 0, 0, 0, 0, []),
  (78, .lconst 0, 1, 0, 0, 0, 0, 0, []),
  (79, .goto (7), 3, 86, 0, 0, 0, 0, []),
  (82, .lload_n 2, 1, 2, 0, 0, 0, 0, []),
  (83, .lload 4, 2, 4, 0, 0, 0, 0, []),
  (85, .ldiv, 1, 0, 0, 0, 0, 0, [])]
set_option maxRecDepth 100000 in
theorem lX12_reckon_68_ck : lX12_reckon_68.all (ra_ck mX12_reckon 12) = true := by decide +kernel
def nX12_reckon_68 (N : Nat) (a0 : Nat) (a2 : Int64) (a4 : Int64) (b0 : Nat) (b1 : Int32) (h : ra_H) : Option (Int64 × ra_H) :=
  if b1 = 0 ∨ b1 = 1 then
  (ra_fW h 12 b0 30 (.int b1)).bind fun h1 =>
  (ra_fI h1 12 a0 30).bind fun x2 =>
  if x2 = 0 then
    if a4 = 0 then none else
    nX12_reckon_86 N (a2 / a4) h1
  else
    nX12_reckon_86 N ((0 : Int64)) h1
  else none
def kX12_reckon_68 (N : Nat) : Nat → List (Option Value) → List Value → ra_H → Option (Int64 × ra_H) := (ra_k1 86 (fun L S h => match L, S with
  | [_, _, _, _, _, _], [.long b0] => nX12_reckon_86 N b0 h
  | _, _ => none) ra_k0)
theorem kX12_reckon_68_ok (N : Nat) : ra_kok 1 mX12_reckon ra_oJ (kX12_reckon_68 N) := (ra_k1_ok (by
  intro L S h a e
  split at e
  · exact ra_Ru.weak (nX12_reckon_86_ok N _ _ _ e) trivial
  · cases e) ra_k0_ok)
set_option maxRecDepth 100000 in
theorem nX12_reckon_68_ok (N : Nat) (a0 : Nat) (a2 : Int64) (a4 : Int64) (b0 : Nat) (b1 : Int32) (h : ra_H) (r : (Int64 × ra_H)) (e : nX12_reckon_68 N a0 a2 a4 b0 b1 h = some r) : ra_Ru 1 mX12_reckon 68 [some (.ref a0), none, some (.long a2), none, some (.long a4), none] [.int b1, .ref b0] h (ra_oJ r) :=
  ra_sound (by omega) rfl ra_rJ_ok (kX12_reckon_68_ok N) (fun m av h h1 e => (ra_c0_ok (ro := ra_oV)) m av h h1 e) (fun m av h x h1 e => (ra_c0_ok (ro := ra_oI)) m av h (x, h1) e) (fun m av h x h1 e => (ra_c0_ok (ro := ra_oJ)) m av h (x, h1) e) (fun m av h x h1 e => (ra_c0_ok (ro := ra_oR)) m av h (x, h1) e) (fun m av h x h1 e => (ra_c0_ok (ro := ra_oN)) m av h (x, h1) e) (fun m av h x h1 e => (ra_c0_ok (ro := ra_oF)) m av h (x, h1) e) 10 lX12_reckon_68 _ _ _ _ lX12_reckon_68_ck (show ra_run ra_rJ (kX12_reckon_68 N) ra_c0 ra_c0 ra_c0 ra_c0 ra_c0 ra_c0 10 lX12_reckon_68 [some (.ref a0), none, some (.long a2), none, some (.long a4), none] [.int b1, .ref b0] h = some r from e) _ _ rfl
def lX12_reckon_99 : List ra_I := [(99, .lreturn, 1, 0, 0, 0, 0, 0, [])]
set_option maxRecDepth 100000 in
theorem lX12_reckon_99_ck : lX12_reckon_99.all (ra_ck mX12_reckon 12) = true := by decide +kernel
def nX12_reckon_99 (N : Nat) (b0 : Int64) (h : ra_H) : Option (Int64 × ra_H) :=
  some (b0, h)
def kX12_reckon_99 (N : Nat) : Nat → List (Option Value) → List Value → ra_H → Option (Int64 × ra_H) := ra_k0
theorem kX12_reckon_99_ok (N : Nat) : ra_kok 1 mX12_reckon ra_oJ (kX12_reckon_99 N) := ra_k0_ok
set_option maxRecDepth 100000 in
theorem nX12_reckon_99_ok (N : Nat) (b0 : Int64) (h : ra_H) (r : (Int64 × ra_H)) (e : nX12_reckon_99 N b0 h = some r) : ra_Ru 1 mX12_reckon 99 [none, none, none, none, none, none] [.long b0] h (ra_oJ r) :=
  ra_sound (by omega) rfl ra_rJ_ok (kX12_reckon_99_ok N) (fun m av h h1 e => (ra_c0_ok (ro := ra_oV)) m av h h1 e) (fun m av h x h1 e => (ra_c0_ok (ro := ra_oI)) m av h (x, h1) e) (fun m av h x h1 e => (ra_c0_ok (ro := ra_oJ)) m av h (x, h1) e) (fun m av h x h1 e => (ra_c0_ok (ro := ra_oR)) m av h (x, h1) e) (fun m av h x h1 e => (ra_c0_ok (ro := ra_oN)) m av h (x, h1) e) (fun m av h x h1 e => (ra_c0_ok (ro := ra_oF)) m av h (x, h1) e) 2 lX12_reckon_99 _ _ _ _ lX12_reckon_99_ck (show ra_run ra_rJ (kX12_reckon_99 N) ra_c0 ra_c0 ra_c0 ra_c0 ra_c0 ra_c0 2 lX12_reckon_99 [none, none, none, none, none, none] [.long b0] h = some r from e) _ _ rfl
def lX12_reckon_112 : List ra_I := [(112, .lreturn, 1, 0, 0, 0, 0, 0, [])]
set_option maxRecDepth 100000 in
theorem lX12_reckon_112_ck : lX12_reckon_112.all (ra_ck mX12_reckon 12) = true := by decide +kernel
def nX12_reckon_112 (N : Nat) (b0 : Int64) (h : ra_H) : Option (Int64 × ra_H) :=
  some (b0, h)
def kX12_reckon_112 (N : Nat) : Nat → List (Option Value) → List Value → ra_H → Option (Int64 × ra_H) := ra_k0
theorem kX12_reckon_112_ok (N : Nat) : ra_kok 1 mX12_reckon ra_oJ (kX12_reckon_112 N) := ra_k0_ok
set_option maxRecDepth 100000 in
theorem nX12_reckon_112_ok (N : Nat) (b0 : Int64) (h : ra_H) (r : (Int64 × ra_H)) (e : nX12_reckon_112 N b0 h = some r) : ra_Ru 1 mX12_reckon 112 [none, none, none, none, none, none] [.long b0] h (ra_oJ r) :=
  ra_sound (by omega) rfl ra_rJ_ok (kX12_reckon_112_ok N) (fun m av h h1 e => (ra_c0_ok (ro := ra_oV)) m av h h1 e) (fun m av h x h1 e => (ra_c0_ok (ro := ra_oI)) m av h (x, h1) e) (fun m av h x h1 e => (ra_c0_ok (ro := ra_oJ)) m av h (x, h1) e) (fun m av h x h1 e => (ra_c0_ok (ro := ra_oR)) m av h (x, h1) e) (fun m av h x h1 e => (ra_c0_ok (ro := ra_oN)) m av h (x, h1) e) (fun m av h x h1 e => (ra_c0_ok (ro := ra_oF)) m av h (x, h1) e) 2 lX12_reckon_112 _ _ _ _ lX12_reckon_112_ck (show ra_run ra_rJ (kX12_reckon_112 N) ra_c0 ra_c0 ra_c0 ra_c0 ra_c0 ra_c0 2 lX12_reckon_112 [none, none, none, none, none, none] [.long b0] h = some r from e) _ _ rfl
def lX12_reckon_125 : List ra_I := [(125, .lreturn, 1, 0, 0, 0, 0, 0, [])]
set_option maxRecDepth 100000 in
theorem lX12_reckon_125_ck : lX12_reckon_125.all (ra_ck mX12_reckon 12) = true := by decide +kernel
def nX12_reckon_125 (N : Nat) (b0 : Int64) (h : ra_H) : Option (Int64 × ra_H) :=
  some (b0, h)
def kX12_reckon_125 (N : Nat) : Nat → List (Option Value) → List Value → ra_H → Option (Int64 × ra_H) := ra_k0
theorem kX12_reckon_125_ok (N : Nat) : ra_kok 1 mX12_reckon ra_oJ (kX12_reckon_125 N) := ra_k0_ok
set_option maxRecDepth 100000 in
theorem nX12_reckon_125_ok (N : Nat) (b0 : Int64) (h : ra_H) (r : (Int64 × ra_H)) (e : nX12_reckon_125 N b0 h = some r) : ra_Ru 1 mX12_reckon 125 [none, none, none, none, none, none] [.long b0] h (ra_oJ r) :=
  ra_sound (by omega) rfl ra_rJ_ok (kX12_reckon_125_ok N) (fun m av h h1 e => (ra_c0_ok (ro := ra_oV)) m av h h1 e) (fun m av h x h1 e => (ra_c0_ok (ro := ra_oI)) m av h (x, h1) e) (fun m av h x h1 e => (ra_c0_ok (ro := ra_oJ)) m av h (x, h1) e) (fun m av h x h1 e => (ra_c0_ok (ro := ra_oR)) m av h (x, h1) e) (fun m av h x h1 e => (ra_c0_ok (ro := ra_oN)) m av h (x, h1) e) (fun m av h x h1 e => (ra_c0_ok (ro := ra_oF)) m av h (x, h1) e) 2 lX12_reckon_125 _ _ _ _ lX12_reckon_125_ck (show ra_run ra_rJ (kX12_reckon_125 N) ra_c0 ra_c0 ra_c0 ra_c0 ra_c0 ra_c0 2 lX12_reckon_125 [none, none, none, none, none, none] [.long b0] h = some r from e) _ _ rfl
def lX12_reckon_0 : List ra_I := [(0, .iload_n 1, 1, 1, 0, 0, 0, 0, []),
  (1, .tableswitch (112) (20) (25) #[39, 44, 49, 54, 86, 99], 39, 113, 0, 0, 0, 0, [(20, 40), (21, 45), (22, 50), (23, 55), (24, 87), (25, 100)]),
  (40, .lload_n 2, 1, 2, 0, 0, 0, 0, []),
  (41, .lload 4, 2, 4, 0, 0, 0, 0, []),
  (43, .ladd, 1, 0, 0, 0, 0, 0, []),
  (44, .lreturn, 1, 0, 0, 0, 0, 0, []),
  (45, .lload_n 2, 1, 2, 0, 0, 0, 0, []),
  (46, .lload 4, 2, 4, 0, 0, 0, 0, []),
  (48, .lsub, 1, 0, 0, 0, 0, 0, []),
  (49, .lreturn, 1, 0, 0, 0, 0, 0, []),
  (50, .lload_n 2, 1, 2, 0, 0, 0, 0, []),
  (51, .lload 4, 2, 4, 0, 0, 0, 0, []),
  (53, .lmul, 1, 0, 0, 0, 0, 0, []),
  (54, .lreturn, 1, 0, 0, 0, 0, 0, []),
  (55, .aload_n 0, 1, 0, 0, 0, 0, 0, []),
  (56, .lload 4, 2, 4, 0, 0, 0, 0, []),
  (58, .lconst 0, 1, 0, 0, 0, 0, 0, []),
  (59, .lcmp, 1, 0, 0, 0, 0, 0, []),
  (60, .ifCond .ne (7), 3, 67, 0, 0, 0, 0, []),
  (63, .iconst (1), 1, 0, 0, 0, (1), 0, []),
  (64, .goto (4), 3, 68, 0, 0, 0, 0, []),
  (67, .iconst (0), 1, 0, 0, 0, (0), 0, []),
  (87, .lload_n 2, 1, 2, 0, 0, 0, 0, []),
  (88, .lload 4, 2, 4, 0, 0, 0, 0, []),
  (90, .lcmp, 1, 0, 0, 0, 0, 0, []),
  (91, .ifCond .ge (7), 3, 98, 0, 0, 0, 0, []),
  (94, .lconst 1, 1, 0, 0, 0, 0, 1, []),
  (95, .goto (4), 3, 99, 0, 0, 0, 0, []),
  (98, .lconst 0, 1, 0, 0, 0, 0, 0, []),
  (100, .lload_n 2, 1, 2, 0, 0, 0, 0, []),
  (101, .lload 4, 2, 4, 0, 0, 0, 0, []),
  (103, .lcmp, 1, 0, 0, 0, 0, 0, []),
  (104, .ifCond .le (7), 3, 111, 0, 0, 0, 0, []),
  (107, .lconst 1, 1, 0, 0, 0, 0, 1, []),
  (108, .goto (4), 3, 112, 0, 0, 0, 0, []),
  (111, .lconst 0, 1, 0, 0, 0, 0, 0, []),
  (113, .lload_n 2, 1, 2, 0, 0, 0, 0, []),
  (114, .lload 4, 2, 4, 0, 0, 0, 0, []),
  (116, .lcmp, 1, 0, 0, 0, 0, 0, []),
  (117, .ifCond .ne (7), 3, 124, 0, 0, 0, 0, []),
  (120, .lconst 1, 1, 0, 0, 0, 0, 1, []),
  (121, .goto (4), 3, 125, 0, 0, 0, 0, []),
  (124, .lconst 0, 1, 0, 0, 0, 0, 0, [])]
set_option maxRecDepth 100000 in
theorem lX12_reckon_0_ck : lX12_reckon_0.all (ra_ck mX12_reckon 12) = true := by decide +kernel
def nX12_reckon_0 (N : Nat) (a0 : Nat) (a1 : Int32) (a2 : Int64) (a4 : Int64) (h : ra_H) : Option (Int64 × ra_H) :=
  if a1 = (20 : Int32) then
    some (a2 + a4, h)
  else
  if a1 = (21 : Int32) then
    some (a2 - a4, h)
  else
  if a1 = (22 : Int32) then
    some (a2 * a4, h)
  else
  if a1 = (23 : Int32) then
    if (lg_cmp a4 ((0 : Int64))) = 0 then
      nX12_reckon_68 N a0 a2 a4 a0 ((1 : Int32)) h
    else
      nX12_reckon_68 N a0 a2 a4 a0 ((0 : Int32)) h
  else
  if a1 = (24 : Int32) then
    if (lg_cmp a2 a4) < 0 then
      nX12_reckon_99 N ((1 : Int64)) h
    else
      nX12_reckon_99 N ((0 : Int64)) h
  else
  if a1 = (25 : Int32) then
    if (lg_cmp a2 a4) ≤ 0 then
      nX12_reckon_112 N ((0 : Int64)) h
    else
      nX12_reckon_112 N ((1 : Int64)) h
  else
  if (lg_cmp a2 a4) = 0 then
    nX12_reckon_125 N ((1 : Int64)) h
  else
    nX12_reckon_125 N ((0 : Int64)) h
def kX12_reckon_0 (N : Nat) : Nat → List (Option Value) → List Value → ra_H → Option (Int64 × ra_H) := (ra_k1 68 (fun L S h => match L, S with
  | [some (.ref a0), _, some (.long a2), _, some (.long a4), _], [.int b1, .ref b0] => nX12_reckon_68 N a0 a2 a4 b0 b1 h
  | _, _ => none) (ra_k1 99 (fun L S h => match L, S with
  | [_, _, _, _, _, _], [.long b0] => nX12_reckon_99 N b0 h
  | _, _ => none) (ra_k1 112 (fun L S h => match L, S with
  | [_, _, _, _, _, _], [.long b0] => nX12_reckon_112 N b0 h
  | _, _ => none) (ra_k1 125 (fun L S h => match L, S with
  | [_, _, _, _, _, _], [.long b0] => nX12_reckon_125 N b0 h
  | _, _ => none) ra_k0))))
theorem kX12_reckon_0_ok (N : Nat) : ra_kok 1 mX12_reckon ra_oJ (kX12_reckon_0 N) := (ra_k1_ok (by
  intro L S h a e
  split at e
  · exact ra_Ru.weak (nX12_reckon_68_ok N _ _ _ _ _ _ _ e) ⟨rfl, ⟨rfl, ⟨rfl, trivial⟩⟩⟩
  · cases e) (ra_k1_ok (by
  intro L S h a e
  split at e
  · exact ra_Ru.weak (nX12_reckon_99_ok N _ _ _ e) trivial
  · cases e) (ra_k1_ok (by
  intro L S h a e
  split at e
  · exact ra_Ru.weak (nX12_reckon_112_ok N _ _ _ e) trivial
  · cases e) (ra_k1_ok (by
  intro L S h a e
  split at e
  · exact ra_Ru.weak (nX12_reckon_125_ok N _ _ _ e) trivial
  · cases e) ra_k0_ok))))
set_option maxRecDepth 100000 in
theorem nX12_reckon_0_ok (N : Nat) (a0 : Nat) (a1 : Int32) (a2 : Int64) (a4 : Int64) (h : ra_H) (r : (Int64 × ra_H)) (e : nX12_reckon_0 N a0 a1 a2 a4 h = some r) : ra_Ru 1 mX12_reckon 0 [some (.ref a0), some (.int a1), some (.long a2), none, some (.long a4), none] [] h (ra_oJ r) :=
  ra_sound (by omega) rfl ra_rJ_ok (kX12_reckon_0_ok N) (fun m av h h1 e => (ra_c0_ok (ro := ra_oV)) m av h h1 e) (fun m av h x h1 e => (ra_c0_ok (ro := ra_oI)) m av h (x, h1) e) (fun m av h x h1 e => (ra_c0_ok (ro := ra_oJ)) m av h (x, h1) e) (fun m av h x h1 e => (ra_c0_ok (ro := ra_oR)) m av h (x, h1) e) (fun m av h x h1 e => (ra_c0_ok (ro := ra_oN)) m av h (x, h1) e) (fun m av h x h1 e => (ra_c0_ok (ro := ra_oF)) m av h (x, h1) e) 44 lX12_reckon_0 _ _ _ _ lX12_reckon_0_ck (show ra_run ra_rJ (kX12_reckon_0 N) ra_c0 ra_c0 ra_c0 ra_c0 ra_c0 ra_c0 44 lX12_reckon_0 [some (.ref a0), some (.int a1), some (.long a2), none, some (.long a4), none] [] h = some r from e) _ _ rfl
def fX12_reckon (N : Nat) (p0 : Nat) (p1 : Int32) (p2 : Int64) (p3 : Int64) (h : ra_H) : Option (Int64 × ra_H) := match ra_isOb h p0 12 with
  | true => nX12_reckon_0 N p0 p1 p2 p3 h
  | false => none
set_option maxRecDepth 100000 in
theorem mtX12_reckon : ra_MT[262]? = some (mX12_reckon, 1, 3, (1, 13), (8, 83), (0, 93)) := rfl
theorem fX12_reckon_co (N : Nat) (p0 : Nat) (p1 : Int32) (p2 : Int64) (p3 : Int64) (h : ra_H) (r : (Int64 × ra_H)) (e : fX12_reckon N p0 p1 p2 p3 h = some r) (D : Nat) (hD : 2 ≤ D) : ra_CO D 262 [.ref p0, .int p1, .long p2, .long p3] h (ra_oJ r).1 (ra_oJ r).2 := by
  have hw : ra_nw2 [.ref p0, .int p1, .long p2, .long p3] ≤ 6 := Nat.le_of_ble_eq_true rfl
  have hdb : ∀ v ∈ ([.ref p0, .int p1, .long p2, .long p3] : List Value), ∀ x, v ≠ .double x := by
    intro v hv x hx
    simp [hx] at hv
  unfold fX12_reckon at e
  split at e
  · rename_i ho
    have e1 := e
    exact ⟨1, _, mtX12_reckon, hD, ra_ev_of (by decide) hdb hw trivial (ra_Ru.weak (nX12_reckon_0_ok N p0 p1 p2 p3 h _ e1) ⟨rfl, ⟨rfl, ⟨rfl, ⟨rfl, trivial⟩⟩⟩⟩), (fun _ => ⟨_, _, rfl, ra_rcv_of ho (by decide) rfl⟩), (fun h => absurd h (by decide))⟩
  · cases e
/-! RedMarksModel.reckonAll(II)V -/
def mX12_reckonAll : ra_M := (yX12_reckonAll, cX12_reckonAll, 7, none)
def tIX12_reckonAll (N : Nat) : Nat → List Value → ra_H → Option (Int32 × ra_H) := (ra_c1 209 (fun av h => match av with
  | [.long z0, .long z1, .long z2] => fX12_in N z0 z1 z2 h
  | _ => none) ra_c0)
theorem tIX12_reckonAll_ok (N : Nat) : ra_cok 2 ra_oI (tIX12_reckonAll N) := (ra_c1_ok (by
  intro av h a e
  split at e
  · exact fX12_in_co N _ _ _ _ _ e 2 (by omega)
  · cases e) ra_c0_ok)
def tJX12_reckonAll (N : Nat) : Nat → List Value → ra_H → Option (Int64 × ra_H) := (ra_c1 262 (fun av h => match av with
  | [.ref z0, .int z1, .long z2, .long z3] => fX12_reckon N z0 z1 z2 z3 h
  | _ => none) ra_c0)
theorem tJX12_reckonAll_ok (N : Nat) : ra_cok 2 ra_oJ (tJX12_reckonAll N) := (ra_c1_ok (by
  intro av h a e
  split at e
  · exact fX12_reckon_co N _ _ _ _ _ _ e 2 (by omega)
  · cases e) ra_c0_ok)
def lX12_reckonAll_242 : List ra_I := [(242, .goto (-232), 3, 10, 0, 0, 0, 0, [])]
set_option maxRecDepth 100000 in
theorem lX12_reckonAll_242_ck : lX12_reckonAll_242.all (ra_ck mX12_reckonAll 12) = true := by decide +kernel
def nX12_reckonAll_242 (N : Nat) (c10 : Nat → Int32 → Int32 → Int32 → ra_H → Option ra_H) (a0 : Nat) (a2 : Int32) (a3 : Int32) (a4 : Int32) (h : ra_H) : Option ra_H :=
  c10 a0 a2 a3 a4 h
def kX12_reckonAll_242 (N : Nat) (c10 : Nat → Int32 → Int32 → Int32 → ra_H → Option ra_H) : Nat → List (Option Value) → List Value → ra_H → Option ra_H := (ra_k1 10 (fun L S h => match L, S with
  | [some (.ref a0), _, some (.int a2), some (.int a3), some (.int a4), _, _], [] => c10 a0 a2 a3 a4 h
  | _, _ => none) ra_k0)
theorem kX12_reckonAll_242_ok (N : Nat) (c10 : Nat → Int32 → Int32 → Int32 → ra_H → Option ra_H) (hc10 : ∀ a0 a2 a3 a4 h r, c10 a0 a2 a3 a4 h = some r → ra_Ru 2 mX12_reckonAll 10 [some (.ref a0), none, some (.int a2), some (.int a3), some (.int a4), none, none] [] h (ra_oV r)) : ra_kok 2 mX12_reckonAll ra_oV (kX12_reckonAll_242 N c10) := (ra_k1_ok (by
  intro L S h a e
  split at e
  · exact ra_Ru.weak (hc10 _ _ _ _ _ _ e) ⟨rfl, ⟨rfl, ⟨rfl, ⟨rfl, trivial⟩⟩⟩⟩
  · cases e) ra_k0_ok)
set_option maxRecDepth 100000 in
theorem nX12_reckonAll_242_ok (N : Nat) (c10 : Nat → Int32 → Int32 → Int32 → ra_H → Option ra_H) (hc10 : ∀ a0 a2 a3 a4 h r, c10 a0 a2 a3 a4 h = some r → ra_Ru 2 mX12_reckonAll 10 [some (.ref a0), none, some (.int a2), some (.int a3), some (.int a4), none, none] [] h (ra_oV r)) (a0 : Nat) (a2 : Int32) (a3 : Int32) (a4 : Int32) (h : ra_H) (r : ra_H) (e : nX12_reckonAll_242 N c10 a0 a2 a3 a4 h = some r) : ra_Ru 2 mX12_reckonAll 242 [some (.ref a0), none, some (.int a2), some (.int a3), some (.int a4), none, none] [] h (ra_oV r) :=
  ra_sound (by omega) rfl ra_rV_ok (kX12_reckonAll_242_ok N c10 hc10) (fun m av h h1 e => (ra_c0_ok (ro := ra_oV)) m av h h1 e) (fun m av h x h1 e => (tIX12_reckonAll_ok N) m av h (x, h1) e) (fun m av h x h1 e => (tJX12_reckonAll_ok N) m av h (x, h1) e) (fun m av h x h1 e => (ra_c0_ok (ro := ra_oR)) m av h (x, h1) e) (fun m av h x h1 e => (ra_c0_ok (ro := ra_oN)) m av h (x, h1) e) (fun m av h x h1 e => (ra_c0_ok (ro := ra_oF)) m av h (x, h1) e) 2 lX12_reckonAll_242 _ _ _ _ lX12_reckonAll_242_ck (show ra_run ra_rV (kX12_reckonAll_242 N c10) ra_c0 (tIX12_reckonAll N) (tJX12_reckonAll N) ra_c0 ra_c0 ra_c0 2 lX12_reckonAll_242 [some (.ref a0), none, some (.int a2), some (.int a3), some (.int a4), none, none] [] h = some r from e) _ _ rfl
def lX12_reckonAll_96 : List ra_I := [(96, .lastore, 1, 0, 0, 0, 0, 0, []),
  (97, .iinc 3 (1), 3, 3, 0, 0, (1), 0, []),
  (100, .goto (142), 3, 242, 0, 0, 0, 0, [])]
set_option maxRecDepth 100000 in
theorem lX12_reckonAll_96_ck : lX12_reckonAll_96.all (ra_ck mX12_reckonAll 12) = true := by decide +kernel
def nX12_reckonAll_96 (N : Nat) (c10 : Nat → Int32 → Int32 → Int32 → ra_H → Option ra_H) (a0 : Nat) (a2 : Int32) (a3 : Int32) (a4 : Int32) (b0 : Nat) (b1 : Int32) (b2 : Int64) (h : ra_H) : Option ra_H :=
  (ra_aWJ h b0 b1 b2).bind fun h1 =>
  let y2 := a3 + (1 : Int32)
  nX12_reckonAll_242 N c10 a0 a2 y2 a4 h1
def kX12_reckonAll_96 (N : Nat) (c10 : Nat → Int32 → Int32 → Int32 → ra_H → Option ra_H) : Nat → List (Option Value) → List Value → ra_H → Option ra_H := (ra_k1 242 (fun L S h => match L, S with
  | [some (.ref a0), _, some (.int a2), some (.int a3), some (.int a4), _, _], [] => nX12_reckonAll_242 N c10 a0 a2 a3 a4 h
  | _, _ => none) ra_k0)
theorem kX12_reckonAll_96_ok (N : Nat) (c10 : Nat → Int32 → Int32 → Int32 → ra_H → Option ra_H) (hc10 : ∀ a0 a2 a3 a4 h r, c10 a0 a2 a3 a4 h = some r → ra_Ru 2 mX12_reckonAll 10 [some (.ref a0), none, some (.int a2), some (.int a3), some (.int a4), none, none] [] h (ra_oV r)) : ra_kok 2 mX12_reckonAll ra_oV (kX12_reckonAll_96 N c10) := (ra_k1_ok (by
  intro L S h a e
  split at e
  · exact ra_Ru.weak (nX12_reckonAll_242_ok N c10 hc10 _ _ _ _ _ _ e) ⟨rfl, ⟨rfl, ⟨rfl, ⟨rfl, trivial⟩⟩⟩⟩
  · cases e) ra_k0_ok)
set_option maxRecDepth 100000 in
theorem nX12_reckonAll_96_ok (N : Nat) (c10 : Nat → Int32 → Int32 → Int32 → ra_H → Option ra_H) (hc10 : ∀ a0 a2 a3 a4 h r, c10 a0 a2 a3 a4 h = some r → ra_Ru 2 mX12_reckonAll 10 [some (.ref a0), none, some (.int a2), some (.int a3), some (.int a4), none, none] [] h (ra_oV r)) (a0 : Nat) (a2 : Int32) (a3 : Int32) (a4 : Int32) (b0 : Nat) (b1 : Int32) (b2 : Int64) (h : ra_H) (r : ra_H) (e : nX12_reckonAll_96 N c10 a0 a2 a3 a4 b0 b1 b2 h = some r) : ra_Ru 2 mX12_reckonAll 96 [some (.ref a0), none, some (.int a2), some (.int a3), some (.int a4), none, none] [.long b2, .int b1, .ref b0] h (ra_oV r) :=
  ra_sound (by omega) rfl ra_rV_ok (kX12_reckonAll_96_ok N c10 hc10) (fun m av h h1 e => (ra_c0_ok (ro := ra_oV)) m av h h1 e) (fun m av h x h1 e => (tIX12_reckonAll_ok N) m av h (x, h1) e) (fun m av h x h1 e => (tJX12_reckonAll_ok N) m av h (x, h1) e) (fun m av h x h1 e => (ra_c0_ok (ro := ra_oR)) m av h (x, h1) e) (fun m av h x h1 e => (ra_c0_ok (ro := ra_oN)) m av h (x, h1) e) (fun m av h x h1 e => (ra_c0_ok (ro := ra_oF)) m av h (x, h1) e) 4 lX12_reckonAll_96 _ _ _ _ lX12_reckonAll_96_ck (show ra_run ra_rV (kX12_reckonAll_96 N c10) ra_c0 (tIX12_reckonAll N) (tJX12_reckonAll N) ra_c0 ra_c0 ra_c0 4 lX12_reckonAll_96 [some (.ref a0), none, some (.int a2), some (.int a3), some (.int a4), none, none] [.long b2, .int b1, .ref b0] h = some r from e) _ _ rfl
def lX12_reckonAll_174 : List ra_I := [(174, .putfield 361, 3, 12, 30, 4, 0, 0, []),
  (177, .goto (65), 3, 242, 0, 0, 0, 0, [])]
set_option maxRecDepth 100000 in
theorem lX12_reckonAll_174_ck : lX12_reckonAll_174.all (ra_ck mX12_reckonAll 12) = true := by decide +kernel
def nX12_reckonAll_174 (N : Nat) (c10 : Nat → Int32 → Int32 → Int32 → ra_H → Option ra_H) (a0 : Nat) (a2 : Int32) (a3 : Int32) (a4 : Int32) (b0 : Nat) (b1 : Int32) (h : ra_H) : Option ra_H :=
  if b1 = 0 ∨ b1 = 1 then
  (ra_fW h 12 b0 30 (.int b1)).bind fun h1 =>
  nX12_reckonAll_242 N c10 a0 a2 a3 a4 h1
  else none
def kX12_reckonAll_174 (N : Nat) (c10 : Nat → Int32 → Int32 → Int32 → ra_H → Option ra_H) : Nat → List (Option Value) → List Value → ra_H → Option ra_H := (ra_k1 242 (fun L S h => match L, S with
  | [some (.ref a0), _, some (.int a2), some (.int a3), some (.int a4), _, _], [] => nX12_reckonAll_242 N c10 a0 a2 a3 a4 h
  | _, _ => none) ra_k0)
theorem kX12_reckonAll_174_ok (N : Nat) (c10 : Nat → Int32 → Int32 → Int32 → ra_H → Option ra_H) (hc10 : ∀ a0 a2 a3 a4 h r, c10 a0 a2 a3 a4 h = some r → ra_Ru 2 mX12_reckonAll 10 [some (.ref a0), none, some (.int a2), some (.int a3), some (.int a4), none, none] [] h (ra_oV r)) : ra_kok 2 mX12_reckonAll ra_oV (kX12_reckonAll_174 N c10) := (ra_k1_ok (by
  intro L S h a e
  split at e
  · exact ra_Ru.weak (nX12_reckonAll_242_ok N c10 hc10 _ _ _ _ _ _ e) ⟨rfl, ⟨rfl, ⟨rfl, ⟨rfl, trivial⟩⟩⟩⟩
  · cases e) ra_k0_ok)
set_option maxRecDepth 100000 in
theorem nX12_reckonAll_174_ok (N : Nat) (c10 : Nat → Int32 → Int32 → Int32 → ra_H → Option ra_H) (hc10 : ∀ a0 a2 a3 a4 h r, c10 a0 a2 a3 a4 h = some r → ra_Ru 2 mX12_reckonAll 10 [some (.ref a0), none, some (.int a2), some (.int a3), some (.int a4), none, none] [] h (ra_oV r)) (a0 : Nat) (a2 : Int32) (a3 : Int32) (a4 : Int32) (b0 : Nat) (b1 : Int32) (h : ra_H) (r : ra_H) (e : nX12_reckonAll_174 N c10 a0 a2 a3 a4 b0 b1 h = some r) : ra_Ru 2 mX12_reckonAll 174 [some (.ref a0), none, some (.int a2), some (.int a3), some (.int a4), none, none] [.int b1, .ref b0] h (ra_oV r) :=
  ra_sound (by omega) rfl ra_rV_ok (kX12_reckonAll_174_ok N c10 hc10) (fun m av h h1 e => (ra_c0_ok (ro := ra_oV)) m av h h1 e) (fun m av h x h1 e => (tIX12_reckonAll_ok N) m av h (x, h1) e) (fun m av h x h1 e => (tJX12_reckonAll_ok N) m av h (x, h1) e) (fun m av h x h1 e => (ra_c0_ok (ro := ra_oR)) m av h (x, h1) e) (fun m av h x h1 e => (ra_c0_ok (ro := ra_oN)) m av h (x, h1) e) (fun m av h x h1 e => (ra_c0_ok (ro := ra_oF)) m av h (x, h1) e) 3 lX12_reckonAll_174 _ _ _ _ lX12_reckonAll_174_ck (show ra_run ra_rV (kX12_reckonAll_174 N c10) ra_c0 (tIX12_reckonAll N) (tJX12_reckonAll N) ra_c0 ra_c0 ra_c0 3 lX12_reckonAll_174 [some (.ref a0), none, some (.int a2), some (.int a3), some (.int a4), none, none] [.int b1, .ref b0] h = some r from e) _ _ rfl
def lX12_reckonAll_169 : List ra_I := [(169, .iconst (1), 1, 0, 0, 0, (1), 0, []),
  (170, .goto (4), 3, 174, 0, 0, 0, 0, [])]
set_option maxRecDepth 100000 in
theorem lX12_reckonAll_169_ck : lX12_reckonAll_169.all (ra_ck mX12_reckonAll 12) = true := by decide +kernel
def nX12_reckonAll_169 (N : Nat) (c10 : Nat → Int32 → Int32 → Int32 → ra_H → Option ra_H) (a0 : Nat) (a2 : Int32) (a3 : Int32) (a4 : Int32) (b0 : Nat) (h : ra_H) : Option ra_H :=
  nX12_reckonAll_174 N c10 a0 a2 a3 a4 b0 ((1 : Int32)) h
def kX12_reckonAll_169 (N : Nat) (c10 : Nat → Int32 → Int32 → Int32 → ra_H → Option ra_H) : Nat → List (Option Value) → List Value → ra_H → Option ra_H := (ra_k1 174 (fun L S h => match L, S with
  | [some (.ref a0), _, some (.int a2), some (.int a3), some (.int a4), _, _], [.int b1, .ref b0] => nX12_reckonAll_174 N c10 a0 a2 a3 a4 b0 b1 h
  | _, _ => none) ra_k0)
theorem kX12_reckonAll_169_ok (N : Nat) (c10 : Nat → Int32 → Int32 → Int32 → ra_H → Option ra_H) (hc10 : ∀ a0 a2 a3 a4 h r, c10 a0 a2 a3 a4 h = some r → ra_Ru 2 mX12_reckonAll 10 [some (.ref a0), none, some (.int a2), some (.int a3), some (.int a4), none, none] [] h (ra_oV r)) : ra_kok 2 mX12_reckonAll ra_oV (kX12_reckonAll_169 N c10) := (ra_k1_ok (by
  intro L S h a e
  split at e
  · exact ra_Ru.weak (nX12_reckonAll_174_ok N c10 hc10 _ _ _ _ _ _ _ _ e) ⟨rfl, ⟨rfl, ⟨rfl, ⟨rfl, trivial⟩⟩⟩⟩
  · cases e) ra_k0_ok)
set_option maxRecDepth 100000 in
theorem nX12_reckonAll_169_ok (N : Nat) (c10 : Nat → Int32 → Int32 → Int32 → ra_H → Option ra_H) (hc10 : ∀ a0 a2 a3 a4 h r, c10 a0 a2 a3 a4 h = some r → ra_Ru 2 mX12_reckonAll 10 [some (.ref a0), none, some (.int a2), some (.int a3), some (.int a4), none, none] [] h (ra_oV r)) (a0 : Nat) (a2 : Int32) (a3 : Int32) (a4 : Int32) (b0 : Nat) (h : ra_H) (r : ra_H) (e : nX12_reckonAll_169 N c10 a0 a2 a3 a4 b0 h = some r) : ra_Ru 2 mX12_reckonAll 169 [some (.ref a0), none, some (.int a2), some (.int a3), some (.int a4), none, none] [.ref b0] h (ra_oV r) :=
  ra_sound (by omega) rfl ra_rV_ok (kX12_reckonAll_169_ok N c10 hc10) (fun m av h h1 e => (ra_c0_ok (ro := ra_oV)) m av h h1 e) (fun m av h x h1 e => (tIX12_reckonAll_ok N) m av h (x, h1) e) (fun m av h x h1 e => (tJX12_reckonAll_ok N) m av h (x, h1) e) (fun m av h x h1 e => (ra_c0_ok (ro := ra_oR)) m av h (x, h1) e) (fun m av h x h1 e => (ra_c0_ok (ro := ra_oN)) m av h (x, h1) e) (fun m av h x h1 e => (ra_c0_ok (ro := ra_oF)) m av h (x, h1) e) 3 lX12_reckonAll_169 _ _ _ _ lX12_reckonAll_169_ck (show ra_run ra_rV (kX12_reckonAll_169 N c10) ra_c0 (tIX12_reckonAll N) (tJX12_reckonAll N) ra_c0 ra_c0 ra_c0 3 lX12_reckonAll_169 [some (.ref a0), none, some (.int a2), some (.int a3), some (.int a4), none, none] [.ref b0] h = some r from e) _ _ rfl
def lX12_reckonAll_228 : List ra_I := [(228, .lcmp, 1, 0, 0, 0, 0, 0, []),
  (229, .ifCond .ne (10), 3, 239, 0, 0, 0, 0, []),
  (232, .iload 6, 2, 6, 0, 0, 0, 0, []),
  (234, .istore 4, 2, 4, 0, 0, 0, 0, []),
  (236, .goto (6), 3, 242, 0, 0, 0, 0, []),
  (239, .iinc 3 (-1), 3, 3, 0, 0, (-1), 0, [])]
set_option maxRecDepth 100000 in
theorem lX12_reckonAll_228_ck : lX12_reckonAll_228.all (ra_ck mX12_reckonAll 12) = true := by decide +kernel
def nX12_reckonAll_228 (N : Nat) (c10 : Nat → Int32 → Int32 → Int32 → ra_H → Option ra_H) (a0 : Nat) (a2 : Int32) (a3 : Int32) (a4 : Int32) (a6 : Int32) (b0 : Int64) (b1 : Int64) (h : ra_H) : Option ra_H :=
  if (lg_cmp b0 b1) = 0 then
    nX12_reckonAll_242 N c10 a0 a2 a3 a6 h
  else
    let y1 := a3 + (-1 : Int32)
    nX12_reckonAll_242 N c10 a0 a2 y1 a4 h
def kX12_reckonAll_228 (N : Nat) (c10 : Nat → Int32 → Int32 → Int32 → ra_H → Option ra_H) : Nat → List (Option Value) → List Value → ra_H → Option ra_H := (ra_k1 242 (fun L S h => match L, S with
  | [some (.ref a0), _, some (.int a2), some (.int a3), some (.int a4), _, _], [] => nX12_reckonAll_242 N c10 a0 a2 a3 a4 h
  | _, _ => none) ra_k0)
theorem kX12_reckonAll_228_ok (N : Nat) (c10 : Nat → Int32 → Int32 → Int32 → ra_H → Option ra_H) (hc10 : ∀ a0 a2 a3 a4 h r, c10 a0 a2 a3 a4 h = some r → ra_Ru 2 mX12_reckonAll 10 [some (.ref a0), none, some (.int a2), some (.int a3), some (.int a4), none, none] [] h (ra_oV r)) : ra_kok 2 mX12_reckonAll ra_oV (kX12_reckonAll_228 N c10) := (ra_k1_ok (by
  intro L S h a e
  split at e
  · exact ra_Ru.weak (nX12_reckonAll_242_ok N c10 hc10 _ _ _ _ _ _ e) ⟨rfl, ⟨rfl, ⟨rfl, ⟨rfl, trivial⟩⟩⟩⟩
  · cases e) ra_k0_ok)
set_option maxRecDepth 100000 in
theorem nX12_reckonAll_228_ok (N : Nat) (c10 : Nat → Int32 → Int32 → Int32 → ra_H → Option ra_H) (hc10 : ∀ a0 a2 a3 a4 h r, c10 a0 a2 a3 a4 h = some r → ra_Ru 2 mX12_reckonAll 10 [some (.ref a0), none, some (.int a2), some (.int a3), some (.int a4), none, none] [] h (ra_oV r)) (a0 : Nat) (a2 : Int32) (a3 : Int32) (a4 : Int32) (a6 : Int32) (b0 : Int64) (b1 : Int64) (h : ra_H) (r : ra_H) (e : nX12_reckonAll_228 N c10 a0 a2 a3 a4 a6 b0 b1 h = some r) : ra_Ru 2 mX12_reckonAll 228 [some (.ref a0), none, some (.int a2), some (.int a3), some (.int a4), none, some (.int a6)] [.long b1, .long b0] h (ra_oV r) :=
  ra_sound (by omega) rfl ra_rV_ok (kX12_reckonAll_228_ok N c10 hc10) (fun m av h h1 e => (ra_c0_ok (ro := ra_oV)) m av h h1 e) (fun m av h x h1 e => (tIX12_reckonAll_ok N) m av h (x, h1) e) (fun m av h x h1 e => (tJX12_reckonAll_ok N) m av h (x, h1) e) (fun m av h x h1 e => (ra_c0_ok (ro := ra_oR)) m av h (x, h1) e) (fun m av h x h1 e => (ra_c0_ok (ro := ra_oN)) m av h (x, h1) e) (fun m av h x h1 e => (ra_c0_ok (ro := ra_oF)) m av h (x, h1) e) 7 lX12_reckonAll_228 _ _ _ _ lX12_reckonAll_228_ck (show ra_run ra_rV (kX12_reckonAll_228 N c10) ra_c0 (tIX12_reckonAll N) (tJX12_reckonAll N) ra_c0 ra_c0 ra_c0 7 lX12_reckonAll_228 [some (.ref a0), none, some (.int a2), some (.int a3), some (.int a4), none, some (.int a6)] [.long b1, .long b0] h = some r from e) _ _ rfl
def lX12_reckonAll_260 : List ra_I := [(260, .putfield 375, 3, 12, 31, 1, 0, 0, []),
  (263, .return_, 1, 0, 0, 0, 0, 0, [])]
set_option maxRecDepth 100000 in
theorem lX12_reckonAll_260_ck : lX12_reckonAll_260.all (ra_ck mX12_reckonAll 12) = true := by decide +kernel
def nX12_reckonAll_260 (N : Nat) (b0 : Nat) (b1 : Int64) (h : ra_H) : Option ra_H :=
  (ra_fW h 12 b0 31 (.long b1)).bind fun h1 =>
  some h1
def kX12_reckonAll_260 (N : Nat) : Nat → List (Option Value) → List Value → ra_H → Option ra_H := ra_k0
theorem kX12_reckonAll_260_ok (N : Nat) : ra_kok 2 mX12_reckonAll ra_oV (kX12_reckonAll_260 N) := ra_k0_ok
set_option maxRecDepth 100000 in
theorem nX12_reckonAll_260_ok (N : Nat) (b0 : Nat) (b1 : Int64) (h : ra_H) (r : ra_H) (e : nX12_reckonAll_260 N b0 b1 h = some r) : ra_Ru 2 mX12_reckonAll 260 [none, none, none, none, none, none, none] [.long b1, .ref b0] h (ra_oV r) :=
  ra_sound (by omega) rfl ra_rV_ok (kX12_reckonAll_260_ok N) (fun m av h h1 e => (ra_c0_ok (ro := ra_oV)) m av h h1 e) (fun m av h x h1 e => (tIX12_reckonAll_ok N) m av h (x, h1) e) (fun m av h x h1 e => (tJX12_reckonAll_ok N) m av h (x, h1) e) (fun m av h x h1 e => (ra_c0_ok (ro := ra_oR)) m av h (x, h1) e) (fun m av h x h1 e => (ra_c0_ok (ro := ra_oN)) m av h (x, h1) e) (fun m av h x h1 e => (ra_c0_ok (ro := ra_oF)) m av h (x, h1) e) 3 lX12_reckonAll_260 _ _ _ _ lX12_reckonAll_260_ck (show ra_run ra_rV (kX12_reckonAll_260 N) ra_c0 (tIX12_reckonAll N) (tJX12_reckonAll N) ra_c0 ra_c0 ra_c0 3 lX12_reckonAll_260 [none, none, none, none, none, none, none] [.long b1, .ref b0] h = some r from e) _ _ rfl
def lX12_reckonAll_245 : List ra_I := [(245, .aload_n 0, 1, 0, 0, 0, 0, 0, []),
  (246, .iload_n 3, 1, 3, 0, 0, 0, 0, []),
  (247, .ifCond .le (12), 3, 259, 0, 0, 0, 0, []),
  (250, .aload_n 0, 1, 0, 0, 0, 0, 0, []),
  (251, .getfield 89, 3, 12, 29, 2, 0, 0, []),
  (254, .iconst (0), 1, 0, 0, 0, (0), 0, []),
  (255, .laload, 1, 0, 0, 0, 0, 0, []),
  (256, .goto (4), 3, 260, 0, 0, 0, 0, []),
  (259, .lconst 0, 1, 0, 0, 0, 0, 0, [])]
set_option maxRecDepth 100000 in
theorem lX12_reckonAll_245_ck : lX12_reckonAll_245.all (ra_ck mX12_reckonAll 12) = true := by decide +kernel
def nX12_reckonAll_245 (N : Nat) (a0 : Nat) (a3 : Int32) (h : ra_H) : Option ra_H :=
  if a3 ≤ 0 then
    nX12_reckonAll_260 N a0 ((0 : Int64)) h
  else
    (ra_fR h 12 a0 29).bind fun x1 =>
    (ra_aJ h x1 ((0 : Int32))).bind fun x2 =>
    nX12_reckonAll_260 N a0 x2 h
def kX12_reckonAll_245 (N : Nat) : Nat → List (Option Value) → List Value → ra_H → Option ra_H := (ra_k1 260 (fun L S h => match L, S with
  | [_, _, _, _, _, _, _], [.long b1, .ref b0] => nX12_reckonAll_260 N b0 b1 h
  | _, _ => none) ra_k0)
theorem kX12_reckonAll_245_ok (N : Nat) : ra_kok 2 mX12_reckonAll ra_oV (kX12_reckonAll_245 N) := (ra_k1_ok (by
  intro L S h a e
  split at e
  · exact ra_Ru.weak (nX12_reckonAll_260_ok N _ _ _ _ e) trivial
  · cases e) ra_k0_ok)
set_option maxRecDepth 100000 in
theorem nX12_reckonAll_245_ok (N : Nat) (a0 : Nat) (a3 : Int32) (h : ra_H) (r : ra_H) (e : nX12_reckonAll_245 N a0 a3 h = some r) : ra_Ru 2 mX12_reckonAll 245 [some (.ref a0), none, none, some (.int a3), none, none, none] [] h (ra_oV r) :=
  ra_sound (by omega) rfl ra_rV_ok (kX12_reckonAll_245_ok N) (fun m av h h1 e => (ra_c0_ok (ro := ra_oV)) m av h h1 e) (fun m av h x h1 e => (tIX12_reckonAll_ok N) m av h (x, h1) e) (fun m av h x h1 e => (tJX12_reckonAll_ok N) m av h (x, h1) e) (fun m av h x h1 e => (ra_c0_ok (ro := ra_oR)) m av h (x, h1) e) (fun m av h x h1 e => (ra_c0_ok (ro := ra_oN)) m av h (x, h1) e) (fun m av h x h1 e => (ra_c0_ok (ro := ra_oF)) m av h (x, h1) e) 10 lX12_reckonAll_245 _ _ _ _ lX12_reckonAll_245_ck (show ra_run ra_rV (kX12_reckonAll_245 N) ra_c0 (tIX12_reckonAll N) (tJX12_reckonAll N) ra_c0 ra_c0 ra_c0 10 lX12_reckonAll_245 [some (.ref a0), none, none, some (.int a3), none, none, none] [] h = some r from e) _ _ rfl
def lX12_reckonAll_10 : List ra_I := [(10, .iload 4, 2, 4, 0, 0, 0, 0, []),
  (12, .iload_n 2, 1, 2, 0, 0, 0, 0, []),
  (13, .if_icmp .ge (232), 3, 245, 0, 0, 0, 0, []),
  (16, .aload_n 0, 1, 0, 0, 0, 0, 0, []),
  (17, .getfield 361, 3, 12, 30, 0, 0, 0, []),
  (20, .ifCond .ne (225), 3, 245, 0, 0, 0, 0, []),
  (23, .aload_n 0, 1, 0, 0, 0, 0, 0, []),
  (24, .getfield 13, 3, 12, 3, 2, 0, 0, []),
  (27, .aload_n 0, 1, 0, 0, 0, 0, 0, []),
  (28, .getfield 364, 3, 12, 27, 0, 0, 0, []),
  (31, .bipush (98), 2, 0, 0, 0, (98), 0, []),
  (33, .iadd, 1, 0, 0, 0, 0, 0, []),
  (34, .iconst (2), 1, 0, 0, 0, (2), 0, []),
  (35, .iload 4, 2, 4, 0, 0, 0, 0, []),
  (37, .imul, 1, 0, 0, 0, 0, 0, []),
  (38, .iadd, 1, 0, 0, 0, 0, 0, []),
  (39, .iaload, 1, 0, 0, 0, 0, 0, []),
  (40, .istore 5, 2, 5, 0, 0, 0, 0, []),
  (42, .aload_n 0, 1, 0, 0, 0, 0, 0, []),
  (43, .getfield 13, 3, 12, 3, 2, 0, 0, []),
  (46, .aload_n 0, 1, 0, 0, 0, 0, 0, []),
  (47, .getfield 364, 3, 12, 27, 0, 0, 0, []),
  (50, .bipush (98), 2, 0, 0, 0, (98), 0, []),
  (52, .iadd, 1, 0, 0, 0, 0, 0, []),
  (53, .iconst (2), 1, 0, 0, 0, (2), 0, []),
  (54, .iload 4, 2, 4, 0, 0, 0, 0, []),
  (56, .imul, 1, 0, 0, 0, 0, 0, []),
  (57, .iadd, 1, 0, 0, 0, 0, 0, []),
  (58, .iconst (1), 1, 0, 0, 0, (1), 0, []),
  (59, .iadd, 1, 0, 0, 0, 0, 0, []),
  (60, .iaload, 1, 0, 0, 0, 0, 0, []),
  (61, .istore 6, 2, 6, 0, 0, 0, 0, []),
  (63, .iinc 4 (1), 3, 4, 0, 0, (1), 0, []),
  (66, .iload 5, 2, 5, 0, 0, 0, 0, []),
  (68, .bipush (20), 2, 0, 0, 0, (20), 0, []),
  (70, .if_icmp .ge (33), 3, 103, 0, 0, 0, 0, []),
  (73, .aload_n 0, 1, 0, 0, 0, 0, 0, []),
  (74, .getfield 89, 3, 12, 29, 2, 0, 0, []),
  (77, .iload_n 3, 1, 3, 0, 0, 0, 0, []),
  (78, .iload 5, 2, 5, 0, 0, 0, 0, []),
  (80, .ifCond .ne (9), 3, 89, 0, 0, 0, 0, []),
  (83, .iload 6, 2, 6, 0, 0, 0, 0, []),
  (85, .i2l, 1, 0, 0, 0, 0, 0, []),
  (86, .goto (10), 3, 96, 0, 0, 0, 0, []),
  (89, .aload_n 0, 1, 0, 0, 0, 0, 0, []),
  (90, .getfield 86, 3, 12, 28, 2, 0, 0, []),
  (93, .iload 5, 2, 5, 0, 0, 0, 0, []),
  (95, .laload, 1, 0, 0, 0, 0, 0, []),
  (103, .iload 5, 2, 5, 0, 0, 0, 0, []),
  (105, .bipush (27), 2, 0, 0, 0, (27), 0, []),
  (107, .if_icmp .ge (73), 3, 180, 0, 0, 0, 0, []),
  (110, .iinc 3 (-1), 3, 3, 0, 0, (-1), 0, []),
  (113, .aload_n 0, 1, 0, 0, 0, 0, 0, []),
  (114, .getfield 89, 3, 12, 29, 2, 0, 0, []),
  (117, .iload_n 3, 1, 3, 0, 0, 0, 0, []),
  (118, .iconst (1), 1, 0, 0, 0, (1), 0, []),
  (119, .isub, 1, 0, 0, 0, 0, 0, []),
  (120, .aload_n 0, 1, 0, 0, 0, 0, 0, []),
  (121, .iload 5, 2, 5, 0, 0, 0, 0, []),
  (123, .aload_n 0, 1, 0, 0, 0, 0, 0, []),
  (124, .getfield 89, 3, 12, 29, 2, 0, 0, []),
  (127, .iload_n 3, 1, 3, 0, 0, 0, 0, []),
  (128, .iconst (1), 1, 0, 0, 0, (1), 0, []),
  (129, .isub, 1, 0, 0, 0, 0, 0, []),
  (130, .laload, 1, 0, 0, 0, 0, 0, []),
  (131, .aload_n 0, 1, 0, 0, 0, 0, 0, []),
  (132, .getfield 89, 3, 12, 29, 2, 0, 0, []),
  (135, .iload_n 3, 1, 3, 0, 0, 0, 0, []),
  (136, .laload, 1, 0, 0, 0, 0, 0, []),
  (137, .invokevirtual 367, 3, 262, 4, 2, 0, 0, []),
  (140, .lastore, 1, 0, 0, 0, 0, 0, []),
  (141, .aload_n 0, 1, 0, 0, 0, 0, 0, []),
  (142, .aload_n 0, 1, 0, 0, 0, 0, 0, []),
  (143, .getfield 361, 3, 12, 30, 0, 0, 0, []),
  (146, .ifCond .ne (23), 3, 169, 0, 0, 0, 0, []),
  (149, .aload_n 0, 1, 0, 0, 0, 0, 0, []),
  (150, .getfield 89, 3, 12, 29, 2, 0, 0, []),
  (153, .iload_n 3, 1, 3, 0, 0, 0, 0, []),
  (154, .iconst (1), 1, 0, 0, 0, (1), 0, []),
  (155, .isub, 1, 0, 0, 0, 0, 0, []),
  (156, .laload, 1, 0, 0, 0, 0, 0, []),
  (157, .ldc2_w 371, 3, 0, 0, 0, 0, (-1000000000), []),
  (160, .ldc2_w 373, 3, 0, 0, 0, 0, (1000000000), []),
  (163, .invokestatic 153, 3, 209, 3, 1, 0, 0, []),
  (166, .ifCond .ne (7), 3, 173, 0, 0, 0, 0, []),
  (173, .iconst (0), 1, 0, 0, 0, (0), 0, []),
  (180, .iload 5, 2, 5, 0, 0, 0, 0, []),
  (182, .bipush (27), 2, 0, 0, 0, (27), 0, []),
  (184, .if_icmp .ne (24), 3, 208, 0, 0, 0, 0, []),
  (187, .aload_n 0, 1, 0, 0, 0, 0, 0, []),
  (188, .getfield 89, 3, 12, 29, 2, 0, 0, []),
  (191, .iload_n 3, 1, 3, 0, 0, 0, 0, []),
  (192, .iconst (1), 1, 0, 0, 0, (1), 0, []),
  (193, .isub, 1, 0, 0, 0, 0, 0, []),
  (194, .lconst 1, 1, 0, 0, 0, 0, 1, []),
  (195, .aload_n 0, 1, 0, 0, 0, 0, 0, []),
  (196, .getfield 89, 3, 12, 29, 2, 0, 0, []),
  (199, .iload_n 3, 1, 3, 0, 0, 0, 0, []),
  (200, .iconst (1), 1, 0, 0, 0, (1), 0, []),
  (201, .isub, 1, 0, 0, 0, 0, 0, []),
  (202, .laload, 1, 0, 0, 0, 0, 0, []),
  (203, .lsub, 1, 0, 0, 0, 0, 0, []),
  (204, .lastore, 1, 0, 0, 0, 0, 0, []),
  (205, .goto (37), 3, 242, 0, 0, 0, 0, []),
  (208, .aload_n 0, 1, 0, 0, 0, 0, 0, []),
  (209, .getfield 89, 3, 12, 29, 2, 0, 0, []),
  (212, .iload_n 3, 1, 3, 0, 0, 0, 0, []),
  (213, .iconst (1), 1, 0, 0, 0, (1), 0, []),
  (214, .isub, 1, 0, 0, 0, 0, 0, []),
  (215, .laload, 1, 0, 0, 0, 0, 0, []),
  (216, .iload 5, 2, 5, 0, 0, 0, 0, []),
  (218, .bipush (28), 2, 0, 0, 0, (28), 0, []),
  (220, .if_icmp .ne (7), 3, 227, 0, 0, 0, 0, []),
  (223, .lconst 0, 1, 0, 0, 0, 0, 0, []),
  (224, .goto (4), 3, 228, 0, 0, 0, 0, []),
  (227, .lconst 1, 1, 0, 0, 0, 0, 1, [])]
set_option maxRecDepth 100000 in
theorem lX12_reckonAll_10_ck : lX12_reckonAll_10.all (ra_ck mX12_reckonAll 12) = true := by decide +kernel
def nX12_reckonAll_10 (N : Nat) : Nat → Nat → Int32 → Int32 → Int32 → ra_H → Option ra_H
  | 0, _, _, _, _, _ => none
  | n + 1, a0, a2, a3, a4, h =>
  if a4 < a2 then
    (ra_fI h 12 a0 30).bind fun x1 =>
    if x1 = 0 then
      (ra_fR h 12 a0 3).bind fun x2 =>
      (ra_fI h 12 a0 27).bind fun x3 =>
      (ra_aI h 0 x2 ((x3 + ((98 : Int32))) + (((2 : Int32)) * a4))).bind fun x4 =>
      (ra_fR h 12 a0 3).bind fun x5 =>
      (ra_fI h 12 a0 27).bind fun x6 =>
      (ra_aI h 0 x5 (((x6 + ((98 : Int32))) + (((2 : Int32)) * a4)) + ((1 : Int32)))).bind fun x7 =>
      let y8 := a4 + (1 : Int32)
      if x4 < ((20 : Int32)) then
        (ra_fR h 12 a0 29).bind fun x27 =>
        if x4 = 0 then
          nX12_reckonAll_96 N (nX12_reckonAll_10 N n) a0 a2 a3 y8 x27 a3 (Int32.toInt64 x7) h
        else
          (ra_fR h 12 a0 28).bind fun x28 =>
          (ra_aJ h x28 x4).bind fun x29 =>
          nX12_reckonAll_96 N (nX12_reckonAll_10 N n) a0 a2 a3 y8 x27 a3 x29 h
      else
        if x4 < ((27 : Int32)) then
          let y15 := a3 + (-1 : Int32)
          (ra_fR h 12 a0 29).bind fun x16 =>
          (ra_fR h 12 a0 29).bind fun x17 =>
          (ra_aJ h x17 (y15 - ((1 : Int32)))).bind fun x18 =>
          (ra_fR h 12 a0 29).bind fun x19 =>
          (ra_aJ h x19 y15).bind fun x20 =>
          (fX12_reckon N a0 x4 x18 x20 h).bind fun q21 =>
          (ra_aWJ q21.2 x16 (y15 - ((1 : Int32))) q21.1).bind fun h22 =>
          (ra_fI h22 12 a0 30).bind fun x23 =>
          if x23 = 0 then
            (ra_fR h22 12 a0 29).bind fun x24 =>
            (ra_aJ h22 x24 (y15 - ((1 : Int32)))).bind fun x25 =>
            (fX12_in N x25 ((-1000000000 : Int64)) ((1000000000 : Int64)) h22).bind fun q26 =>
            if q26.1 = 0 then
              nX12_reckonAll_169 N (nX12_reckonAll_10 N n) a0 a2 y15 y8 a0 q26.2
            else
              nX12_reckonAll_174 N (nX12_reckonAll_10 N n) a0 a2 y15 y8 a0 ((0 : Int32)) q26.2
          else
            nX12_reckonAll_169 N (nX12_reckonAll_10 N n) a0 a2 y15 y8 a0 h22
        else
          if x4 = ((27 : Int32)) then
            (ra_fR h 12 a0 29).bind fun x11 =>
            (ra_fR h 12 a0 29).bind fun x12 =>
            (ra_aJ h x12 (a3 - ((1 : Int32)))).bind fun x13 =>
            (ra_aWJ h x11 (a3 - ((1 : Int32))) (((1 : Int64)) - x13)).bind fun h14 =>
            nX12_reckonAll_242 N (nX12_reckonAll_10 N n) a0 a2 a3 y8 h14
          else
            (ra_fR h 12 a0 29).bind fun x9 =>
            (ra_aJ h x9 (a3 - ((1 : Int32)))).bind fun x10 =>
            if x4 = ((28 : Int32)) then
              nX12_reckonAll_228 N (nX12_reckonAll_10 N n) a0 a2 a3 y8 x7 x10 ((0 : Int64)) h
            else
              nX12_reckonAll_228 N (nX12_reckonAll_10 N n) a0 a2 a3 y8 x7 x10 ((1 : Int64)) h
    else
      nX12_reckonAll_245 N a0 a3 h
  else
    nX12_reckonAll_245 N a0 a3 h
def kX12_reckonAll_10 (N : Nat) (cs : Nat → Int32 → Int32 → Int32 → ra_H → Option ra_H) : Nat → List (Option Value) → List Value → ra_H → Option ra_H := (ra_k1 96 (fun L S h => match L, S with
  | [some (.ref a0), _, some (.int a2), some (.int a3), some (.int a4), _, _], [.long b2, .int b1, .ref b0] => nX12_reckonAll_96 N cs a0 a2 a3 a4 b0 b1 b2 h
  | _, _ => none) (ra_k1 169 (fun L S h => match L, S with
  | [some (.ref a0), _, some (.int a2), some (.int a3), some (.int a4), _, _], [.ref b0] => nX12_reckonAll_169 N cs a0 a2 a3 a4 b0 h
  | _, _ => none) (ra_k1 174 (fun L S h => match L, S with
  | [some (.ref a0), _, some (.int a2), some (.int a3), some (.int a4), _, _], [.int b1, .ref b0] => nX12_reckonAll_174 N cs a0 a2 a3 a4 b0 b1 h
  | _, _ => none) (ra_k1 228 (fun L S h => match L, S with
  | [some (.ref a0), _, some (.int a2), some (.int a3), some (.int a4), _, some (.int a6)], [.long b1, .long b0] => nX12_reckonAll_228 N cs a0 a2 a3 a4 a6 b0 b1 h
  | _, _ => none) (ra_k1 242 (fun L S h => match L, S with
  | [some (.ref a0), _, some (.int a2), some (.int a3), some (.int a4), _, _], [] => nX12_reckonAll_242 N cs a0 a2 a3 a4 h
  | _, _ => none) (ra_k1 245 (fun L S h => match L, S with
  | [some (.ref a0), _, _, some (.int a3), _, _, _], [] => nX12_reckonAll_245 N a0 a3 h
  | _, _ => none) ra_k0))))))
theorem kX12_reckonAll_10_ok (N : Nat) (cs : Nat → Int32 → Int32 → Int32 → ra_H → Option ra_H) (hcs : ∀ a0 a2 a3 a4 h r, cs a0 a2 a3 a4 h = some r → ra_Ru 2 mX12_reckonAll 10 [some (.ref a0), none, some (.int a2), some (.int a3), some (.int a4), none, none] [] h (ra_oV r)) : ra_kok 2 mX12_reckonAll ra_oV (kX12_reckonAll_10 N cs) := (ra_k1_ok (by
  intro L S h a e
  split at e
  · exact ra_Ru.weak (nX12_reckonAll_96_ok N cs hcs _ _ _ _ _ _ _ _ _ e) ⟨rfl, ⟨rfl, ⟨rfl, ⟨rfl, trivial⟩⟩⟩⟩
  · cases e) (ra_k1_ok (by
  intro L S h a e
  split at e
  · exact ra_Ru.weak (nX12_reckonAll_169_ok N cs hcs _ _ _ _ _ _ _ e) ⟨rfl, ⟨rfl, ⟨rfl, ⟨rfl, trivial⟩⟩⟩⟩
  · cases e) (ra_k1_ok (by
  intro L S h a e
  split at e
  · exact ra_Ru.weak (nX12_reckonAll_174_ok N cs hcs _ _ _ _ _ _ _ _ e) ⟨rfl, ⟨rfl, ⟨rfl, ⟨rfl, trivial⟩⟩⟩⟩
  · cases e) (ra_k1_ok (by
  intro L S h a e
  split at e
  · exact ra_Ru.weak (nX12_reckonAll_228_ok N cs hcs _ _ _ _ _ _ _ _ _ e) ⟨rfl, ⟨rfl, ⟨rfl, ⟨rfl, ⟨rfl, trivial⟩⟩⟩⟩⟩
  · cases e) (ra_k1_ok (by
  intro L S h a e
  split at e
  · exact ra_Ru.weak (nX12_reckonAll_242_ok N cs hcs _ _ _ _ _ _ e) ⟨rfl, ⟨rfl, ⟨rfl, ⟨rfl, trivial⟩⟩⟩⟩
  · cases e) (ra_k1_ok (by
  intro L S h a e
  split at e
  · exact ra_Ru.weak (nX12_reckonAll_245_ok N _ _ _ _ e) ⟨rfl, ⟨rfl, trivial⟩⟩
  · cases e) ra_k0_ok))))))
set_option maxRecDepth 100000 in
theorem nX12_reckonAll_10_ok (N : Nat) : ∀ n a0 a2 a3 a4 h r, nX12_reckonAll_10 N n a0 a2 a3 a4 h = some r → ra_Ru 2 mX12_reckonAll 10 [some (.ref a0), none, some (.int a2), some (.int a3), some (.int a4), none, none] [] h (ra_oV r) := by
  intro n
  induction n with
  | zero => intro a0 a2 a3 a4 h r e; cases e
  | succ n ih =>
    intro a0 a2 a3 a4 h r e
    exact ra_sound (by omega) rfl ra_rV_ok (kX12_reckonAll_10_ok N (nX12_reckonAll_10 N n) ih) (fun m av h h1 e => (ra_c0_ok (ro := ra_oV)) m av h h1 e) (fun m av h x h1 e => (tIX12_reckonAll_ok N) m av h (x, h1) e) (fun m av h x h1 e => (tJX12_reckonAll_ok N) m av h (x, h1) e) (fun m av h x h1 e => (ra_c0_ok (ro := ra_oR)) m av h (x, h1) e) (fun m av h x h1 e => (ra_c0_ok (ro := ra_oN)) m av h (x, h1) e) (fun m av h x h1 e => (ra_c0_ok (ro := ra_oF)) m av h (x, h1) e) 117 lX12_reckonAll_10 _ _ _ _ lX12_reckonAll_10_ck (show ra_run ra_rV (kX12_reckonAll_10 N (nX12_reckonAll_10 N n)) ra_c0 (tIX12_reckonAll N) (tJX12_reckonAll N) ra_c0 ra_c0 ra_c0 117 lX12_reckonAll_10 [some (.ref a0), none, some (.int a2), some (.int a3), some (.int a4), none, none] [] h = some r from e) _ _ rfl
def lX12_reckonAll_0 : List ra_I := [(0, .aload_n 0, 1, 0, 0, 0, 0, 0, []),
  (1, .iconst (0), 1, 0, 0, 0, (0), 0, []),
  (2, .putfield 361, 3, 12, 30, 4, 0, 0, []),
  (5, .iconst (0), 1, 0, 0, 0, (0), 0, []),
  (6, .istore_n 3, 1, 3, 0, 0, 0, 0, []),
  (7, .iload_n 1, 1, 1, 0, 0, 0, 0, []),
  (8, .istore 4, 2, 4, 0, 0, 0, 0, [])]
set_option maxRecDepth 100000 in
theorem lX12_reckonAll_0_ck : lX12_reckonAll_0.all (ra_ck mX12_reckonAll 12) = true := by decide +kernel
def nX12_reckonAll_0 (N : Nat) (a0 : Nat) (a1 : Int32) (a2 : Int32) (h : ra_H) : Option ra_H :=
  if ((0 : Int32)) = 0 ∨ ((0 : Int32)) = 1 then
  (ra_fW h 12 a0 30 (.int ((0 : Int32)))).bind fun h1 =>
  nX12_reckonAll_10 N N a0 a2 ((0 : Int32)) a1 h1
  else none
def kX12_reckonAll_0 (N : Nat) : Nat → List (Option Value) → List Value → ra_H → Option ra_H := (ra_k1 10 (fun L S h => match L, S with
  | [some (.ref a0), _, some (.int a2), some (.int a3), some (.int a4), _, _], [] => nX12_reckonAll_10 N N a0 a2 a3 a4 h
  | _, _ => none) ra_k0)
theorem kX12_reckonAll_0_ok (N : Nat) : ra_kok 2 mX12_reckonAll ra_oV (kX12_reckonAll_0 N) := (ra_k1_ok (by
  intro L S h a e
  split at e
  · exact ra_Ru.weak (nX12_reckonAll_10_ok N N _ _ _ _ _ _ e) ⟨rfl, ⟨rfl, ⟨rfl, ⟨rfl, trivial⟩⟩⟩⟩
  · cases e) ra_k0_ok)
set_option maxRecDepth 100000 in
theorem nX12_reckonAll_0_ok (N : Nat) (a0 : Nat) (a1 : Int32) (a2 : Int32) (h : ra_H) (r : ra_H) (e : nX12_reckonAll_0 N a0 a1 a2 h = some r) : ra_Ru 2 mX12_reckonAll 0 [some (.ref a0), some (.int a1), some (.int a2), none, none, none, none] [] h (ra_oV r) :=
  ra_sound (by omega) rfl ra_rV_ok (kX12_reckonAll_0_ok N) (fun m av h h1 e => (ra_c0_ok (ro := ra_oV)) m av h h1 e) (fun m av h x h1 e => (tIX12_reckonAll_ok N) m av h (x, h1) e) (fun m av h x h1 e => (tJX12_reckonAll_ok N) m av h (x, h1) e) (fun m av h x h1 e => (ra_c0_ok (ro := ra_oR)) m av h (x, h1) e) (fun m av h x h1 e => (ra_c0_ok (ro := ra_oN)) m av h (x, h1) e) (fun m av h x h1 e => (ra_c0_ok (ro := ra_oF)) m av h (x, h1) e) 8 lX12_reckonAll_0 _ _ _ _ lX12_reckonAll_0_ck (show ra_run ra_rV (kX12_reckonAll_0 N) ra_c0 (tIX12_reckonAll N) (tJX12_reckonAll N) ra_c0 ra_c0 ra_c0 8 lX12_reckonAll_0 [some (.ref a0), some (.int a1), some (.int a2), none, none, none, none] [] h = some r from e) _ _ rfl
def fX12_reckonAll (N : Nat) (p0 : Nat) (p1 : Int32) (p2 : Int32) (h : ra_H) : Option ra_H := match ra_isOb h p0 12 with
  | true => nX12_reckonAll_0 N p0 p1 p2 h
  | false => none
set_option maxRecDepth 100000 in
theorem mtX12_reckonAll : ra_MT[261]? = some (mX12_reckonAll, 1, 2, (1, 13), (8, 79), (0, 92)) := rfl
theorem fX12_reckonAll_co (N : Nat) (p0 : Nat) (p1 : Int32) (p2 : Int32) (h : ra_H) (r : ra_H) (e : fX12_reckonAll N p0 p1 p2 h = some r) (D : Nat) (hD : 3 ≤ D) : ra_CO D 261 [.ref p0, .int p1, .int p2] h (ra_oV r).1 (ra_oV r).2 := by
  have hw : ra_nw2 [.ref p0, .int p1, .int p2] ≤ 7 := Nat.le_of_ble_eq_true rfl
  have hdb : ∀ v ∈ ([.ref p0, .int p1, .int p2] : List Value), ∀ x, v ≠ .double x := by
    intro v hv x hx
    simp [hx] at hv
  unfold fX12_reckonAll at e
  split at e
  · rename_i ho
    have e1 := e
    exact ⟨2, _, mtX12_reckonAll, hD, ra_ev_of (by decide) hdb hw trivial (ra_Ru.weak (nX12_reckonAll_0_ok N p0 p1 p2 h _ e1) ⟨rfl, ⟨rfl, ⟨rfl, trivial⟩⟩⟩), (fun _ => ⟨_, _, rfl, ra_rcv_of ho (by decide) rfl⟩), (fun h => absurd h (by decide))⟩
  · cases e
/-! RedMarksModel.isSo(I)Z -/
def mX12_isSo : ra_M := (yX12_isSo, cX12_isSo, 2, (some .boolean))
def tVX12_isSo (N : Nat) : Nat → List Value → ra_H → Option ra_H := (ra_c1 261 (fun av h => match av with
  | [.ref z0, .int z1, .int z2] => fX12_reckonAll N z0 z1 z2 h
  | _ => none) ra_c0)
theorem tVX12_isSo_ok (N : Nat) : ra_cok 3 ra_oV (tVX12_isSo N) := (ra_c1_ok (by
  intro av h a e
  split at e
  · exact fX12_reckonAll_co N _ _ _ _ _ e 3 (by omega)
  · cases e) ra_c0_ok)
def lX12_isSo_57 : List ra_I := [(57, .iconst (0), 1, 0, 0, 0, (0), 0, []),
  (58, .ireturn, 1, 0, 0, 0, 0, 0, [])]
set_option maxRecDepth 100000 in
theorem lX12_isSo_57_ck : lX12_isSo_57.all (ra_ck mX12_isSo 12) = true := by decide +kernel
def nX12_isSo_57 (N : Nat) (h : ra_H) : Option (Int32 × ra_H) :=
  some ((0 : Int32), h)
def kX12_isSo_57 (N : Nat) : Nat → List (Option Value) → List Value → ra_H → Option (Int32 × ra_H) := ra_k0
theorem kX12_isSo_57_ok (N : Nat) : ra_kok 3 mX12_isSo ra_oI (kX12_isSo_57 N) := ra_k0_ok
set_option maxRecDepth 100000 in
theorem nX12_isSo_57_ok (N : Nat) (h : ra_H) (r : (Int32 × ra_H)) (e : nX12_isSo_57 N h = some r) : ra_Ru 3 mX12_isSo 57 [none, none] [] h (ra_oI r) :=
  ra_sound (by omega) rfl ra_rI_ok (kX12_isSo_57_ok N) (fun m av h h1 e => (tVX12_isSo_ok N) m av h h1 e) (fun m av h x h1 e => (ra_c0_ok (ro := ra_oI)) m av h (x, h1) e) (fun m av h x h1 e => (ra_c0_ok (ro := ra_oJ)) m av h (x, h1) e) (fun m av h x h1 e => (ra_c0_ok (ro := ra_oR)) m av h (x, h1) e) (fun m av h x h1 e => (ra_c0_ok (ro := ra_oN)) m av h (x, h1) e) (fun m av h x h1 e => (ra_c0_ok (ro := ra_oF)) m av h (x, h1) e) 3 lX12_isSo_57 _ _ _ _ lX12_isSo_57_ck (show ra_run ra_rI (kX12_isSo_57 N) (tVX12_isSo N) ra_c0 ra_c0 ra_c0 ra_c0 ra_c0 3 lX12_isSo_57 [none, none] [] h = some r from e) _ _ rfl
def lX12_isSo_125 : List ra_I := [(125, .ireturn, 1, 0, 0, 0, 0, 0, [])]
set_option maxRecDepth 100000 in
theorem lX12_isSo_125_ck : lX12_isSo_125.all (ra_ck mX12_isSo 12) = true := by decide +kernel
def nX12_isSo_125 (N : Nat) (b0 : Int32) (h : ra_H) : Option (Int32 × ra_H) :=
  some (b0, h)
def kX12_isSo_125 (N : Nat) : Nat → List (Option Value) → List Value → ra_H → Option (Int32 × ra_H) := ra_k0
theorem kX12_isSo_125_ok (N : Nat) : ra_kok 3 mX12_isSo ra_oI (kX12_isSo_125 N) := ra_k0_ok
set_option maxRecDepth 100000 in
theorem nX12_isSo_125_ok (N : Nat) (b0 : Int32) (h : ra_H) (r : (Int32 × ra_H)) (e : nX12_isSo_125 N b0 h = some r) : ra_Ru 3 mX12_isSo 125 [none, none] [.int b0] h (ra_oI r) :=
  ra_sound (by omega) rfl ra_rI_ok (kX12_isSo_125_ok N) (fun m av h h1 e => (tVX12_isSo_ok N) m av h h1 e) (fun m av h x h1 e => (ra_c0_ok (ro := ra_oI)) m av h (x, h1) e) (fun m av h x h1 e => (ra_c0_ok (ro := ra_oJ)) m av h (x, h1) e) (fun m av h x h1 e => (ra_c0_ok (ro := ra_oR)) m av h (x, h1) e) (fun m av h x h1 e => (ra_c0_ok (ro := ra_oN)) m av h (x, h1) e) (fun m av h x h1 e => (ra_c0_ok (ro := ra_oF)) m av h (x, h1) e) 2 lX12_isSo_125 _ _ _ _ lX12_isSo_125_ck (show ra_run ra_rI (kX12_isSo_125 N) (tVX12_isSo N) ra_c0 ra_c0 ra_c0 ra_c0 ra_c0 2 lX12_isSo_125 [none, none] [.int b0] h = some r from e) _ _ rfl
def lX12_isSo_59 : List ra_I := [(59, .aload_n 0, 1, 0, 0, 0, 0, 0, []),
  (60, .lconst 0, 1, 0, 0, 0, 0, 0, []),
  (61, .putfield 381, 3, 12, 32, 1, 0, 0, []),
  (64, .aload_n 0, 1, 0, 0, 0, 0, 0, []),
  (65, .getfield 13, 3, 12, 3, 2, 0, 0, []),
  (68, .iload_n 1, 1, 1, 0, 0, 0, 0, []),
  (69, .iconst (3), 1, 0, 0, 0, (3), 0, []),
  (70, .iadd, 1, 0, 0, 0, 0, 0, []),
  (71, .iaload, 1, 0, 0, 0, 0, 0, []),
  (72, .aload_n 0, 1, 0, 0, 0, 0, 0, []),
  (73, .getfield 13, 3, 12, 3, 2, 0, 0, []),
  (76, .iload_n 1, 1, 1, 0, 0, 0, 0, []),
  (77, .iconst (4), 1, 0, 0, 0, (4), 0, []),
  (78, .iadd, 1, 0, 0, 0, 0, 0, []),
  (79, .iaload, 1, 0, 0, 0, 0, 0, []),
  (80, .if_icmp .ne (5), 3, 85, 0, 0, 0, 0, []),
  (83, .iconst (1), 1, 0, 0, 0, (1), 0, []),
  (84, .ireturn, 1, 0, 0, 0, 0, 0, []),
  (85, .aload_n 0, 1, 0, 0, 0, 0, 0, []),
  (86, .aload_n 0, 1, 0, 0, 0, 0, 0, []),
  (87, .getfield 13, 3, 12, 3, 2, 0, 0, []),
  (90, .iload_n 1, 1, 1, 0, 0, 0, 0, []),
  (91, .iconst (3), 1, 0, 0, 0, (3), 0, []),
  (92, .iadd, 1, 0, 0, 0, 0, 0, []),
  (93, .iaload, 1, 0, 0, 0, 0, 0, []),
  (94, .aload_n 0, 1, 0, 0, 0, 0, 0, []),
  (95, .getfield 13, 3, 12, 3, 2, 0, 0, []),
  (98, .iload_n 1, 1, 1, 0, 0, 0, 0, []),
  (99, .iconst (4), 1, 0, 0, 0, (4), 0, []),
  (100, .iadd, 1, 0, 0, 0, 0, 0, []),
  (101, .iaload, 1, 0, 0, 0, 0, 0, []),
  (102, .invokevirtual 378, 3, 261, 3, 0, 0, 0, []),
  (105, .aload_n 0, 1, 0, 0, 0, 0, 0, []),
  (106, .aload_n 0, 1, 0, 0, 0, 0, 0, []),
  (107, .getfield 375, 3, 12, 31, 1, 0, 0, []),
  (110, .putfield 381, 3, 12, 32, 1, 0, 0, []),
  (113, .aload_n 0, 1, 0, 0, 0, 0, 0, []),
  (114, .getfield 361, 3, 12, 30, 0, 0, 0, []),
  (117, .ifCond .ne (7), 3, 124, 0, 0, 0, 0, []),
  (120, .iconst (1), 1, 0, 0, 0, (1), 0, []),
  (121, .goto (4), 3, 125, 0, 0, 0, 0, []),
  (124, .iconst (0), 1, 0, 0, 0, (0), 0, [])]
set_option maxRecDepth 100000 in
theorem lX12_isSo_59_ck : lX12_isSo_59.all (ra_ck mX12_isSo 12) = true := by decide +kernel
def nX12_isSo_59 (N : Nat) (a0 : Nat) (a1 : Int32) (h : ra_H) : Option (Int32 × ra_H) :=
  (ra_fW h 12 a0 32 (.long ((0 : Int64)))).bind fun h1 =>
  (ra_fR h1 12 a0 3).bind fun x2 =>
  (ra_aI h1 0 x2 (a1 + ((3 : Int32)))).bind fun x3 =>
  (ra_fR h1 12 a0 3).bind fun x4 =>
  (ra_aI h1 0 x4 (a1 + ((4 : Int32)))).bind fun x5 =>
  if x3 = x5 then
    some ((1 : Int32), h1)
  else
    (ra_fR h1 12 a0 3).bind fun x6 =>
    (ra_aI h1 0 x6 (a1 + ((3 : Int32)))).bind fun x7 =>
    (ra_fR h1 12 a0 3).bind fun x8 =>
    (ra_aI h1 0 x8 (a1 + ((4 : Int32)))).bind fun x9 =>
    (fX12_reckonAll N a0 x7 x9 h1).bind fun h10 =>
    (ra_fJ h10 12 a0 31).bind fun x11 =>
    (ra_fW h10 12 a0 32 (.long x11)).bind fun h12 =>
    (ra_fI h12 12 a0 30).bind fun x13 =>
    if x13 = 0 then
      nX12_isSo_125 N ((1 : Int32)) h12
    else
      nX12_isSo_125 N ((0 : Int32)) h12
def kX12_isSo_59 (N : Nat) : Nat → List (Option Value) → List Value → ra_H → Option (Int32 × ra_H) := (ra_k1 125 (fun L S h => match L, S with
  | [_, _], [.int b0] => nX12_isSo_125 N b0 h
  | _, _ => none) ra_k0)
theorem kX12_isSo_59_ok (N : Nat) : ra_kok 3 mX12_isSo ra_oI (kX12_isSo_59 N) := (ra_k1_ok (by
  intro L S h a e
  split at e
  · exact ra_Ru.weak (nX12_isSo_125_ok N _ _ _ e) trivial
  · cases e) ra_k0_ok)
set_option maxRecDepth 100000 in
theorem nX12_isSo_59_ok (N : Nat) (a0 : Nat) (a1 : Int32) (h : ra_H) (r : (Int32 × ra_H)) (e : nX12_isSo_59 N a0 a1 h = some r) : ra_Ru 3 mX12_isSo 59 [some (.ref a0), some (.int a1)] [] h (ra_oI r) :=
  ra_sound (by omega) rfl ra_rI_ok (kX12_isSo_59_ok N) (fun m av h h1 e => (tVX12_isSo_ok N) m av h h1 e) (fun m av h x h1 e => (ra_c0_ok (ro := ra_oI)) m av h (x, h1) e) (fun m av h x h1 e => (ra_c0_ok (ro := ra_oJ)) m av h (x, h1) e) (fun m av h x h1 e => (ra_c0_ok (ro := ra_oR)) m av h (x, h1) e) (fun m av h x h1 e => (ra_c0_ok (ro := ra_oN)) m av h (x, h1) e) (fun m av h x h1 e => (ra_c0_ok (ro := ra_oF)) m av h (x, h1) e) 43 lX12_isSo_59 _ _ _ _ lX12_isSo_59_ck (show ra_run ra_rI (kX12_isSo_59 N) (tVX12_isSo N) ra_c0 ra_c0 ra_c0 ra_c0 ra_c0 43 lX12_isSo_59 [some (.ref a0), some (.int a1)] [] h = some r from e) _ _ rfl
def lX12_isSo_0 : List ra_I := [(0, .aload_n 0, 1, 0, 0, 0, 0, 0, []),
  (1, .getfield 13, 3, 12, 3, 2, 0, 0, []),
  (4, .iload_n 1, 1, 1, 0, 0, 0, 0, []),
  (5, .iconst (5), 1, 0, 0, 0, (5), 0, []),
  (6, .iadd, 1, 0, 0, 0, 0, 0, []),
  (7, .iaload, 1, 0, 0, 0, 0, 0, []),
  (8, .aload_n 0, 1, 0, 0, 0, 0, 0, []),
  (9, .getfield 13, 3, 12, 3, 2, 0, 0, []),
  (12, .iload_n 1, 1, 1, 0, 0, 0, 0, []),
  (13, .bipush (6), 2, 0, 0, 0, (6), 0, []),
  (15, .iadd, 1, 0, 0, 0, 0, 0, []),
  (16, .iaload, 1, 0, 0, 0, 0, 0, []),
  (17, .if_icmp .ge (42), 3, 59, 0, 0, 0, 0, []),
  (20, .aload_n 0, 1, 0, 0, 0, 0, 0, []),
  (21, .aload_n 0, 1, 0, 0, 0, 0, 0, []),
  (22, .getfield 13, 3, 12, 3, 2, 0, 0, []),
  (25, .iload_n 1, 1, 1, 0, 0, 0, 0, []),
  (26, .iconst (5), 1, 0, 0, 0, (5), 0, []),
  (27, .iadd, 1, 0, 0, 0, 0, 0, []),
  (28, .iaload, 1, 0, 0, 0, 0, 0, []),
  (29, .aload_n 0, 1, 0, 0, 0, 0, 0, []),
  (30, .getfield 13, 3, 12, 3, 2, 0, 0, []),
  (33, .iload_n 1, 1, 1, 0, 0, 0, 0, []),
  (34, .bipush (6), 2, 0, 0, 0, (6), 0, []),
  (36, .iadd, 1, 0, 0, 0, 0, 0, []),
  (37, .iaload, 1, 0, 0, 0, 0, 0, []),
  (38, .invokevirtual 378, 3, 261, 3, 0, 0, 0, []),
  (41, .aload_n 0, 1, 0, 0, 0, 0, 0, []),
  (42, .getfield 361, 3, 12, 30, 0, 0, 0, []),
  (45, .ifCond .ne (12), 3, 57, 0, 0, 0, 0, []),
  (48, .aload_n 0, 1, 0, 0, 0, 0, 0, []),
  (49, .getfield 375, 3, 12, 31, 1, 0, 0, []),
  (52, .lconst 0, 1, 0, 0, 0, 0, 0, []),
  (53, .lcmp, 1, 0, 0, 0, 0, 0, []),
  (54, .ifCond .ne (5), 3, 59, 0, 0, 0, 0, [])]
set_option maxRecDepth 100000 in
theorem lX12_isSo_0_ck : lX12_isSo_0.all (ra_ck mX12_isSo 12) = true := by decide +kernel
def nX12_isSo_0 (N : Nat) (a0 : Nat) (a1 : Int32) (h : ra_H) : Option (Int32 × ra_H) :=
  (ra_fR h 12 a0 3).bind fun x1 =>
  (ra_aI h 0 x1 (a1 + ((5 : Int32)))).bind fun x2 =>
  (ra_fR h 12 a0 3).bind fun x3 =>
  (ra_aI h 0 x3 (a1 + ((6 : Int32)))).bind fun x4 =>
  if x2 < x4 then
    (ra_fR h 12 a0 3).bind fun x5 =>
    (ra_aI h 0 x5 (a1 + ((5 : Int32)))).bind fun x6 =>
    (ra_fR h 12 a0 3).bind fun x7 =>
    (ra_aI h 0 x7 (a1 + ((6 : Int32)))).bind fun x8 =>
    (fX12_reckonAll N a0 x6 x8 h).bind fun h9 =>
    (ra_fI h9 12 a0 30).bind fun x10 =>
    if x10 = 0 then
      (ra_fJ h9 12 a0 31).bind fun x11 =>
      if (lg_cmp x11 ((0 : Int64))) = 0 then
        nX12_isSo_57 N h9
      else
        nX12_isSo_59 N a0 a1 h9
    else
      nX12_isSo_57 N h9
  else
    nX12_isSo_59 N a0 a1 h
def kX12_isSo_0 (N : Nat) : Nat → List (Option Value) → List Value → ra_H → Option (Int32 × ra_H) := (ra_k1 57 (fun L S h => match L, S with
  | [_, _], [] => nX12_isSo_57 N h
  | _, _ => none) (ra_k1 59 (fun L S h => match L, S with
  | [some (.ref a0), some (.int a1)], [] => nX12_isSo_59 N a0 a1 h
  | _, _ => none) ra_k0))
theorem kX12_isSo_0_ok (N : Nat) : ra_kok 3 mX12_isSo ra_oI (kX12_isSo_0 N) := (ra_k1_ok (by
  intro L S h a e
  split at e
  · exact ra_Ru.weak (nX12_isSo_57_ok N _ _ e) trivial
  · cases e) (ra_k1_ok (by
  intro L S h a e
  split at e
  · exact ra_Ru.weak (nX12_isSo_59_ok N _ _ _ _ e) ⟨rfl, ⟨rfl, trivial⟩⟩
  · cases e) ra_k0_ok))
set_option maxRecDepth 100000 in
theorem nX12_isSo_0_ok (N : Nat) (a0 : Nat) (a1 : Int32) (h : ra_H) (r : (Int32 × ra_H)) (e : nX12_isSo_0 N a0 a1 h = some r) : ra_Ru 3 mX12_isSo 0 [some (.ref a0), some (.int a1)] [] h (ra_oI r) :=
  ra_sound (by omega) rfl ra_rI_ok (kX12_isSo_0_ok N) (fun m av h h1 e => (tVX12_isSo_ok N) m av h h1 e) (fun m av h x h1 e => (ra_c0_ok (ro := ra_oI)) m av h (x, h1) e) (fun m av h x h1 e => (ra_c0_ok (ro := ra_oJ)) m av h (x, h1) e) (fun m av h x h1 e => (ra_c0_ok (ro := ra_oR)) m av h (x, h1) e) (fun m av h x h1 e => (ra_c0_ok (ro := ra_oN)) m av h (x, h1) e) (fun m av h x h1 e => (ra_c0_ok (ro := ra_oF)) m av h (x, h1) e) 36 lX12_isSo_0 _ _ _ _ lX12_isSo_0_ck (show ra_run ra_rI (kX12_isSo_0 N) (tVX12_isSo N) ra_c0 ra_c0 ra_c0 ra_c0 ra_c0 36 lX12_isSo_0 [some (.ref a0), some (.int a1)] [] h = some r from e) _ _ rfl
def fX12_isSo (N : Nat) (p0 : Nat) (p1 : Int32) (h : ra_H) : Option (Int32 × ra_H) := match ra_isOb h p0 12 with
  | true => (nX12_isSo_0 N p0 p1 h).bind (fun q => ra_rz q.1 q.2)
  | false => none
set_option maxRecDepth 100000 in
theorem mtX12_isSo : ra_MT[260]? = some (mX12_isSo, 1, 1, (1, 13), (8, 75), (0, 91)) := rfl
theorem fX12_isSo_co (N : Nat) (p0 : Nat) (p1 : Int32) (h : ra_H) (r : (Int32 × ra_H)) (e : fX12_isSo N p0 p1 h = some r) (D : Nat) (hD : 4 ≤ D) : ra_CO D 260 [.ref p0, .int p1] h (ra_oI r).1 (ra_oI r).2 := by
  have hw : ra_nw2 [.ref p0, .int p1] ≤ 2 := Nat.le_of_ble_eq_true rfl
  have hdb : ∀ v ∈ ([.ref p0, .int p1] : List Value), ∀ x, v ≠ .double x := by
    intro v hv x hx
    simp [hx] at hv
  unfold fX12_isSo at e
  split at e
  · rename_i ho
    obtain ⟨q, e1, e2⟩ := Option.bind_eq_some_iff.mp e
    obtain ⟨rfl, hz⟩ := ra_rz_of e2
    exact ⟨3, _, mtX12_isSo, hD, ra_ev_of (by decide) hdb hw hz (ra_Ru.weak (nX12_isSo_0_ok N p0 p1 h _ e1) ⟨rfl, ⟨rfl, trivial⟩⟩), (fun _ => ⟨_, _, rfl, ra_rcv_of ho (by decide) rfl⟩), (fun h => absurd h (by decide))⟩
  · cases e
/-! RedMarksModel.ask(III)V -/
def mX12_ask : ra_M := (yX12_ask, cX12_ask, 6, none)
def tIX12_ask (N : Nat) : Nat → List Value → ra_H → Option (Int32 × ra_H) := (ra_c1 260 (fun av h => match av with
  | [.ref z0, .int z1] => fX12_isSo N z0 z1 h
  | _ => none) ra_c0)
theorem tIX12_ask_ok (N : Nat) : ra_cok 4 ra_oI (tIX12_ask N) := (ra_c1_ok (by
  intro av h a e
  split at e
  · exact fX12_isSo_co N _ _ _ _ e 4 (by omega)
  · cases e) ra_c0_ok)
def lX12_ask_127 : List ra_I := [(127, .iinc 4 (1), 3, 4, 0, 0, (1), 0, []),
  (130, .goto (-66), 3, 64, 0, 0, 0, 0, [])]
set_option maxRecDepth 100000 in
theorem lX12_ask_127_ck : lX12_ask_127.all (ra_ck mX12_ask 12) = true := by decide +kernel
def nX12_ask_127 (N : Nat) (c64 : Nat → Int32 → Int32 → ra_H → Option ra_H) (a0 : Nat) (a3 : Int32) (a4 : Int32) (h : ra_H) : Option ra_H :=
  let y1 := a4 + (1 : Int32)
  c64 a0 a3 y1 h
def kX12_ask_127 (N : Nat) (c64 : Nat → Int32 → Int32 → ra_H → Option ra_H) : Nat → List (Option Value) → List Value → ra_H → Option ra_H := (ra_k1 64 (fun L S h => match L, S with
  | [some (.ref a0), _, _, some (.int a3), some (.int a4), _], [] => c64 a0 a3 a4 h
  | _, _ => none) ra_k0)
theorem kX12_ask_127_ok (N : Nat) (c64 : Nat → Int32 → Int32 → ra_H → Option ra_H) (hc64 : ∀ a0 a3 a4 h r, c64 a0 a3 a4 h = some r → ra_Ru 4 mX12_ask 64 [some (.ref a0), none, none, some (.int a3), some (.int a4), none] [] h (ra_oV r)) : ra_kok 4 mX12_ask ra_oV (kX12_ask_127 N c64) := (ra_k1_ok (by
  intro L S h a e
  split at e
  · exact ra_Ru.weak (hc64 _ _ _ _ _ e) ⟨rfl, ⟨rfl, ⟨rfl, trivial⟩⟩⟩
  · cases e) ra_k0_ok)
set_option maxRecDepth 100000 in
theorem nX12_ask_127_ok (N : Nat) (c64 : Nat → Int32 → Int32 → ra_H → Option ra_H) (hc64 : ∀ a0 a3 a4 h r, c64 a0 a3 a4 h = some r → ra_Ru 4 mX12_ask 64 [some (.ref a0), none, none, some (.int a3), some (.int a4), none] [] h (ra_oV r)) (a0 : Nat) (a3 : Int32) (a4 : Int32) (h : ra_H) (r : ra_H) (e : nX12_ask_127 N c64 a0 a3 a4 h = some r) : ra_Ru 4 mX12_ask 127 [some (.ref a0), none, none, some (.int a3), some (.int a4), none] [] h (ra_oV r) :=
  ra_sound (by omega) rfl ra_rV_ok (kX12_ask_127_ok N c64 hc64) (fun m av h h1 e => (ra_c0_ok (ro := ra_oV)) m av h h1 e) (fun m av h x h1 e => (tIX12_ask_ok N) m av h (x, h1) e) (fun m av h x h1 e => (ra_c0_ok (ro := ra_oJ)) m av h (x, h1) e) (fun m av h x h1 e => (ra_c0_ok (ro := ra_oR)) m av h (x, h1) e) (fun m av h x h1 e => (ra_c0_ok (ro := ra_oN)) m av h (x, h1) e) (fun m av h x h1 e => (ra_c0_ok (ro := ra_oF)) m av h (x, h1) e) 3 lX12_ask_127 _ _ _ _ lX12_ask_127_ck (show ra_run ra_rV (kX12_ask_127 N c64) ra_c0 (tIX12_ask N) ra_c0 ra_c0 ra_c0 ra_c0 3 lX12_ask_127 [some (.ref a0), none, none, some (.int a3), some (.int a4), none] [] h = some r from e) _ _ rfl
def lX12_ask_64 : List ra_I := [(64, .iload 4, 2, 4, 0, 0, 0, 0, []),
  (66, .aload_n 0, 1, 0, 0, 0, 0, 0, []),
  (67, .getfield 13, 3, 12, 3, 2, 0, 0, []),
  (70, .aload_n 0, 1, 0, 0, 0, 0, 0, []),
  (71, .getfield 364, 3, 12, 27, 0, 0, 0, []),
  (74, .iconst (1), 1, 0, 0, 0, (1), 0, []),
  (75, .iadd, 1, 0, 0, 0, 0, 0, []),
  (76, .iaload, 1, 0, 0, 0, 0, 0, []),
  (77, .if_icmp .ge (56), 3, 133, 0, 0, 0, 0, []),
  (80, .aload_n 0, 1, 0, 0, 0, 0, 0, []),
  (81, .getfield 364, 3, 12, 27, 0, 0, 0, []),
  (84, .iconst (2), 1, 0, 0, 0, (2), 0, []),
  (85, .iadd, 1, 0, 0, 0, 0, 0, []),
  (86, .bipush (8), 2, 0, 0, 0, (8), 0, []),
  (88, .iload 4, 2, 4, 0, 0, 0, 0, []),
  (90, .imul, 1, 0, 0, 0, 0, 0, []),
  (91, .iadd, 1, 0, 0, 0, 0, 0, []),
  (92, .istore 5, 2, 5, 0, 0, 0, 0, []),
  (94, .aload_n 0, 1, 0, 0, 0, 0, 0, []),
  (95, .getfield 13, 3, 12, 3, 2, 0, 0, []),
  (98, .iload 5, 2, 5, 0, 0, 0, 0, []),
  (100, .iaload, 1, 0, 0, 0, 0, 0, []),
  (101, .iload_n 3, 1, 3, 0, 0, 0, 0, []),
  (102, .if_icmp .ne (25), 3, 127, 0, 0, 0, 0, []),
  (105, .aload_n 0, 1, 0, 0, 0, 0, 0, []),
  (106, .iload 5, 2, 5, 0, 0, 0, 0, []),
  (108, .invokevirtual 390, 3, 260, 2, 1, 0, 0, []),
  (111, .ifCond .eq (16), 3, 127, 0, 0, 0, 0, []),
  (114, .aload_n 0, 1, 0, 0, 0, 0, 0, []),
  (115, .iconst (1), 1, 0, 0, 0, (1), 0, []),
  (116, .putfield 384, 3, 12, 33, 4, 0, 0, []),
  (119, .aload_n 0, 1, 0, 0, 0, 0, 0, []),
  (120, .aload_n 0, 1, 0, 0, 0, 0, 0, []),
  (121, .getfield 381, 3, 12, 32, 1, 0, 0, []),
  (124, .putfield 387, 3, 12, 34, 1, 0, 0, []),
  (133, .return_, 1, 0, 0, 0, 0, 0, [])]
set_option maxRecDepth 100000 in
theorem lX12_ask_64_ck : lX12_ask_64.all (ra_ck mX12_ask 12) = true := by decide +kernel
def nX12_ask_64 (N : Nat) : Nat → Nat → Int32 → Int32 → ra_H → Option ra_H
  | 0, _, _, _, _ => none
  | n + 1, a0, a3, a4, h =>
  (ra_fR h 12 a0 3).bind fun x1 =>
  (ra_fI h 12 a0 27).bind fun x2 =>
  (ra_aI h 0 x1 (x2 + ((1 : Int32)))).bind fun x3 =>
  if a4 < x3 then
    (ra_fI h 12 a0 27).bind fun x4 =>
    let y5 := (x4 + ((2 : Int32))) + (((8 : Int32)) * a4)
    (ra_fR h 12 a0 3).bind fun x6 =>
    (ra_aI h 0 x6 y5).bind fun x7 =>
    if x7 = a3 then
      (fX12_isSo N a0 y5 h).bind fun q8 =>
      if q8.1 = 0 then
        nX12_ask_127 N (nX12_ask_64 N n) a0 a3 a4 q8.2
      else
        if ((1 : Int32)) = 0 ∨ ((1 : Int32)) = 1 then
        (ra_fW q8.2 12 a0 33 (.int ((1 : Int32)))).bind fun h9 =>
        (ra_fJ h9 12 a0 32).bind fun x10 =>
        (ra_fW h9 12 a0 34 (.long x10)).bind fun h11 =>
        nX12_ask_127 N (nX12_ask_64 N n) a0 a3 a4 h11
        else none
    else
      nX12_ask_127 N (nX12_ask_64 N n) a0 a3 a4 h
  else
    some h
def kX12_ask_64 (N : Nat) (cs : Nat → Int32 → Int32 → ra_H → Option ra_H) : Nat → List (Option Value) → List Value → ra_H → Option ra_H := (ra_k1 127 (fun L S h => match L, S with
  | [some (.ref a0), _, _, some (.int a3), some (.int a4), _], [] => nX12_ask_127 N cs a0 a3 a4 h
  | _, _ => none) ra_k0)
theorem kX12_ask_64_ok (N : Nat) (cs : Nat → Int32 → Int32 → ra_H → Option ra_H) (hcs : ∀ a0 a3 a4 h r, cs a0 a3 a4 h = some r → ra_Ru 4 mX12_ask 64 [some (.ref a0), none, none, some (.int a3), some (.int a4), none] [] h (ra_oV r)) : ra_kok 4 mX12_ask ra_oV (kX12_ask_64 N cs) := (ra_k1_ok (by
  intro L S h a e
  split at e
  · exact ra_Ru.weak (nX12_ask_127_ok N cs hcs _ _ _ _ _ e) ⟨rfl, ⟨rfl, ⟨rfl, trivial⟩⟩⟩
  · cases e) ra_k0_ok)
set_option maxRecDepth 100000 in
theorem nX12_ask_64_ok (N : Nat) : ∀ n a0 a3 a4 h r, nX12_ask_64 N n a0 a3 a4 h = some r → ra_Ru 4 mX12_ask 64 [some (.ref a0), none, none, some (.int a3), some (.int a4), none] [] h (ra_oV r) := by
  intro n
  induction n with
  | zero => intro a0 a3 a4 h r e; cases e
  | succ n ih =>
    intro a0 a3 a4 h r e
    exact ra_sound (by omega) rfl ra_rV_ok (kX12_ask_64_ok N (nX12_ask_64 N n) ih) (fun m av h h1 e => (ra_c0_ok (ro := ra_oV)) m av h h1 e) (fun m av h x h1 e => (tIX12_ask_ok N) m av h (x, h1) e) (fun m av h x h1 e => (ra_c0_ok (ro := ra_oJ)) m av h (x, h1) e) (fun m av h x h1 e => (ra_c0_ok (ro := ra_oR)) m av h (x, h1) e) (fun m av h x h1 e => (ra_c0_ok (ro := ra_oN)) m av h (x, h1) e) (fun m av h x h1 e => (ra_c0_ok (ro := ra_oF)) m av h (x, h1) e) 37 lX12_ask_64 _ _ _ _ lX12_ask_64_ck (show ra_run ra_rV (kX12_ask_64 N (nX12_ask_64 N n)) ra_c0 (tIX12_ask N) ra_c0 ra_c0 ra_c0 ra_c0 37 lX12_ask_64 [some (.ref a0), none, none, some (.int a3), some (.int a4), none] [] h = some r from e) _ _ rfl
def lX12_ask_3 : List ra_I := [(3, .iload 4, 2, 4, 0, 0, 0, 0, []),
  (5, .bipush (12), 2, 0, 0, 0, (12), 0, []),
  (7, .if_icmp .ge (31), 3, 38, 0, 0, 0, 0, []),
  (10, .aload_n 0, 1, 0, 0, 0, 0, 0, []),
  (11, .getfield 86, 3, 12, 28, 2, 0, 0, []),
  (14, .iload 4, 2, 4, 0, 0, 0, 0, []),
  (16, .iconst (1), 1, 0, 0, 0, (1), 0, []),
  (17, .iadd, 1, 0, 0, 0, 0, 0, []),
  (18, .aload_n 0, 1, 0, 0, 0, 0, 0, []),
  (19, .getfield 13, 3, 12, 3, 2, 0, 0, []),
  (22, .bipush (12), 2, 0, 0, 0, (12), 0, []),
  (24, .iload_n 2, 1, 2, 0, 0, 0, 0, []),
  (25, .imul, 1, 0, 0, 0, 0, 0, []),
  (26, .iload 4, 2, 4, 0, 0, 0, 0, []),
  (28, .iadd, 1, 0, 0, 0, 0, 0, []),
  (29, .iaload, 1, 0, 0, 0, 0, 0, []),
  (30, .i2l, 1, 0, 0, 0, 0, 0, []),
  (31, .lastore, 1, 0, 0, 0, 0, 0, []),
  (32, .iinc 4 (1), 3, 4, 0, 0, (1), 0, []),
  (35, .goto (-32), 3, 3, 0, 0, 0, 0, []),
  (38, .aload_n 0, 1, 0, 0, 0, 0, 0, []),
  (39, .sipush (760), 3, 0, 0, 0, (760), 0, []),
  (42, .sipush (900), 3, 0, 0, 0, (900), 0, []),
  (45, .iload_n 1, 1, 1, 0, 0, 0, 0, []),
  (46, .imul, 1, 0, 0, 0, 0, 0, []),
  (47, .iadd, 1, 0, 0, 0, 0, 0, []),
  (48, .putfield 364, 3, 12, 27, 0, 0, 0, []),
  (51, .aload_n 0, 1, 0, 0, 0, 0, 0, []),
  (52, .iconst (0), 1, 0, 0, 0, (0), 0, []),
  (53, .putfield 384, 3, 12, 33, 4, 0, 0, []),
  (56, .aload_n 0, 1, 0, 0, 0, 0, 0, []),
  (57, .lconst 0, 1, 0, 0, 0, 0, 0, []),
  (58, .putfield 387, 3, 12, 34, 1, 0, 0, []),
  (61, .iconst (0), 1, 0, 0, 0, (0), 0, []),
  (62, .istore 4, 2, 4, 0, 0, 0, 0, [])]
set_option maxRecDepth 100000 in
theorem lX12_ask_3_ck : lX12_ask_3.all (ra_ck mX12_ask 12) = true := by decide +kernel
def nX12_ask_3 (N : Nat) : Nat → Nat → Int32 → Int32 → Int32 → Int32 → ra_H → Option ra_H
  | 0, _, _, _, _, _, _ => none
  | n + 1, a0, a1, a2, a3, a4, h =>
  if a4 < ((12 : Int32)) then
    (ra_fR h 12 a0 28).bind fun x4 =>
    (ra_fR h 12 a0 3).bind fun x5 =>
    (ra_aI h 0 x5 ((((12 : Int32)) * a2) + a4)).bind fun x6 =>
    (ra_aWJ h x4 (a4 + ((1 : Int32))) (Int32.toInt64 x6)).bind fun h7 =>
    let y8 := a4 + (1 : Int32)
    nX12_ask_3 N n a0 a1 a2 a3 y8 h7
  else
    (ra_fW h 12 a0 27 (.int (((760 : Int32)) + (((900 : Int32)) * a1)))).bind fun h1 =>
    if ((0 : Int32)) = 0 ∨ ((0 : Int32)) = 1 then
    (ra_fW h1 12 a0 33 (.int ((0 : Int32)))).bind fun h2 =>
    (ra_fW h2 12 a0 34 (.long ((0 : Int64)))).bind fun h3 =>
    nX12_ask_64 N N a0 a3 ((0 : Int32)) h3
    else none
def kX12_ask_3 (N : Nat) (cs : Nat → Int32 → Int32 → Int32 → Int32 → ra_H → Option ra_H) : Nat → List (Option Value) → List Value → ra_H → Option ra_H := (ra_k1 3 (fun L S h => match L, S with
  | [some (.ref a0), some (.int a1), some (.int a2), some (.int a3), some (.int a4), _], [] => cs a0 a1 a2 a3 a4 h
  | _, _ => none) (ra_k1 64 (fun L S h => match L, S with
  | [some (.ref a0), _, _, some (.int a3), some (.int a4), _], [] => nX12_ask_64 N N a0 a3 a4 h
  | _, _ => none) ra_k0))
theorem kX12_ask_3_ok (N : Nat) (cs : Nat → Int32 → Int32 → Int32 → Int32 → ra_H → Option ra_H) (hcs : ∀ a0 a1 a2 a3 a4 h r, cs a0 a1 a2 a3 a4 h = some r → ra_Ru 4 mX12_ask 3 [some (.ref a0), some (.int a1), some (.int a2), some (.int a3), some (.int a4), none] [] h (ra_oV r)) : ra_kok 4 mX12_ask ra_oV (kX12_ask_3 N cs) := (ra_k1_ok (by
  intro L S h a e
  split at e
  · exact ra_Ru.weak (hcs _ _ _ _ _ _ _ e) ⟨rfl, ⟨rfl, ⟨rfl, ⟨rfl, ⟨rfl, trivial⟩⟩⟩⟩⟩
  · cases e) (ra_k1_ok (by
  intro L S h a e
  split at e
  · exact ra_Ru.weak (nX12_ask_64_ok N N _ _ _ _ _ e) ⟨rfl, ⟨rfl, ⟨rfl, trivial⟩⟩⟩
  · cases e) ra_k0_ok))
set_option maxRecDepth 100000 in
theorem nX12_ask_3_ok (N : Nat) : ∀ n a0 a1 a2 a3 a4 h r, nX12_ask_3 N n a0 a1 a2 a3 a4 h = some r → ra_Ru 4 mX12_ask 3 [some (.ref a0), some (.int a1), some (.int a2), some (.int a3), some (.int a4), none] [] h (ra_oV r) := by
  intro n
  induction n with
  | zero => intro a0 a1 a2 a3 a4 h r e; cases e
  | succ n ih =>
    intro a0 a1 a2 a3 a4 h r e
    exact ra_sound (by omega) rfl ra_rV_ok (kX12_ask_3_ok N (nX12_ask_3 N n) ih) (fun m av h h1 e => (ra_c0_ok (ro := ra_oV)) m av h h1 e) (fun m av h x h1 e => (tIX12_ask_ok N) m av h (x, h1) e) (fun m av h x h1 e => (ra_c0_ok (ro := ra_oJ)) m av h (x, h1) e) (fun m av h x h1 e => (ra_c0_ok (ro := ra_oR)) m av h (x, h1) e) (fun m av h x h1 e => (ra_c0_ok (ro := ra_oN)) m av h (x, h1) e) (fun m av h x h1 e => (ra_c0_ok (ro := ra_oF)) m av h (x, h1) e) 36 lX12_ask_3 _ _ _ _ lX12_ask_3_ck (show ra_run ra_rV (kX12_ask_3 N (nX12_ask_3 N n)) ra_c0 (tIX12_ask N) ra_c0 ra_c0 ra_c0 ra_c0 36 lX12_ask_3 [some (.ref a0), some (.int a1), some (.int a2), some (.int a3), some (.int a4), none] [] h = some r from e) _ _ rfl
def lX12_ask_0 : List ra_I := [(0, .iconst (0), 1, 0, 0, 0, (0), 0, []),
  (1, .istore 4, 2, 4, 0, 0, 0, 0, [])]
set_option maxRecDepth 100000 in
theorem lX12_ask_0_ck : lX12_ask_0.all (ra_ck mX12_ask 12) = true := by decide +kernel
def nX12_ask_0 (N : Nat) (a0 : Nat) (a1 : Int32) (a2 : Int32) (a3 : Int32) (h : ra_H) : Option ra_H :=
  nX12_ask_3 N N a0 a1 a2 a3 ((0 : Int32)) h
def kX12_ask_0 (N : Nat) : Nat → List (Option Value) → List Value → ra_H → Option ra_H := (ra_k1 3 (fun L S h => match L, S with
  | [some (.ref a0), some (.int a1), some (.int a2), some (.int a3), some (.int a4), _], [] => nX12_ask_3 N N a0 a1 a2 a3 a4 h
  | _, _ => none) ra_k0)
theorem kX12_ask_0_ok (N : Nat) : ra_kok 4 mX12_ask ra_oV (kX12_ask_0 N) := (ra_k1_ok (by
  intro L S h a e
  split at e
  · exact ra_Ru.weak (nX12_ask_3_ok N N _ _ _ _ _ _ _ e) ⟨rfl, ⟨rfl, ⟨rfl, ⟨rfl, ⟨rfl, trivial⟩⟩⟩⟩⟩
  · cases e) ra_k0_ok)
set_option maxRecDepth 100000 in
theorem nX12_ask_0_ok (N : Nat) (a0 : Nat) (a1 : Int32) (a2 : Int32) (a3 : Int32) (h : ra_H) (r : ra_H) (e : nX12_ask_0 N a0 a1 a2 a3 h = some r) : ra_Ru 4 mX12_ask 0 [some (.ref a0), some (.int a1), some (.int a2), some (.int a3), none, none] [] h (ra_oV r) :=
  ra_sound (by omega) rfl ra_rV_ok (kX12_ask_0_ok N) (fun m av h h1 e => (ra_c0_ok (ro := ra_oV)) m av h h1 e) (fun m av h x h1 e => (tIX12_ask_ok N) m av h (x, h1) e) (fun m av h x h1 e => (ra_c0_ok (ro := ra_oJ)) m av h (x, h1) e) (fun m av h x h1 e => (ra_c0_ok (ro := ra_oR)) m av h (x, h1) e) (fun m av h x h1 e => (ra_c0_ok (ro := ra_oN)) m av h (x, h1) e) (fun m av h x h1 e => (ra_c0_ok (ro := ra_oF)) m av h (x, h1) e) 3 lX12_ask_0 _ _ _ _ lX12_ask_0_ck (show ra_run ra_rV (kX12_ask_0 N) ra_c0 (tIX12_ask N) ra_c0 ra_c0 ra_c0 ra_c0 3 lX12_ask_0 [some (.ref a0), some (.int a1), some (.int a2), some (.int a3), none, none] [] h = some r from e) _ _ rfl
def fX12_ask (N : Nat) (p0 : Nat) (p1 : Int32) (p2 : Int32) (p3 : Int32) (h : ra_H) : Option ra_H := match ra_isOb h p0 12 with
  | true => nX12_ask_0 N p0 p1 p2 p3 h
  | false => none
set_option maxRecDepth 100000 in
theorem mtX12_ask : ra_MT[259]? = some (mX12_ask, 1, 3, (1, 13), (8, 71), (0, 90)) := rfl
theorem fX12_ask_co (N : Nat) (p0 : Nat) (p1 : Int32) (p2 : Int32) (p3 : Int32) (h : ra_H) (r : ra_H) (e : fX12_ask N p0 p1 p2 p3 h = some r) (D : Nat) (hD : 5 ≤ D) : ra_CO D 259 [.ref p0, .int p1, .int p2, .int p3] h (ra_oV r).1 (ra_oV r).2 := by
  have hw : ra_nw2 [.ref p0, .int p1, .int p2, .int p3] ≤ 6 := Nat.le_of_ble_eq_true rfl
  have hdb : ∀ v ∈ ([.ref p0, .int p1, .int p2, .int p3] : List Value), ∀ x, v ≠ .double x := by
    intro v hv x hx
    simp [hx] at hv
  unfold fX12_ask at e
  split at e
  · rename_i ho
    have e1 := e
    exact ⟨4, _, mtX12_ask, hD, ra_ev_of (by decide) hdb hw trivial (ra_Ru.weak (nX12_ask_0_ok N p0 p1 p2 p3 h _ e1) ⟨rfl, ⟨rfl, ⟨rfl, ⟨rfl, trivial⟩⟩⟩⟩), (fun _ => ⟨_, _, rfl, ra_rcv_of ho (by decide) rfl⟩), (fun h => absurd h (by decide))⟩
  · cases e
/-! RedMarksModel.tell(I)I -/
def mX12_tell : ra_M := (yX12_tell, cX12_tell, 2, (some .int))
def lX12_tell_28 : List ra_I := [(28, .iload_n 1, 1, 1, 0, 0, 0, 0, []),
  (29, .ireturn, 1, 0, 0, 0, 0, 0, [])]
set_option maxRecDepth 100000 in
theorem lX12_tell_28_ck : lX12_tell_28.all (ra_ck mX12_tell 12) = true := by decide +kernel
def nX12_tell_28 (N : Nat) (a1 : Int32) (h : ra_H) : Option (Int32 × ra_H) :=
  some (a1, h)
def kX12_tell_28 (N : Nat) : Nat → List (Option Value) → List Value → ra_H → Option (Int32 × ra_H) := ra_k0
theorem kX12_tell_28_ok (N : Nat) : ra_kok 1 mX12_tell ra_oI (kX12_tell_28 N) := ra_k0_ok
set_option maxRecDepth 100000 in
theorem nX12_tell_28_ok (N : Nat) (a1 : Int32) (h : ra_H) (r : (Int32 × ra_H)) (e : nX12_tell_28 N a1 h = some r) : ra_Ru 1 mX12_tell 28 [none, some (.int a1)] [] h (ra_oI r) :=
  ra_sound (by omega) rfl ra_rI_ok (kX12_tell_28_ok N) (fun m av h h1 e => (ra_c0_ok (ro := ra_oV)) m av h h1 e) (fun m av h x h1 e => (ra_c0_ok (ro := ra_oI)) m av h (x, h1) e) (fun m av h x h1 e => (ra_c0_ok (ro := ra_oJ)) m av h (x, h1) e) (fun m av h x h1 e => (ra_c0_ok (ro := ra_oR)) m av h (x, h1) e) (fun m av h x h1 e => (ra_c0_ok (ro := ra_oN)) m av h (x, h1) e) (fun m av h x h1 e => (ra_c0_ok (ro := ra_oF)) m av h (x, h1) e) 3 lX12_tell_28 _ _ _ _ lX12_tell_28_ck (show ra_run ra_rI (kX12_tell_28 N) ra_c0 ra_c0 ra_c0 ra_c0 ra_c0 ra_c0 3 lX12_tell_28 [none, some (.int a1)] [] h = some r from e) _ _ rfl
def lX12_tell_10 : List ra_I := [(10, .putfield 150, 3, 12, 1, 0, 0, 0, []),
  (13, .iload_n 1, 1, 1, 0, 0, 0, 0, []),
  (14, .ifCond .ge (14), 3, 28, 0, 0, 0, 0, []),
  (17, .aload_n 0, 1, 0, 0, 0, 0, 0, []),
  (18, .getfield 7, 3, 12, 2, 2, 0, 0, []),
  (21, .iload_n 1, 1, 1, 0, 0, 0, 0, []),
  (22, .ineg, 1, 0, 0, 0, 0, 0, []),
  (23, .dup2, 1, 0, 0, 0, 0, 0, []),
  (24, .iaload, 1, 0, 0, 0, 0, 0, []),
  (25, .iconst (1), 1, 0, 0, 0, (1), 0, []),
  (26, .iadd, 1, 0, 0, 0, 0, 0, []),
  (27, .iastore, 1, 0, 0, 0, 0, 0, [])]
set_option maxRecDepth 100000 in
theorem lX12_tell_10_ck : lX12_tell_10.all (ra_ck mX12_tell 12) = true := by decide +kernel
def nX12_tell_10 (N : Nat) (a0 : Nat) (a1 : Int32) (b0 : Nat) (b1 : Int32) (h : ra_H) : Option (Int32 × ra_H) :=
  (ra_fW h 12 b0 1 (.int b1)).bind fun h1 =>
  if a1 < 0 then
    (ra_fR h1 12 a0 2).bind fun x2 =>
    (ra_aI h1 0 x2 (-a1)).bind fun x3 =>
    (ra_aW h1 0 x2 (-a1) (x3 + ((1 : Int32)))).bind fun h4 =>
    nX12_tell_28 N a1 h4
  else
    nX12_tell_28 N a1 h1
def kX12_tell_10 (N : Nat) : Nat → List (Option Value) → List Value → ra_H → Option (Int32 × ra_H) := (ra_k1 28 (fun L S h => match L, S with
  | [_, some (.int a1)], [] => nX12_tell_28 N a1 h
  | _, _ => none) ra_k0)
theorem kX12_tell_10_ok (N : Nat) : ra_kok 1 mX12_tell ra_oI (kX12_tell_10 N) := (ra_k1_ok (by
  intro L S h a e
  split at e
  · exact ra_Ru.weak (nX12_tell_28_ok N _ _ _ e) ⟨rfl, trivial⟩
  · cases e) ra_k0_ok)
set_option maxRecDepth 100000 in
theorem nX12_tell_10_ok (N : Nat) (a0 : Nat) (a1 : Int32) (b0 : Nat) (b1 : Int32) (h : ra_H) (r : (Int32 × ra_H)) (e : nX12_tell_10 N a0 a1 b0 b1 h = some r) : ra_Ru 1 mX12_tell 10 [some (.ref a0), some (.int a1)] [.int b1, .ref b0] h (ra_oI r) :=
  ra_sound (by omega) rfl ra_rI_ok (kX12_tell_10_ok N) (fun m av h h1 e => (ra_c0_ok (ro := ra_oV)) m av h h1 e) (fun m av h x h1 e => (ra_c0_ok (ro := ra_oI)) m av h (x, h1) e) (fun m av h x h1 e => (ra_c0_ok (ro := ra_oJ)) m av h (x, h1) e) (fun m av h x h1 e => (ra_c0_ok (ro := ra_oR)) m av h (x, h1) e) (fun m av h x h1 e => (ra_c0_ok (ro := ra_oN)) m av h (x, h1) e) (fun m av h x h1 e => (ra_c0_ok (ro := ra_oF)) m av h (x, h1) e) 13 lX12_tell_10 _ _ _ _ lX12_tell_10_ck (show ra_run ra_rI (kX12_tell_10 N) ra_c0 ra_c0 ra_c0 ra_c0 ra_c0 ra_c0 13 lX12_tell_10 [some (.ref a0), some (.int a1)] [.int b1, .ref b0] h = some r from e) _ _ rfl
def lX12_tell_0 : List ra_I := [(0, .aload_n 0, 1, 0, 0, 0, 0, 0, []),
  (1, .iload_n 1, 1, 1, 0, 0, 0, 0, []),
  (2, .ifCond .ge (7), 3, 9, 0, 0, 0, 0, []),
  (5, .iload_n 1, 1, 1, 0, 0, 0, 0, []),
  (6, .goto (4), 3, 10, 0, 0, 0, 0, []),
  (9, .iconst (0), 1, 0, 0, 0, (0), 0, [])]
set_option maxRecDepth 100000 in
theorem lX12_tell_0_ck : lX12_tell_0.all (ra_ck mX12_tell 12) = true := by decide +kernel
def nX12_tell_0 (N : Nat) (a0 : Nat) (a1 : Int32) (h : ra_H) : Option (Int32 × ra_H) :=
  if a1 < 0 then
    nX12_tell_10 N a0 a1 a0 a1 h
  else
    nX12_tell_10 N a0 a1 a0 ((0 : Int32)) h
def kX12_tell_0 (N : Nat) : Nat → List (Option Value) → List Value → ra_H → Option (Int32 × ra_H) := (ra_k1 10 (fun L S h => match L, S with
  | [some (.ref a0), some (.int a1)], [.int b1, .ref b0] => nX12_tell_10 N a0 a1 b0 b1 h
  | _, _ => none) ra_k0)
theorem kX12_tell_0_ok (N : Nat) : ra_kok 1 mX12_tell ra_oI (kX12_tell_0 N) := (ra_k1_ok (by
  intro L S h a e
  split at e
  · exact ra_Ru.weak (nX12_tell_10_ok N _ _ _ _ _ _ e) ⟨rfl, ⟨rfl, trivial⟩⟩
  · cases e) ra_k0_ok)
set_option maxRecDepth 100000 in
theorem nX12_tell_0_ok (N : Nat) (a0 : Nat) (a1 : Int32) (h : ra_H) (r : (Int32 × ra_H)) (e : nX12_tell_0 N a0 a1 h = some r) : ra_Ru 1 mX12_tell 0 [some (.ref a0), some (.int a1)] [] h (ra_oI r) :=
  ra_sound (by omega) rfl ra_rI_ok (kX12_tell_0_ok N) (fun m av h h1 e => (ra_c0_ok (ro := ra_oV)) m av h h1 e) (fun m av h x h1 e => (ra_c0_ok (ro := ra_oI)) m av h (x, h1) e) (fun m av h x h1 e => (ra_c0_ok (ro := ra_oJ)) m av h (x, h1) e) (fun m av h x h1 e => (ra_c0_ok (ro := ra_oR)) m av h (x, h1) e) (fun m av h x h1 e => (ra_c0_ok (ro := ra_oN)) m av h (x, h1) e) (fun m av h x h1 e => (ra_c0_ok (ro := ra_oF)) m av h (x, h1) e) 7 lX12_tell_0 _ _ _ _ lX12_tell_0_ck (show ra_run ra_rI (kX12_tell_0 N) ra_c0 ra_c0 ra_c0 ra_c0 ra_c0 ra_c0 7 lX12_tell_0 [some (.ref a0), some (.int a1)] [] h = some r from e) _ _ rfl
def fX12_tell (N : Nat) (p0 : Nat) (p1 : Int32) (h : ra_H) : Option (Int32 × ra_H) := match ra_isOb h p0 12 with
  | true => nX12_tell_0 N p0 p1 h
  | false => none
set_option maxRecDepth 100000 in
theorem mtX12_tell : ra_MT[210]? = some (mX12_tell, 1, 1, (1, 13), (7, 93), (0, 62)) := rfl
theorem fX12_tell_co (N : Nat) (p0 : Nat) (p1 : Int32) (h : ra_H) (r : (Int32 × ra_H)) (e : fX12_tell N p0 p1 h = some r) (D : Nat) (hD : 2 ≤ D) : ra_CO D 210 [.ref p0, .int p1] h (ra_oI r).1 (ra_oI r).2 := by
  have hw : ra_nw2 [.ref p0, .int p1] ≤ 2 := Nat.le_of_ble_eq_true rfl
  have hdb : ∀ v ∈ ([.ref p0, .int p1] : List Value), ∀ x, v ≠ .double x := by
    intro v hv x hx
    simp [hx] at hv
  unfold fX12_tell at e
  split at e
  · rename_i ho
    have e1 := e
    exact ⟨1, _, mtX12_tell, hD, ra_ev_of (by decide) hdb hw trivial (ra_Ru.weak (nX12_tell_0_ok N p0 p1 h _ e1) ⟨rfl, ⟨rfl, trivial⟩⟩), (fun _ => ⟨_, _, rfl, ra_rcv_of ho (by decide) rfl⟩), (fun h => absurd h (by decide))⟩
  · cases e
/-! RedMarksModel.back(I)I -/
def mX12_back : ra_M := (yX12_back, cX12_back, 3, (some .int))
def tIX12_back (N : Nat) : Nat → List Value → ra_H → Option (Int32 × ra_H) := (ra_c1 209 (fun av h => match av with
  | [.long z0, .long z1, .long z2] => fX12_in N z0 z1 z2 h
  | _ => none) (ra_c1 210 (fun av h => match av with
  | [.ref z0, .int z1] => fX12_tell N z0 z1 h
  | _ => none) ra_c0))
theorem tIX12_back_ok (N : Nat) : ra_cok 2 ra_oI (tIX12_back N) := (ra_c1_ok (by
  intro av h a e
  split at e
  · exact fX12_in_co N _ _ _ _ _ e 2 (by omega)
  · cases e) (ra_c1_ok (by
  intro av h a e
  split at e
  · exact fX12_tell_co N _ _ _ _ e 2 (by omega)
  · cases e) ra_c0_ok))
def lX12_back_39 : List ra_I := [(39, .iload_n 2, 1, 2, 0, 0, 0, 0, []),
  (40, .sipush (7960), 3, 0, 0, 0, (7960), 0, []),
  (43, .if_icmp .ge (27), 3, 70, 0, 0, 0, 0, []),
  (46, .aload_n 0, 1, 0, 0, 0, 0, 0, []),
  (47, .getfield 13, 3, 12, 3, 2, 0, 0, []),
  (50, .iload_n 2, 1, 2, 0, 0, 0, 0, []),
  (51, .aload_n 0, 1, 0, 0, 0, 0, 0, []),
  (52, .getfield 16, 3, 12, 4, 2, 0, 0, []),
  (55, .sipush (7960), 3, 0, 0, 0, (7960), 0, []),
  (58, .iload_n 1, 1, 1, 0, 0, 0, 0, []),
  (59, .imul, 1, 0, 0, 0, 0, 0, []),
  (60, .iload_n 2, 1, 2, 0, 0, 0, 0, []),
  (61, .iadd, 1, 0, 0, 0, 0, 0, []),
  (62, .iaload, 1, 0, 0, 0, 0, 0, []),
  (63, .iastore, 1, 0, 0, 0, 0, 0, []),
  (64, .iinc 2 (1), 3, 2, 0, 0, (1), 0, []),
  (67, .goto (-28), 3, 39, 0, 0, 0, 0, []),
  (70, .aload_n 0, 1, 0, 0, 0, 0, 0, []),
  (71, .iconst (0), 1, 0, 0, 0, (0), 0, []),
  (72, .invokevirtual 157, 3, 210, 2, 1, 0, 0, []),
  (75, .ireturn, 1, 0, 0, 0, 0, 0, [])]
set_option maxRecDepth 100000 in
theorem lX12_back_39_ck : lX12_back_39.all (ra_ck mX12_back 12) = true := by decide +kernel
def nX12_back_39 (N : Nat) : Nat → Nat → Int32 → Int32 → ra_H → Option (Int32 × ra_H)
  | 0, _, _, _, _ => none
  | n + 1, a0, a1, a2, h =>
  if a2 < ((7960 : Int32)) then
    (ra_fR h 12 a0 3).bind fun x2 =>
    (ra_fR h 12 a0 4).bind fun x3 =>
    (ra_aI h 0 x3 ((((7960 : Int32)) * a1) + a2)).bind fun x4 =>
    (ra_aW h 0 x2 a2 x4).bind fun h5 =>
    let y6 := a2 + (1 : Int32)
    nX12_back_39 N n a0 a1 y6 h5
  else
    (fX12_tell N a0 ((0 : Int32)) h).bind fun q1 =>
    some (q1.1, q1.2)
def kX12_back_39 (N : Nat) (cs : Nat → Int32 → Int32 → ra_H → Option (Int32 × ra_H)) : Nat → List (Option Value) → List Value → ra_H → Option (Int32 × ra_H) := (ra_k1 39 (fun L S h => match L, S with
  | [some (.ref a0), some (.int a1), some (.int a2)], [] => cs a0 a1 a2 h
  | _, _ => none) ra_k0)
theorem kX12_back_39_ok (N : Nat) (cs : Nat → Int32 → Int32 → ra_H → Option (Int32 × ra_H)) (hcs : ∀ a0 a1 a2 h r, cs a0 a1 a2 h = some r → ra_Ru 2 mX12_back 39 [some (.ref a0), some (.int a1), some (.int a2)] [] h (ra_oI r)) : ra_kok 2 mX12_back ra_oI (kX12_back_39 N cs) := (ra_k1_ok (by
  intro L S h a e
  split at e
  · exact ra_Ru.weak (hcs _ _ _ _ _ e) ⟨rfl, ⟨rfl, ⟨rfl, trivial⟩⟩⟩
  · cases e) ra_k0_ok)
set_option maxRecDepth 100000 in
theorem nX12_back_39_ok (N : Nat) : ∀ n a0 a1 a2 h r, nX12_back_39 N n a0 a1 a2 h = some r → ra_Ru 2 mX12_back 39 [some (.ref a0), some (.int a1), some (.int a2)] [] h (ra_oI r) := by
  intro n
  induction n with
  | zero => intro a0 a1 a2 h r e; cases e
  | succ n ih =>
    intro a0 a1 a2 h r e
    exact ra_sound (by omega) rfl ra_rI_ok (kX12_back_39_ok N (nX12_back_39 N n) ih) (fun m av h h1 e => (ra_c0_ok (ro := ra_oV)) m av h h1 e) (fun m av h x h1 e => (tIX12_back_ok N) m av h (x, h1) e) (fun m av h x h1 e => (ra_c0_ok (ro := ra_oJ)) m av h (x, h1) e) (fun m av h x h1 e => (ra_c0_ok (ro := ra_oR)) m av h (x, h1) e) (fun m av h x h1 e => (ra_c0_ok (ro := ra_oN)) m av h (x, h1) e) (fun m av h x h1 e => (ra_c0_ok (ro := ra_oF)) m av h (x, h1) e) 22 lX12_back_39 _ _ _ _ lX12_back_39_ck (show ra_run ra_rI (kX12_back_39 N (nX12_back_39 N n)) ra_c0 (tIX12_back N) ra_c0 ra_c0 ra_c0 ra_c0 22 lX12_back_39 [some (.ref a0), some (.int a1), some (.int a2)] [] h = some r from e) _ _ rfl
def lX12_back_0 : List ra_I := [(0, .aload_n 0, 1, 0, 0, 0, 0, 0, []),
  (1, .iconst (0), 1, 0, 0, 0, (0), 0, []),
  (2, .putfield 147, 3, 12, 0, 0, 0, 0, []),
  (5, .iload_n 1, 1, 1, 0, 0, 0, 0, []),
  (6, .i2l, 1, 0, 0, 0, 0, 0, []),
  (7, .lconst 0, 1, 0, 0, 0, 0, 0, []),
  (8, .lconst 1, 1, 0, 0, 0, 0, 1, []),
  (9, .invokestatic 153, 3, 209, 3, 1, 0, 0, []),
  (12, .ifCond .ne (9), 3, 21, 0, 0, 0, 0, []),
  (15, .aload_n 0, 1, 0, 0, 0, 0, 0, []),
  (16, .iconst (-1), 1, 0, 0, 0, (-1), 0, []),
  (17, .invokevirtual 157, 3, 210, 2, 1, 0, 0, []),
  (20, .ireturn, 1, 0, 0, 0, 0, 0, []),
  (21, .aload_n 0, 1, 0, 0, 0, 0, 0, []),
  (22, .getfield 19, 3, 12, 5, 2, 0, 0, []),
  (25, .iload_n 1, 1, 1, 0, 0, 0, 0, []),
  (26, .baload, 1, 0, 0, 0, 0, 0, []),
  (27, .ifCond .ne (10), 3, 37, 0, 0, 0, 0, []),
  (30, .aload_n 0, 1, 0, 0, 0, 0, 0, []),
  (31, .bipush (-2), 2, 0, 0, 0, (-2), 0, []),
  (33, .invokevirtual 157, 3, 210, 2, 1, 0, 0, []),
  (36, .ireturn, 1, 0, 0, 0, 0, 0, []),
  (37, .iconst (0), 1, 0, 0, 0, (0), 0, []),
  (38, .istore_n 2, 1, 2, 0, 0, 0, 0, [])]
set_option maxRecDepth 100000 in
theorem lX12_back_0_ck : lX12_back_0.all (ra_ck mX12_back 12) = true := by decide +kernel
def nX12_back_0 (N : Nat) (a0 : Nat) (a1 : Int32) (h : ra_H) : Option (Int32 × ra_H) :=
  (ra_fW h 12 a0 0 (.int ((0 : Int32)))).bind fun h1 =>
  (fX12_in N (Int32.toInt64 a1) ((0 : Int64)) ((1 : Int64)) h1).bind fun q2 =>
  if q2.1 = 0 then
    (fX12_tell N a0 ((-1 : Int32)) q2.2).bind fun q6 =>
    some (q6.1, q6.2)
  else
    (ra_fR q2.2 12 a0 5).bind fun x3 =>
    (ra_aI q2.2 2 x3 a1).bind fun x4 =>
    if x4 = 0 then
      (fX12_tell N a0 ((-2 : Int32)) q2.2).bind fun q5 =>
      some (q5.1, q5.2)
    else
      nX12_back_39 N N a0 a1 ((0 : Int32)) q2.2
def kX12_back_0 (N : Nat) : Nat → List (Option Value) → List Value → ra_H → Option (Int32 × ra_H) := (ra_k1 39 (fun L S h => match L, S with
  | [some (.ref a0), some (.int a1), some (.int a2)], [] => nX12_back_39 N N a0 a1 a2 h
  | _, _ => none) ra_k0)
theorem kX12_back_0_ok (N : Nat) : ra_kok 2 mX12_back ra_oI (kX12_back_0 N) := (ra_k1_ok (by
  intro L S h a e
  split at e
  · exact ra_Ru.weak (nX12_back_39_ok N N _ _ _ _ _ e) ⟨rfl, ⟨rfl, ⟨rfl, trivial⟩⟩⟩
  · cases e) ra_k0_ok)
set_option maxRecDepth 100000 in
theorem nX12_back_0_ok (N : Nat) (a0 : Nat) (a1 : Int32) (h : ra_H) (r : (Int32 × ra_H)) (e : nX12_back_0 N a0 a1 h = some r) : ra_Ru 2 mX12_back 0 [some (.ref a0), some (.int a1), none] [] h (ra_oI r) :=
  ra_sound (by omega) rfl ra_rI_ok (kX12_back_0_ok N) (fun m av h h1 e => (ra_c0_ok (ro := ra_oV)) m av h h1 e) (fun m av h x h1 e => (tIX12_back_ok N) m av h (x, h1) e) (fun m av h x h1 e => (ra_c0_ok (ro := ra_oJ)) m av h (x, h1) e) (fun m av h x h1 e => (ra_c0_ok (ro := ra_oR)) m av h (x, h1) e) (fun m av h x h1 e => (ra_c0_ok (ro := ra_oN)) m av h (x, h1) e) (fun m av h x h1 e => (ra_c0_ok (ro := ra_oF)) m av h (x, h1) e) 25 lX12_back_0 _ _ _ _ lX12_back_0_ck (show ra_run ra_rI (kX12_back_0 N) ra_c0 (tIX12_back N) ra_c0 ra_c0 ra_c0 ra_c0 25 lX12_back_0 [some (.ref a0), some (.int a1), none] [] h = some r from e) _ _ rfl
def fX12_back (N : Nat) (p0 : Nat) (p1 : Int32) (h : ra_H) : Option (Int32 × ra_H) := match ra_isOb h p0 12 with
  | true => nX12_back_0 N p0 p1 h
  | false => none
set_option maxRecDepth 100000 in
theorem mtX12_back : ra_MT[211]? = some (mX12_back, 1, 1, (1, 13), (7, 96), (7, 97)) := rfl
theorem fX12_back_co (N : Nat) (p0 : Nat) (p1 : Int32) (h : ra_H) (r : (Int32 × ra_H)) (e : fX12_back N p0 p1 h = some r) (D : Nat) (hD : 3 ≤ D) : ra_CO D 211 [.ref p0, .int p1] h (ra_oI r).1 (ra_oI r).2 := by
  have hw : ra_nw2 [.ref p0, .int p1] ≤ 3 := Nat.le_of_ble_eq_true rfl
  have hdb : ∀ v ∈ ([.ref p0, .int p1] : List Value), ∀ x, v ≠ .double x := by
    intro v hv x hx
    simp [hx] at hv
  unfold fX12_back at e
  split at e
  · rename_i ho
    have e1 := e
    exact ⟨2, _, mtX12_back, hD, ra_ev_of (by decide) hdb hw trivial (ra_Ru.weak (nX12_back_0_ok N p0 p1 h _ e1) ⟨rfl, ⟨rfl, trivial⟩⟩), (fun _ => ⟨_, _, rfl, ra_rcv_of ho (by decide) rfl⟩), (fun h => absurd h (by decide))⟩
  · cases e
/-! RedMarksModel.was(I)I -/
def mX12_was : ra_M := (yX12_was, cX12_was, 2, (some .int))
def lX12_was_0 : List ra_I := [(0, .aload_n 0, 1, 0, 0, 0, 0, 0, []),
  (1, .iconst (0), 1, 0, 0, 0, (0), 0, []),
  (2, .putfield 150, 3, 12, 1, 0, 0, 0, []),
  (5, .iload_n 1, 1, 1, 0, 0, 0, 0, []),
  (6, .ireturn, 1, 0, 0, 0, 0, 0, [])]
set_option maxRecDepth 100000 in
theorem lX12_was_0_ck : lX12_was_0.all (ra_ck mX12_was 12) = true := by decide +kernel
def nX12_was_0 (N : Nat) (a0 : Nat) (a1 : Int32) (h : ra_H) : Option (Int32 × ra_H) :=
  (ra_fW h 12 a0 1 (.int ((0 : Int32)))).bind fun h1 =>
  some (a1, h1)
def kX12_was_0 (N : Nat) : Nat → List (Option Value) → List Value → ra_H → Option (Int32 × ra_H) := ra_k0
theorem kX12_was_0_ok (N : Nat) : ra_kok 1 mX12_was ra_oI (kX12_was_0 N) := ra_k0_ok
set_option maxRecDepth 100000 in
theorem nX12_was_0_ok (N : Nat) (a0 : Nat) (a1 : Int32) (h : ra_H) (r : (Int32 × ra_H)) (e : nX12_was_0 N a0 a1 h = some r) : ra_Ru 1 mX12_was 0 [some (.ref a0), some (.int a1)] [] h (ra_oI r) :=
  ra_sound (by omega) rfl ra_rI_ok (kX12_was_0_ok N) (fun m av h h1 e => (ra_c0_ok (ro := ra_oV)) m av h h1 e) (fun m av h x h1 e => (ra_c0_ok (ro := ra_oI)) m av h (x, h1) e) (fun m av h x h1 e => (ra_c0_ok (ro := ra_oJ)) m av h (x, h1) e) (fun m av h x h1 e => (ra_c0_ok (ro := ra_oR)) m av h (x, h1) e) (fun m av h x h1 e => (ra_c0_ok (ro := ra_oN)) m av h (x, h1) e) (fun m av h x h1 e => (ra_c0_ok (ro := ra_oF)) m av h (x, h1) e) 6 lX12_was_0 _ _ _ _ lX12_was_0_ck (show ra_run ra_rI (kX12_was_0 N) ra_c0 ra_c0 ra_c0 ra_c0 ra_c0 ra_c0 6 lX12_was_0 [some (.ref a0), some (.int a1)] [] h = some r from e) _ _ rfl
def fX12_was (N : Nat) (p0 : Nat) (p1 : Int32) (h : ra_H) : Option (Int32 × ra_H) := match ra_isOb h p0 12 with
  | true => nX12_was_0 N p0 p1 h
  | false => none
set_option maxRecDepth 100000 in
theorem mtX12_was : ra_MT[219]? = some (mX12_was, 1, 1, (1, 13), (7, 136), (0, 65)) := rfl
theorem fX12_was_co (N : Nat) (p0 : Nat) (p1 : Int32) (h : ra_H) (r : (Int32 × ra_H)) (e : fX12_was N p0 p1 h = some r) (D : Nat) (hD : 2 ≤ D) : ra_CO D 219 [.ref p0, .int p1] h (ra_oI r).1 (ra_oI r).2 := by
  have hw : ra_nw2 [.ref p0, .int p1] ≤ 2 := Nat.le_of_ble_eq_true rfl
  have hdb : ∀ v ∈ ([.ref p0, .int p1] : List Value), ∀ x, v ≠ .double x := by
    intro v hv x hx
    simp [hx] at hv
  unfold fX12_was at e
  split at e
  · rename_i ho
    have e1 := e
    exact ⟨1, _, mtX12_was, hD, ra_ev_of (by decide) hdb hw trivial (ra_Ru.weak (nX12_was_0_ok N p0 p1 h _ e1) ⟨rfl, ⟨rfl, trivial⟩⟩), (fun _ => ⟨_, _, rfl, ra_rcv_of ho (by decide) rfl⟩), (fun h => absurd h (by decide))⟩
  · cases e
/-! RedMarksModel.bay(II)I -/
def mX12_bay : ra_M := (yX12_bay, cX12_bay, 4, (some .int))
def tIX12_bay (N : Nat) : Nat → List Value → ra_H → Option (Int32 × ra_H) := (ra_c1 209 (fun av h => match av with
  | [.long z0, .long z1, .long z2] => fX12_in N z0 z1 z2 h
  | _ => none) (ra_c1 210 (fun av h => match av with
  | [.ref z0, .int z1] => fX12_tell N z0 z1 h
  | _ => none) (ra_c1 219 (fun av h => match av with
  | [.ref z0, .int z1] => fX12_was N z0 z1 h
  | _ => none) ra_c0)))
theorem tIX12_bay_ok (N : Nat) : ra_cok 2 ra_oI (tIX12_bay N) := (ra_c1_ok (by
  intro av h a e
  split at e
  · exact fX12_in_co N _ _ _ _ _ e 2 (by omega)
  · cases e) (ra_c1_ok (by
  intro av h a e
  split at e
  · exact fX12_tell_co N _ _ _ _ e 2 (by omega)
  · cases e) (ra_c1_ok (by
  intro av h a e
  split at e
  · exact fX12_was_co N _ _ _ _ e 2 (by omega)
  · cases e) ra_c0_ok)))
def lX12_bay_29 : List ra_I := [(29, .aload_n 0, 1, 0, 0, 0, 0, 0, []),
  (30, .iconst (-1), 1, 0, 0, 0, (-1), 0, []),
  (31, .invokevirtual 157, 3, 210, 2, 1, 0, 0, []),
  (34, .ireturn, 1, 0, 0, 0, 0, 0, [])]
set_option maxRecDepth 100000 in
theorem lX12_bay_29_ck : lX12_bay_29.all (ra_ck mX12_bay 12) = true := by decide +kernel
def nX12_bay_29 (N : Nat) (a0 : Nat) (h : ra_H) : Option (Int32 × ra_H) :=
  (fX12_tell N a0 ((-1 : Int32)) h).bind fun q1 =>
  some (q1.1, q1.2)
def kX12_bay_29 (N : Nat) : Nat → List (Option Value) → List Value → ra_H → Option (Int32 × ra_H) := ra_k0
theorem kX12_bay_29_ok (N : Nat) : ra_kok 2 mX12_bay ra_oI (kX12_bay_29 N) := ra_k0_ok
set_option maxRecDepth 100000 in
theorem nX12_bay_29_ok (N : Nat) (a0 : Nat) (h : ra_H) (r : (Int32 × ra_H)) (e : nX12_bay_29 N a0 h = some r) : ra_Ru 2 mX12_bay 29 [some (.ref a0), none, none, none] [] h (ra_oI r) :=
  ra_sound (by omega) rfl ra_rI_ok (kX12_bay_29_ok N) (fun m av h h1 e => (ra_c0_ok (ro := ra_oV)) m av h h1 e) (fun m av h x h1 e => (tIX12_bay_ok N) m av h (x, h1) e) (fun m av h x h1 e => (ra_c0_ok (ro := ra_oJ)) m av h (x, h1) e) (fun m av h x h1 e => (ra_c0_ok (ro := ra_oR)) m av h (x, h1) e) (fun m av h x h1 e => (ra_c0_ok (ro := ra_oN)) m av h (x, h1) e) (fun m av h x h1 e => (ra_c0_ok (ro := ra_oF)) m av h (x, h1) e) 5 lX12_bay_29 _ _ _ _ lX12_bay_29_ck (show ra_run ra_rI (kX12_bay_29 N) ra_c0 (tIX12_bay N) ra_c0 ra_c0 ra_c0 ra_c0 5 lX12_bay_29 [some (.ref a0), none, none, none] [] h = some r from e) _ _ rfl
def lX12_bay_0 : List ra_I := [(0, .aload_n 0, 1, 0, 0, 0, 0, 0, []),
  (1, .iconst (0), 1, 0, 0, 0, (0), 0, []),
  (2, .putfield 147, 3, 12, 0, 0, 0, 0, []),
  (5, .iload_n 1, 1, 1, 0, 0, 0, 0, []),
  (6, .i2l, 1, 0, 0, 0, 0, 0, []),
  (7, .lconst 0, 1, 0, 0, 0, 0, 0, []),
  (8, .ldc2_w 161, 3, 0, 0, 0, 0, (8), []),
  (11, .invokestatic 153, 3, 209, 3, 1, 0, 0, []),
  (14, .ifCond .eq (15), 3, 29, 0, 0, 0, 0, []),
  (17, .iload_n 2, 1, 2, 0, 0, 0, 0, []),
  (18, .i2l, 1, 0, 0, 0, 0, 0, []),
  (19, .lconst 0, 1, 0, 0, 0, 0, 0, []),
  (20, .ldc2_w 173, 3, 0, 0, 0, 0, (2), []),
  (23, .invokestatic 153, 3, 209, 3, 1, 0, 0, []),
  (26, .ifCond .ne (9), 3, 35, 0, 0, 0, 0, []),
  (35, .aload_n 0, 1, 0, 0, 0, 0, 0, []),
  (36, .getfield 13, 3, 12, 3, 2, 0, 0, []),
  (39, .sipush (490), 3, 0, 0, 0, (490), 0, []),
  (42, .iload_n 1, 1, 1, 0, 0, 0, 0, []),
  (43, .iadd, 1, 0, 0, 0, 0, 0, []),
  (44, .iaload, 1, 0, 0, 0, 0, 0, []),
  (45, .istore_n 3, 1, 3, 0, 0, 0, 0, []),
  (46, .aload_n 0, 1, 0, 0, 0, 0, 0, []),
  (47, .getfield 13, 3, 12, 3, 2, 0, 0, []),
  (50, .sipush (490), 3, 0, 0, 0, (490), 0, []),
  (53, .iload_n 1, 1, 1, 0, 0, 0, 0, []),
  (54, .iadd, 1, 0, 0, 0, 0, 0, []),
  (55, .iload_n 2, 1, 2, 0, 0, 0, 0, []),
  (56, .iastore, 1, 0, 0, 0, 0, 0, []),
  (57, .aload_n 0, 1, 0, 0, 0, 0, 0, []),
  (58, .iload_n 3, 1, 3, 0, 0, 0, 0, []),
  (59, .invokevirtual 202, 3, 219, 2, 1, 0, 0, []),
  (62, .ireturn, 1, 0, 0, 0, 0, 0, [])]
set_option maxRecDepth 100000 in
theorem lX12_bay_0_ck : lX12_bay_0.all (ra_ck mX12_bay 12) = true := by decide +kernel
def nX12_bay_0 (N : Nat) (a0 : Nat) (a1 : Int32) (a2 : Int32) (h : ra_H) : Option (Int32 × ra_H) :=
  (ra_fW h 12 a0 0 (.int ((0 : Int32)))).bind fun h1 =>
  (fX12_in N (Int32.toInt64 a1) ((0 : Int64)) ((8 : Int64)) h1).bind fun q2 =>
  if q2.1 = 0 then
    nX12_bay_29 N a0 q2.2
  else
    (fX12_in N (Int32.toInt64 a2) ((0 : Int64)) ((2 : Int64)) q2.2).bind fun q3 =>
    if q3.1 = 0 then
      nX12_bay_29 N a0 q3.2
    else
      (ra_fR q3.2 12 a0 3).bind fun x4 =>
      (ra_aI q3.2 0 x4 (((490 : Int32)) + a1)).bind fun x5 =>
      (ra_fR q3.2 12 a0 3).bind fun x6 =>
      (ra_aW q3.2 0 x6 (((490 : Int32)) + a1) a2).bind fun h7 =>
      (fX12_was N a0 x5 h7).bind fun q8 =>
      some (q8.1, q8.2)
def kX12_bay_0 (N : Nat) : Nat → List (Option Value) → List Value → ra_H → Option (Int32 × ra_H) := (ra_k1 29 (fun L S h => match L, S with
  | [some (.ref a0), _, _, _], [] => nX12_bay_29 N a0 h
  | _, _ => none) ra_k0)
theorem kX12_bay_0_ok (N : Nat) : ra_kok 2 mX12_bay ra_oI (kX12_bay_0 N) := (ra_k1_ok (by
  intro L S h a e
  split at e
  · exact ra_Ru.weak (nX12_bay_29_ok N _ _ _ e) ⟨rfl, trivial⟩
  · cases e) ra_k0_ok)
set_option maxRecDepth 100000 in
theorem nX12_bay_0_ok (N : Nat) (a0 : Nat) (a1 : Int32) (a2 : Int32) (h : ra_H) (r : (Int32 × ra_H)) (e : nX12_bay_0 N a0 a1 a2 h = some r) : ra_Ru 2 mX12_bay 0 [some (.ref a0), some (.int a1), some (.int a2), none] [] h (ra_oI r) :=
  ra_sound (by omega) rfl ra_rI_ok (kX12_bay_0_ok N) (fun m av h h1 e => (ra_c0_ok (ro := ra_oV)) m av h h1 e) (fun m av h x h1 e => (tIX12_bay_ok N) m av h (x, h1) e) (fun m av h x h1 e => (ra_c0_ok (ro := ra_oJ)) m av h (x, h1) e) (fun m av h x h1 e => (ra_c0_ok (ro := ra_oR)) m av h (x, h1) e) (fun m av h x h1 e => (ra_c0_ok (ro := ra_oN)) m av h (x, h1) e) (fun m av h x h1 e => (ra_c0_ok (ro := ra_oF)) m av h (x, h1) e) 34 lX12_bay_0 _ _ _ _ lX12_bay_0_ck (show ra_run ra_rI (kX12_bay_0 N) ra_c0 (tIX12_bay N) ra_c0 ra_c0 ra_c0 ra_c0 34 lX12_bay_0 [some (.ref a0), some (.int a1), some (.int a2), none] [] h = some r from e) _ _ rfl
def fX12_bay (N : Nat) (p0 : Nat) (p1 : Int32) (p2 : Int32) (h : ra_H) : Option (Int32 × ra_H) := match ra_isOb h p0 12 with
  | true => nX12_bay_0 N p0 p1 p2 h
  | false => none
set_option maxRecDepth 100000 in
theorem mtX12_bay : ra_MT[222]? = some (mX12_bay, 1, 2, (1, 13), (7, 147), (7, 148)) := rfl
theorem fX12_bay_co (N : Nat) (p0 : Nat) (p1 : Int32) (p2 : Int32) (h : ra_H) (r : (Int32 × ra_H)) (e : fX12_bay N p0 p1 p2 h = some r) (D : Nat) (hD : 3 ≤ D) : ra_CO D 222 [.ref p0, .int p1, .int p2] h (ra_oI r).1 (ra_oI r).2 := by
  have hw : ra_nw2 [.ref p0, .int p1, .int p2] ≤ 4 := Nat.le_of_ble_eq_true rfl
  have hdb : ∀ v ∈ ([.ref p0, .int p1, .int p2] : List Value), ∀ x, v ≠ .double x := by
    intro v hv x hx
    simp [hx] at hv
  unfold fX12_bay at e
  split at e
  · rename_i ho
    have e1 := e
    exact ⟨2, _, mtX12_bay, hD, ra_ev_of (by decide) hdb hw trivial (ra_Ru.weak (nX12_bay_0_ok N p0 p1 p2 h _ e1) ⟨rfl, ⟨rfl, ⟨rfl, trivial⟩⟩⟩), (fun _ => ⟨_, _, rfl, ra_rcv_of ho (by decide) rfl⟩), (fun h => absurd h (by decide))⟩
  · cases e
/-! RedMarksModel.isDigit(I)Z -/
def mX12_isDigit : ra_M := (yX12_isDigit, cX12_isDigit, 1, (some .boolean))
def lX12_isDigit_17 : List ra_I := [(17, .ireturn, 1, 0, 0, 0, 0, 0, [])]
set_option maxRecDepth 100000 in
theorem lX12_isDigit_17_ck : lX12_isDigit_17.all (ra_ck mX12_isDigit 12) = true := by decide +kernel
def nX12_isDigit_17 (N : Nat) (b0 : Int32) (h : ra_H) : Option (Int32 × ra_H) :=
  some (b0, h)
def kX12_isDigit_17 (N : Nat) : Nat → List (Option Value) → List Value → ra_H → Option (Int32 × ra_H) := ra_k0
theorem kX12_isDigit_17_ok (N : Nat) : ra_kok 1 mX12_isDigit ra_oI (kX12_isDigit_17 N) := ra_k0_ok
set_option maxRecDepth 100000 in
theorem nX12_isDigit_17_ok (N : Nat) (b0 : Int32) (h : ra_H) (r : (Int32 × ra_H)) (e : nX12_isDigit_17 N b0 h = some r) : ra_Ru 1 mX12_isDigit 17 [none] [.int b0] h (ra_oI r) :=
  ra_sound (by omega) rfl ra_rI_ok (kX12_isDigit_17_ok N) (fun m av h h1 e => (ra_c0_ok (ro := ra_oV)) m av h h1 e) (fun m av h x h1 e => (ra_c0_ok (ro := ra_oI)) m av h (x, h1) e) (fun m av h x h1 e => (ra_c0_ok (ro := ra_oJ)) m av h (x, h1) e) (fun m av h x h1 e => (ra_c0_ok (ro := ra_oR)) m av h (x, h1) e) (fun m av h x h1 e => (ra_c0_ok (ro := ra_oN)) m av h (x, h1) e) (fun m av h x h1 e => (ra_c0_ok (ro := ra_oF)) m av h (x, h1) e) 2 lX12_isDigit_17 _ _ _ _ lX12_isDigit_17_ck (show ra_run ra_rI (kX12_isDigit_17 N) ra_c0 ra_c0 ra_c0 ra_c0 ra_c0 ra_c0 2 lX12_isDigit_17 [none] [.int b0] h = some r from e) _ _ rfl
def lX12_isDigit_16 : List ra_I := [(16, .iconst (0), 1, 0, 0, 0, (0), 0, [])]
set_option maxRecDepth 100000 in
theorem lX12_isDigit_16_ck : lX12_isDigit_16.all (ra_ck mX12_isDigit 12) = true := by decide +kernel
def nX12_isDigit_16 (N : Nat) (h : ra_H) : Option (Int32 × ra_H) :=
  nX12_isDigit_17 N ((0 : Int32)) h
def kX12_isDigit_16 (N : Nat) : Nat → List (Option Value) → List Value → ra_H → Option (Int32 × ra_H) := (ra_k1 17 (fun L S h => match L, S with
  | [_], [.int b0] => nX12_isDigit_17 N b0 h
  | _, _ => none) ra_k0)
theorem kX12_isDigit_16_ok (N : Nat) : ra_kok 1 mX12_isDigit ra_oI (kX12_isDigit_16 N) := (ra_k1_ok (by
  intro L S h a e
  split at e
  · exact ra_Ru.weak (nX12_isDigit_17_ok N _ _ _ e) trivial
  · cases e) ra_k0_ok)
set_option maxRecDepth 100000 in
theorem nX12_isDigit_16_ok (N : Nat) (h : ra_H) (r : (Int32 × ra_H)) (e : nX12_isDigit_16 N h = some r) : ra_Ru 1 mX12_isDigit 16 [none] [] h (ra_oI r) :=
  ra_sound (by omega) rfl ra_rI_ok (kX12_isDigit_16_ok N) (fun m av h h1 e => (ra_c0_ok (ro := ra_oV)) m av h h1 e) (fun m av h x h1 e => (ra_c0_ok (ro := ra_oI)) m av h (x, h1) e) (fun m av h x h1 e => (ra_c0_ok (ro := ra_oJ)) m av h (x, h1) e) (fun m av h x h1 e => (ra_c0_ok (ro := ra_oR)) m av h (x, h1) e) (fun m av h x h1 e => (ra_c0_ok (ro := ra_oN)) m av h (x, h1) e) (fun m av h x h1 e => (ra_c0_ok (ro := ra_oF)) m av h (x, h1) e) 2 lX12_isDigit_16 _ _ _ _ lX12_isDigit_16_ck (show ra_run ra_rI (kX12_isDigit_16 N) ra_c0 ra_c0 ra_c0 ra_c0 ra_c0 ra_c0 2 lX12_isDigit_16 [none] [] h = some r from e) _ _ rfl
def lX12_isDigit_0 : List ra_I := [(0, .iload_n 0, 1, 0, 0, 0, 0, 0, []),
  (1, .bipush (48), 2, 0, 0, 0, (48), 0, []),
  (3, .if_icmp .lt (13), 3, 16, 0, 0, 0, 0, []),
  (6, .iload_n 0, 1, 0, 0, 0, 0, 0, []),
  (7, .bipush (57), 2, 0, 0, 0, (57), 0, []),
  (9, .if_icmp .gt (7), 3, 16, 0, 0, 0, 0, []),
  (12, .iconst (1), 1, 0, 0, 0, (1), 0, []),
  (13, .goto (4), 3, 17, 0, 0, 0, 0, [])]
set_option maxRecDepth 100000 in
theorem lX12_isDigit_0_ck : lX12_isDigit_0.all (ra_ck mX12_isDigit 12) = true := by decide +kernel
def nX12_isDigit_0 (N : Nat) (a0 : Int32) (h : ra_H) : Option (Int32 × ra_H) :=
  if a0 < ((48 : Int32)) then
    nX12_isDigit_16 N h
  else
    if a0 ≤ ((57 : Int32)) then
      nX12_isDigit_17 N ((1 : Int32)) h
    else
      nX12_isDigit_16 N h
def kX12_isDigit_0 (N : Nat) : Nat → List (Option Value) → List Value → ra_H → Option (Int32 × ra_H) := (ra_k1 16 (fun L S h => match L, S with
  | [_], [] => nX12_isDigit_16 N h
  | _, _ => none) (ra_k1 17 (fun L S h => match L, S with
  | [_], [.int b0] => nX12_isDigit_17 N b0 h
  | _, _ => none) ra_k0))
theorem kX12_isDigit_0_ok (N : Nat) : ra_kok 1 mX12_isDigit ra_oI (kX12_isDigit_0 N) := (ra_k1_ok (by
  intro L S h a e
  split at e
  · exact ra_Ru.weak (nX12_isDigit_16_ok N _ _ e) trivial
  · cases e) (ra_k1_ok (by
  intro L S h a e
  split at e
  · exact ra_Ru.weak (nX12_isDigit_17_ok N _ _ _ e) trivial
  · cases e) ra_k0_ok))
set_option maxRecDepth 100000 in
theorem nX12_isDigit_0_ok (N : Nat) (a0 : Int32) (h : ra_H) (r : (Int32 × ra_H)) (e : nX12_isDigit_0 N a0 h = some r) : ra_Ru 1 mX12_isDigit 0 [some (.int a0)] [] h (ra_oI r) :=
  ra_sound (by omega) rfl ra_rI_ok (kX12_isDigit_0_ok N) (fun m av h h1 e => (ra_c0_ok (ro := ra_oV)) m av h h1 e) (fun m av h x h1 e => (ra_c0_ok (ro := ra_oI)) m av h (x, h1) e) (fun m av h x h1 e => (ra_c0_ok (ro := ra_oJ)) m av h (x, h1) e) (fun m av h x h1 e => (ra_c0_ok (ro := ra_oR)) m av h (x, h1) e) (fun m av h x h1 e => (ra_c0_ok (ro := ra_oN)) m av h (x, h1) e) (fun m av h x h1 e => (ra_c0_ok (ro := ra_oF)) m av h (x, h1) e) 9 lX12_isDigit_0 _ _ _ _ lX12_isDigit_0_ck (show ra_run ra_rI (kX12_isDigit_0 N) ra_c0 ra_c0 ra_c0 ra_c0 ra_c0 ra_c0 9 lX12_isDigit_0 [some (.int a0)] [] h = some r from e) _ _ rfl
def fX12_isDigit (N : Nat) (p0 : Int32) (h : ra_H) : Option (Int32 × ra_H) := (nX12_isDigit_0 N p0 h).bind (fun q => ra_rz q.1 q.2)
set_option maxRecDepth 100000 in
theorem mtX12_isDigit : ra_MT[235]? = some (mX12_isDigit, 0, 1, (1, 13), (7, 200), (0, 0)) := rfl
theorem fX12_isDigit_co (N : Nat) (p0 : Int32) (h : ra_H) (r : (Int32 × ra_H)) (e : fX12_isDigit N p0 h = some r) (D : Nat) (hD : 2 ≤ D) : ra_CO D 235 [.int p0] h (ra_oI r).1 (ra_oI r).2 := by
  have hw : ra_nw2 [.int p0] ≤ 1 := Nat.le_of_ble_eq_true rfl
  have hdb : ∀ v ∈ ([.int p0] : List Value), ∀ x, v ≠ .double x := by
    intro v hv x hx
    simp [hx] at hv
  unfold fX12_isDigit at e
  obtain ⟨q, e1, e2⟩ := Option.bind_eq_some_iff.mp e
  obtain ⟨rfl, hz⟩ := ra_rz_of e2
  exact ⟨1, _, mtX12_isDigit, hD, ra_ev_of (by decide) hdb hw hz (ra_Ru.weak (nX12_isDigit_0_ok N p0 h _ e1) ⟨rfl, trivial⟩), (fun h => absurd h (by decide)), (fun h => absurd h (by decide))⟩
/-! RedMarksModel.isSmall(I)Z -/
def mX12_isSmall : ra_M := (yX12_isSmall, cX12_isSmall, 1, (some .boolean))
def lX12_isSmall_17 : List ra_I := [(17, .ireturn, 1, 0, 0, 0, 0, 0, [])]
set_option maxRecDepth 100000 in
theorem lX12_isSmall_17_ck : lX12_isSmall_17.all (ra_ck mX12_isSmall 12) = true := by decide +kernel
def nX12_isSmall_17 (N : Nat) (b0 : Int32) (h : ra_H) : Option (Int32 × ra_H) :=
  some (b0, h)
def kX12_isSmall_17 (N : Nat) : Nat → List (Option Value) → List Value → ra_H → Option (Int32 × ra_H) := ra_k0
theorem kX12_isSmall_17_ok (N : Nat) : ra_kok 1 mX12_isSmall ra_oI (kX12_isSmall_17 N) := ra_k0_ok
set_option maxRecDepth 100000 in
theorem nX12_isSmall_17_ok (N : Nat) (b0 : Int32) (h : ra_H) (r : (Int32 × ra_H)) (e : nX12_isSmall_17 N b0 h = some r) : ra_Ru 1 mX12_isSmall 17 [none] [.int b0] h (ra_oI r) :=
  ra_sound (by omega) rfl ra_rI_ok (kX12_isSmall_17_ok N) (fun m av h h1 e => (ra_c0_ok (ro := ra_oV)) m av h h1 e) (fun m av h x h1 e => (ra_c0_ok (ro := ra_oI)) m av h (x, h1) e) (fun m av h x h1 e => (ra_c0_ok (ro := ra_oJ)) m av h (x, h1) e) (fun m av h x h1 e => (ra_c0_ok (ro := ra_oR)) m av h (x, h1) e) (fun m av h x h1 e => (ra_c0_ok (ro := ra_oN)) m av h (x, h1) e) (fun m av h x h1 e => (ra_c0_ok (ro := ra_oF)) m av h (x, h1) e) 2 lX12_isSmall_17 _ _ _ _ lX12_isSmall_17_ck (show ra_run ra_rI (kX12_isSmall_17 N) ra_c0 ra_c0 ra_c0 ra_c0 ra_c0 ra_c0 2 lX12_isSmall_17 [none] [.int b0] h = some r from e) _ _ rfl
def lX12_isSmall_16 : List ra_I := [(16, .iconst (0), 1, 0, 0, 0, (0), 0, [])]
set_option maxRecDepth 100000 in
theorem lX12_isSmall_16_ck : lX12_isSmall_16.all (ra_ck mX12_isSmall 12) = true := by decide +kernel
def nX12_isSmall_16 (N : Nat) (h : ra_H) : Option (Int32 × ra_H) :=
  nX12_isSmall_17 N ((0 : Int32)) h
def kX12_isSmall_16 (N : Nat) : Nat → List (Option Value) → List Value → ra_H → Option (Int32 × ra_H) := (ra_k1 17 (fun L S h => match L, S with
  | [_], [.int b0] => nX12_isSmall_17 N b0 h
  | _, _ => none) ra_k0)
theorem kX12_isSmall_16_ok (N : Nat) : ra_kok 1 mX12_isSmall ra_oI (kX12_isSmall_16 N) := (ra_k1_ok (by
  intro L S h a e
  split at e
  · exact ra_Ru.weak (nX12_isSmall_17_ok N _ _ _ e) trivial
  · cases e) ra_k0_ok)
set_option maxRecDepth 100000 in
theorem nX12_isSmall_16_ok (N : Nat) (h : ra_H) (r : (Int32 × ra_H)) (e : nX12_isSmall_16 N h = some r) : ra_Ru 1 mX12_isSmall 16 [none] [] h (ra_oI r) :=
  ra_sound (by omega) rfl ra_rI_ok (kX12_isSmall_16_ok N) (fun m av h h1 e => (ra_c0_ok (ro := ra_oV)) m av h h1 e) (fun m av h x h1 e => (ra_c0_ok (ro := ra_oI)) m av h (x, h1) e) (fun m av h x h1 e => (ra_c0_ok (ro := ra_oJ)) m av h (x, h1) e) (fun m av h x h1 e => (ra_c0_ok (ro := ra_oR)) m av h (x, h1) e) (fun m av h x h1 e => (ra_c0_ok (ro := ra_oN)) m av h (x, h1) e) (fun m av h x h1 e => (ra_c0_ok (ro := ra_oF)) m av h (x, h1) e) 2 lX12_isSmall_16 _ _ _ _ lX12_isSmall_16_ck (show ra_run ra_rI (kX12_isSmall_16 N) ra_c0 ra_c0 ra_c0 ra_c0 ra_c0 ra_c0 2 lX12_isSmall_16 [none] [] h = some r from e) _ _ rfl
def lX12_isSmall_0 : List ra_I := [(0, .iload_n 0, 1, 0, 0, 0, 0, 0, []),
  (1, .bipush (97), 2, 0, 0, 0, (97), 0, []),
  (3, .if_icmp .lt (13), 3, 16, 0, 0, 0, 0, []),
  (6, .iload_n 0, 1, 0, 0, 0, 0, 0, []),
  (7, .bipush (122), 2, 0, 0, 0, (122), 0, []),
  (9, .if_icmp .gt (7), 3, 16, 0, 0, 0, 0, []),
  (12, .iconst (1), 1, 0, 0, 0, (1), 0, []),
  (13, .goto (4), 3, 17, 0, 0, 0, 0, [])]
set_option maxRecDepth 100000 in
theorem lX12_isSmall_0_ck : lX12_isSmall_0.all (ra_ck mX12_isSmall 12) = true := by decide +kernel
def nX12_isSmall_0 (N : Nat) (a0 : Int32) (h : ra_H) : Option (Int32 × ra_H) :=
  if a0 < ((97 : Int32)) then
    nX12_isSmall_16 N h
  else
    if a0 ≤ ((122 : Int32)) then
      nX12_isSmall_17 N ((1 : Int32)) h
    else
      nX12_isSmall_16 N h
def kX12_isSmall_0 (N : Nat) : Nat → List (Option Value) → List Value → ra_H → Option (Int32 × ra_H) := (ra_k1 16 (fun L S h => match L, S with
  | [_], [] => nX12_isSmall_16 N h
  | _, _ => none) (ra_k1 17 (fun L S h => match L, S with
  | [_], [.int b0] => nX12_isSmall_17 N b0 h
  | _, _ => none) ra_k0))
theorem kX12_isSmall_0_ok (N : Nat) : ra_kok 1 mX12_isSmall ra_oI (kX12_isSmall_0 N) := (ra_k1_ok (by
  intro L S h a e
  split at e
  · exact ra_Ru.weak (nX12_isSmall_16_ok N _ _ e) trivial
  · cases e) (ra_k1_ok (by
  intro L S h a e
  split at e
  · exact ra_Ru.weak (nX12_isSmall_17_ok N _ _ _ e) trivial
  · cases e) ra_k0_ok))
set_option maxRecDepth 100000 in
theorem nX12_isSmall_0_ok (N : Nat) (a0 : Int32) (h : ra_H) (r : (Int32 × ra_H)) (e : nX12_isSmall_0 N a0 h = some r) : ra_Ru 1 mX12_isSmall 0 [some (.int a0)] [] h (ra_oI r) :=
  ra_sound (by omega) rfl ra_rI_ok (kX12_isSmall_0_ok N) (fun m av h h1 e => (ra_c0_ok (ro := ra_oV)) m av h h1 e) (fun m av h x h1 e => (ra_c0_ok (ro := ra_oI)) m av h (x, h1) e) (fun m av h x h1 e => (ra_c0_ok (ro := ra_oJ)) m av h (x, h1) e) (fun m av h x h1 e => (ra_c0_ok (ro := ra_oR)) m av h (x, h1) e) (fun m av h x h1 e => (ra_c0_ok (ro := ra_oN)) m av h (x, h1) e) (fun m av h x h1 e => (ra_c0_ok (ro := ra_oF)) m av h (x, h1) e) 9 lX12_isSmall_0 _ _ _ _ lX12_isSmall_0_ck (show ra_run ra_rI (kX12_isSmall_0 N) ra_c0 ra_c0 ra_c0 ra_c0 ra_c0 ra_c0 9 lX12_isSmall_0 [some (.int a0)] [] h = some r from e) _ _ rfl
def fX12_isSmall (N : Nat) (p0 : Int32) (h : ra_H) : Option (Int32 × ra_H) := (nX12_isSmall_0 N p0 h).bind (fun q => ra_rz q.1 q.2)
set_option maxRecDepth 100000 in
theorem mtX12_isSmall : ra_MT[234]? = some (mX12_isSmall, 0, 1, (1, 13), (7, 197), (0, 0)) := rfl
theorem fX12_isSmall_co (N : Nat) (p0 : Int32) (h : ra_H) (r : (Int32 × ra_H)) (e : fX12_isSmall N p0 h = some r) (D : Nat) (hD : 2 ≤ D) : ra_CO D 234 [.int p0] h (ra_oI r).1 (ra_oI r).2 := by
  have hw : ra_nw2 [.int p0] ≤ 1 := Nat.le_of_ble_eq_true rfl
  have hdb : ∀ v ∈ ([.int p0] : List Value), ∀ x, v ≠ .double x := by
    intro v hv x hx
    simp [hx] at hv
  unfold fX12_isSmall at e
  obtain ⟨q, e1, e2⟩ := Option.bind_eq_some_iff.mp e
  obtain ⟨rfl, hz⟩ := ra_rz_of e2
  exact ⟨1, _, mtX12_isSmall, hD, ra_ev_of (by decide) hdb hw hz (ra_Ru.weak (nX12_isSmall_0_ok N p0 h _ e1) ⟨rfl, trivial⟩), (fun h => absurd h (by decide)), (fun h => absurd h (by decide))⟩
/-! RedMarksModel.goOn()V -/
def mX12_goOn : ra_M := (yX12_goOn, cX12_goOn, 1, none)
def tIX12_goOn (N : Nat) : Nat → List Value → ra_H → Option (Int32 × ra_H) := (ra_c1 234 (fun av h => match av with
  | [.int z0] => fX12_isSmall N z0 h
  | _ => none) (ra_c1 235 (fun av h => match av with
  | [.int z0] => fX12_isDigit N z0 h
  | _ => none) ra_c0))
theorem tIX12_goOn_ok (N : Nat) : ra_cok 2 ra_oI (tIX12_goOn N) := (ra_c1_ok (by
  intro av h a e
  split at e
  · exact fX12_isSmall_co N _ _ _ e 2 (by omega)
  · cases e) (ra_c1_ok (by
  intro av h a e
  split at e
  · exact fX12_isDigit_co N _ _ _ e 2 (by omega)
  · cases e) ra_c0_ok))
def lX12_goOn_227 : List ra_I := [(227, .putfield 235, 3, 12, 12, 1, 0, 0, []),
  (230, .aload_n 0, 1, 0, 0, 0, 0, 0, []),
  (231, .dup, 1, 0, 0, 0, 0, 0, []),
  (232, .getfield 222, 3, 12, 10, 0, 0, 0, []),
  (235, .iconst (1), 1, 0, 0, 0, (1), 0, []),
  (236, .iadd, 1, 0, 0, 0, 0, 0, []),
  (237, .putfield 222, 3, 12, 10, 0, 0, 0, []),
  (240, .goto (-91), 3, 149, 0, 0, 0, 0, [])]
set_option maxRecDepth 100000 in
theorem lX12_goOn_227_ck : lX12_goOn_227.all (ra_ck mX12_goOn 12) = true := by decide +kernel
def nX12_goOn_227 (N : Nat) (c149 : Nat → ra_H → Option ra_H) (a0 : Nat) (b0 : Nat) (b1 : Int64) (h : ra_H) : Option ra_H :=
  (ra_fW h 12 b0 12 (.long b1)).bind fun h1 =>
  (ra_fI h1 12 a0 10).bind fun x2 =>
  (ra_fW h1 12 a0 10 (.int (x2 + ((1 : Int32))))).bind fun h3 =>
  c149 a0 h3
def kX12_goOn_227 (N : Nat) (c149 : Nat → ra_H → Option ra_H) : Nat → List (Option Value) → List Value → ra_H → Option ra_H := (ra_k1 149 (fun L S h => match L, S with
  | [some (.ref a0)], [] => c149 a0 h
  | _, _ => none) ra_k0)
theorem kX12_goOn_227_ok (N : Nat) (c149 : Nat → ra_H → Option ra_H) (hc149 : ∀ a0 h r, c149 a0 h = some r → ra_Ru 2 mX12_goOn 149 [some (.ref a0)] [] h (ra_oV r)) : ra_kok 2 mX12_goOn ra_oV (kX12_goOn_227 N c149) := (ra_k1_ok (by
  intro L S h a e
  split at e
  · exact ra_Ru.weak (hc149 _ _ _ e) ⟨rfl, trivial⟩
  · cases e) ra_k0_ok)
set_option maxRecDepth 100000 in
theorem nX12_goOn_227_ok (N : Nat) (c149 : Nat → ra_H → Option ra_H) (hc149 : ∀ a0 h r, c149 a0 h = some r → ra_Ru 2 mX12_goOn 149 [some (.ref a0)] [] h (ra_oV r)) (a0 : Nat) (b0 : Nat) (b1 : Int64) (h : ra_H) (r : ra_H) (e : nX12_goOn_227 N c149 a0 b0 b1 h = some r) : ra_Ru 2 mX12_goOn 227 [some (.ref a0)] [.long b1, .ref b0] h (ra_oV r) :=
  ra_sound (by omega) rfl ra_rV_ok (kX12_goOn_227_ok N c149 hc149) (fun m av h h1 e => (ra_c0_ok (ro := ra_oV)) m av h h1 e) (fun m av h x h1 e => (tIX12_goOn_ok N) m av h (x, h1) e) (fun m av h x h1 e => (ra_c0_ok (ro := ra_oJ)) m av h (x, h1) e) (fun m av h x h1 e => (ra_c0_ok (ro := ra_oR)) m av h (x, h1) e) (fun m av h x h1 e => (ra_c0_ok (ro := ra_oN)) m av h (x, h1) e) (fun m av h x h1 e => (ra_c0_ok (ro := ra_oF)) m av h (x, h1) e) 9 lX12_goOn_227 _ _ _ _ lX12_goOn_227_ck (show ra_run ra_rV (kX12_goOn_227 N c149) ra_c0 (tIX12_goOn N) ra_c0 ra_c0 ra_c0 ra_c0 9 lX12_goOn_227 [some (.ref a0)] [.long b1, .ref b0] h = some r from e) _ _ rfl
def lX12_goOn_319 : List ra_I := [(319, .putfield 235, 3, 12, 12, 1, 0, 0, []),
  (322, .aload_n 0, 1, 0, 0, 0, 0, 0, []),
  (323, .dup, 1, 0, 0, 0, 0, 0, []),
  (324, .getfield 222, 3, 12, 10, 0, 0, 0, []),
  (327, .iconst (1), 1, 0, 0, 0, (1), 0, []),
  (328, .iadd, 1, 0, 0, 0, 0, 0, []),
  (329, .putfield 222, 3, 12, 10, 0, 0, 0, []),
  (332, .goto (-89), 3, 243, 0, 0, 0, 0, [])]
set_option maxRecDepth 100000 in
theorem lX12_goOn_319_ck : lX12_goOn_319.all (ra_ck mX12_goOn 12) = true := by decide +kernel
def nX12_goOn_319 (N : Nat) (c243 : Nat → ra_H → Option ra_H) (a0 : Nat) (b0 : Nat) (b1 : Int64) (h : ra_H) : Option ra_H :=
  (ra_fW h 12 b0 12 (.long b1)).bind fun h1 =>
  (ra_fI h1 12 a0 10).bind fun x2 =>
  (ra_fW h1 12 a0 10 (.int (x2 + ((1 : Int32))))).bind fun h3 =>
  c243 a0 h3
def kX12_goOn_319 (N : Nat) (c243 : Nat → ra_H → Option ra_H) : Nat → List (Option Value) → List Value → ra_H → Option ra_H := (ra_k1 243 (fun L S h => match L, S with
  | [some (.ref a0)], [] => c243 a0 h
  | _, _ => none) ra_k0)
theorem kX12_goOn_319_ok (N : Nat) (c243 : Nat → ra_H → Option ra_H) (hc243 : ∀ a0 h r, c243 a0 h = some r → ra_Ru 2 mX12_goOn 243 [some (.ref a0)] [] h (ra_oV r)) : ra_kok 2 mX12_goOn ra_oV (kX12_goOn_319 N c243) := (ra_k1_ok (by
  intro L S h a e
  split at e
  · exact ra_Ru.weak (hc243 _ _ _ e) ⟨rfl, trivial⟩
  · cases e) ra_k0_ok)
set_option maxRecDepth 100000 in
theorem nX12_goOn_319_ok (N : Nat) (c243 : Nat → ra_H → Option ra_H) (hc243 : ∀ a0 h r, c243 a0 h = some r → ra_Ru 2 mX12_goOn 243 [some (.ref a0)] [] h (ra_oV r)) (a0 : Nat) (b0 : Nat) (b1 : Int64) (h : ra_H) (r : ra_H) (e : nX12_goOn_319 N c243 a0 b0 b1 h = some r) : ra_Ru 2 mX12_goOn 319 [some (.ref a0)] [.long b1, .ref b0] h (ra_oV r) :=
  ra_sound (by omega) rfl ra_rV_ok (kX12_goOn_319_ok N c243 hc243) (fun m av h h1 e => (ra_c0_ok (ro := ra_oV)) m av h h1 e) (fun m av h x h1 e => (tIX12_goOn_ok N) m av h (x, h1) e) (fun m av h x h1 e => (ra_c0_ok (ro := ra_oJ)) m av h (x, h1) e) (fun m av h x h1 e => (ra_c0_ok (ro := ra_oR)) m av h (x, h1) e) (fun m av h x h1 e => (ra_c0_ok (ro := ra_oN)) m av h (x, h1) e) (fun m av h x h1 e => (ra_c0_ok (ro := ra_oF)) m av h (x, h1) e) 9 lX12_goOn_319 _ _ _ _ lX12_goOn_319_ck (show ra_run ra_rV (kX12_goOn_319 N c243) ra_c0 (tIX12_goOn N) ra_c0 ra_c0 ra_c0 ra_c0 9 lX12_goOn_319 [some (.ref a0)] [.long b1, .ref b0] h = some r from e) _ _ rfl
def lX12_goOn_335 : List ra_I := [(335, .return_, 1, 0, 0, 0, 0, 0, [])]
set_option maxRecDepth 100000 in
theorem lX12_goOn_335_ck : lX12_goOn_335.all (ra_ck mX12_goOn 12) = true := by decide +kernel
def nX12_goOn_335 (N : Nat) (h : ra_H) : Option ra_H :=
  some h
def kX12_goOn_335 (N : Nat) : Nat → List (Option Value) → List Value → ra_H → Option ra_H := ra_k0
theorem kX12_goOn_335_ok (N : Nat) : ra_kok 2 mX12_goOn ra_oV (kX12_goOn_335 N) := ra_k0_ok
set_option maxRecDepth 100000 in
theorem nX12_goOn_335_ok (N : Nat) (h : ra_H) (r : ra_H) (e : nX12_goOn_335 N h = some r) : ra_Ru 2 mX12_goOn 335 [none] [] h (ra_oV r) :=
  ra_sound (by omega) rfl ra_rV_ok (kX12_goOn_335_ok N) (fun m av h h1 e => (ra_c0_ok (ro := ra_oV)) m av h h1 e) (fun m av h x h1 e => (tIX12_goOn_ok N) m av h (x, h1) e) (fun m av h x h1 e => (ra_c0_ok (ro := ra_oJ)) m av h (x, h1) e) (fun m av h x h1 e => (ra_c0_ok (ro := ra_oR)) m av h (x, h1) e) (fun m av h x h1 e => (ra_c0_ok (ro := ra_oN)) m av h (x, h1) e) (fun m av h x h1 e => (ra_c0_ok (ro := ra_oF)) m av h (x, h1) e) 2 lX12_goOn_335 _ _ _ _ lX12_goOn_335_ck (show ra_run ra_rV (kX12_goOn_335 N) ra_c0 (tIX12_goOn N) ra_c0 ra_c0 ra_c0 ra_c0 2 lX12_goOn_335 [none] [] h = some r from e) _ _ rfl
def lX12_goOn_243 : List ra_I := [(243, .aload_n 0, 1, 0, 0, 0, 0, 0, []),
  (244, .getfield 245, 3, 12, 11, 0, 0, 0, []),
  (247, .iconst (2), 1, 0, 0, 0, (2), 0, []),
  (248, .if_icmp .ne (87), 3, 335, 0, 0, 0, 0, []),
  (251, .aload_n 0, 1, 0, 0, 0, 0, 0, []),
  (252, .getfield 222, 3, 12, 10, 0, 0, 0, []),
  (255, .aload_n 0, 1, 0, 0, 0, 0, 0, []),
  (256, .getfield 212, 3, 12, 8, 0, 0, 0, []),
  (259, .if_icmp .ge (76), 3, 335, 0, 0, 0, 0, []),
  (262, .aload_n 0, 1, 0, 0, 0, 0, 0, []),
  (263, .getfield 23, 3, 12, 7, 2, 0, 0, []),
  (266, .aload_n 0, 1, 0, 0, 0, 0, 0, []),
  (267, .getfield 222, 3, 12, 10, 0, 0, 0, []),
  (270, .iaload, 1, 0, 0, 0, 0, 0, []),
  (271, .invokestatic 242, 3, 235, 1, 1, 0, 0, []),
  (274, .ifCond .eq (61), 3, 335, 0, 0, 0, 0, []),
  (277, .aload_n 0, 1, 0, 0, 0, 0, 0, []),
  (278, .aload_n 0, 1, 0, 0, 0, 0, 0, []),
  (279, .getfield 235, 3, 12, 12, 1, 0, 0, []),
  (282, .ldc2_w 254, 3, 0, 0, 0, 0, (1000000), []),
  (285, .lcmp, 1, 0, 0, 0, 0, 0, []),
  (286, .ifCond .le (10), 3, 296, 0, 0, 0, 0, []),
  (289, .aload_n 0, 1, 0, 0, 0, 0, 0, []),
  (290, .getfield 235, 3, 12, 12, 1, 0, 0, []),
  (293, .goto (26), 3, 319, 0, 0, 0, 0, []),
  (296, .aload_n 0, 1, 0, 0, 0, 0, 0, []),
  (297, .getfield 235, 3, 12, 12, 1, 0, 0, []),
  (300, .ldc2_w 256, 3, 0, 0, 0, 0, (10), []),
  (303, .lmul, 1, 0, 0, 0, 0, 0, []),
  (304, .aload_n 0, 1, 0, 0, 0, 0, 0, []),
  (305, .getfield 23, 3, 12, 7, 2, 0, 0, []),
  (308, .aload_n 0, 1, 0, 0, 0, 0, 0, []),
  (309, .getfield 222, 3, 12, 10, 0, 0, 0, []),
  (312, .iaload, 1, 0, 0, 0, 0, 0, []),
  (313, .i2l, 1, 0, 0, 0, 0, 0, []),
  (314, .ladd, 1, 0, 0, 0, 0, 0, []),
  (315, .ldc2_w 258, 3, 0, 0, 0, 0, (48), []),
  (318, .lsub, 1, 0, 0, 0, 0, 0, [])]
set_option maxRecDepth 100000 in
theorem lX12_goOn_243_ck : lX12_goOn_243.all (ra_ck mX12_goOn 12) = true := by decide +kernel
def nX12_goOn_243 (N : Nat) : Nat → Nat → ra_H → Option ra_H
  | 0, _, _ => none
  | n + 1, a0, h =>
  (ra_fI h 12 a0 11).bind fun x1 =>
  if x1 = ((2 : Int32)) then
    (ra_fI h 12 a0 10).bind fun x2 =>
    (ra_fI h 12 a0 8).bind fun x3 =>
    if x2 < x3 then
      (ra_fR h 12 a0 7).bind fun x4 =>
      (ra_fI h 12 a0 10).bind fun x5 =>
      (ra_aI h 0 x4 x5).bind fun x6 =>
      (fX12_isDigit N x6 h).bind fun q7 =>
      if q7.1 = 0 then
        nX12_goOn_335 N q7.2
      else
        (ra_fJ q7.2 12 a0 12).bind fun x8 =>
        if (lg_cmp x8 ((1000000 : Int64))) ≤ 0 then
          (ra_fJ q7.2 12 a0 12).bind fun x9 =>
          (ra_fR q7.2 12 a0 7).bind fun x10 =>
          (ra_fI q7.2 12 a0 10).bind fun x11 =>
          (ra_aI q7.2 0 x10 x11).bind fun x12 =>
          nX12_goOn_319 N (nX12_goOn_243 N n) a0 a0 (((x9 * ((10 : Int64))) + (Int32.toInt64 x12)) - ((48 : Int64))) q7.2
        else
          (ra_fJ q7.2 12 a0 12).bind fun x13 =>
          nX12_goOn_319 N (nX12_goOn_243 N n) a0 a0 x13 q7.2
    else
      nX12_goOn_335 N h
  else
    nX12_goOn_335 N h
def kX12_goOn_243 (N : Nat) (cs : Nat → ra_H → Option ra_H) : Nat → List (Option Value) → List Value → ra_H → Option ra_H := (ra_k1 319 (fun L S h => match L, S with
  | [some (.ref a0)], [.long b1, .ref b0] => nX12_goOn_319 N cs a0 b0 b1 h
  | _, _ => none) (ra_k1 335 (fun L S h => match L, S with
  | [_], [] => nX12_goOn_335 N h
  | _, _ => none) ra_k0))
theorem kX12_goOn_243_ok (N : Nat) (cs : Nat → ra_H → Option ra_H) (hcs : ∀ a0 h r, cs a0 h = some r → ra_Ru 2 mX12_goOn 243 [some (.ref a0)] [] h (ra_oV r)) : ra_kok 2 mX12_goOn ra_oV (kX12_goOn_243 N cs) := (ra_k1_ok (by
  intro L S h a e
  split at e
  · exact ra_Ru.weak (nX12_goOn_319_ok N cs hcs _ _ _ _ _ e) ⟨rfl, trivial⟩
  · cases e) (ra_k1_ok (by
  intro L S h a e
  split at e
  · exact ra_Ru.weak (nX12_goOn_335_ok N _ _ e) trivial
  · cases e) ra_k0_ok))
set_option maxRecDepth 100000 in
theorem nX12_goOn_243_ok (N : Nat) : ∀ n a0 h r, nX12_goOn_243 N n a0 h = some r → ra_Ru 2 mX12_goOn 243 [some (.ref a0)] [] h (ra_oV r) := by
  intro n
  induction n with
  | zero => intro a0 h r e; cases e
  | succ n ih =>
    intro a0 h r e
    exact ra_sound (by omega) rfl ra_rV_ok (kX12_goOn_243_ok N (nX12_goOn_243 N n) ih) (fun m av h h1 e => (ra_c0_ok (ro := ra_oV)) m av h h1 e) (fun m av h x h1 e => (tIX12_goOn_ok N) m av h (x, h1) e) (fun m av h x h1 e => (ra_c0_ok (ro := ra_oJ)) m av h (x, h1) e) (fun m av h x h1 e => (ra_c0_ok (ro := ra_oR)) m av h (x, h1) e) (fun m av h x h1 e => (ra_c0_ok (ro := ra_oN)) m av h (x, h1) e) (fun m av h x h1 e => (ra_c0_ok (ro := ra_oF)) m av h (x, h1) e) 39 lX12_goOn_243 _ _ _ _ lX12_goOn_243_ck (show ra_run ra_rV (kX12_goOn_243 N (nX12_goOn_243 N n)) ra_c0 (tIX12_goOn N) ra_c0 ra_c0 ra_c0 ra_c0 39 lX12_goOn_243 [some (.ref a0)] [] h = some r from e) _ _ rfl
def lX12_goOn_149 : List ra_I := [(149, .aload_n 0, 1, 0, 0, 0, 0, 0, []),
  (150, .getfield 245, 3, 12, 11, 0, 0, 0, []),
  (153, .iconst (1), 1, 0, 0, 0, (1), 0, []),
  (154, .if_icmp .ne (89), 3, 243, 0, 0, 0, 0, []),
  (157, .aload_n 0, 1, 0, 0, 0, 0, 0, []),
  (158, .getfield 222, 3, 12, 10, 0, 0, 0, []),
  (161, .aload_n 0, 1, 0, 0, 0, 0, 0, []),
  (162, .getfield 212, 3, 12, 8, 0, 0, 0, []),
  (165, .if_icmp .ge (78), 3, 243, 0, 0, 0, 0, []),
  (168, .aload_n 0, 1, 0, 0, 0, 0, 0, []),
  (169, .getfield 23, 3, 12, 7, 2, 0, 0, []),
  (172, .aload_n 0, 1, 0, 0, 0, 0, 0, []),
  (173, .getfield 222, 3, 12, 10, 0, 0, 0, []),
  (176, .iaload, 1, 0, 0, 0, 0, 0, []),
  (177, .invokestatic 239, 3, 234, 1, 1, 0, 0, []),
  (180, .ifCond .eq (63), 3, 243, 0, 0, 0, 0, []),
  (183, .aload_n 0, 1, 0, 0, 0, 0, 0, []),
  (184, .aload_n 0, 1, 0, 0, 0, 0, 0, []),
  (185, .getfield 222, 3, 12, 10, 0, 0, 0, []),
  (188, .aload_n 0, 1, 0, 0, 0, 0, 0, []),
  (189, .getfield 232, 3, 12, 9, 0, 0, 0, []),
  (192, .isub, 1, 0, 0, 0, 0, 0, []),
  (193, .bipush (10), 2, 0, 0, 0, (10), 0, []),
  (195, .if_icmp .ge (29), 3, 224, 0, 0, 0, 0, []),
  (198, .aload_n 0, 1, 0, 0, 0, 0, 0, []),
  (199, .getfield 235, 3, 12, 12, 1, 0, 0, []),
  (202, .ldc2_w 248, 3, 0, 0, 0, 0, (32), []),
  (205, .lmul, 1, 0, 0, 0, 0, 0, []),
  (206, .aload_n 0, 1, 0, 0, 0, 0, 0, []),
  (207, .getfield 23, 3, 12, 7, 2, 0, 0, []),
  (210, .aload_n 0, 1, 0, 0, 0, 0, 0, []),
  (211, .getfield 222, 3, 12, 10, 0, 0, 0, []),
  (214, .iaload, 1, 0, 0, 0, 0, 0, []),
  (215, .i2l, 1, 0, 0, 0, 0, 0, []),
  (216, .ladd, 1, 0, 0, 0, 0, 0, []),
  (217, .ldc2_w 250, 3, 0, 0, 0, 0, (96), []),
  (220, .lsub, 1, 0, 0, 0, 0, 0, []),
  (221, .goto (6), 3, 227, 0, 0, 0, 0, []),
  (224, .ldc2_w 252, 3, 0, 0, 0, 0, (-1), [])]
set_option maxRecDepth 100000 in
theorem lX12_goOn_149_ck : lX12_goOn_149.all (ra_ck mX12_goOn 12) = true := by decide +kernel
def nX12_goOn_149 (N : Nat) : Nat → Nat → ra_H → Option ra_H
  | 0, _, _ => none
  | n + 1, a0, h =>
  (ra_fI h 12 a0 11).bind fun x1 =>
  if x1 = ((1 : Int32)) then
    (ra_fI h 12 a0 10).bind fun x2 =>
    (ra_fI h 12 a0 8).bind fun x3 =>
    if x2 < x3 then
      (ra_fR h 12 a0 7).bind fun x4 =>
      (ra_fI h 12 a0 10).bind fun x5 =>
      (ra_aI h 0 x4 x5).bind fun x6 =>
      (fX12_isSmall N x6 h).bind fun q7 =>
      if q7.1 = 0 then
        nX12_goOn_243 N N a0 q7.2
      else
        (ra_fI q7.2 12 a0 10).bind fun x8 =>
        (ra_fI q7.2 12 a0 9).bind fun x9 =>
        if (x8 - x9) < ((10 : Int32)) then
          (ra_fJ q7.2 12 a0 12).bind fun x10 =>
          (ra_fR q7.2 12 a0 7).bind fun x11 =>
          (ra_fI q7.2 12 a0 10).bind fun x12 =>
          (ra_aI q7.2 0 x11 x12).bind fun x13 =>
          nX12_goOn_227 N (nX12_goOn_149 N n) a0 a0 (((x10 * ((32 : Int64))) + (Int32.toInt64 x13)) - ((96 : Int64))) q7.2
        else
          nX12_goOn_227 N (nX12_goOn_149 N n) a0 a0 ((-1 : Int64)) q7.2
    else
      nX12_goOn_243 N N a0 h
  else
    nX12_goOn_243 N N a0 h
def kX12_goOn_149 (N : Nat) (cs : Nat → ra_H → Option ra_H) : Nat → List (Option Value) → List Value → ra_H → Option ra_H := (ra_k1 227 (fun L S h => match L, S with
  | [some (.ref a0)], [.long b1, .ref b0] => nX12_goOn_227 N cs a0 b0 b1 h
  | _, _ => none) (ra_k1 243 (fun L S h => match L, S with
  | [some (.ref a0)], [] => nX12_goOn_243 N N a0 h
  | _, _ => none) ra_k0))
theorem kX12_goOn_149_ok (N : Nat) (cs : Nat → ra_H → Option ra_H) (hcs : ∀ a0 h r, cs a0 h = some r → ra_Ru 2 mX12_goOn 149 [some (.ref a0)] [] h (ra_oV r)) : ra_kok 2 mX12_goOn ra_oV (kX12_goOn_149 N cs) := (ra_k1_ok (by
  intro L S h a e
  split at e
  · exact ra_Ru.weak (nX12_goOn_227_ok N cs hcs _ _ _ _ _ e) ⟨rfl, trivial⟩
  · cases e) (ra_k1_ok (by
  intro L S h a e
  split at e
  · exact ra_Ru.weak (nX12_goOn_243_ok N N _ _ _ e) ⟨rfl, trivial⟩
  · cases e) ra_k0_ok))
set_option maxRecDepth 100000 in
theorem nX12_goOn_149_ok (N : Nat) : ∀ n a0 h r, nX12_goOn_149 N n a0 h = some r → ra_Ru 2 mX12_goOn 149 [some (.ref a0)] [] h (ra_oV r) := by
  intro n
  induction n with
  | zero => intro a0 h r e; cases e
  | succ n ih =>
    intro a0 h r e
    exact ra_sound (by omega) rfl ra_rV_ok (kX12_goOn_149_ok N (nX12_goOn_149 N n) ih) (fun m av h h1 e => (ra_c0_ok (ro := ra_oV)) m av h h1 e) (fun m av h x h1 e => (tIX12_goOn_ok N) m av h (x, h1) e) (fun m av h x h1 e => (ra_c0_ok (ro := ra_oJ)) m av h (x, h1) e) (fun m av h x h1 e => (ra_c0_ok (ro := ra_oR)) m av h (x, h1) e) (fun m av h x h1 e => (ra_c0_ok (ro := ra_oN)) m av h (x, h1) e) (fun m av h x h1 e => (ra_c0_ok (ro := ra_oF)) m av h (x, h1) e) 40 lX12_goOn_149 _ _ _ _ lX12_goOn_149_ck (show ra_run ra_rV (kX12_goOn_149 N (nX12_goOn_149 N n)) ra_c0 (tIX12_goOn N) ra_c0 ra_c0 ra_c0 ra_c0 40 lX12_goOn_149 [some (.ref a0)] [] h = some r from e) _ _ rfl
def lX12_goOn_114 : List ra_I := [(114, .putfield 245, 3, 12, 11, 0, 0, 0, []),
  (117, .aload_n 0, 1, 0, 0, 0, 0, 0, []),
  (118, .getfield 245, 3, 12, 11, 0, 0, 0, []),
  (121, .iconst (3), 1, 0, 0, 0, (3), 0, []),
  (122, .if_icmp .ne (27), 3, 149, 0, 0, 0, 0, []),
  (125, .aload_n 0, 1, 0, 0, 0, 0, 0, []),
  (126, .aload_n 0, 1, 0, 0, 0, 0, 0, []),
  (127, .getfield 23, 3, 12, 7, 2, 0, 0, []),
  (130, .aload_n 0, 1, 0, 0, 0, 0, 0, []),
  (131, .getfield 232, 3, 12, 9, 0, 0, 0, []),
  (134, .iaload, 1, 0, 0, 0, 0, 0, []),
  (135, .i2l, 1, 0, 0, 0, 0, 0, []),
  (136, .putfield 235, 3, 12, 12, 1, 0, 0, []),
  (139, .aload_n 0, 1, 0, 0, 0, 0, 0, []),
  (140, .dup, 1, 0, 0, 0, 0, 0, []),
  (141, .getfield 222, 3, 12, 10, 0, 0, 0, []),
  (144, .iconst (1), 1, 0, 0, 0, (1), 0, []),
  (145, .iadd, 1, 0, 0, 0, 0, 0, []),
  (146, .putfield 222, 3, 12, 10, 0, 0, 0, [])]
set_option maxRecDepth 100000 in
theorem lX12_goOn_114_ck : lX12_goOn_114.all (ra_ck mX12_goOn 12) = true := by decide +kernel
def nX12_goOn_114 (N : Nat) (a0 : Nat) (b0 : Nat) (b1 : Int32) (h : ra_H) : Option ra_H :=
  (ra_fW h 12 b0 11 (.int b1)).bind fun h1 =>
  (ra_fI h1 12 a0 11).bind fun x2 =>
  if x2 = ((3 : Int32)) then
    (ra_fR h1 12 a0 7).bind fun x3 =>
    (ra_fI h1 12 a0 9).bind fun x4 =>
    (ra_aI h1 0 x3 x4).bind fun x5 =>
    (ra_fW h1 12 a0 12 (.long (Int32.toInt64 x5))).bind fun h6 =>
    (ra_fI h6 12 a0 10).bind fun x7 =>
    (ra_fW h6 12 a0 10 (.int (x7 + ((1 : Int32))))).bind fun h8 =>
    nX12_goOn_149 N N a0 h8
  else
    nX12_goOn_149 N N a0 h1
def kX12_goOn_114 (N : Nat) : Nat → List (Option Value) → List Value → ra_H → Option ra_H := (ra_k1 149 (fun L S h => match L, S with
  | [some (.ref a0)], [] => nX12_goOn_149 N N a0 h
  | _, _ => none) ra_k0)
theorem kX12_goOn_114_ok (N : Nat) : ra_kok 2 mX12_goOn ra_oV (kX12_goOn_114 N) := (ra_k1_ok (by
  intro L S h a e
  split at e
  · exact ra_Ru.weak (nX12_goOn_149_ok N N _ _ _ e) ⟨rfl, trivial⟩
  · cases e) ra_k0_ok)
set_option maxRecDepth 100000 in
theorem nX12_goOn_114_ok (N : Nat) (a0 : Nat) (b0 : Nat) (b1 : Int32) (h : ra_H) (r : ra_H) (e : nX12_goOn_114 N a0 b0 b1 h = some r) : ra_Ru 2 mX12_goOn 114 [some (.ref a0)] [.int b1, .ref b0] h (ra_oV r) :=
  ra_sound (by omega) rfl ra_rV_ok (kX12_goOn_114_ok N) (fun m av h h1 e => (ra_c0_ok (ro := ra_oV)) m av h h1 e) (fun m av h x h1 e => (tIX12_goOn_ok N) m av h (x, h1) e) (fun m av h x h1 e => (ra_c0_ok (ro := ra_oJ)) m av h (x, h1) e) (fun m av h x h1 e => (ra_c0_ok (ro := ra_oR)) m av h (x, h1) e) (fun m av h x h1 e => (ra_c0_ok (ro := ra_oN)) m av h (x, h1) e) (fun m av h x h1 e => (ra_c0_ok (ro := ra_oF)) m av h (x, h1) e) 20 lX12_goOn_114 _ _ _ _ lX12_goOn_114_ck (show ra_run ra_rV (kX12_goOn_114 N) ra_c0 (tIX12_goOn N) ra_c0 ra_c0 ra_c0 ra_c0 20 lX12_goOn_114 [some (.ref a0)] [.int b1, .ref b0] h = some r from e) _ _ rfl
def lX12_goOn_46 : List ra_I := [(46, .aload_n 0, 1, 0, 0, 0, 0, 0, []),
  (47, .aload_n 0, 1, 0, 0, 0, 0, 0, []),
  (48, .getfield 232, 3, 12, 9, 0, 0, 0, []),
  (51, .putfield 222, 3, 12, 10, 0, 0, 0, []),
  (54, .aload_n 0, 1, 0, 0, 0, 0, 0, []),
  (55, .lconst 0, 1, 0, 0, 0, 0, 0, []),
  (56, .putfield 235, 3, 12, 12, 1, 0, 0, []),
  (59, .aload_n 0, 1, 0, 0, 0, 0, 0, []),
  (60, .aload_n 0, 1, 0, 0, 0, 0, 0, []),
  (61, .getfield 232, 3, 12, 9, 0, 0, 0, []),
  (64, .aload_n 0, 1, 0, 0, 0, 0, 0, []),
  (65, .getfield 212, 3, 12, 8, 0, 0, 0, []),
  (68, .if_icmp .ne (7), 3, 75, 0, 0, 0, 0, []),
  (71, .iconst (0), 1, 0, 0, 0, (0), 0, []),
  (72, .goto (42), 3, 114, 0, 0, 0, 0, []),
  (75, .aload_n 0, 1, 0, 0, 0, 0, 0, []),
  (76, .getfield 23, 3, 12, 7, 2, 0, 0, []),
  (79, .aload_n 0, 1, 0, 0, 0, 0, 0, []),
  (80, .getfield 232, 3, 12, 9, 0, 0, 0, []),
  (83, .iaload, 1, 0, 0, 0, 0, 0, []),
  (84, .invokestatic 239, 3, 234, 1, 1, 0, 0, []),
  (87, .ifCond .eq (7), 3, 94, 0, 0, 0, 0, []),
  (90, .iconst (1), 1, 0, 0, 0, (1), 0, []),
  (91, .goto (23), 3, 114, 0, 0, 0, 0, []),
  (94, .aload_n 0, 1, 0, 0, 0, 0, 0, []),
  (95, .getfield 23, 3, 12, 7, 2, 0, 0, []),
  (98, .aload_n 0, 1, 0, 0, 0, 0, 0, []),
  (99, .getfield 232, 3, 12, 9, 0, 0, 0, []),
  (102, .iaload, 1, 0, 0, 0, 0, 0, []),
  (103, .invokestatic 242, 3, 235, 1, 1, 0, 0, []),
  (106, .ifCond .eq (7), 3, 113, 0, 0, 0, 0, []),
  (109, .iconst (2), 1, 0, 0, 0, (2), 0, []),
  (110, .goto (4), 3, 114, 0, 0, 0, 0, []),
  (113, .iconst (3), 1, 0, 0, 0, (3), 0, [])]
set_option maxRecDepth 100000 in
theorem lX12_goOn_46_ck : lX12_goOn_46.all (ra_ck mX12_goOn 12) = true := by decide +kernel
def nX12_goOn_46 (N : Nat) (a0 : Nat) (h : ra_H) : Option ra_H :=
  (ra_fI h 12 a0 9).bind fun x1 =>
  (ra_fW h 12 a0 10 (.int x1)).bind fun h2 =>
  (ra_fW h2 12 a0 12 (.long ((0 : Int64)))).bind fun h3 =>
  (ra_fI h3 12 a0 9).bind fun x4 =>
  (ra_fI h3 12 a0 8).bind fun x5 =>
  if x4 = x5 then
    nX12_goOn_114 N a0 a0 ((0 : Int32)) h3
  else
    (ra_fR h3 12 a0 7).bind fun x6 =>
    (ra_fI h3 12 a0 9).bind fun x7 =>
    (ra_aI h3 0 x6 x7).bind fun x8 =>
    (fX12_isSmall N x8 h3).bind fun q9 =>
    if q9.1 = 0 then
      (ra_fR q9.2 12 a0 7).bind fun x10 =>
      (ra_fI q9.2 12 a0 9).bind fun x11 =>
      (ra_aI q9.2 0 x10 x11).bind fun x12 =>
      (fX12_isDigit N x12 q9.2).bind fun q13 =>
      if q13.1 = 0 then
        nX12_goOn_114 N a0 a0 ((3 : Int32)) q13.2
      else
        nX12_goOn_114 N a0 a0 ((2 : Int32)) q13.2
    else
      nX12_goOn_114 N a0 a0 ((1 : Int32)) q9.2
def kX12_goOn_46 (N : Nat) : Nat → List (Option Value) → List Value → ra_H → Option ra_H := (ra_k1 114 (fun L S h => match L, S with
  | [some (.ref a0)], [.int b1, .ref b0] => nX12_goOn_114 N a0 b0 b1 h
  | _, _ => none) ra_k0)
theorem kX12_goOn_46_ok (N : Nat) : ra_kok 2 mX12_goOn ra_oV (kX12_goOn_46 N) := (ra_k1_ok (by
  intro L S h a e
  split at e
  · exact ra_Ru.weak (nX12_goOn_114_ok N _ _ _ _ _ e) ⟨rfl, trivial⟩
  · cases e) ra_k0_ok)
set_option maxRecDepth 100000 in
theorem nX12_goOn_46_ok (N : Nat) (a0 : Nat) (h : ra_H) (r : ra_H) (e : nX12_goOn_46 N a0 h = some r) : ra_Ru 2 mX12_goOn 46 [some (.ref a0)] [] h (ra_oV r) :=
  ra_sound (by omega) rfl ra_rV_ok (kX12_goOn_46_ok N) (fun m av h h1 e => (ra_c0_ok (ro := ra_oV)) m av h h1 e) (fun m av h x h1 e => (tIX12_goOn_ok N) m av h (x, h1) e) (fun m av h x h1 e => (ra_c0_ok (ro := ra_oJ)) m av h (x, h1) e) (fun m av h x h1 e => (ra_c0_ok (ro := ra_oR)) m av h (x, h1) e) (fun m av h x h1 e => (ra_c0_ok (ro := ra_oN)) m av h (x, h1) e) (fun m av h x h1 e => (ra_c0_ok (ro := ra_oF)) m av h (x, h1) e) 35 lX12_goOn_46 _ _ _ _ lX12_goOn_46_ck (show ra_run ra_rV (kX12_goOn_46 N) ra_c0 (tIX12_goOn N) ra_c0 ra_c0 ra_c0 ra_c0 35 lX12_goOn_46 [some (.ref a0)] [] h = some r from e) _ _ rfl
def lX12_goOn_8 : List ra_I := [(8, .aload_n 0, 1, 0, 0, 0, 0, 0, []),
  (9, .getfield 232, 3, 12, 9, 0, 0, 0, []),
  (12, .aload_n 0, 1, 0, 0, 0, 0, 0, []),
  (13, .getfield 212, 3, 12, 8, 0, 0, 0, []),
  (16, .if_icmp .ge (30), 3, 46, 0, 0, 0, 0, []),
  (19, .aload_n 0, 1, 0, 0, 0, 0, 0, []),
  (20, .getfield 23, 3, 12, 7, 2, 0, 0, []),
  (23, .aload_n 0, 1, 0, 0, 0, 0, 0, []),
  (24, .getfield 232, 3, 12, 9, 0, 0, 0, []),
  (27, .iaload, 1, 0, 0, 0, 0, 0, []),
  (28, .bipush (32), 2, 0, 0, 0, (32), 0, []),
  (30, .if_icmp .ne (16), 3, 46, 0, 0, 0, 0, []),
  (33, .aload_n 0, 1, 0, 0, 0, 0, 0, []),
  (34, .dup, 1, 0, 0, 0, 0, 0, []),
  (35, .getfield 232, 3, 12, 9, 0, 0, 0, []),
  (38, .iconst (1), 1, 0, 0, 0, (1), 0, []),
  (39, .iadd, 1, 0, 0, 0, 0, 0, []),
  (40, .putfield 232, 3, 12, 9, 0, 0, 0, []),
  (43, .goto (-35), 3, 8, 0, 0, 0, 0, [])]
set_option maxRecDepth 100000 in
theorem lX12_goOn_8_ck : lX12_goOn_8.all (ra_ck mX12_goOn 12) = true := by decide +kernel
def nX12_goOn_8 (N : Nat) : Nat → Nat → ra_H → Option ra_H
  | 0, _, _ => none
  | n + 1, a0, h =>
  (ra_fI h 12 a0 9).bind fun x1 =>
  (ra_fI h 12 a0 8).bind fun x2 =>
  if x1 < x2 then
    (ra_fR h 12 a0 7).bind fun x3 =>
    (ra_fI h 12 a0 9).bind fun x4 =>
    (ra_aI h 0 x3 x4).bind fun x5 =>
    if x5 = ((32 : Int32)) then
      (ra_fI h 12 a0 9).bind fun x6 =>
      (ra_fW h 12 a0 9 (.int (x6 + ((1 : Int32))))).bind fun h7 =>
      nX12_goOn_8 N n a0 h7
    else
      nX12_goOn_46 N a0 h
  else
    nX12_goOn_46 N a0 h
def kX12_goOn_8 (N : Nat) (cs : Nat → ra_H → Option ra_H) : Nat → List (Option Value) → List Value → ra_H → Option ra_H := (ra_k1 8 (fun L S h => match L, S with
  | [some (.ref a0)], [] => cs a0 h
  | _, _ => none) (ra_k1 46 (fun L S h => match L, S with
  | [some (.ref a0)], [] => nX12_goOn_46 N a0 h
  | _, _ => none) ra_k0))
theorem kX12_goOn_8_ok (N : Nat) (cs : Nat → ra_H → Option ra_H) (hcs : ∀ a0 h r, cs a0 h = some r → ra_Ru 2 mX12_goOn 8 [some (.ref a0)] [] h (ra_oV r)) : ra_kok 2 mX12_goOn ra_oV (kX12_goOn_8 N cs) := (ra_k1_ok (by
  intro L S h a e
  split at e
  · exact ra_Ru.weak (hcs _ _ _ e) ⟨rfl, trivial⟩
  · cases e) (ra_k1_ok (by
  intro L S h a e
  split at e
  · exact ra_Ru.weak (nX12_goOn_46_ok N _ _ _ e) ⟨rfl, trivial⟩
  · cases e) ra_k0_ok))
set_option maxRecDepth 100000 in
theorem nX12_goOn_8_ok (N : Nat) : ∀ n a0 h r, nX12_goOn_8 N n a0 h = some r → ra_Ru 2 mX12_goOn 8 [some (.ref a0)] [] h (ra_oV r) := by
  intro n
  induction n with
  | zero => intro a0 h r e; cases e
  | succ n ih =>
    intro a0 h r e
    exact ra_sound (by omega) rfl ra_rV_ok (kX12_goOn_8_ok N (nX12_goOn_8 N n) ih) (fun m av h h1 e => (ra_c0_ok (ro := ra_oV)) m av h h1 e) (fun m av h x h1 e => (tIX12_goOn_ok N) m av h (x, h1) e) (fun m av h x h1 e => (ra_c0_ok (ro := ra_oJ)) m av h (x, h1) e) (fun m av h x h1 e => (ra_c0_ok (ro := ra_oR)) m av h (x, h1) e) (fun m av h x h1 e => (ra_c0_ok (ro := ra_oN)) m av h (x, h1) e) (fun m av h x h1 e => (ra_c0_ok (ro := ra_oF)) m av h (x, h1) e) 20 lX12_goOn_8 _ _ _ _ lX12_goOn_8_ck (show ra_run ra_rV (kX12_goOn_8 N (nX12_goOn_8 N n)) ra_c0 (tIX12_goOn N) ra_c0 ra_c0 ra_c0 ra_c0 20 lX12_goOn_8 [some (.ref a0)] [] h = some r from e) _ _ rfl
def lX12_goOn_0 : List ra_I := [(0, .aload_n 0, 1, 0, 0, 0, 0, 0, []),
  (1, .aload_n 0, 1, 0, 0, 0, 0, 0, []),
  (2, .getfield 222, 3, 12, 10, 0, 0, 0, []),
  (5, .putfield 232, 3, 12, 9, 0, 0, 0, [])]
set_option maxRecDepth 100000 in
theorem lX12_goOn_0_ck : lX12_goOn_0.all (ra_ck mX12_goOn 12) = true := by decide +kernel
def nX12_goOn_0 (N : Nat) (a0 : Nat) (h : ra_H) : Option ra_H :=
  (ra_fI h 12 a0 10).bind fun x1 =>
  (ra_fW h 12 a0 9 (.int x1)).bind fun h2 =>
  nX12_goOn_8 N N a0 h2
def kX12_goOn_0 (N : Nat) : Nat → List (Option Value) → List Value → ra_H → Option ra_H := (ra_k1 8 (fun L S h => match L, S with
  | [some (.ref a0)], [] => nX12_goOn_8 N N a0 h
  | _, _ => none) ra_k0)
theorem kX12_goOn_0_ok (N : Nat) : ra_kok 2 mX12_goOn ra_oV (kX12_goOn_0 N) := (ra_k1_ok (by
  intro L S h a e
  split at e
  · exact ra_Ru.weak (nX12_goOn_8_ok N N _ _ _ e) ⟨rfl, trivial⟩
  · cases e) ra_k0_ok)
set_option maxRecDepth 100000 in
theorem nX12_goOn_0_ok (N : Nat) (a0 : Nat) (h : ra_H) (r : ra_H) (e : nX12_goOn_0 N a0 h = some r) : ra_Ru 2 mX12_goOn 0 [some (.ref a0)] [] h (ra_oV r) :=
  ra_sound (by omega) rfl ra_rV_ok (kX12_goOn_0_ok N) (fun m av h h1 e => (ra_c0_ok (ro := ra_oV)) m av h h1 e) (fun m av h x h1 e => (tIX12_goOn_ok N) m av h (x, h1) e) (fun m av h x h1 e => (ra_c0_ok (ro := ra_oJ)) m av h (x, h1) e) (fun m av h x h1 e => (ra_c0_ok (ro := ra_oR)) m av h (x, h1) e) (fun m av h x h1 e => (ra_c0_ok (ro := ra_oN)) m av h (x, h1) e) (fun m av h x h1 e => (ra_c0_ok (ro := ra_oF)) m av h (x, h1) e) 5 lX12_goOn_0 _ _ _ _ lX12_goOn_0_ck (show ra_run ra_rV (kX12_goOn_0 N) ra_c0 (tIX12_goOn N) ra_c0 ra_c0 ra_c0 ra_c0 5 lX12_goOn_0 [some (.ref a0)] [] h = some r from e) _ _ rfl
def fX12_goOn (N : Nat) (p0 : Nat) (h : ra_H) : Option ra_H := match ra_isOb h p0 12 with
  | true => nX12_goOn_0 N p0 h
  | false => none
set_option maxRecDepth 100000 in
theorem mtX12_goOn : ra_MT[233]? = some (mX12_goOn, 1, 0, (1, 13), (7, 194), (0, 68)) := rfl
theorem fX12_goOn_co (N : Nat) (p0 : Nat) (h : ra_H) (r : ra_H) (e : fX12_goOn N p0 h = some r) (D : Nat) (hD : 3 ≤ D) : ra_CO D 233 [.ref p0] h (ra_oV r).1 (ra_oV r).2 := by
  have hw : ra_nw2 [.ref p0] ≤ 1 := Nat.le_of_ble_eq_true rfl
  have hdb : ∀ v ∈ ([.ref p0] : List Value), ∀ x, v ≠ .double x := by
    intro v hv x hx
    simp [hx] at hv
  unfold fX12_goOn at e
  split at e
  · rename_i ho
    have e1 := e
    exact ⟨2, _, mtX12_goOn, hD, ra_ev_of (by decide) hdb hw trivial (ra_Ru.weak (nX12_goOn_0_ok N p0 h _ e1) ⟨rfl, trivial⟩), (fun _ => ⟨_, _, rfl, ra_rcv_of ho (by decide) rfl⟩), (fun h => absurd h (by decide))⟩
  · cases e
/-! RedMarksModel.begin()V -/
def mX12_begin : ra_M := (yX12_begin, cX12_begin, 1, none)
def tVX12_begin (N : Nat) : Nat → List Value → ra_H → Option ra_H := (ra_c1 233 (fun av h => match av with
  | [.ref z0] => fX12_goOn N z0 h
  | _ => none) ra_c0)
theorem tVX12_begin_ok (N : Nat) : ra_cok 3 ra_oV (tVX12_begin N) := (ra_c1_ok (by
  intro av h a e
  split at e
  · exact fX12_goOn_co N _ _ _ e 3 (by omega)
  · cases e) ra_c0_ok)
def lX12_begin_0 : List ra_I := [(0, .aload_n 0, 1, 0, 0, 0, 0, 0, []),
  (1, .iconst (0), 1, 0, 0, 0, (0), 0, []),
  (2, .putfield 222, 3, 12, 10, 0, 0, 0, []),
  (5, .aload_n 0, 1, 0, 0, 0, 0, 0, []),
  (6, .iconst (0), 1, 0, 0, 0, (0), 0, []),
  (7, .putfield 225, 3, 12, 14, 4, 0, 0, []),
  (10, .aload_n 0, 1, 0, 0, 0, 0, 0, []),
  (11, .iconst (-1), 1, 0, 0, 0, (-1), 0, []),
  (12, .putfield 26, 3, 12, 13, 0, 0, 0, []),
  (15, .aload_n 0, 1, 0, 0, 0, 0, 0, []),
  (16, .invokevirtual 229, 3, 233, 1, 0, 0, 0, []),
  (19, .return_, 1, 0, 0, 0, 0, 0, [])]
set_option maxRecDepth 100000 in
theorem lX12_begin_0_ck : lX12_begin_0.all (ra_ck mX12_begin 12) = true := by decide +kernel
def nX12_begin_0 (N : Nat) (a0 : Nat) (h : ra_H) : Option ra_H :=
  (ra_fW h 12 a0 10 (.int ((0 : Int32)))).bind fun h1 =>
  if ((0 : Int32)) = 0 ∨ ((0 : Int32)) = 1 then
  (ra_fW h1 12 a0 14 (.int ((0 : Int32)))).bind fun h2 =>
  (ra_fW h2 12 a0 13 (.int ((-1 : Int32)))).bind fun h3 =>
  (fX12_goOn N a0 h3).bind fun h4 =>
  some h4
  else none
def kX12_begin_0 (N : Nat) : Nat → List (Option Value) → List Value → ra_H → Option ra_H := ra_k0
theorem kX12_begin_0_ok (N : Nat) : ra_kok 3 mX12_begin ra_oV (kX12_begin_0 N) := ra_k0_ok
set_option maxRecDepth 100000 in
theorem nX12_begin_0_ok (N : Nat) (a0 : Nat) (h : ra_H) (r : ra_H) (e : nX12_begin_0 N a0 h = some r) : ra_Ru 3 mX12_begin 0 [some (.ref a0)] [] h (ra_oV r) :=
  ra_sound (by omega) rfl ra_rV_ok (kX12_begin_0_ok N) (fun m av h h1 e => (tVX12_begin_ok N) m av h h1 e) (fun m av h x h1 e => (ra_c0_ok (ro := ra_oI)) m av h (x, h1) e) (fun m av h x h1 e => (ra_c0_ok (ro := ra_oJ)) m av h (x, h1) e) (fun m av h x h1 e => (ra_c0_ok (ro := ra_oR)) m av h (x, h1) e) (fun m av h x h1 e => (ra_c0_ok (ro := ra_oN)) m av h (x, h1) e) (fun m av h x h1 e => (ra_c0_ok (ro := ra_oF)) m av h (x, h1) e) 13 lX12_begin_0 _ _ _ _ lX12_begin_0_ck (show ra_run ra_rV (kX12_begin_0 N) (tVX12_begin N) ra_c0 ra_c0 ra_c0 ra_c0 ra_c0 13 lX12_begin_0 [some (.ref a0)] [] h = some r from e) _ _ rfl
def fX12_begin (N : Nat) (p0 : Nat) (h : ra_H) : Option ra_H := match ra_isOb h p0 12 with
  | true => nX12_begin_0 N p0 h
  | false => none
set_option maxRecDepth 100000 in
theorem mtX12_begin : ra_MT[232]? = some (mX12_begin, 1, 0, (1, 13), (7, 190), (0, 67)) := rfl
theorem fX12_begin_co (N : Nat) (p0 : Nat) (h : ra_H) (r : ra_H) (e : fX12_begin N p0 h = some r) (D : Nat) (hD : 4 ≤ D) : ra_CO D 232 [.ref p0] h (ra_oV r).1 (ra_oV r).2 := by
  have hw : ra_nw2 [.ref p0] ≤ 1 := Nat.le_of_ble_eq_true rfl
  have hdb : ∀ v ∈ ([.ref p0] : List Value), ∀ x, v ≠ .double x := by
    intro v hv x hx
    simp [hx] at hv
  unfold fX12_begin at e
  split at e
  · rename_i ho
    have e1 := e
    exact ⟨3, _, mtX12_begin, hD, ra_ev_of (by decide) hdb hw trivial (ra_Ru.weak (nX12_begin_0_ok N p0 h _ e1) ⟨rfl, trivial⟩), (fun _ => ⟨_, _, rfl, ra_rcv_of ho (by decide) rfl⟩), (fun h => absurd h (by decide))⟩
  · cases e
/-! RedMarksModel.binds(I)I -/
def mX12_binds : ra_M := (yX12_binds, cX12_binds, 1, (some .int))
def lX12_binds_62 : List ra_I := [(62, .ireturn, 1, 0, 0, 0, 0, 0, [])]
set_option maxRecDepth 100000 in
theorem lX12_binds_62_ck : lX12_binds_62.all (ra_ck mX12_binds 12) = true := by decide +kernel
def nX12_binds_62 (N : Nat) (b0 : Int32) (h : ra_H) : Option (Int32 × ra_H) :=
  some (b0, h)
def kX12_binds_62 (N : Nat) : Nat → List (Option Value) → List Value → ra_H → Option (Int32 × ra_H) := ra_k0
theorem kX12_binds_62_ok (N : Nat) : ra_kok 1 mX12_binds ra_oI (kX12_binds_62 N) := ra_k0_ok
set_option maxRecDepth 100000 in
theorem nX12_binds_62_ok (N : Nat) (b0 : Int32) (h : ra_H) (r : (Int32 × ra_H)) (e : nX12_binds_62 N b0 h = some r) : ra_Ru 1 mX12_binds 62 [none] [.int b0] h (ra_oI r) :=
  ra_sound (by omega) rfl ra_rI_ok (kX12_binds_62_ok N) (fun m av h h1 e => (ra_c0_ok (ro := ra_oV)) m av h h1 e) (fun m av h x h1 e => (ra_c0_ok (ro := ra_oI)) m av h (x, h1) e) (fun m av h x h1 e => (ra_c0_ok (ro := ra_oJ)) m av h (x, h1) e) (fun m av h x h1 e => (ra_c0_ok (ro := ra_oR)) m av h (x, h1) e) (fun m av h x h1 e => (ra_c0_ok (ro := ra_oN)) m av h (x, h1) e) (fun m av h x h1 e => (ra_c0_ok (ro := ra_oF)) m av h (x, h1) e) 2 lX12_binds_62 _ _ _ _ lX12_binds_62_ck (show ra_run ra_rI (kX12_binds_62 N) ra_c0 ra_c0 ra_c0 ra_c0 ra_c0 ra_c0 2 lX12_binds_62 [none] [.int b0] h = some r from e) _ _ rfl
def lX12_binds_0 : List ra_I := [(0, .iload_n 0, 1, 0, 0, 0, 0, 0, []),
  (1, .bipush (30), 2, 0, 0, 0, (30), 0, []),
  (3, .if_icmp .lt (7), 3, 10, 0, 0, 0, 0, []),
  (6, .iconst (0), 1, 0, 0, 0, (0), 0, []),
  (7, .goto (55), 3, 62, 0, 0, 0, 0, []),
  (10, .iload_n 0, 1, 0, 0, 0, 0, 0, []),
  (11, .bipush (29), 2, 0, 0, 0, (29), 0, []),
  (13, .if_icmp .ne (7), 3, 20, 0, 0, 0, 0, []),
  (16, .iconst (1), 1, 0, 0, 0, (1), 0, []),
  (17, .goto (45), 3, 62, 0, 0, 0, 0, []),
  (20, .iload_n 0, 1, 0, 0, 0, 0, 0, []),
  (21, .bipush (28), 2, 0, 0, 0, (28), 0, []),
  (23, .if_icmp .ne (7), 3, 30, 0, 0, 0, 0, []),
  (26, .iconst (2), 1, 0, 0, 0, (2), 0, []),
  (27, .goto (35), 3, 62, 0, 0, 0, 0, []),
  (30, .iload_n 0, 1, 0, 0, 0, 0, 0, []),
  (31, .bipush (27), 2, 0, 0, 0, (27), 0, []),
  (33, .if_icmp .ne (7), 3, 40, 0, 0, 0, 0, []),
  (36, .iconst (3), 1, 0, 0, 0, (3), 0, []),
  (37, .goto (25), 3, 62, 0, 0, 0, 0, []),
  (40, .iload_n 0, 1, 0, 0, 0, 0, 0, []),
  (41, .bipush (24), 2, 0, 0, 0, (24), 0, []),
  (43, .if_icmp .lt (7), 3, 50, 0, 0, 0, 0, []),
  (46, .iconst (4), 1, 0, 0, 0, (4), 0, []),
  (47, .goto (15), 3, 62, 0, 0, 0, 0, []),
  (50, .iload_n 0, 1, 0, 0, 0, 0, 0, []),
  (51, .bipush (22), 2, 0, 0, 0, (22), 0, []),
  (53, .if_icmp .lt (8), 3, 61, 0, 0, 0, 0, []),
  (56, .bipush (6), 2, 0, 0, 0, (6), 0, []),
  (58, .goto (4), 3, 62, 0, 0, 0, 0, []),
  (61, .iconst (5), 1, 0, 0, 0, (5), 0, [])]
set_option maxRecDepth 100000 in
theorem lX12_binds_0_ck : lX12_binds_0.all (ra_ck mX12_binds 12) = true := by decide +kernel
def nX12_binds_0 (N : Nat) (a0 : Int32) (h : ra_H) : Option (Int32 × ra_H) :=
  if a0 < ((30 : Int32)) then
    if a0 = ((29 : Int32)) then
      nX12_binds_62 N ((1 : Int32)) h
    else
      if a0 = ((28 : Int32)) then
        nX12_binds_62 N ((2 : Int32)) h
      else
        if a0 = ((27 : Int32)) then
          nX12_binds_62 N ((3 : Int32)) h
        else
          if a0 < ((24 : Int32)) then
            if a0 < ((22 : Int32)) then
              nX12_binds_62 N ((5 : Int32)) h
            else
              nX12_binds_62 N ((6 : Int32)) h
          else
            nX12_binds_62 N ((4 : Int32)) h
  else
    nX12_binds_62 N ((0 : Int32)) h
def kX12_binds_0 (N : Nat) : Nat → List (Option Value) → List Value → ra_H → Option (Int32 × ra_H) := (ra_k1 62 (fun L S h => match L, S with
  | [_], [.int b0] => nX12_binds_62 N b0 h
  | _, _ => none) ra_k0)
theorem kX12_binds_0_ok (N : Nat) : ra_kok 1 mX12_binds ra_oI (kX12_binds_0 N) := (ra_k1_ok (by
  intro L S h a e
  split at e
  · exact ra_Ru.weak (nX12_binds_62_ok N _ _ _ e) trivial
  · cases e) ra_k0_ok)
set_option maxRecDepth 100000 in
theorem nX12_binds_0_ok (N : Nat) (a0 : Int32) (h : ra_H) (r : (Int32 × ra_H)) (e : nX12_binds_0 N a0 h = some r) : ra_Ru 1 mX12_binds 0 [some (.int a0)] [] h (ra_oI r) :=
  ra_sound (by omega) rfl ra_rI_ok (kX12_binds_0_ok N) (fun m av h h1 e => (ra_c0_ok (ro := ra_oV)) m av h h1 e) (fun m av h x h1 e => (ra_c0_ok (ro := ra_oI)) m av h (x, h1) e) (fun m av h x h1 e => (ra_c0_ok (ro := ra_oJ)) m av h (x, h1) e) (fun m av h x h1 e => (ra_c0_ok (ro := ra_oR)) m av h (x, h1) e) (fun m av h x h1 e => (ra_c0_ok (ro := ra_oN)) m av h (x, h1) e) (fun m av h x h1 e => (ra_c0_ok (ro := ra_oF)) m av h (x, h1) e) 32 lX12_binds_0 _ _ _ _ lX12_binds_0_ck (show ra_run ra_rI (kX12_binds_0 N) ra_c0 ra_c0 ra_c0 ra_c0 ra_c0 ra_c0 32 lX12_binds_0 [some (.int a0)] [] h = some r from e) _ _ rfl
def fX12_binds (N : Nat) (p0 : Int32) (h : ra_H) : Option (Int32 × ra_H) := nX12_binds_0 N p0 h
set_option maxRecDepth 100000 in
theorem mtX12_binds : ra_MT[250]? = some (mX12_binds, 0, 1, (1, 13), (8, 27), (0, 0)) := rfl
theorem fX12_binds_co (N : Nat) (p0 : Int32) (h : ra_H) (r : (Int32 × ra_H)) (e : fX12_binds N p0 h = some r) (D : Nat) (hD : 2 ≤ D) : ra_CO D 250 [.int p0] h (ra_oI r).1 (ra_oI r).2 := by
  have hw : ra_nw2 [.int p0] ≤ 1 := Nat.le_of_ble_eq_true rfl
  have hdb : ∀ v ∈ ([.int p0] : List Value), ∀ x, v ≠ .double x := by
    intro v hv x hx
    simp [hx] at hv
  unfold fX12_binds at e
  have e1 := e
  exact ⟨1, _, mtX12_binds, hD, ra_ev_of (by decide) hdb hw trivial (ra_Ru.weak (nX12_binds_0_ok N p0 h _ e1) ⟨rfl, trivial⟩), (fun h => absurd h (by decide)), (fun h => absurd h (by decide))⟩
/-! RedMarksModel.inner()I -/
def mX12_inner : ra_M := (yX12_inner, cX12_inner, 3, (some .int))
def lX12_inner_33 : List ra_I := [(33, .istore_n 1, 1, 1, 0, 0, 0, 0, []),
  (34, .iinc 2 (1), 3, 2, 0, 0, (1), 0, []),
  (37, .goto (-33), 3, 4, 0, 0, 0, 0, [])]
set_option maxRecDepth 100000 in
theorem lX12_inner_33_ck : lX12_inner_33.all (ra_ck mX12_inner 12) = true := by decide +kernel
def nX12_inner_33 (N : Nat) (c4 : Nat → Int32 → Int32 → ra_H → Option (Int32 × ra_H)) (a0 : Nat) (a2 : Int32) (b0 : Int32) (h : ra_H) : Option (Int32 × ra_H) :=
  let y1 := a2 + (1 : Int32)
  c4 a0 b0 y1 h
def kX12_inner_33 (N : Nat) (c4 : Nat → Int32 → Int32 → ra_H → Option (Int32 × ra_H)) : Nat → List (Option Value) → List Value → ra_H → Option (Int32 × ra_H) := (ra_k1 4 (fun L S h => match L, S with
  | [some (.ref a0), some (.int a1), some (.int a2)], [] => c4 a0 a1 a2 h
  | _, _ => none) ra_k0)
theorem kX12_inner_33_ok (N : Nat) (c4 : Nat → Int32 → Int32 → ra_H → Option (Int32 × ra_H)) (hc4 : ∀ a0 a1 a2 h r, c4 a0 a1 a2 h = some r → ra_Ru 1 mX12_inner 4 [some (.ref a0), some (.int a1), some (.int a2)] [] h (ra_oI r)) : ra_kok 1 mX12_inner ra_oI (kX12_inner_33 N c4) := (ra_k1_ok (by
  intro L S h a e
  split at e
  · exact ra_Ru.weak (hc4 _ _ _ _ _ e) ⟨rfl, ⟨rfl, ⟨rfl, trivial⟩⟩⟩
  · cases e) ra_k0_ok)
set_option maxRecDepth 100000 in
theorem nX12_inner_33_ok (N : Nat) (c4 : Nat → Int32 → Int32 → ra_H → Option (Int32 × ra_H)) (hc4 : ∀ a0 a1 a2 h r, c4 a0 a1 a2 h = some r → ra_Ru 1 mX12_inner 4 [some (.ref a0), some (.int a1), some (.int a2)] [] h (ra_oI r)) (a0 : Nat) (a2 : Int32) (b0 : Int32) (h : ra_H) (r : (Int32 × ra_H)) (e : nX12_inner_33 N c4 a0 a2 b0 h = some r) : ra_Ru 1 mX12_inner 33 [some (.ref a0), none, some (.int a2)] [.int b0] h (ra_oI r) :=
  ra_sound (by omega) rfl ra_rI_ok (kX12_inner_33_ok N c4 hc4) (fun m av h h1 e => (ra_c0_ok (ro := ra_oV)) m av h h1 e) (fun m av h x h1 e => (ra_c0_ok (ro := ra_oI)) m av h (x, h1) e) (fun m av h x h1 e => (ra_c0_ok (ro := ra_oJ)) m av h (x, h1) e) (fun m av h x h1 e => (ra_c0_ok (ro := ra_oR)) m av h (x, h1) e) (fun m av h x h1 e => (ra_c0_ok (ro := ra_oN)) m av h (x, h1) e) (fun m av h x h1 e => (ra_c0_ok (ro := ra_oF)) m av h (x, h1) e) 4 lX12_inner_33 _ _ _ _ lX12_inner_33_ck (show ra_run ra_rI (kX12_inner_33 N c4) ra_c0 ra_c0 ra_c0 ra_c0 ra_c0 ra_c0 4 lX12_inner_33 [some (.ref a0), none, some (.int a2)] [.int b0] h = some r from e) _ _ rfl
def lX12_inner_4 : List ra_I := [(4, .iload_n 2, 1, 2, 0, 0, 0, 0, []),
  (5, .aload_n 0, 1, 0, 0, 0, 0, 0, []),
  (6, .getfield 267, 3, 12, 23, 0, 0, 0, []),
  (9, .if_icmp .ge (31), 3, 40, 0, 0, 0, 0, []),
  (12, .aload_n 0, 1, 0, 0, 0, 0, 0, []),
  (13, .getfield 39, 3, 12, 21, 2, 0, 0, []),
  (16, .iload_n 2, 1, 2, 0, 0, 0, 0, []),
  (17, .iaload, 1, 0, 0, 0, 0, 0, []),
  (18, .bipush (30), 2, 0, 0, 0, (30), 0, []),
  (20, .if_icmp .lt (12), 3, 32, 0, 0, 0, 0, []),
  (23, .aload_n 0, 1, 0, 0, 0, 0, 0, []),
  (24, .getfield 39, 3, 12, 21, 2, 0, 0, []),
  (27, .iload_n 2, 1, 2, 0, 0, 0, 0, []),
  (28, .iaload, 1, 0, 0, 0, 0, 0, []),
  (29, .goto (4), 3, 33, 0, 0, 0, 0, []),
  (32, .iload_n 1, 1, 1, 0, 0, 0, 0, []),
  (40, .iload_n 1, 1, 1, 0, 0, 0, 0, []),
  (41, .ireturn, 1, 0, 0, 0, 0, 0, [])]
set_option maxRecDepth 100000 in
theorem lX12_inner_4_ck : lX12_inner_4.all (ra_ck mX12_inner 12) = true := by decide +kernel
def nX12_inner_4 (N : Nat) : Nat → Nat → Int32 → Int32 → ra_H → Option (Int32 × ra_H)
  | 0, _, _, _, _ => none
  | n + 1, a0, a1, a2, h =>
  (ra_fI h 12 a0 23).bind fun x1 =>
  if a2 < x1 then
    (ra_fR h 12 a0 21).bind fun x2 =>
    (ra_aI h 0 x2 a2).bind fun x3 =>
    if x3 < ((30 : Int32)) then
      nX12_inner_33 N (nX12_inner_4 N n) a0 a2 a1 h
    else
      (ra_fR h 12 a0 21).bind fun x4 =>
      (ra_aI h 0 x4 a2).bind fun x5 =>
      nX12_inner_33 N (nX12_inner_4 N n) a0 a2 x5 h
  else
    some (a1, h)
def kX12_inner_4 (N : Nat) (cs : Nat → Int32 → Int32 → ra_H → Option (Int32 × ra_H)) : Nat → List (Option Value) → List Value → ra_H → Option (Int32 × ra_H) := (ra_k1 33 (fun L S h => match L, S with
  | [some (.ref a0), _, some (.int a2)], [.int b0] => nX12_inner_33 N cs a0 a2 b0 h
  | _, _ => none) ra_k0)
theorem kX12_inner_4_ok (N : Nat) (cs : Nat → Int32 → Int32 → ra_H → Option (Int32 × ra_H)) (hcs : ∀ a0 a1 a2 h r, cs a0 a1 a2 h = some r → ra_Ru 1 mX12_inner 4 [some (.ref a0), some (.int a1), some (.int a2)] [] h (ra_oI r)) : ra_kok 1 mX12_inner ra_oI (kX12_inner_4 N cs) := (ra_k1_ok (by
  intro L S h a e
  split at e
  · exact ra_Ru.weak (nX12_inner_33_ok N cs hcs _ _ _ _ _ e) ⟨rfl, ⟨rfl, trivial⟩⟩
  · cases e) ra_k0_ok)
set_option maxRecDepth 100000 in
theorem nX12_inner_4_ok (N : Nat) : ∀ n a0 a1 a2 h r, nX12_inner_4 N n a0 a1 a2 h = some r → ra_Ru 1 mX12_inner 4 [some (.ref a0), some (.int a1), some (.int a2)] [] h (ra_oI r) := by
  intro n
  induction n with
  | zero => intro a0 a1 a2 h r e; cases e
  | succ n ih =>
    intro a0 a1 a2 h r e
    exact ra_sound (by omega) rfl ra_rI_ok (kX12_inner_4_ok N (nX12_inner_4 N n) ih) (fun m av h h1 e => (ra_c0_ok (ro := ra_oV)) m av h h1 e) (fun m av h x h1 e => (ra_c0_ok (ro := ra_oI)) m av h (x, h1) e) (fun m av h x h1 e => (ra_c0_ok (ro := ra_oJ)) m av h (x, h1) e) (fun m av h x h1 e => (ra_c0_ok (ro := ra_oR)) m av h (x, h1) e) (fun m av h x h1 e => (ra_c0_ok (ro := ra_oN)) m av h (x, h1) e) (fun m av h x h1 e => (ra_c0_ok (ro := ra_oF)) m av h (x, h1) e) 19 lX12_inner_4 _ _ _ _ lX12_inner_4_ck (show ra_run ra_rI (kX12_inner_4 N (nX12_inner_4 N n)) ra_c0 ra_c0 ra_c0 ra_c0 ra_c0 ra_c0 19 lX12_inner_4 [some (.ref a0), some (.int a1), some (.int a2)] [] h = some r from e) _ _ rfl
def lX12_inner_0 : List ra_I := [(0, .iconst (-1), 1, 0, 0, 0, (-1), 0, []),
  (1, .istore_n 1, 1, 1, 0, 0, 0, 0, []),
  (2, .iconst (0), 1, 0, 0, 0, (0), 0, []),
  (3, .istore_n 2, 1, 2, 0, 0, 0, 0, [])]
set_option maxRecDepth 100000 in
theorem lX12_inner_0_ck : lX12_inner_0.all (ra_ck mX12_inner 12) = true := by decide +kernel
def nX12_inner_0 (N : Nat) (a0 : Nat) (h : ra_H) : Option (Int32 × ra_H) :=
  nX12_inner_4 N N a0 ((-1 : Int32)) ((0 : Int32)) h
def kX12_inner_0 (N : Nat) : Nat → List (Option Value) → List Value → ra_H → Option (Int32 × ra_H) := (ra_k1 4 (fun L S h => match L, S with
  | [some (.ref a0), some (.int a1), some (.int a2)], [] => nX12_inner_4 N N a0 a1 a2 h
  | _, _ => none) ra_k0)
theorem kX12_inner_0_ok (N : Nat) : ra_kok 1 mX12_inner ra_oI (kX12_inner_0 N) := (ra_k1_ok (by
  intro L S h a e
  split at e
  · exact ra_Ru.weak (nX12_inner_4_ok N N _ _ _ _ _ e) ⟨rfl, ⟨rfl, ⟨rfl, trivial⟩⟩⟩
  · cases e) ra_k0_ok)
set_option maxRecDepth 100000 in
theorem nX12_inner_0_ok (N : Nat) (a0 : Nat) (h : ra_H) (r : (Int32 × ra_H)) (e : nX12_inner_0 N a0 h = some r) : ra_Ru 1 mX12_inner 0 [some (.ref a0), none, none] [] h (ra_oI r) :=
  ra_sound (by omega) rfl ra_rI_ok (kX12_inner_0_ok N) (fun m av h h1 e => (ra_c0_ok (ro := ra_oV)) m av h h1 e) (fun m av h x h1 e => (ra_c0_ok (ro := ra_oI)) m av h (x, h1) e) (fun m av h x h1 e => (ra_c0_ok (ro := ra_oJ)) m av h (x, h1) e) (fun m av h x h1 e => (ra_c0_ok (ro := ra_oR)) m av h (x, h1) e) (fun m av h x h1 e => (ra_c0_ok (ro := ra_oN)) m av h (x, h1) e) (fun m av h x h1 e => (ra_c0_ok (ro := ra_oF)) m av h (x, h1) e) 5 lX12_inner_0 _ _ _ _ lX12_inner_0_ck (show ra_run ra_rI (kX12_inner_0 N) ra_c0 ra_c0 ra_c0 ra_c0 ra_c0 ra_c0 5 lX12_inner_0 [some (.ref a0), none, none] [] h = some r from e) _ _ rfl
def fX12_inner (N : Nat) (p0 : Nat) (h : ra_H) : Option (Int32 × ra_H) := match ra_isOb h p0 12 with
  | true => nX12_inner_0 N p0 h
  | false => none
set_option maxRecDepth 100000 in
theorem mtX12_inner : ra_MT[252]? = some (mX12_inner, 1, 0, (1, 13), (8, 35), (0, 84)) := rfl
theorem fX12_inner_co (N : Nat) (p0 : Nat) (h : ra_H) (r : (Int32 × ra_H)) (e : fX12_inner N p0 h = some r) (D : Nat) (hD : 2 ≤ D) : ra_CO D 252 [.ref p0] h (ra_oI r).1 (ra_oI r).2 := by
  have hw : ra_nw2 [.ref p0] ≤ 3 := Nat.le_of_ble_eq_true rfl
  have hdb : ∀ v ∈ ([.ref p0] : List Value), ∀ x, v ≠ .double x := by
    intro v hv x hx
    simp [hx] at hv
  unfold fX12_inner at e
  split at e
  · rename_i ho
    have e1 := e
    exact ⟨1, _, mtX12_inner, hD, ra_ev_of (by decide) hdb hw trivial (ra_Ru.weak (nX12_inner_0_ok N p0 h _ e1) ⟨rfl, trivial⟩), (fun _ => ⟨_, _, rfl, ra_rcv_of ho (by decide) rfl⟩), (fun h => absurd h (by decide))⟩
  · cases e
/-! RedMarksModel.isCompared()Z -/
def mX12_isCompared : ra_M := (yX12_isCompared, cX12_isCompared, 2, (some .boolean))
def tIX12_isCompared (N : Nat) : Nat → List Value → ra_H → Option (Int32 × ra_H) := (ra_c1 209 (fun av h => match av with
  | [.long z0, .long z1, .long z2] => fX12_in N z0 z1 z2 h
  | _ => none) ra_c0)
theorem tIX12_isCompared_ok (N : Nat) : ra_cok 2 ra_oI (tIX12_isCompared N) := (ra_c1_ok (by
  intro av h a e
  split at e
  · exact fX12_in_co N _ _ _ _ _ e 2 (by omega)
  · cases e) ra_c0_ok)
def lX12_isCompared_64 : List ra_I := [(64, .ireturn, 1, 0, 0, 0, 0, 0, [])]
set_option maxRecDepth 100000 in
theorem lX12_isCompared_64_ck : lX12_isCompared_64.all (ra_ck mX12_isCompared 12) = true := by decide +kernel
def nX12_isCompared_64 (N : Nat) (b0 : Int32) (h : ra_H) : Option (Int32 × ra_H) :=
  some (b0, h)
def kX12_isCompared_64 (N : Nat) : Nat → List (Option Value) → List Value → ra_H → Option (Int32 × ra_H) := ra_k0
theorem kX12_isCompared_64_ok (N : Nat) : ra_kok 2 mX12_isCompared ra_oI (kX12_isCompared_64 N) := ra_k0_ok
set_option maxRecDepth 100000 in
theorem nX12_isCompared_64_ok (N : Nat) (b0 : Int32) (h : ra_H) (r : (Int32 × ra_H)) (e : nX12_isCompared_64 N b0 h = some r) : ra_Ru 2 mX12_isCompared 64 [none, none] [.int b0] h (ra_oI r) :=
  ra_sound (by omega) rfl ra_rI_ok (kX12_isCompared_64_ok N) (fun m av h h1 e => (ra_c0_ok (ro := ra_oV)) m av h h1 e) (fun m av h x h1 e => (tIX12_isCompared_ok N) m av h (x, h1) e) (fun m av h x h1 e => (ra_c0_ok (ro := ra_oJ)) m av h (x, h1) e) (fun m av h x h1 e => (ra_c0_ok (ro := ra_oR)) m av h (x, h1) e) (fun m av h x h1 e => (ra_c0_ok (ro := ra_oN)) m av h (x, h1) e) (fun m av h x h1 e => (ra_c0_ok (ro := ra_oF)) m av h (x, h1) e) 2 lX12_isCompared_64 _ _ _ _ lX12_isCompared_64_ck (show ra_run ra_rI (kX12_isCompared_64 N) ra_c0 (tIX12_isCompared N) ra_c0 ra_c0 ra_c0 ra_c0 2 lX12_isCompared_64 [none, none] [.int b0] h = some r from e) _ _ rfl
def lX12_isCompared_63 : List ra_I := [(63, .iconst (0), 1, 0, 0, 0, (0), 0, [])]
set_option maxRecDepth 100000 in
theorem lX12_isCompared_63_ck : lX12_isCompared_63.all (ra_ck mX12_isCompared 12) = true := by decide +kernel
def nX12_isCompared_63 (N : Nat) (h : ra_H) : Option (Int32 × ra_H) :=
  nX12_isCompared_64 N ((0 : Int32)) h
def kX12_isCompared_63 (N : Nat) : Nat → List (Option Value) → List Value → ra_H → Option (Int32 × ra_H) := (ra_k1 64 (fun L S h => match L, S with
  | [_, _], [.int b0] => nX12_isCompared_64 N b0 h
  | _, _ => none) ra_k0)
theorem kX12_isCompared_63_ok (N : Nat) : ra_kok 2 mX12_isCompared ra_oI (kX12_isCompared_63 N) := (ra_k1_ok (by
  intro L S h a e
  split at e
  · exact ra_Ru.weak (nX12_isCompared_64_ok N _ _ _ e) trivial
  · cases e) ra_k0_ok)
set_option maxRecDepth 100000 in
theorem nX12_isCompared_63_ok (N : Nat) (h : ra_H) (r : (Int32 × ra_H)) (e : nX12_isCompared_63 N h = some r) : ra_Ru 2 mX12_isCompared 63 [none, none] [] h (ra_oI r) :=
  ra_sound (by omega) rfl ra_rI_ok (kX12_isCompared_63_ok N) (fun m av h h1 e => (ra_c0_ok (ro := ra_oV)) m av h h1 e) (fun m av h x h1 e => (tIX12_isCompared_ok N) m av h (x, h1) e) (fun m av h x h1 e => (ra_c0_ok (ro := ra_oJ)) m av h (x, h1) e) (fun m av h x h1 e => (ra_c0_ok (ro := ra_oR)) m av h (x, h1) e) (fun m av h x h1 e => (ra_c0_ok (ro := ra_oN)) m av h (x, h1) e) (fun m av h x h1 e => (ra_c0_ok (ro := ra_oF)) m av h (x, h1) e) 2 lX12_isCompared_63 _ _ _ _ lX12_isCompared_63_ck (show ra_run ra_rI (kX12_isCompared_63 N) ra_c0 (tIX12_isCompared N) ra_c0 ra_c0 ra_c0 ra_c0 2 lX12_isCompared_63 [none, none] [] h = some r from e) _ _ rfl
def lX12_isCompared_36 : List ra_I := [(36, .iload_n 1, 1, 1, 0, 0, 0, 0, []),
  (37, .ifCond .lt (26), 3, 63, 0, 0, 0, 0, []),
  (40, .aload_n 0, 1, 0, 0, 0, 0, 0, []),
  (41, .getfield 39, 3, 12, 21, 2, 0, 0, []),
  (44, .iload_n 1, 1, 1, 0, 0, 0, 0, []),
  (45, .iaload, 1, 0, 0, 0, 0, 0, []),
  (46, .i2l, 1, 0, 0, 0, 0, 0, []),
  (47, .ldc2_w 281, 3, 0, 0, 0, 0, (24), []),
  (50, .ldc2_w 283, 3, 0, 0, 0, 0, (26), []),
  (53, .invokestatic 153, 3, 209, 3, 1, 0, 0, []),
  (56, .ifCond .eq (7), 3, 63, 0, 0, 0, 0, []),
  (59, .iconst (1), 1, 0, 0, 0, (1), 0, []),
  (60, .goto (4), 3, 64, 0, 0, 0, 0, [])]
set_option maxRecDepth 100000 in
theorem lX12_isCompared_36_ck : lX12_isCompared_36.all (ra_ck mX12_isCompared 12) = true := by decide +kernel
def nX12_isCompared_36 (N : Nat) (a0 : Nat) (a1 : Int32) (h : ra_H) : Option (Int32 × ra_H) :=
  if a1 < 0 then
    nX12_isCompared_63 N h
  else
    (ra_fR h 12 a0 21).bind fun x1 =>
    (ra_aI h 0 x1 a1).bind fun x2 =>
    (fX12_in N (Int32.toInt64 x2) ((24 : Int64)) ((26 : Int64)) h).bind fun q3 =>
    if q3.1 = 0 then
      nX12_isCompared_63 N q3.2
    else
      nX12_isCompared_64 N ((1 : Int32)) q3.2
def kX12_isCompared_36 (N : Nat) : Nat → List (Option Value) → List Value → ra_H → Option (Int32 × ra_H) := (ra_k1 63 (fun L S h => match L, S with
  | [_, _], [] => nX12_isCompared_63 N h
  | _, _ => none) (ra_k1 64 (fun L S h => match L, S with
  | [_, _], [.int b0] => nX12_isCompared_64 N b0 h
  | _, _ => none) ra_k0))
theorem kX12_isCompared_36_ok (N : Nat) : ra_kok 2 mX12_isCompared ra_oI (kX12_isCompared_36 N) := (ra_k1_ok (by
  intro L S h a e
  split at e
  · exact ra_Ru.weak (nX12_isCompared_63_ok N _ _ e) trivial
  · cases e) (ra_k1_ok (by
  intro L S h a e
  split at e
  · exact ra_Ru.weak (nX12_isCompared_64_ok N _ _ _ e) trivial
  · cases e) ra_k0_ok))
set_option maxRecDepth 100000 in
theorem nX12_isCompared_36_ok (N : Nat) (a0 : Nat) (a1 : Int32) (h : ra_H) (r : (Int32 × ra_H)) (e : nX12_isCompared_36 N a0 a1 h = some r) : ra_Ru 2 mX12_isCompared 36 [some (.ref a0), some (.int a1)] [] h (ra_oI r) :=
  ra_sound (by omega) rfl ra_rI_ok (kX12_isCompared_36_ok N) (fun m av h h1 e => (ra_c0_ok (ro := ra_oV)) m av h h1 e) (fun m av h x h1 e => (tIX12_isCompared_ok N) m av h (x, h1) e) (fun m av h x h1 e => (ra_c0_ok (ro := ra_oJ)) m av h (x, h1) e) (fun m av h x h1 e => (ra_c0_ok (ro := ra_oR)) m av h (x, h1) e) (fun m av h x h1 e => (ra_c0_ok (ro := ra_oN)) m av h (x, h1) e) (fun m av h x h1 e => (ra_c0_ok (ro := ra_oF)) m av h (x, h1) e) 14 lX12_isCompared_36 _ _ _ _ lX12_isCompared_36_ck (show ra_run ra_rI (kX12_isCompared_36 N) ra_c0 (tIX12_isCompared N) ra_c0 ra_c0 ra_c0 ra_c0 14 lX12_isCompared_36 [some (.ref a0), some (.int a1)] [] h = some r from e) _ _ rfl
def lX12_isCompared_7 : List ra_I := [(7, .iload_n 1, 1, 1, 0, 0, 0, 0, []),
  (8, .ifCond .lt (28), 3, 36, 0, 0, 0, 0, []),
  (11, .aload_n 0, 1, 0, 0, 0, 0, 0, []),
  (12, .getfield 39, 3, 12, 21, 2, 0, 0, []),
  (15, .iload_n 1, 1, 1, 0, 0, 0, 0, []),
  (16, .iaload, 1, 0, 0, 0, 0, 0, []),
  (17, .i2l, 1, 0, 0, 0, 0, 0, []),
  (18, .ldc2_w 277, 3, 0, 0, 0, 0, (20), []),
  (21, .ldc2_w 279, 3, 0, 0, 0, 0, (23), []),
  (24, .invokestatic 153, 3, 209, 3, 1, 0, 0, []),
  (27, .ifCond .eq (9), 3, 36, 0, 0, 0, 0, []),
  (30, .iinc 1 (-1), 3, 1, 0, 0, (-1), 0, []),
  (33, .goto (-26), 3, 7, 0, 0, 0, 0, [])]
set_option maxRecDepth 100000 in
theorem lX12_isCompared_7_ck : lX12_isCompared_7.all (ra_ck mX12_isCompared 12) = true := by decide +kernel
def nX12_isCompared_7 (N : Nat) : Nat → Nat → Int32 → ra_H → Option (Int32 × ra_H)
  | 0, _, _, _ => none
  | n + 1, a0, a1, h =>
  if a1 < 0 then
    nX12_isCompared_36 N a0 a1 h
  else
    (ra_fR h 12 a0 21).bind fun x1 =>
    (ra_aI h 0 x1 a1).bind fun x2 =>
    (fX12_in N (Int32.toInt64 x2) ((20 : Int64)) ((23 : Int64)) h).bind fun q3 =>
    if q3.1 = 0 then
      nX12_isCompared_36 N a0 a1 q3.2
    else
      let y4 := a1 + (-1 : Int32)
      nX12_isCompared_7 N n a0 y4 q3.2
def kX12_isCompared_7 (N : Nat) (cs : Nat → Int32 → ra_H → Option (Int32 × ra_H)) : Nat → List (Option Value) → List Value → ra_H → Option (Int32 × ra_H) := (ra_k1 7 (fun L S h => match L, S with
  | [some (.ref a0), some (.int a1)], [] => cs a0 a1 h
  | _, _ => none) (ra_k1 36 (fun L S h => match L, S with
  | [some (.ref a0), some (.int a1)], [] => nX12_isCompared_36 N a0 a1 h
  | _, _ => none) ra_k0))
theorem kX12_isCompared_7_ok (N : Nat) (cs : Nat → Int32 → ra_H → Option (Int32 × ra_H)) (hcs : ∀ a0 a1 h r, cs a0 a1 h = some r → ra_Ru 2 mX12_isCompared 7 [some (.ref a0), some (.int a1)] [] h (ra_oI r)) : ra_kok 2 mX12_isCompared ra_oI (kX12_isCompared_7 N cs) := (ra_k1_ok (by
  intro L S h a e
  split at e
  · exact ra_Ru.weak (hcs _ _ _ _ e) ⟨rfl, ⟨rfl, trivial⟩⟩
  · cases e) (ra_k1_ok (by
  intro L S h a e
  split at e
  · exact ra_Ru.weak (nX12_isCompared_36_ok N _ _ _ _ e) ⟨rfl, ⟨rfl, trivial⟩⟩
  · cases e) ra_k0_ok))
set_option maxRecDepth 100000 in
theorem nX12_isCompared_7_ok (N : Nat) : ∀ n a0 a1 h r, nX12_isCompared_7 N n a0 a1 h = some r → ra_Ru 2 mX12_isCompared 7 [some (.ref a0), some (.int a1)] [] h (ra_oI r) := by
  intro n
  induction n with
  | zero => intro a0 a1 h r e; cases e
  | succ n ih =>
    intro a0 a1 h r e
    exact ra_sound (by omega) rfl ra_rI_ok (kX12_isCompared_7_ok N (nX12_isCompared_7 N n) ih) (fun m av h h1 e => (ra_c0_ok (ro := ra_oV)) m av h h1 e) (fun m av h x h1 e => (tIX12_isCompared_ok N) m av h (x, h1) e) (fun m av h x h1 e => (ra_c0_ok (ro := ra_oJ)) m av h (x, h1) e) (fun m av h x h1 e => (ra_c0_ok (ro := ra_oR)) m av h (x, h1) e) (fun m av h x h1 e => (ra_c0_ok (ro := ra_oN)) m av h (x, h1) e) (fun m av h x h1 e => (ra_c0_ok (ro := ra_oF)) m av h (x, h1) e) 14 lX12_isCompared_7 _ _ _ _ lX12_isCompared_7_ck (show ra_run ra_rI (kX12_isCompared_7 N (nX12_isCompared_7 N n)) ra_c0 (tIX12_isCompared N) ra_c0 ra_c0 ra_c0 ra_c0 14 lX12_isCompared_7 [some (.ref a0), some (.int a1)] [] h = some r from e) _ _ rfl
def lX12_isCompared_0 : List ra_I := [(0, .aload_n 0, 1, 0, 0, 0, 0, 0, []),
  (1, .getfield 267, 3, 12, 23, 0, 0, 0, []),
  (4, .iconst (1), 1, 0, 0, 0, (1), 0, []),
  (5, .isub, 1, 0, 0, 0, 0, 0, []),
  (6, .istore_n 1, 1, 1, 0, 0, 0, 0, [])]
set_option maxRecDepth 100000 in
theorem lX12_isCompared_0_ck : lX12_isCompared_0.all (ra_ck mX12_isCompared 12) = true := by decide +kernel
def nX12_isCompared_0 (N : Nat) (a0 : Nat) (h : ra_H) : Option (Int32 × ra_H) :=
  (ra_fI h 12 a0 23).bind fun x1 =>
  let y2 := x1 - ((1 : Int32))
  nX12_isCompared_7 N N a0 y2 h
def kX12_isCompared_0 (N : Nat) : Nat → List (Option Value) → List Value → ra_H → Option (Int32 × ra_H) := (ra_k1 7 (fun L S h => match L, S with
  | [some (.ref a0), some (.int a1)], [] => nX12_isCompared_7 N N a0 a1 h
  | _, _ => none) ra_k0)
theorem kX12_isCompared_0_ok (N : Nat) : ra_kok 2 mX12_isCompared ra_oI (kX12_isCompared_0 N) := (ra_k1_ok (by
  intro L S h a e
  split at e
  · exact ra_Ru.weak (nX12_isCompared_7_ok N N _ _ _ _ e) ⟨rfl, ⟨rfl, trivial⟩⟩
  · cases e) ra_k0_ok)
set_option maxRecDepth 100000 in
theorem nX12_isCompared_0_ok (N : Nat) (a0 : Nat) (h : ra_H) (r : (Int32 × ra_H)) (e : nX12_isCompared_0 N a0 h = some r) : ra_Ru 2 mX12_isCompared 0 [some (.ref a0), none] [] h (ra_oI r) :=
  ra_sound (by omega) rfl ra_rI_ok (kX12_isCompared_0_ok N) (fun m av h h1 e => (ra_c0_ok (ro := ra_oV)) m av h h1 e) (fun m av h x h1 e => (tIX12_isCompared_ok N) m av h (x, h1) e) (fun m av h x h1 e => (ra_c0_ok (ro := ra_oJ)) m av h (x, h1) e) (fun m av h x h1 e => (ra_c0_ok (ro := ra_oR)) m av h (x, h1) e) (fun m av h x h1 e => (ra_c0_ok (ro := ra_oN)) m av h (x, h1) e) (fun m av h x h1 e => (ra_c0_ok (ro := ra_oF)) m av h (x, h1) e) 6 lX12_isCompared_0 _ _ _ _ lX12_isCompared_0_ck (show ra_run ra_rI (kX12_isCompared_0 N) ra_c0 (tIX12_isCompared N) ra_c0 ra_c0 ra_c0 ra_c0 6 lX12_isCompared_0 [some (.ref a0), none] [] h = some r from e) _ _ rfl
def fX12_isCompared (N : Nat) (p0 : Nat) (h : ra_H) : Option (Int32 × ra_H) := match ra_isOb h p0 12 with
  | true => (nX12_isCompared_0 N p0 h).bind (fun q => ra_rz q.1 q.2)
  | false => none
set_option maxRecDepth 100000 in
theorem mtX12_isCompared : ra_MT[253]? = some (mX12_isCompared, 1, 0, (1, 13), (8, 39), (0, 85)) := rfl
theorem fX12_isCompared_co (N : Nat) (p0 : Nat) (h : ra_H) (r : (Int32 × ra_H)) (e : fX12_isCompared N p0 h = some r) (D : Nat) (hD : 3 ≤ D) : ra_CO D 253 [.ref p0] h (ra_oI r).1 (ra_oI r).2 := by
  have hw : ra_nw2 [.ref p0] ≤ 2 := Nat.le_of_ble_eq_true rfl
  have hdb : ∀ v ∈ ([.ref p0] : List Value), ∀ x, v ≠ .double x := by
    intro v hv x hx
    simp [hx] at hv
  unfold fX12_isCompared at e
  split at e
  · rename_i ho
    obtain ⟨q, e1, e2⟩ := Option.bind_eq_some_iff.mp e
    obtain ⟨rfl, hz⟩ := ra_rz_of e2
    exact ⟨2, _, mtX12_isCompared, hD, ra_ev_of (by decide) hdb hw hz (ra_Ru.weak (nX12_isCompared_0_ok N p0 h _ e1) ⟨rfl, trivial⟩), (fun _ => ⟨_, _, rfl, ra_rcv_of ho (by decide) rfl⟩), (fun h => absurd h (by decide))⟩
  · cases e
/-! RedMarksModel.isSign(I)Z -/
def mX12_isSign : ra_M := (yX12_isSign, cX12_isSign, 2, (some .boolean))
def lX12_isSign_23 : List ra_I := [(23, .ireturn, 1, 0, 0, 0, 0, 0, [])]
set_option maxRecDepth 100000 in
theorem lX12_isSign_23_ck : lX12_isSign_23.all (ra_ck mX12_isSign 12) = true := by decide +kernel
def nX12_isSign_23 (N : Nat) (b0 : Int32) (h : ra_H) : Option (Int32 × ra_H) :=
  some (b0, h)
def kX12_isSign_23 (N : Nat) : Nat → List (Option Value) → List Value → ra_H → Option (Int32 × ra_H) := ra_k0
theorem kX12_isSign_23_ok (N : Nat) : ra_kok 1 mX12_isSign ra_oI (kX12_isSign_23 N) := ra_k0_ok
set_option maxRecDepth 100000 in
theorem nX12_isSign_23_ok (N : Nat) (b0 : Int32) (h : ra_H) (r : (Int32 × ra_H)) (e : nX12_isSign_23 N b0 h = some r) : ra_Ru 1 mX12_isSign 23 [none, none] [.int b0] h (ra_oI r) :=
  ra_sound (by omega) rfl ra_rI_ok (kX12_isSign_23_ok N) (fun m av h h1 e => (ra_c0_ok (ro := ra_oV)) m av h h1 e) (fun m av h x h1 e => (ra_c0_ok (ro := ra_oI)) m av h (x, h1) e) (fun m av h x h1 e => (ra_c0_ok (ro := ra_oJ)) m av h (x, h1) e) (fun m av h x h1 e => (ra_c0_ok (ro := ra_oR)) m av h (x, h1) e) (fun m av h x h1 e => (ra_c0_ok (ro := ra_oN)) m av h (x, h1) e) (fun m av h x h1 e => (ra_c0_ok (ro := ra_oF)) m av h (x, h1) e) 2 lX12_isSign_23 _ _ _ _ lX12_isSign_23_ck (show ra_run ra_rI (kX12_isSign_23 N) ra_c0 ra_c0 ra_c0 ra_c0 ra_c0 ra_c0 2 lX12_isSign_23 [none, none] [.int b0] h = some r from e) _ _ rfl
def lX12_isSign_22 : List ra_I := [(22, .iconst (0), 1, 0, 0, 0, (0), 0, [])]
set_option maxRecDepth 100000 in
theorem lX12_isSign_22_ck : lX12_isSign_22.all (ra_ck mX12_isSign 12) = true := by decide +kernel
def nX12_isSign_22 (N : Nat) (h : ra_H) : Option (Int32 × ra_H) :=
  nX12_isSign_23 N ((0 : Int32)) h
def kX12_isSign_22 (N : Nat) : Nat → List (Option Value) → List Value → ra_H → Option (Int32 × ra_H) := (ra_k1 23 (fun L S h => match L, S with
  | [_, _], [.int b0] => nX12_isSign_23 N b0 h
  | _, _ => none) ra_k0)
theorem kX12_isSign_22_ok (N : Nat) : ra_kok 1 mX12_isSign ra_oI (kX12_isSign_22 N) := (ra_k1_ok (by
  intro L S h a e
  split at e
  · exact ra_Ru.weak (nX12_isSign_23_ok N _ _ _ e) trivial
  · cases e) ra_k0_ok)
set_option maxRecDepth 100000 in
theorem nX12_isSign_22_ok (N : Nat) (h : ra_H) (r : (Int32 × ra_H)) (e : nX12_isSign_22 N h = some r) : ra_Ru 1 mX12_isSign 22 [none, none] [] h (ra_oI r) :=
  ra_sound (by omega) rfl ra_rI_ok (kX12_isSign_22_ok N) (fun m av h h1 e => (ra_c0_ok (ro := ra_oV)) m av h h1 e) (fun m av h x h1 e => (ra_c0_ok (ro := ra_oI)) m av h (x, h1) e) (fun m av h x h1 e => (ra_c0_ok (ro := ra_oJ)) m av h (x, h1) e) (fun m av h x h1 e => (ra_c0_ok (ro := ra_oR)) m av h (x, h1) e) (fun m av h x h1 e => (ra_c0_ok (ro := ra_oN)) m av h (x, h1) e) (fun m av h x h1 e => (ra_c0_ok (ro := ra_oF)) m av h (x, h1) e) 2 lX12_isSign_22 _ _ _ _ lX12_isSign_22_ck (show ra_run ra_rI (kX12_isSign_22 N) ra_c0 ra_c0 ra_c0 ra_c0 ra_c0 ra_c0 2 lX12_isSign_22 [none, none] [] h = some r from e) _ _ rfl
def lX12_isSign_0 : List ra_I := [(0, .aload_n 0, 1, 0, 0, 0, 0, 0, []),
  (1, .getfield 245, 3, 12, 11, 0, 0, 0, []),
  (4, .iconst (3), 1, 0, 0, 0, (3), 0, []),
  (5, .if_icmp .ne (17), 3, 22, 0, 0, 0, 0, []),
  (8, .aload_n 0, 1, 0, 0, 0, 0, 0, []),
  (9, .getfield 235, 3, 12, 12, 1, 0, 0, []),
  (12, .iload_n 1, 1, 1, 0, 0, 0, 0, []),
  (13, .i2l, 1, 0, 0, 0, 0, 0, []),
  (14, .lcmp, 1, 0, 0, 0, 0, 0, []),
  (15, .ifCond .ne (7), 3, 22, 0, 0, 0, 0, []),
  (18, .iconst (1), 1, 0, 0, 0, (1), 0, []),
  (19, .goto (4), 3, 23, 0, 0, 0, 0, [])]
set_option maxRecDepth 100000 in
theorem lX12_isSign_0_ck : lX12_isSign_0.all (ra_ck mX12_isSign 12) = true := by decide +kernel
def nX12_isSign_0 (N : Nat) (a0 : Nat) (a1 : Int32) (h : ra_H) : Option (Int32 × ra_H) :=
  (ra_fI h 12 a0 11).bind fun x1 =>
  if x1 = ((3 : Int32)) then
    (ra_fJ h 12 a0 12).bind fun x2 =>
    if (lg_cmp x2 (Int32.toInt64 a1)) = 0 then
      nX12_isSign_23 N ((1 : Int32)) h
    else
      nX12_isSign_22 N h
  else
    nX12_isSign_22 N h
def kX12_isSign_0 (N : Nat) : Nat → List (Option Value) → List Value → ra_H → Option (Int32 × ra_H) := (ra_k1 22 (fun L S h => match L, S with
  | [_, _], [] => nX12_isSign_22 N h
  | _, _ => none) (ra_k1 23 (fun L S h => match L, S with
  | [_, _], [.int b0] => nX12_isSign_23 N b0 h
  | _, _ => none) ra_k0))
theorem kX12_isSign_0_ok (N : Nat) : ra_kok 1 mX12_isSign ra_oI (kX12_isSign_0 N) := (ra_k1_ok (by
  intro L S h a e
  split at e
  · exact ra_Ru.weak (nX12_isSign_22_ok N _ _ e) trivial
  · cases e) (ra_k1_ok (by
  intro L S h a e
  split at e
  · exact ra_Ru.weak (nX12_isSign_23_ok N _ _ _ e) trivial
  · cases e) ra_k0_ok))
set_option maxRecDepth 100000 in
theorem nX12_isSign_0_ok (N : Nat) (a0 : Nat) (a1 : Int32) (h : ra_H) (r : (Int32 × ra_H)) (e : nX12_isSign_0 N a0 a1 h = some r) : ra_Ru 1 mX12_isSign 0 [some (.ref a0), some (.int a1)] [] h (ra_oI r) :=
  ra_sound (by omega) rfl ra_rI_ok (kX12_isSign_0_ok N) (fun m av h h1 e => (ra_c0_ok (ro := ra_oV)) m av h h1 e) (fun m av h x h1 e => (ra_c0_ok (ro := ra_oI)) m av h (x, h1) e) (fun m av h x h1 e => (ra_c0_ok (ro := ra_oJ)) m av h (x, h1) e) (fun m av h x h1 e => (ra_c0_ok (ro := ra_oR)) m av h (x, h1) e) (fun m av h x h1 e => (ra_c0_ok (ro := ra_oN)) m av h (x, h1) e) (fun m av h x h1 e => (ra_c0_ok (ro := ra_oF)) m av h (x, h1) e) 13 lX12_isSign_0 _ _ _ _ lX12_isSign_0_ck (show ra_run ra_rI (kX12_isSign_0 N) ra_c0 ra_c0 ra_c0 ra_c0 ra_c0 ra_c0 13 lX12_isSign_0 [some (.ref a0), some (.int a1)] [] h = some r from e) _ _ rfl
def fX12_isSign (N : Nat) (p0 : Nat) (p1 : Int32) (h : ra_H) : Option (Int32 × ra_H) := match ra_isOb h p0 12 with
  | true => (nX12_isSign_0 N p0 p1 h).bind (fun q => ra_rz q.1 q.2)
  | false => none
set_option maxRecDepth 100000 in
theorem mtX12_isSign : ra_MT[243]? = some (mX12_isSign, 1, 1, (1, 13), (7, 239), (0, 76)) := rfl
theorem fX12_isSign_co (N : Nat) (p0 : Nat) (p1 : Int32) (h : ra_H) (r : (Int32 × ra_H)) (e : fX12_isSign N p0 p1 h = some r) (D : Nat) (hD : 2 ≤ D) : ra_CO D 243 [.ref p0, .int p1] h (ra_oI r).1 (ra_oI r).2 := by
  have hw : ra_nw2 [.ref p0, .int p1] ≤ 2 := Nat.le_of_ble_eq_true rfl
  have hdb : ∀ v ∈ ([.ref p0, .int p1] : List Value), ∀ x, v ≠ .double x := by
    intro v hv x hx
    simp [hx] at hv
  unfold fX12_isSign at e
  split at e
  · rename_i ho
    obtain ⟨q, e1, e2⟩ := Option.bind_eq_some_iff.mp e
    obtain ⟨rfl, hz⟩ := ra_rz_of e2
    exact ⟨1, _, mtX12_isSign, hD, ra_ev_of (by decide) hdb hw hz (ra_Ru.weak (nX12_isSign_0_ok N p0 p1 h _ e1) ⟨rfl, ⟨rfl, trivial⟩⟩), (fun _ => ⟨_, _, rfl, ra_rcv_of ho (by decide) rfl⟩), (fun h => absurd h (by decide))⟩
  · cases e
/-! RedMarksModel.must(Z)V -/
def mX12_must : ra_M := (yX12_must, cX12_must, 2, none)
def tVX12_must (N : Nat) : Nat → List Value → ra_H → Option ra_H := (ra_c1 233 (fun av h => match av with
  | [.ref z0] => fX12_goOn N z0 h
  | _ => none) ra_c0)
theorem tVX12_must_ok (N : Nat) : ra_cok 3 ra_oV (tVX12_must N) := (ra_c1_ok (by
  intro av h a e
  split at e
  · exact fX12_goOn_co N _ _ _ e 3 (by omega)
  · cases e) ra_c0_ok)
def lX12_must_35 : List ra_I := [(35, .return_, 1, 0, 0, 0, 0, 0, [])]
set_option maxRecDepth 100000 in
theorem lX12_must_35_ck : lX12_must_35.all (ra_ck mX12_must 12) = true := by decide +kernel
def nX12_must_35 (N : Nat) (h : ra_H) : Option ra_H :=
  some h
def kX12_must_35 (N : Nat) : Nat → List (Option Value) → List Value → ra_H → Option ra_H := ra_k0
theorem kX12_must_35_ok (N : Nat) : ra_kok 3 mX12_must ra_oV (kX12_must_35 N) := ra_k0_ok
set_option maxRecDepth 100000 in
theorem nX12_must_35_ok (N : Nat) (h : ra_H) (r : ra_H) (e : nX12_must_35 N h = some r) : ra_Ru 3 mX12_must 35 [none, none] [] h (ra_oV r) :=
  ra_sound (by omega) rfl ra_rV_ok (kX12_must_35_ok N) (fun m av h h1 e => (tVX12_must_ok N) m av h h1 e) (fun m av h x h1 e => (ra_c0_ok (ro := ra_oI)) m av h (x, h1) e) (fun m av h x h1 e => (ra_c0_ok (ro := ra_oJ)) m av h (x, h1) e) (fun m av h x h1 e => (ra_c0_ok (ro := ra_oR)) m av h (x, h1) e) (fun m av h x h1 e => (ra_c0_ok (ro := ra_oN)) m av h (x, h1) e) (fun m av h x h1 e => (ra_c0_ok (ro := ra_oF)) m av h (x, h1) e) 2 lX12_must_35 _ _ _ _ lX12_must_35_ck (show ra_run ra_rV (kX12_must_35 N) (tVX12_must N) ra_c0 ra_c0 ra_c0 ra_c0 ra_c0 2 lX12_must_35 [none, none] [] h = some r from e) _ _ rfl
def lX12_must_24 : List ra_I := [(24, .aload_n 0, 1, 0, 0, 0, 0, 0, []),
  (25, .getfield 225, 3, 12, 14, 0, 0, 0, []),
  (28, .ifCond .ne (7), 3, 35, 0, 0, 0, 0, []),
  (31, .aload_n 0, 1, 0, 0, 0, 0, 0, []),
  (32, .invokevirtual 229, 3, 233, 1, 0, 0, 0, [])]
set_option maxRecDepth 100000 in
theorem lX12_must_24_ck : lX12_must_24.all (ra_ck mX12_must 12) = true := by decide +kernel
def nX12_must_24 (N : Nat) (a0 : Nat) (h : ra_H) : Option ra_H :=
  (ra_fI h 12 a0 14).bind fun x1 =>
  if x1 = 0 then
    (fX12_goOn N a0 h).bind fun h2 =>
    nX12_must_35 N h2
  else
    nX12_must_35 N h
def kX12_must_24 (N : Nat) : Nat → List (Option Value) → List Value → ra_H → Option ra_H := (ra_k1 35 (fun L S h => match L, S with
  | [_, _], [] => nX12_must_35 N h
  | _, _ => none) ra_k0)
theorem kX12_must_24_ok (N : Nat) : ra_kok 3 mX12_must ra_oV (kX12_must_24 N) := (ra_k1_ok (by
  intro L S h a e
  split at e
  · exact ra_Ru.weak (nX12_must_35_ok N _ _ e) trivial
  · cases e) ra_k0_ok)
set_option maxRecDepth 100000 in
theorem nX12_must_24_ok (N : Nat) (a0 : Nat) (h : ra_H) (r : ra_H) (e : nX12_must_24 N a0 h = some r) : ra_Ru 3 mX12_must 24 [some (.ref a0), none] [] h (ra_oV r) :=
  ra_sound (by omega) rfl ra_rV_ok (kX12_must_24_ok N) (fun m av h h1 e => (tVX12_must_ok N) m av h h1 e) (fun m av h x h1 e => (ra_c0_ok (ro := ra_oI)) m av h (x, h1) e) (fun m av h x h1 e => (ra_c0_ok (ro := ra_oJ)) m av h (x, h1) e) (fun m av h x h1 e => (ra_c0_ok (ro := ra_oR)) m av h (x, h1) e) (fun m av h x h1 e => (ra_c0_ok (ro := ra_oN)) m av h (x, h1) e) (fun m av h x h1 e => (ra_c0_ok (ro := ra_oF)) m av h (x, h1) e) 6 lX12_must_24 _ _ _ _ lX12_must_24_ck (show ra_run ra_rV (kX12_must_24 N) (tVX12_must N) ra_c0 ra_c0 ra_c0 ra_c0 ra_c0 6 lX12_must_24 [some (.ref a0), none] [] h = some r from e) _ _ rfl
def lX12_must_0 : List ra_I := [(0, .aload_n 0, 1, 0, 0, 0, 0, 0, []),
  (1, .getfield 225, 3, 12, 14, 0, 0, 0, []),
  (4, .ifCond .ne (20), 3, 24, 0, 0, 0, 0, []),
  (7, .iload_n 1, 1, 1, 0, 0, 0, 0, []),
  (8, .ifCond .ne (16), 3, 24, 0, 0, 0, 0, []),
  (11, .aload_n 0, 1, 0, 0, 0, 0, 0, []),
  (12, .iconst (1), 1, 0, 0, 0, (1), 0, []),
  (13, .putfield 225, 3, 12, 14, 4, 0, 0, []),
  (16, .aload_n 0, 1, 0, 0, 0, 0, 0, []),
  (17, .aload_n 0, 1, 0, 0, 0, 0, 0, []),
  (18, .getfield 232, 3, 12, 9, 0, 0, 0, []),
  (21, .putfield 26, 3, 12, 13, 0, 0, 0, [])]
set_option maxRecDepth 100000 in
theorem lX12_must_0_ck : lX12_must_0.all (ra_ck mX12_must 12) = true := by decide +kernel
def nX12_must_0 (N : Nat) (a0 : Nat) (a1 : Int32) (h : ra_H) : Option ra_H :=
  (ra_fI h 12 a0 14).bind fun x1 =>
  if x1 = 0 then
    if a1 = 0 then
      if ((1 : Int32)) = 0 ∨ ((1 : Int32)) = 1 then
      (ra_fW h 12 a0 14 (.int ((1 : Int32)))).bind fun h2 =>
      (ra_fI h2 12 a0 9).bind fun x3 =>
      (ra_fW h2 12 a0 13 (.int x3)).bind fun h4 =>
      nX12_must_24 N a0 h4
      else none
    else
      nX12_must_24 N a0 h
  else
    nX12_must_24 N a0 h
def kX12_must_0 (N : Nat) : Nat → List (Option Value) → List Value → ra_H → Option ra_H := (ra_k1 24 (fun L S h => match L, S with
  | [some (.ref a0), _], [] => nX12_must_24 N a0 h
  | _, _ => none) ra_k0)
theorem kX12_must_0_ok (N : Nat) : ra_kok 3 mX12_must ra_oV (kX12_must_0 N) := (ra_k1_ok (by
  intro L S h a e
  split at e
  · exact ra_Ru.weak (nX12_must_24_ok N _ _ _ e) ⟨rfl, trivial⟩
  · cases e) ra_k0_ok)
set_option maxRecDepth 100000 in
theorem nX12_must_0_ok (N : Nat) (a0 : Nat) (a1 : Int32) (h : ra_H) (r : ra_H) (e : nX12_must_0 N a0 a1 h = some r) : ra_Ru 3 mX12_must 0 [some (.ref a0), some (.int a1)] [] h (ra_oV r) :=
  ra_sound (by omega) rfl ra_rV_ok (kX12_must_0_ok N) (fun m av h h1 e => (tVX12_must_ok N) m av h h1 e) (fun m av h x h1 e => (ra_c0_ok (ro := ra_oI)) m av h (x, h1) e) (fun m av h x h1 e => (ra_c0_ok (ro := ra_oJ)) m av h (x, h1) e) (fun m av h x h1 e => (ra_c0_ok (ro := ra_oR)) m av h (x, h1) e) (fun m av h x h1 e => (ra_c0_ok (ro := ra_oN)) m av h (x, h1) e) (fun m av h x h1 e => (ra_c0_ok (ro := ra_oF)) m av h (x, h1) e) 13 lX12_must_0 _ _ _ _ lX12_must_0_ck (show ra_run ra_rV (kX12_must_0 N) (tVX12_must N) ra_c0 ra_c0 ra_c0 ra_c0 ra_c0 13 lX12_must_0 [some (.ref a0), some (.int a1)] [] h = some r from e) _ _ rfl
def fX12_must (N : Nat) (p0 : Nat) (p1 : Int32) (h : ra_H) : Option ra_H := match ra_isOb h p0 12 with
  | true => nX12_must_0 N p0 p1 h
  | false => none
set_option maxRecDepth 100000 in
theorem mtX12_must : ra_MT[239]? = some (mX12_must, 1, 1, (1, 13), (7, 222), (0, 72)) := rfl
theorem fX12_must_co (N : Nat) (p0 : Nat) (p1 : Int32) (h : ra_H) (r : ra_H) (e : fX12_must N p0 p1 h = some r) (D : Nat) (hD : 4 ≤ D) : ra_CO D 239 [.ref p0, .int p1] h (ra_oV r).1 (ra_oV r).2 := by
  have hw : ra_nw2 [.ref p0, .int p1] ≤ 2 := Nat.le_of_ble_eq_true rfl
  have hdb : ∀ v ∈ ([.ref p0, .int p1] : List Value), ∀ x, v ≠ .double x := by
    intro v hv x hx
    simp [hx] at hv
  unfold fX12_must at e
  split at e
  · rename_i ho
    have e1 := e
    exact ⟨3, _, mtX12_must, hD, ra_ev_of (by decide) hdb hw trivial (ra_Ru.weak (nX12_must_0_ok N p0 p1 h _ e1) ⟨rfl, ⟨rfl, trivial⟩⟩), (fun _ => ⟨_, _, rfl, ra_rcv_of ho (by decide) rfl⟩), (fun h => absurd h (by decide))⟩
  · cases e
/-! RedMarksModel.push(II)V -/
def mX12_push : ra_M := (yX12_push, cX12_push, 3, none)
def lX12_push_0 : List ra_I := [(0, .aload_n 0, 1, 0, 0, 0, 0, 0, []),
  (1, .getfield 39, 3, 12, 21, 2, 0, 0, []),
  (4, .aload_n 0, 1, 0, 0, 0, 0, 0, []),
  (5, .getfield 267, 3, 12, 23, 0, 0, 0, []),
  (8, .iload_n 1, 1, 1, 0, 0, 0, 0, []),
  (9, .iastore, 1, 0, 0, 0, 0, 0, []),
  (10, .aload_n 0, 1, 0, 0, 0, 0, 0, []),
  (11, .getfield 42, 3, 12, 22, 2, 0, 0, []),
  (14, .aload_n 0, 1, 0, 0, 0, 0, 0, []),
  (15, .getfield 267, 3, 12, 23, 0, 0, 0, []),
  (18, .iload_n 2, 1, 2, 0, 0, 0, 0, []),
  (19, .iastore, 1, 0, 0, 0, 0, 0, []),
  (20, .aload_n 0, 1, 0, 0, 0, 0, 0, []),
  (21, .dup, 1, 0, 0, 0, 0, 0, []),
  (22, .getfield 267, 3, 12, 23, 0, 0, 0, []),
  (25, .iconst (1), 1, 0, 0, 0, (1), 0, []),
  (26, .iadd, 1, 0, 0, 0, 0, 0, []),
  (27, .putfield 267, 3, 12, 23, 0, 0, 0, []),
  (30, .return_, 1, 0, 0, 0, 0, 0, [])]
set_option maxRecDepth 100000 in
theorem lX12_push_0_ck : lX12_push_0.all (ra_ck mX12_push 12) = true := by decide +kernel
def nX12_push_0 (N : Nat) (a0 : Nat) (a1 : Int32) (a2 : Int32) (h : ra_H) : Option ra_H :=
  (ra_fR h 12 a0 21).bind fun x1 =>
  (ra_fI h 12 a0 23).bind fun x2 =>
  (ra_aW h 0 x1 x2 a1).bind fun h3 =>
  (ra_fR h3 12 a0 22).bind fun x4 =>
  (ra_fI h3 12 a0 23).bind fun x5 =>
  (ra_aW h3 0 x4 x5 a2).bind fun h6 =>
  (ra_fI h6 12 a0 23).bind fun x7 =>
  (ra_fW h6 12 a0 23 (.int (x7 + ((1 : Int32))))).bind fun h8 =>
  some h8
def kX12_push_0 (N : Nat) : Nat → List (Option Value) → List Value → ra_H → Option ra_H := ra_k0
theorem kX12_push_0_ok (N : Nat) : ra_kok 1 mX12_push ra_oV (kX12_push_0 N) := ra_k0_ok
set_option maxRecDepth 100000 in
theorem nX12_push_0_ok (N : Nat) (a0 : Nat) (a1 : Int32) (a2 : Int32) (h : ra_H) (r : ra_H) (e : nX12_push_0 N a0 a1 a2 h = some r) : ra_Ru 1 mX12_push 0 [some (.ref a0), some (.int a1), some (.int a2)] [] h (ra_oV r) :=
  ra_sound (by omega) rfl ra_rV_ok (kX12_push_0_ok N) (fun m av h h1 e => (ra_c0_ok (ro := ra_oV)) m av h h1 e) (fun m av h x h1 e => (ra_c0_ok (ro := ra_oI)) m av h (x, h1) e) (fun m av h x h1 e => (ra_c0_ok (ro := ra_oJ)) m av h (x, h1) e) (fun m av h x h1 e => (ra_c0_ok (ro := ra_oR)) m av h (x, h1) e) (fun m av h x h1 e => (ra_c0_ok (ro := ra_oN)) m av h (x, h1) e) (fun m av h x h1 e => (ra_c0_ok (ro := ra_oF)) m av h (x, h1) e) 20 lX12_push_0 _ _ _ _ lX12_push_0_ck (show ra_run ra_rV (kX12_push_0 N) ra_c0 ra_c0 ra_c0 ra_c0 ra_c0 ra_c0 20 lX12_push_0 [some (.ref a0), some (.int a1), some (.int a2)] [] h = some r from e) _ _ rfl
def fX12_push (N : Nat) (p0 : Nat) (p1 : Int32) (p2 : Int32) (h : ra_H) : Option ra_H := match ra_isOb h p0 12 with
  | true => nX12_push_0 N p0 p1 p2 h
  | false => none
set_option maxRecDepth 100000 in
theorem mtX12_push : ra_MT[242]? = some (mX12_push, 1, 2, (1, 13), (7, 235), (0, 75)) := rfl
theorem fX12_push_co (N : Nat) (p0 : Nat) (p1 : Int32) (p2 : Int32) (h : ra_H) (r : ra_H) (e : fX12_push N p0 p1 p2 h = some r) (D : Nat) (hD : 2 ≤ D) : ra_CO D 242 [.ref p0, .int p1, .int p2] h (ra_oV r).1 (ra_oV r).2 := by
  have hw : ra_nw2 [.ref p0, .int p1, .int p2] ≤ 3 := Nat.le_of_ble_eq_true rfl
  have hdb : ∀ v ∈ ([.ref p0, .int p1, .int p2] : List Value), ∀ x, v ≠ .double x := by
    intro v hv x hx
    simp [hx] at hv
  unfold fX12_push at e
  split at e
  · rename_i ho
    have e1 := e
    exact ⟨1, _, mtX12_push, hD, ra_ev_of (by decide) hdb hw trivial (ra_Ru.weak (nX12_push_0_ok N p0 p1 p2 h _ e1) ⟨rfl, ⟨rfl, ⟨rfl, trivial⟩⟩⟩), (fun _ => ⟨_, _, rfl, ra_rcv_of ho (by decide) rfl⟩), (fun h => absurd h (by decide))⟩
  · cases e
/-! RedMarksModel.emit(II)V -/
def mX12_emit : ra_M := (yX12_emit, cX12_emit, 3, none)
def lX12_emit_0 : List ra_I := [(0, .aload_n 0, 1, 0, 0, 0, 0, 0, []),
  (1, .getfield 33, 3, 12, 18, 2, 0, 0, []),
  (4, .aload_n 0, 1, 0, 0, 0, 0, 0, []),
  (5, .getfield 264, 3, 12, 17, 0, 0, 0, []),
  (8, .iload_n 1, 1, 1, 0, 0, 0, 0, []),
  (9, .iastore, 1, 0, 0, 0, 0, 0, []),
  (10, .aload_n 0, 1, 0, 0, 0, 0, 0, []),
  (11, .getfield 36, 3, 12, 19, 2, 0, 0, []),
  (14, .aload_n 0, 1, 0, 0, 0, 0, 0, []),
  (15, .getfield 264, 3, 12, 17, 0, 0, 0, []),
  (18, .iload_n 2, 1, 2, 0, 0, 0, 0, []),
  (19, .iastore, 1, 0, 0, 0, 0, 0, []),
  (20, .aload_n 0, 1, 0, 0, 0, 0, 0, []),
  (21, .dup, 1, 0, 0, 0, 0, 0, []),
  (22, .getfield 264, 3, 12, 17, 0, 0, 0, []),
  (25, .iconst (1), 1, 0, 0, 0, (1), 0, []),
  (26, .iadd, 1, 0, 0, 0, 0, 0, []),
  (27, .putfield 264, 3, 12, 17, 0, 0, 0, []),
  (30, .return_, 1, 0, 0, 0, 0, 0, [])]
set_option maxRecDepth 100000 in
theorem lX12_emit_0_ck : lX12_emit_0.all (ra_ck mX12_emit 12) = true := by decide +kernel
def nX12_emit_0 (N : Nat) (a0 : Nat) (a1 : Int32) (a2 : Int32) (h : ra_H) : Option ra_H :=
  (ra_fR h 12 a0 18).bind fun x1 =>
  (ra_fI h 12 a0 17).bind fun x2 =>
  (ra_aW h 0 x1 x2 a1).bind fun h3 =>
  (ra_fR h3 12 a0 19).bind fun x4 =>
  (ra_fI h3 12 a0 17).bind fun x5 =>
  (ra_aW h3 0 x4 x5 a2).bind fun h6 =>
  (ra_fI h6 12 a0 17).bind fun x7 =>
  (ra_fW h6 12 a0 17 (.int (x7 + ((1 : Int32))))).bind fun h8 =>
  some h8
def kX12_emit_0 (N : Nat) : Nat → List (Option Value) → List Value → ra_H → Option ra_H := ra_k0
theorem kX12_emit_0_ok (N : Nat) : ra_kok 1 mX12_emit ra_oV (kX12_emit_0 N) := ra_k0_ok
set_option maxRecDepth 100000 in
theorem nX12_emit_0_ok (N : Nat) (a0 : Nat) (a1 : Int32) (a2 : Int32) (h : ra_H) (r : ra_H) (e : nX12_emit_0 N a0 a1 a2 h = some r) : ra_Ru 1 mX12_emit 0 [some (.ref a0), some (.int a1), some (.int a2)] [] h (ra_oV r) :=
  ra_sound (by omega) rfl ra_rV_ok (kX12_emit_0_ok N) (fun m av h h1 e => (ra_c0_ok (ro := ra_oV)) m av h h1 e) (fun m av h x h1 e => (ra_c0_ok (ro := ra_oI)) m av h (x, h1) e) (fun m av h x h1 e => (ra_c0_ok (ro := ra_oJ)) m av h (x, h1) e) (fun m av h x h1 e => (ra_c0_ok (ro := ra_oR)) m av h (x, h1) e) (fun m av h x h1 e => (ra_c0_ok (ro := ra_oN)) m av h (x, h1) e) (fun m av h x h1 e => (ra_c0_ok (ro := ra_oF)) m av h (x, h1) e) 20 lX12_emit_0 _ _ _ _ lX12_emit_0_ck (show ra_run ra_rV (kX12_emit_0 N) ra_c0 ra_c0 ra_c0 ra_c0 ra_c0 ra_c0 20 lX12_emit_0 [some (.ref a0), some (.int a1), some (.int a2)] [] h = some r from e) _ _ rfl
def fX12_emit (N : Nat) (p0 : Nat) (p1 : Int32) (p2 : Int32) (h : ra_H) : Option ra_H := match ra_isOb h p0 12 with
  | true => nX12_emit_0 N p0 p1 p2 h
  | false => none
set_option maxRecDepth 100000 in
theorem mtX12_emit : ra_MT[248]? = some (mX12_emit, 1, 2, (1, 13), (8, 20), (0, 81)) := rfl
theorem fX12_emit_co (N : Nat) (p0 : Nat) (p1 : Int32) (p2 : Int32) (h : ra_H) (r : ra_H) (e : fX12_emit N p0 p1 p2 h = some r) (D : Nat) (hD : 2 ≤ D) : ra_CO D 248 [.ref p0, .int p1, .int p2] h (ra_oV r).1 (ra_oV r).2 := by
  have hw : ra_nw2 [.ref p0, .int p1, .int p2] ≤ 3 := Nat.le_of_ble_eq_true rfl
  have hdb : ∀ v ∈ ([.ref p0, .int p1, .int p2] : List Value), ∀ x, v ≠ .double x := by
    intro v hv x hx
    simp [hx] at hv
  unfold fX12_emit at e
  split at e
  · rename_i ho
    have e1 := e
    exact ⟨1, _, mtX12_emit, hD, ra_ev_of (by decide) hdb hw trivial (ra_Ru.weak (nX12_emit_0_ok N p0 p1 p2 h _ e1) ⟨rfl, ⟨rfl, ⟨rfl, trivial⟩⟩⟩), (fun _ => ⟨_, _, rfl, ra_rcv_of ho (by decide) rfl⟩), (fun h => absurd h (by decide))⟩
  · cases e
/-! RedMarksModel.settle(I)V -/
def mX12_settle : ra_M := (yX12_settle, cX12_settle, 2, none)
def tVX12_settle (N : Nat) : Nat → List Value → ra_H → Option ra_H := (ra_c1 248 (fun av h => match av with
  | [.ref z0, .int z1, .int z2] => fX12_emit N z0 z1 z2 h
  | _ => none) ra_c0)
theorem tVX12_settle_ok (N : Nat) : ra_cok 2 ra_oV (tVX12_settle N) := (ra_c1_ok (by
  intro av h a e
  split at e
  · exact fX12_emit_co N _ _ _ _ _ e 2 (by omega)
  · cases e) ra_c0_ok)
def tIX12_settle (N : Nat) : Nat → List Value → ra_H → Option (Int32 × ra_H) := (ra_c1 250 (fun av h => match av with
  | [.int z0] => fX12_binds N z0 h
  | _ => none) ra_c0)
theorem tIX12_settle_ok (N : Nat) : ra_cok 2 ra_oI (tIX12_settle N) := (ra_c1_ok (by
  intro av h a e
  split at e
  · exact fX12_binds_co N _ _ _ e 2 (by omega)
  · cases e) ra_c0_ok)
def lX12_settle_63 : List ra_I := [(63, .aload_n 0, 1, 0, 0, 0, 0, 0, []),
  (64, .getfield 36, 3, 12, 19, 2, 0, 0, []),
  (67, .aload_n 0, 1, 0, 0, 0, 0, 0, []),
  (68, .getfield 42, 3, 12, 22, 2, 0, 0, []),
  (71, .aload_n 0, 1, 0, 0, 0, 0, 0, []),
  (72, .getfield 267, 3, 12, 23, 0, 0, 0, []),
  (75, .iaload, 1, 0, 0, 0, 0, 0, []),
  (76, .aload_n 0, 1, 0, 0, 0, 0, 0, []),
  (77, .getfield 264, 3, 12, 17, 0, 0, 0, []),
  (80, .iastore, 1, 0, 0, 0, 0, 0, []),
  (81, .goto (-81), 3, 0, 0, 0, 0, 0, [])]
set_option maxRecDepth 100000 in
theorem lX12_settle_63_ck : lX12_settle_63.all (ra_ck mX12_settle 12) = true := by decide +kernel
def nX12_settle_63 (N : Nat) (c0 : Nat → Int32 → ra_H → Option ra_H) (a0 : Nat) (a1 : Int32) (h : ra_H) : Option ra_H :=
  (ra_fR h 12 a0 19).bind fun x1 =>
  (ra_fR h 12 a0 22).bind fun x2 =>
  (ra_fI h 12 a0 23).bind fun x3 =>
  (ra_aI h 0 x2 x3).bind fun x4 =>
  (ra_fI h 12 a0 17).bind fun x5 =>
  (ra_aW h 0 x1 x4 x5).bind fun h6 =>
  c0 a0 a1 h6
def kX12_settle_63 (N : Nat) (c0 : Nat → Int32 → ra_H → Option ra_H) : Nat → List (Option Value) → List Value → ra_H → Option ra_H := (ra_k1 0 (fun L S h => match L, S with
  | [some (.ref a0), some (.int a1)], [] => c0 a0 a1 h
  | _, _ => none) ra_k0)
theorem kX12_settle_63_ok (N : Nat) (c0 : Nat → Int32 → ra_H → Option ra_H) (hc0 : ∀ a0 a1 h r, c0 a0 a1 h = some r → ra_Ru 2 mX12_settle 0 [some (.ref a0), some (.int a1)] [] h (ra_oV r)) : ra_kok 2 mX12_settle ra_oV (kX12_settle_63 N c0) := (ra_k1_ok (by
  intro L S h a e
  split at e
  · exact ra_Ru.weak (hc0 _ _ _ _ e) ⟨rfl, ⟨rfl, trivial⟩⟩
  · cases e) ra_k0_ok)
set_option maxRecDepth 100000 in
theorem nX12_settle_63_ok (N : Nat) (c0 : Nat → Int32 → ra_H → Option ra_H) (hc0 : ∀ a0 a1 h r, c0 a0 a1 h = some r → ra_Ru 2 mX12_settle 0 [some (.ref a0), some (.int a1)] [] h (ra_oV r)) (a0 : Nat) (a1 : Int32) (h : ra_H) (r : ra_H) (e : nX12_settle_63 N c0 a0 a1 h = some r) : ra_Ru 2 mX12_settle 63 [some (.ref a0), some (.int a1)] [] h (ra_oV r) :=
  ra_sound (by omega) rfl ra_rV_ok (kX12_settle_63_ok N c0 hc0) (fun m av h h1 e => (tVX12_settle_ok N) m av h h1 e) (fun m av h x h1 e => (tIX12_settle_ok N) m av h (x, h1) e) (fun m av h x h1 e => (ra_c0_ok (ro := ra_oJ)) m av h (x, h1) e) (fun m av h x h1 e => (ra_c0_ok (ro := ra_oR)) m av h (x, h1) e) (fun m av h x h1 e => (ra_c0_ok (ro := ra_oN)) m av h (x, h1) e) (fun m av h x h1 e => (ra_c0_ok (ro := ra_oF)) m av h (x, h1) e) 12 lX12_settle_63 _ _ _ _ lX12_settle_63_ck (show ra_run ra_rV (kX12_settle_63 N c0) (tVX12_settle N) (tIX12_settle N) ra_c0 ra_c0 ra_c0 ra_c0 12 lX12_settle_63 [some (.ref a0), some (.int a1)] [] h = some r from e) _ _ rfl
def lX12_settle_101 : List ra_I := [(101, .return_, 1, 0, 0, 0, 0, 0, [])]
set_option maxRecDepth 100000 in
theorem lX12_settle_101_ck : lX12_settle_101.all (ra_ck mX12_settle 12) = true := by decide +kernel
def nX12_settle_101 (N : Nat) (h : ra_H) : Option ra_H :=
  some h
def kX12_settle_101 (N : Nat) : Nat → List (Option Value) → List Value → ra_H → Option ra_H := ra_k0
theorem kX12_settle_101_ok (N : Nat) : ra_kok 2 mX12_settle ra_oV (kX12_settle_101 N) := ra_k0_ok
set_option maxRecDepth 100000 in
theorem nX12_settle_101_ok (N : Nat) (h : ra_H) (r : ra_H) (e : nX12_settle_101 N h = some r) : ra_Ru 2 mX12_settle 101 [none, none] [] h (ra_oV r) :=
  ra_sound (by omega) rfl ra_rV_ok (kX12_settle_101_ok N) (fun m av h h1 e => (tVX12_settle_ok N) m av h h1 e) (fun m av h x h1 e => (tIX12_settle_ok N) m av h (x, h1) e) (fun m av h x h1 e => (ra_c0_ok (ro := ra_oJ)) m av h (x, h1) e) (fun m av h x h1 e => (ra_c0_ok (ro := ra_oR)) m av h (x, h1) e) (fun m av h x h1 e => (ra_c0_ok (ro := ra_oN)) m av h (x, h1) e) (fun m av h x h1 e => (ra_c0_ok (ro := ra_oF)) m av h (x, h1) e) 2 lX12_settle_101 _ _ _ _ lX12_settle_101_ck (show ra_run ra_rV (kX12_settle_101 N) (tVX12_settle N) (tIX12_settle N) ra_c0 ra_c0 ra_c0 ra_c0 2 lX12_settle_101 [none, none] [] h = some r from e) _ _ rfl
def lX12_settle_0 : List ra_I := [(0, .aload_n 0, 1, 0, 0, 0, 0, 0, []),
  (1, .getfield 267, 3, 12, 23, 0, 0, 0, []),
  (4, .ifCond .le (97), 3, 101, 0, 0, 0, 0, []),
  (7, .aload_n 0, 1, 0, 0, 0, 0, 0, []),
  (8, .getfield 39, 3, 12, 21, 2, 0, 0, []),
  (11, .aload_n 0, 1, 0, 0, 0, 0, 0, []),
  (12, .getfield 267, 3, 12, 23, 0, 0, 0, []),
  (15, .iconst (1), 1, 0, 0, 0, (1), 0, []),
  (16, .isub, 1, 0, 0, 0, 0, 0, []),
  (17, .iaload, 1, 0, 0, 0, 0, 0, []),
  (18, .invokestatic 270, 3, 250, 1, 1, 0, 0, []),
  (21, .iload_n 1, 1, 1, 0, 0, 0, 0, []),
  (22, .if_icmp .lt (79), 3, 101, 0, 0, 0, 0, []),
  (25, .aload_n 0, 1, 0, 0, 0, 0, 0, []),
  (26, .dup, 1, 0, 0, 0, 0, 0, []),
  (27, .getfield 267, 3, 12, 23, 0, 0, 0, []),
  (30, .iconst (1), 1, 0, 0, 0, (1), 0, []),
  (31, .isub, 1, 0, 0, 0, 0, 0, []),
  (32, .putfield 267, 3, 12, 23, 0, 0, 0, []),
  (35, .aload_n 0, 1, 0, 0, 0, 0, 0, []),
  (36, .getfield 39, 3, 12, 21, 2, 0, 0, []),
  (39, .aload_n 0, 1, 0, 0, 0, 0, 0, []),
  (40, .getfield 267, 3, 12, 23, 0, 0, 0, []),
  (43, .iaload, 1, 0, 0, 0, 0, 0, []),
  (44, .bipush (28), 2, 0, 0, 0, (28), 0, []),
  (46, .if_icmp .eq (17), 3, 63, 0, 0, 0, 0, []),
  (49, .aload_n 0, 1, 0, 0, 0, 0, 0, []),
  (50, .getfield 39, 3, 12, 21, 2, 0, 0, []),
  (53, .aload_n 0, 1, 0, 0, 0, 0, 0, []),
  (54, .getfield 267, 3, 12, 23, 0, 0, 0, []),
  (57, .iaload, 1, 0, 0, 0, 0, 0, []),
  (58, .bipush (29), 2, 0, 0, 0, (29), 0, []),
  (60, .if_icmp .ne (24), 3, 84, 0, 0, 0, 0, []),
  (84, .aload_n 0, 1, 0, 0, 0, 0, 0, []),
  (85, .aload_n 0, 1, 0, 0, 0, 0, 0, []),
  (86, .getfield 39, 3, 12, 21, 2, 0, 0, []),
  (89, .aload_n 0, 1, 0, 0, 0, 0, 0, []),
  (90, .getfield 267, 3, 12, 23, 0, 0, 0, []),
  (93, .iaload, 1, 0, 0, 0, 0, 0, []),
  (94, .iconst (0), 1, 0, 0, 0, (0), 0, []),
  (95, .invokevirtual 273, 3, 248, 3, 0, 0, 0, []),
  (98, .goto (-98), 3, 0, 0, 0, 0, 0, [])]
set_option maxRecDepth 100000 in
theorem lX12_settle_0_ck : lX12_settle_0.all (ra_ck mX12_settle 12) = true := by decide +kernel
def nX12_settle_0 (N : Nat) : Nat → Nat → Int32 → ra_H → Option ra_H
  | 0, _, _, _ => none
  | n + 1, a0, a1, h =>
  (ra_fI h 12 a0 23).bind fun x1 =>
  if x1 ≤ 0 then
    nX12_settle_101 N h
  else
    (ra_fR h 12 a0 21).bind fun x2 =>
    (ra_fI h 12 a0 23).bind fun x3 =>
    (ra_aI h 0 x2 (x3 - ((1 : Int32)))).bind fun x4 =>
    (fX12_binds N x4 h).bind fun q5 =>
    if q5.1 < a1 then
      nX12_settle_101 N q5.2
    else
      (ra_fI q5.2 12 a0 23).bind fun x6 =>
      (ra_fW q5.2 12 a0 23 (.int (x6 - ((1 : Int32))))).bind fun h7 =>
      (ra_fR h7 12 a0 21).bind fun x8 =>
      (ra_fI h7 12 a0 23).bind fun x9 =>
      (ra_aI h7 0 x8 x9).bind fun x10 =>
      if x10 = ((28 : Int32)) then
        nX12_settle_63 N (nX12_settle_0 N n) a0 a1 h7
      else
        (ra_fR h7 12 a0 21).bind fun x11 =>
        (ra_fI h7 12 a0 23).bind fun x12 =>
        (ra_aI h7 0 x11 x12).bind fun x13 =>
        if x13 = ((29 : Int32)) then
          nX12_settle_63 N (nX12_settle_0 N n) a0 a1 h7
        else
          (ra_fR h7 12 a0 21).bind fun x14 =>
          (ra_fI h7 12 a0 23).bind fun x15 =>
          (ra_aI h7 0 x14 x15).bind fun x16 =>
          (fX12_emit N a0 x16 ((0 : Int32)) h7).bind fun h17 =>
          nX12_settle_0 N n a0 a1 h17
def kX12_settle_0 (N : Nat) (cs : Nat → Int32 → ra_H → Option ra_H) : Nat → List (Option Value) → List Value → ra_H → Option ra_H := (ra_k1 0 (fun L S h => match L, S with
  | [some (.ref a0), some (.int a1)], [] => cs a0 a1 h
  | _, _ => none) (ra_k1 63 (fun L S h => match L, S with
  | [some (.ref a0), some (.int a1)], [] => nX12_settle_63 N cs a0 a1 h
  | _, _ => none) (ra_k1 101 (fun L S h => match L, S with
  | [_, _], [] => nX12_settle_101 N h
  | _, _ => none) ra_k0)))
theorem kX12_settle_0_ok (N : Nat) (cs : Nat → Int32 → ra_H → Option ra_H) (hcs : ∀ a0 a1 h r, cs a0 a1 h = some r → ra_Ru 2 mX12_settle 0 [some (.ref a0), some (.int a1)] [] h (ra_oV r)) : ra_kok 2 mX12_settle ra_oV (kX12_settle_0 N cs) := (ra_k1_ok (by
  intro L S h a e
  split at e
  · exact ra_Ru.weak (hcs _ _ _ _ e) ⟨rfl, ⟨rfl, trivial⟩⟩
  · cases e) (ra_k1_ok (by
  intro L S h a e
  split at e
  · exact ra_Ru.weak (nX12_settle_63_ok N cs hcs _ _ _ _ e) ⟨rfl, ⟨rfl, trivial⟩⟩
  · cases e) (ra_k1_ok (by
  intro L S h a e
  split at e
  · exact ra_Ru.weak (nX12_settle_101_ok N _ _ e) trivial
  · cases e) ra_k0_ok)))
set_option maxRecDepth 100000 in
theorem nX12_settle_0_ok (N : Nat) : ∀ n a0 a1 h r, nX12_settle_0 N n a0 a1 h = some r → ra_Ru 2 mX12_settle 0 [some (.ref a0), some (.int a1)] [] h (ra_oV r) := by
  intro n
  induction n with
  | zero => intro a0 a1 h r e; cases e
  | succ n ih =>
    intro a0 a1 h r e
    exact ra_sound (by omega) rfl ra_rV_ok (kX12_settle_0_ok N (nX12_settle_0 N n) ih) (fun m av h h1 e => (tVX12_settle_ok N) m av h h1 e) (fun m av h x h1 e => (tIX12_settle_ok N) m av h (x, h1) e) (fun m av h x h1 e => (ra_c0_ok (ro := ra_oJ)) m av h (x, h1) e) (fun m av h x h1 e => (ra_c0_ok (ro := ra_oR)) m av h (x, h1) e) (fun m av h x h1 e => (ra_c0_ok (ro := ra_oN)) m av h (x, h1) e) (fun m av h x h1 e => (ra_c0_ok (ro := ra_oF)) m av h (x, h1) e) 43 lX12_settle_0 _ _ _ _ lX12_settle_0_ck (show ra_run ra_rV (kX12_settle_0 N (nX12_settle_0 N n)) (tVX12_settle N) (tIX12_settle N) ra_c0 ra_c0 ra_c0 ra_c0 43 lX12_settle_0 [some (.ref a0), some (.int a1)] [] h = some r from e) _ _ rfl
def fX12_settle (N : Nat) (p0 : Nat) (p1 : Int32) (h : ra_H) : Option ra_H := match ra_isOb h p0 12 with
  | true => nX12_settle_0 N N p0 p1 h
  | false => none
set_option maxRecDepth 100000 in
theorem mtX12_settle : ra_MT[251]? = some (mX12_settle, 1, 1, (1, 13), (8, 31), (0, 83)) := rfl
theorem fX12_settle_co (N : Nat) (p0 : Nat) (p1 : Int32) (h : ra_H) (r : ra_H) (e : fX12_settle N p0 p1 h = some r) (D : Nat) (hD : 3 ≤ D) : ra_CO D 251 [.ref p0, .int p1] h (ra_oV r).1 (ra_oV r).2 := by
  have hw : ra_nw2 [.ref p0, .int p1] ≤ 2 := Nat.le_of_ble_eq_true rfl
  have hdb : ∀ v ∈ ([.ref p0, .int p1] : List Value), ∀ x, v ≠ .double x := by
    intro v hv x hx
    simp [hx] at hv
  unfold fX12_settle at e
  split at e
  · rename_i ho
    have e1 := e
    exact ⟨2, _, mtX12_settle, hD, ra_ev_of (by decide) hdb hw trivial (ra_Ru.weak (nX12_settle_0_ok N N p0 p1 h _ e1) ⟨rfl, ⟨rfl, trivial⟩⟩), (fun _ => ⟨_, _, rfl, ra_rcv_of ho (by decide) rfl⟩), (fun h => absurd h (by decide))⟩
  · cases e
/-! RedMarksModel.behindSum(Z)I -/
def mX12_behindSum : ra_M := (yX12_behindSum, cX12_behindSum, 4, (some .int))
def tVX12_behindSum (N : Nat) : Nat → List Value → ra_H → Option ra_H := (ra_c1 233 (fun av h => match av with
  | [.ref z0] => fX12_goOn N z0 h
  | _ => none) (ra_c1 239 (fun av h => match av with
  | [.ref z0, .int z1] => fX12_must N z0 z1 h
  | _ => none) (ra_c1 242 (fun av h => match av with
  | [.ref z0, .int z1, .int z2] => fX12_push N z0 z1 z2 h
  | _ => none) (ra_c1 251 (fun av h => match av with
  | [.ref z0, .int z1] => fX12_settle N z0 z1 h
  | _ => none) ra_c0))))
theorem tVX12_behindSum_ok (N : Nat) : ra_cok 4 ra_oV (tVX12_behindSum N) := (ra_c1_ok (by
  intro av h a e
  split at e
  · exact fX12_goOn_co N _ _ _ e 4 (by omega)
  · cases e) (ra_c1_ok (by
  intro av h a e
  split at e
  · exact fX12_must_co N _ _ _ _ e 4 (by omega)
  · cases e) (ra_c1_ok (by
  intro av h a e
  split at e
  · exact fX12_push_co N _ _ _ _ _ e 4 (by omega)
  · cases e) (ra_c1_ok (by
  intro av h a e
  split at e
  · exact fX12_settle_co N _ _ _ _ e 4 (by omega)
  · cases e) ra_c0_ok))))
def tIX12_behindSum (N : Nat) : Nat → List Value → ra_H → Option (Int32 × ra_H) := (ra_c1 243 (fun av h => match av with
  | [.ref z0, .int z1] => fX12_isSign N z0 z1 h
  | _ => none) (ra_c1 250 (fun av h => match av with
  | [.int z0] => fX12_binds N z0 h
  | _ => none) (ra_c1 252 (fun av h => match av with
  | [.ref z0] => fX12_inner N z0 h
  | _ => none) (ra_c1 253 (fun av h => match av with
  | [.ref z0] => fX12_isCompared N z0 h
  | _ => none) ra_c0))))
theorem tIX12_behindSum_ok (N : Nat) : ra_cok 4 ra_oI (tIX12_behindSum N) := (ra_c1_ok (by
  intro av h a e
  split at e
  · exact fX12_isSign_co N _ _ _ _ e 4 (by omega)
  · cases e) (ra_c1_ok (by
  intro av h a e
  split at e
  · exact fX12_binds_co N _ _ _ e 4 (by omega)
  · cases e) (ra_c1_ok (by
  intro av h a e
  split at e
  · exact fX12_inner_co N _ _ _ e 4 (by omega)
  · cases e) (ra_c1_ok (by
  intro av h a e
  split at e
  · exact fX12_isCompared_co N _ _ _ e 4 (by omega)
  · cases e) ra_c0_ok))))
def lX12_behindSum_136 : List ra_I := [(136, .iconst (3), 1, 0, 0, 0, (3), 0, []),
  (137, .ireturn, 1, 0, 0, 0, 0, 0, [])]
set_option maxRecDepth 100000 in
theorem lX12_behindSum_136_ck : lX12_behindSum_136.all (ra_ck mX12_behindSum 12) = true := by decide +kernel
def nX12_behindSum_136 (N : Nat) (h : ra_H) : Option (Int32 × ra_H) :=
  some ((3 : Int32), h)
def kX12_behindSum_136 (N : Nat) : Nat → List (Option Value) → List Value → ra_H → Option (Int32 × ra_H) := ra_k0
theorem kX12_behindSum_136_ok (N : Nat) : ra_kok 4 mX12_behindSum ra_oI (kX12_behindSum_136 N) := ra_k0_ok
set_option maxRecDepth 100000 in
theorem nX12_behindSum_136_ok (N : Nat) (h : ra_H) (r : (Int32 × ra_H)) (e : nX12_behindSum_136 N h = some r) : ra_Ru 4 mX12_behindSum 136 [none, none, none, none] [] h (ra_oI r) :=
  ra_sound (by omega) rfl ra_rI_ok (kX12_behindSum_136_ok N) (fun m av h h1 e => (tVX12_behindSum_ok N) m av h h1 e) (fun m av h x h1 e => (tIX12_behindSum_ok N) m av h (x, h1) e) (fun m av h x h1 e => (ra_c0_ok (ro := ra_oJ)) m av h (x, h1) e) (fun m av h x h1 e => (ra_c0_ok (ro := ra_oR)) m av h (x, h1) e) (fun m av h x h1 e => (ra_c0_ok (ro := ra_oN)) m av h (x, h1) e) (fun m av h x h1 e => (ra_c0_ok (ro := ra_oF)) m av h (x, h1) e) 3 lX12_behindSum_136 _ _ _ _ lX12_behindSum_136_ck (show ra_run ra_rI (kX12_behindSum_136 N) (tVX12_behindSum N) (tIX12_behindSum N) ra_c0 ra_c0 ra_c0 ra_c0 3 lX12_behindSum_136 [none, none, none, none] [] h = some r from e) _ _ rfl
def lX12_behindSum_231 : List ra_I := [(231, .iconst (1), 1, 0, 0, 0, (1), 0, []),
  (232, .ireturn, 1, 0, 0, 0, 0, 0, [])]
set_option maxRecDepth 100000 in
theorem lX12_behindSum_231_ck : lX12_behindSum_231.all (ra_ck mX12_behindSum 12) = true := by decide +kernel
def nX12_behindSum_231 (N : Nat) (h : ra_H) : Option (Int32 × ra_H) :=
  some ((1 : Int32), h)
def kX12_behindSum_231 (N : Nat) : Nat → List (Option Value) → List Value → ra_H → Option (Int32 × ra_H) := ra_k0
theorem kX12_behindSum_231_ok (N : Nat) : ra_kok 4 mX12_behindSum ra_oI (kX12_behindSum_231 N) := ra_k0_ok
set_option maxRecDepth 100000 in
theorem nX12_behindSum_231_ok (N : Nat) (h : ra_H) (r : (Int32 × ra_H)) (e : nX12_behindSum_231 N h = some r) : ra_Ru 4 mX12_behindSum 231 [none, none, none, none] [] h (ra_oI r) :=
  ra_sound (by omega) rfl ra_rI_ok (kX12_behindSum_231_ok N) (fun m av h h1 e => (tVX12_behindSum_ok N) m av h h1 e) (fun m av h x h1 e => (tIX12_behindSum_ok N) m av h (x, h1) e) (fun m av h x h1 e => (ra_c0_ok (ro := ra_oJ)) m av h (x, h1) e) (fun m av h x h1 e => (ra_c0_ok (ro := ra_oR)) m av h (x, h1) e) (fun m av h x h1 e => (ra_c0_ok (ro := ra_oN)) m av h (x, h1) e) (fun m av h x h1 e => (ra_c0_ok (ro := ra_oF)) m av h (x, h1) e) 3 lX12_behindSum_231 _ _ _ _ lX12_behindSum_231_ck (show ra_run ra_rI (kX12_behindSum_231 N) (tVX12_behindSum N) (tIX12_behindSum N) ra_c0 ra_c0 ra_c0 ra_c0 3 lX12_behindSum_231 [none, none, none, none] [] h = some r from e) _ _ rfl
def lX12_behindSum_210 : List ra_I := [(210, .invokevirtual 260, 3, 239, 2, 0, 0, 0, []),
  (213, .aload_n 0, 1, 0, 0, 0, 0, 0, []),
  (214, .getfield 225, 3, 12, 14, 0, 0, 0, []),
  (217, .ifCond .ne (14), 3, 231, 0, 0, 0, 0, []),
  (220, .aload_n 0, 1, 0, 0, 0, 0, 0, []),
  (221, .iconst (5), 1, 0, 0, 0, (5), 0, []),
  (222, .invokevirtual 323, 3, 251, 2, 0, 0, 0, []),
  (225, .aload_n 0, 1, 0, 0, 0, 0, 0, []),
  (226, .iload_n 2, 1, 2, 0, 0, 0, 0, []),
  (227, .iconst (0), 1, 0, 0, 0, (0), 0, []),
  (228, .invokevirtual 296, 3, 242, 3, 0, 0, 0, [])]
set_option maxRecDepth 100000 in
theorem lX12_behindSum_210_ck : lX12_behindSum_210.all (ra_ck mX12_behindSum 12) = true := by decide +kernel
def nX12_behindSum_210 (N : Nat) (a0 : Nat) (a2 : Int32) (b0 : Nat) (b1 : Int32) (h : ra_H) : Option (Int32 × ra_H) :=
  (fX12_must N b0 b1 h).bind fun h1 =>
  (ra_fI h1 12 a0 14).bind fun x2 =>
  if x2 = 0 then
    (fX12_settle N a0 ((5 : Int32)) h1).bind fun h3 =>
    (fX12_push N a0 a2 ((0 : Int32)) h3).bind fun h4 =>
    nX12_behindSum_231 N h4
  else
    nX12_behindSum_231 N h1
def kX12_behindSum_210 (N : Nat) : Nat → List (Option Value) → List Value → ra_H → Option (Int32 × ra_H) := (ra_k1 231 (fun L S h => match L, S with
  | [_, _, _, _], [] => nX12_behindSum_231 N h
  | _, _ => none) ra_k0)
theorem kX12_behindSum_210_ok (N : Nat) : ra_kok 4 mX12_behindSum ra_oI (kX12_behindSum_210 N) := (ra_k1_ok (by
  intro L S h a e
  split at e
  · exact ra_Ru.weak (nX12_behindSum_231_ok N _ _ e) trivial
  · cases e) ra_k0_ok)
set_option maxRecDepth 100000 in
theorem nX12_behindSum_210_ok (N : Nat) (a0 : Nat) (a2 : Int32) (b0 : Nat) (b1 : Int32) (h : ra_H) (r : (Int32 × ra_H)) (e : nX12_behindSum_210 N a0 a2 b0 b1 h = some r) : ra_Ru 4 mX12_behindSum 210 [some (.ref a0), none, some (.int a2), none] [.int b1, .ref b0] h (ra_oI r) :=
  ra_sound (by omega) rfl ra_rI_ok (kX12_behindSum_210_ok N) (fun m av h h1 e => (tVX12_behindSum_ok N) m av h h1 e) (fun m av h x h1 e => (tIX12_behindSum_ok N) m av h (x, h1) e) (fun m av h x h1 e => (ra_c0_ok (ro := ra_oJ)) m av h (x, h1) e) (fun m av h x h1 e => (ra_c0_ok (ro := ra_oR)) m av h (x, h1) e) (fun m av h x h1 e => (ra_c0_ok (ro := ra_oN)) m av h (x, h1) e) (fun m av h x h1 e => (ra_c0_ok (ro := ra_oF)) m av h (x, h1) e) 12 lX12_behindSum_210 _ _ _ _ lX12_behindSum_210_ck (show ra_run ra_rI (kX12_behindSum_210 N) (tVX12_behindSum N) (tIX12_behindSum N) ra_c0 ra_c0 ra_c0 ra_c0 12 lX12_behindSum_210 [some (.ref a0), none, some (.int a2), none] [.int b1, .ref b0] h = some r from e) _ _ rfl
def lX12_behindSum_205 : List ra_I := [(205, .iconst (1), 1, 0, 0, 0, (1), 0, []),
  (206, .goto (4), 3, 210, 0, 0, 0, 0, [])]
set_option maxRecDepth 100000 in
theorem lX12_behindSum_205_ck : lX12_behindSum_205.all (ra_ck mX12_behindSum 12) = true := by decide +kernel
def nX12_behindSum_205 (N : Nat) (a0 : Nat) (a2 : Int32) (b0 : Nat) (h : ra_H) : Option (Int32 × ra_H) :=
  nX12_behindSum_210 N a0 a2 b0 ((1 : Int32)) h
def kX12_behindSum_205 (N : Nat) : Nat → List (Option Value) → List Value → ra_H → Option (Int32 × ra_H) := (ra_k1 210 (fun L S h => match L, S with
  | [some (.ref a0), _, some (.int a2), _], [.int b1, .ref b0] => nX12_behindSum_210 N a0 a2 b0 b1 h
  | _, _ => none) ra_k0)
theorem kX12_behindSum_205_ok (N : Nat) : ra_kok 4 mX12_behindSum ra_oI (kX12_behindSum_205 N) := (ra_k1_ok (by
  intro L S h a e
  split at e
  · exact ra_Ru.weak (nX12_behindSum_210_ok N _ _ _ _ _ _ e) ⟨rfl, ⟨rfl, trivial⟩⟩
  · cases e) ra_k0_ok)
set_option maxRecDepth 100000 in
theorem nX12_behindSum_205_ok (N : Nat) (a0 : Nat) (a2 : Int32) (b0 : Nat) (h : ra_H) (r : (Int32 × ra_H)) (e : nX12_behindSum_205 N a0 a2 b0 h = some r) : ra_Ru 4 mX12_behindSum 205 [some (.ref a0), none, some (.int a2), none] [.ref b0] h (ra_oI r) :=
  ra_sound (by omega) rfl ra_rI_ok (kX12_behindSum_205_ok N) (fun m av h h1 e => (tVX12_behindSum_ok N) m av h h1 e) (fun m av h x h1 e => (tIX12_behindSum_ok N) m av h (x, h1) e) (fun m av h x h1 e => (ra_c0_ok (ro := ra_oJ)) m av h (x, h1) e) (fun m av h x h1 e => (ra_c0_ok (ro := ra_oR)) m av h (x, h1) e) (fun m av h x h1 e => (ra_c0_ok (ro := ra_oN)) m av h (x, h1) e) (fun m av h x h1 e => (ra_c0_ok (ro := ra_oF)) m av h (x, h1) e) 3 lX12_behindSum_205 _ _ _ _ lX12_behindSum_205_ck (show ra_run ra_rI (kX12_behindSum_205 N) (tVX12_behindSum N) (tIX12_behindSum N) ra_c0 ra_c0 ra_c0 ra_c0 3 lX12_behindSum_205 [some (.ref a0), none, some (.int a2), none] [.ref b0] h = some r from e) _ _ rfl
def lX12_behindSum_188 : List ra_I := [(188, .istore_n 2, 1, 2, 0, 0, 0, 0, []),
  (189, .aload_n 0, 1, 0, 0, 0, 0, 0, []),
  (190, .iload_n 2, 1, 2, 0, 0, 0, 0, []),
  (191, .bipush (26), 2, 0, 0, 0, (26), 0, []),
  (193, .if_icmp .ne (12), 3, 205, 0, 0, 0, 0, []),
  (196, .aload_n 0, 1, 0, 0, 0, 0, 0, []),
  (197, .bipush (61), 2, 0, 0, 0, (61), 0, []),
  (199, .invokevirtual 302, 3, 243, 2, 1, 0, 0, []),
  (202, .ifCond .eq (7), 3, 209, 0, 0, 0, 0, []),
  (209, .iconst (0), 1, 0, 0, 0, (0), 0, [])]
set_option maxRecDepth 100000 in
theorem lX12_behindSum_188_ck : lX12_behindSum_188.all (ra_ck mX12_behindSum 12) = true := by decide +kernel
def nX12_behindSum_188 (N : Nat) (a0 : Nat) (b0 : Int32) (h : ra_H) : Option (Int32 × ra_H) :=
  if b0 = ((26 : Int32)) then
    (fX12_isSign N a0 ((61 : Int32)) h).bind fun q1 =>
    if q1.1 = 0 then
      nX12_behindSum_210 N a0 b0 a0 ((0 : Int32)) q1.2
    else
      nX12_behindSum_205 N a0 b0 a0 q1.2
  else
    nX12_behindSum_205 N a0 b0 a0 h
def kX12_behindSum_188 (N : Nat) : Nat → List (Option Value) → List Value → ra_H → Option (Int32 × ra_H) := (ra_k1 205 (fun L S h => match L, S with
  | [some (.ref a0), _, some (.int a2), _], [.ref b0] => nX12_behindSum_205 N a0 a2 b0 h
  | _, _ => none) (ra_k1 210 (fun L S h => match L, S with
  | [some (.ref a0), _, some (.int a2), _], [.int b1, .ref b0] => nX12_behindSum_210 N a0 a2 b0 b1 h
  | _, _ => none) ra_k0))
theorem kX12_behindSum_188_ok (N : Nat) : ra_kok 4 mX12_behindSum ra_oI (kX12_behindSum_188 N) := (ra_k1_ok (by
  intro L S h a e
  split at e
  · exact ra_Ru.weak (nX12_behindSum_205_ok N _ _ _ _ _ e) ⟨rfl, ⟨rfl, trivial⟩⟩
  · cases e) (ra_k1_ok (by
  intro L S h a e
  split at e
  · exact ra_Ru.weak (nX12_behindSum_210_ok N _ _ _ _ _ _ e) ⟨rfl, ⟨rfl, trivial⟩⟩
  · cases e) ra_k0_ok))
set_option maxRecDepth 100000 in
theorem nX12_behindSum_188_ok (N : Nat) (a0 : Nat) (b0 : Int32) (h : ra_H) (r : (Int32 × ra_H)) (e : nX12_behindSum_188 N a0 b0 h = some r) : ra_Ru 4 mX12_behindSum 188 [some (.ref a0), none, none, none] [.int b0] h (ra_oI r) :=
  ra_sound (by omega) rfl ra_rI_ok (kX12_behindSum_188_ok N) (fun m av h h1 e => (tVX12_behindSum_ok N) m av h h1 e) (fun m av h x h1 e => (tIX12_behindSum_ok N) m av h (x, h1) e) (fun m av h x h1 e => (ra_c0_ok (ro := ra_oJ)) m av h (x, h1) e) (fun m av h x h1 e => (ra_c0_ok (ro := ra_oR)) m av h (x, h1) e) (fun m av h x h1 e => (ra_c0_ok (ro := ra_oN)) m av h (x, h1) e) (fun m av h x h1 e => (ra_c0_ok (ro := ra_oF)) m av h (x, h1) e) 11 lX12_behindSum_188 _ _ _ _ lX12_behindSum_188_ck (show ra_run ra_rI (kX12_behindSum_188 N) (tVX12_behindSum N) (tIX12_behindSum N) ra_c0 ra_c0 ra_c0 ra_c0 11 lX12_behindSum_188 [some (.ref a0), none, none, none] [.int b0] h = some r from e) _ _ rfl
def lX12_behindSum_149 : List ra_I := [(149, .aload_n 0, 1, 0, 0, 0, 0, 0, []),
  (150, .invokevirtual 329, 3, 253, 1, 1, 0, 0, []),
  (153, .ifCond .eq (5), 3, 158, 0, 0, 0, 0, []),
  (156, .iconst (2), 1, 0, 0, 0, (2), 0, []),
  (157, .ireturn, 1, 0, 0, 0, 0, 0, []),
  (158, .aload_n 0, 1, 0, 0, 0, 0, 0, []),
  (159, .bipush (60), 2, 0, 0, 0, (60), 0, []),
  (161, .invokevirtual 302, 3, 243, 2, 1, 0, 0, []),
  (164, .ifCond .eq (8), 3, 172, 0, 0, 0, 0, []),
  (167, .bipush (24), 2, 0, 0, 0, (24), 0, []),
  (169, .goto (19), 3, 188, 0, 0, 0, 0, []),
  (172, .aload_n 0, 1, 0, 0, 0, 0, 0, []),
  (173, .bipush (62), 2, 0, 0, 0, (62), 0, []),
  (175, .invokevirtual 302, 3, 243, 2, 1, 0, 0, []),
  (178, .ifCond .eq (8), 3, 186, 0, 0, 0, 0, []),
  (181, .bipush (25), 2, 0, 0, 0, (25), 0, []),
  (183, .goto (5), 3, 188, 0, 0, 0, 0, []),
  (186, .bipush (26), 2, 0, 0, 0, (26), 0, [])]
set_option maxRecDepth 100000 in
theorem lX12_behindSum_149_ck : lX12_behindSum_149.all (ra_ck mX12_behindSum 12) = true := by decide +kernel
def nX12_behindSum_149 (N : Nat) (a0 : Nat) (h : ra_H) : Option (Int32 × ra_H) :=
  (fX12_isCompared N a0 h).bind fun q1 =>
  if q1.1 = 0 then
    (fX12_isSign N a0 ((60 : Int32)) q1.2).bind fun q2 =>
    if q2.1 = 0 then
      (fX12_isSign N a0 ((62 : Int32)) q2.2).bind fun q3 =>
      if q3.1 = 0 then
        nX12_behindSum_188 N a0 ((26 : Int32)) q3.2
      else
        nX12_behindSum_188 N a0 ((25 : Int32)) q3.2
    else
      nX12_behindSum_188 N a0 ((24 : Int32)) q2.2
  else
    some ((2 : Int32), q1.2)
def kX12_behindSum_149 (N : Nat) : Nat → List (Option Value) → List Value → ra_H → Option (Int32 × ra_H) := (ra_k1 188 (fun L S h => match L, S with
  | [some (.ref a0), _, _, _], [.int b0] => nX12_behindSum_188 N a0 b0 h
  | _, _ => none) ra_k0)
theorem kX12_behindSum_149_ok (N : Nat) : ra_kok 4 mX12_behindSum ra_oI (kX12_behindSum_149 N) := (ra_k1_ok (by
  intro L S h a e
  split at e
  · exact ra_Ru.weak (nX12_behindSum_188_ok N _ _ _ _ e) ⟨rfl, trivial⟩
  · cases e) ra_k0_ok)
set_option maxRecDepth 100000 in
theorem nX12_behindSum_149_ok (N : Nat) (a0 : Nat) (h : ra_H) (r : (Int32 × ra_H)) (e : nX12_behindSum_149 N a0 h = some r) : ra_Ru 4 mX12_behindSum 149 [some (.ref a0), none, none, none] [] h (ra_oI r) :=
  ra_sound (by omega) rfl ra_rI_ok (kX12_behindSum_149_ok N) (fun m av h h1 e => (tVX12_behindSum_ok N) m av h h1 e) (fun m av h x h1 e => (tIX12_behindSum_ok N) m av h (x, h1) e) (fun m av h x h1 e => (ra_c0_ok (ro := ra_oJ)) m av h (x, h1) e) (fun m av h x h1 e => (ra_c0_ok (ro := ra_oR)) m av h (x, h1) e) (fun m av h x h1 e => (ra_c0_ok (ro := ra_oN)) m av h (x, h1) e) (fun m av h x h1 e => (ra_c0_ok (ro := ra_oF)) m av h (x, h1) e) 19 lX12_behindSum_149 _ _ _ _ lX12_behindSum_149_ck (show ra_run ra_rI (kX12_behindSum_149 N) (tVX12_behindSum N) (tIX12_behindSum N) ra_c0 ra_c0 ra_c0 ra_c0 19 lX12_behindSum_149 [some (.ref a0), none, none, none] [] h = some r from e) _ _ rfl
def lX12_behindSum_57 : List ra_I := [(57, .istore_n 2, 1, 2, 0, 0, 0, 0, []),
  (58, .iload_n 2, 1, 2, 0, 0, 0, 0, []),
  (59, .iconst (-1), 1, 0, 0, 0, (-1), 0, []),
  (60, .if_icmp .eq (23), 3, 83, 0, 0, 0, 0, []),
  (63, .aload_n 0, 1, 0, 0, 0, 0, 0, []),
  (64, .iload_n 2, 1, 2, 0, 0, 0, 0, []),
  (65, .invokestatic 270, 3, 250, 1, 1, 0, 0, []),
  (68, .invokevirtual 323, 3, 251, 2, 0, 0, 0, []),
  (71, .aload_n 0, 1, 0, 0, 0, 0, 0, []),
  (72, .iload_n 2, 1, 2, 0, 0, 0, 0, []),
  (73, .iconst (0), 1, 0, 0, 0, (0), 0, []),
  (74, .invokevirtual 296, 3, 242, 3, 0, 0, 0, []),
  (77, .aload_n 0, 1, 0, 0, 0, 0, 0, []),
  (78, .invokevirtual 229, 3, 233, 1, 0, 0, 0, []),
  (81, .iconst (1), 1, 0, 0, 0, (1), 0, []),
  (82, .ireturn, 1, 0, 0, 0, 0, 0, []),
  (83, .aload_n 0, 1, 0, 0, 0, 0, 0, []),
  (84, .invokevirtual 326, 3, 252, 1, 1, 0, 0, []),
  (87, .istore_n 3, 1, 3, 0, 0, 0, 0, []),
  (88, .iload_n 3, 1, 3, 0, 0, 0, 0, []),
  (89, .bipush (31), 2, 0, 0, 0, (31), 0, []),
  (91, .if_icmp .ne (47), 3, 138, 0, 0, 0, 0, []),
  (94, .aload_n 0, 1, 0, 0, 0, 0, 0, []),
  (95, .aload_n 0, 1, 0, 0, 0, 0, 0, []),
  (96, .bipush (93), 2, 0, 0, 0, (93), 0, []),
  (98, .invokevirtual 302, 3, 243, 2, 1, 0, 0, []),
  (101, .invokevirtual 260, 3, 239, 2, 0, 0, 0, []),
  (104, .aload_n 0, 1, 0, 0, 0, 0, 0, []),
  (105, .getfield 225, 3, 12, 14, 0, 0, 0, []),
  (108, .ifCond .ne (28), 3, 136, 0, 0, 0, 0, []),
  (111, .aload_n 0, 1, 0, 0, 0, 0, 0, []),
  (112, .iconst (5), 1, 0, 0, 0, (5), 0, []),
  (113, .invokevirtual 323, 3, 251, 2, 0, 0, 0, []),
  (116, .aload_n 0, 1, 0, 0, 0, 0, 0, []),
  (117, .dup, 1, 0, 0, 0, 0, 0, []),
  (118, .getfield 267, 3, 12, 23, 0, 0, 0, []),
  (121, .iconst (1), 1, 0, 0, 0, (1), 0, []),
  (122, .isub, 1, 0, 0, 0, 0, 0, []),
  (123, .putfield 267, 3, 12, 23, 0, 0, 0, []),
  (126, .aload_n 0, 1, 0, 0, 0, 0, 0, []),
  (127, .dup, 1, 0, 0, 0, 0, 0, []),
  (128, .getfield 293, 3, 12, 24, 0, 0, 0, []),
  (131, .iconst (1), 1, 0, 0, 0, (1), 0, []),
  (132, .isub, 1, 0, 0, 0, 0, 0, []),
  (133, .putfield 293, 3, 12, 24, 0, 0, 0, []),
  (138, .iload_n 3, 1, 3, 0, 0, 0, 0, []),
  (139, .iconst (-1), 1, 0, 0, 0, (-1), 0, []),
  (140, .if_icmp .ne (9), 3, 149, 0, 0, 0, 0, []),
  (143, .iload_n 1, 1, 1, 0, 0, 0, 0, []),
  (144, .ifCond .ne (5), 3, 149, 0, 0, 0, 0, []),
  (147, .iconst (4), 1, 0, 0, 0, (4), 0, []),
  (148, .ireturn, 1, 0, 0, 0, 0, 0, [])]
set_option maxRecDepth 100000 in
theorem lX12_behindSum_57_ck : lX12_behindSum_57.all (ra_ck mX12_behindSum 12) = true := by decide +kernel
def nX12_behindSum_57 (N : Nat) (a0 : Nat) (a1 : Int32) (b0 : Int32) (h : ra_H) : Option (Int32 × ra_H) :=
  if b0 = ((-1 : Int32)) then
    (fX12_inner N a0 h).bind fun q1 =>
    if q1.1 = ((31 : Int32)) then
      (fX12_isSign N a0 ((93 : Int32)) q1.2).bind fun q2 =>
      (fX12_must N a0 q2.1 q2.2).bind fun h3 =>
      (ra_fI h3 12 a0 14).bind fun x4 =>
      if x4 = 0 then
        (fX12_settle N a0 ((5 : Int32)) h3).bind fun h5 =>
        (ra_fI h5 12 a0 23).bind fun x6 =>
        (ra_fW h5 12 a0 23 (.int (x6 - ((1 : Int32))))).bind fun h7 =>
        (ra_fI h7 12 a0 24).bind fun x8 =>
        (ra_fW h7 12 a0 24 (.int (x8 - ((1 : Int32))))).bind fun h9 =>
        nX12_behindSum_136 N h9
      else
        nX12_behindSum_136 N h3
    else
      if q1.1 = ((-1 : Int32)) then
        if a1 = 0 then
          some ((4 : Int32), q1.2)
        else
          nX12_behindSum_149 N a0 q1.2
      else
        nX12_behindSum_149 N a0 q1.2
  else
    (fX12_binds N b0 h).bind fun q10 =>
    (fX12_settle N a0 q10.1 q10.2).bind fun h11 =>
    (fX12_push N a0 b0 ((0 : Int32)) h11).bind fun h12 =>
    (fX12_goOn N a0 h12).bind fun h13 =>
    some ((1 : Int32), h13)
def kX12_behindSum_57 (N : Nat) : Nat → List (Option Value) → List Value → ra_H → Option (Int32 × ra_H) := (ra_k1 136 (fun L S h => match L, S with
  | [_, _, _, _], [] => nX12_behindSum_136 N h
  | _, _ => none) (ra_k1 149 (fun L S h => match L, S with
  | [some (.ref a0), _, _, _], [] => nX12_behindSum_149 N a0 h
  | _, _ => none) ra_k0))
theorem kX12_behindSum_57_ok (N : Nat) : ra_kok 4 mX12_behindSum ra_oI (kX12_behindSum_57 N) := (ra_k1_ok (by
  intro L S h a e
  split at e
  · exact ra_Ru.weak (nX12_behindSum_136_ok N _ _ e) trivial
  · cases e) (ra_k1_ok (by
  intro L S h a e
  split at e
  · exact ra_Ru.weak (nX12_behindSum_149_ok N _ _ _ e) ⟨rfl, trivial⟩
  · cases e) ra_k0_ok))
set_option maxRecDepth 100000 in
theorem nX12_behindSum_57_ok (N : Nat) (a0 : Nat) (a1 : Int32) (b0 : Int32) (h : ra_H) (r : (Int32 × ra_H)) (e : nX12_behindSum_57 N a0 a1 b0 h = some r) : ra_Ru 4 mX12_behindSum 57 [some (.ref a0), some (.int a1), none, none] [.int b0] h (ra_oI r) :=
  ra_sound (by omega) rfl ra_rI_ok (kX12_behindSum_57_ok N) (fun m av h h1 e => (tVX12_behindSum_ok N) m av h h1 e) (fun m av h x h1 e => (tIX12_behindSum_ok N) m av h (x, h1) e) (fun m av h x h1 e => (ra_c0_ok (ro := ra_oJ)) m av h (x, h1) e) (fun m av h x h1 e => (ra_c0_ok (ro := ra_oR)) m av h (x, h1) e) (fun m av h x h1 e => (ra_c0_ok (ro := ra_oN)) m av h (x, h1) e) (fun m av h x h1 e => (ra_c0_ok (ro := ra_oF)) m av h (x, h1) e) 53 lX12_behindSum_57 _ _ _ _ lX12_behindSum_57_ck (show ra_run ra_rI (kX12_behindSum_57 N) (tVX12_behindSum N) (tIX12_behindSum N) ra_c0 ra_c0 ra_c0 ra_c0 53 lX12_behindSum_57 [some (.ref a0), some (.int a1), none, none] [.int b0] h = some r from e) _ _ rfl
def lX12_behindSum_0 : List ra_I := [(0, .aload_n 0, 1, 0, 0, 0, 0, 0, []),
  (1, .bipush (43), 2, 0, 0, 0, (43), 0, []),
  (3, .invokevirtual 302, 3, 243, 2, 1, 0, 0, []),
  (6, .ifCond .eq (8), 3, 14, 0, 0, 0, 0, []),
  (9, .bipush (20), 2, 0, 0, 0, (20), 0, []),
  (11, .goto (46), 3, 57, 0, 0, 0, 0, []),
  (14, .aload_n 0, 1, 0, 0, 0, 0, 0, []),
  (15, .bipush (45), 2, 0, 0, 0, (45), 0, []),
  (17, .invokevirtual 302, 3, 243, 2, 1, 0, 0, []),
  (20, .ifCond .eq (8), 3, 28, 0, 0, 0, 0, []),
  (23, .bipush (21), 2, 0, 0, 0, (21), 0, []),
  (25, .goto (32), 3, 57, 0, 0, 0, 0, []),
  (28, .aload_n 0, 1, 0, 0, 0, 0, 0, []),
  (29, .bipush (42), 2, 0, 0, 0, (42), 0, []),
  (31, .invokevirtual 302, 3, 243, 2, 1, 0, 0, []),
  (34, .ifCond .eq (8), 3, 42, 0, 0, 0, 0, []),
  (37, .bipush (22), 2, 0, 0, 0, (22), 0, []),
  (39, .goto (18), 3, 57, 0, 0, 0, 0, []),
  (42, .aload_n 0, 1, 0, 0, 0, 0, 0, []),
  (43, .bipush (47), 2, 0, 0, 0, (47), 0, []),
  (45, .invokevirtual 302, 3, 243, 2, 1, 0, 0, []),
  (48, .ifCond .eq (8), 3, 56, 0, 0, 0, 0, []),
  (51, .bipush (23), 2, 0, 0, 0, (23), 0, []),
  (53, .goto (4), 3, 57, 0, 0, 0, 0, []),
  (56, .iconst (-1), 1, 0, 0, 0, (-1), 0, [])]
set_option maxRecDepth 100000 in
theorem lX12_behindSum_0_ck : lX12_behindSum_0.all (ra_ck mX12_behindSum 12) = true := by decide +kernel
def nX12_behindSum_0 (N : Nat) (a0 : Nat) (a1 : Int32) (h : ra_H) : Option (Int32 × ra_H) :=
  (fX12_isSign N a0 ((43 : Int32)) h).bind fun q1 =>
  if q1.1 = 0 then
    (fX12_isSign N a0 ((45 : Int32)) q1.2).bind fun q2 =>
    if q2.1 = 0 then
      (fX12_isSign N a0 ((42 : Int32)) q2.2).bind fun q3 =>
      if q3.1 = 0 then
        (fX12_isSign N a0 ((47 : Int32)) q3.2).bind fun q4 =>
        if q4.1 = 0 then
          nX12_behindSum_57 N a0 a1 ((-1 : Int32)) q4.2
        else
          nX12_behindSum_57 N a0 a1 ((23 : Int32)) q4.2
      else
        nX12_behindSum_57 N a0 a1 ((22 : Int32)) q3.2
    else
      nX12_behindSum_57 N a0 a1 ((21 : Int32)) q2.2
  else
    nX12_behindSum_57 N a0 a1 ((20 : Int32)) q1.2
def kX12_behindSum_0 (N : Nat) : Nat → List (Option Value) → List Value → ra_H → Option (Int32 × ra_H) := (ra_k1 57 (fun L S h => match L, S with
  | [some (.ref a0), some (.int a1), _, _], [.int b0] => nX12_behindSum_57 N a0 a1 b0 h
  | _, _ => none) ra_k0)
theorem kX12_behindSum_0_ok (N : Nat) : ra_kok 4 mX12_behindSum ra_oI (kX12_behindSum_0 N) := (ra_k1_ok (by
  intro L S h a e
  split at e
  · exact ra_Ru.weak (nX12_behindSum_57_ok N _ _ _ _ _ e) ⟨rfl, ⟨rfl, trivial⟩⟩
  · cases e) ra_k0_ok)
set_option maxRecDepth 100000 in
theorem nX12_behindSum_0_ok (N : Nat) (a0 : Nat) (a1 : Int32) (h : ra_H) (r : (Int32 × ra_H)) (e : nX12_behindSum_0 N a0 a1 h = some r) : ra_Ru 4 mX12_behindSum 0 [some (.ref a0), some (.int a1), none, none] [] h (ra_oI r) :=
  ra_sound (by omega) rfl ra_rI_ok (kX12_behindSum_0_ok N) (fun m av h h1 e => (tVX12_behindSum_ok N) m av h h1 e) (fun m av h x h1 e => (tIX12_behindSum_ok N) m av h (x, h1) e) (fun m av h x h1 e => (ra_c0_ok (ro := ra_oJ)) m av h (x, h1) e) (fun m av h x h1 e => (ra_c0_ok (ro := ra_oR)) m av h (x, h1) e) (fun m av h x h1 e => (ra_c0_ok (ro := ra_oN)) m av h (x, h1) e) (fun m av h x h1 e => (ra_c0_ok (ro := ra_oF)) m av h (x, h1) e) 26 lX12_behindSum_0 _ _ _ _ lX12_behindSum_0_ck (show ra_run ra_rI (kX12_behindSum_0 N) (tVX12_behindSum N) (tIX12_behindSum N) ra_c0 ra_c0 ra_c0 ra_c0 26 lX12_behindSum_0 [some (.ref a0), some (.int a1), none, none] [] h = some r from e) _ _ rfl
def fX12_behindSum (N : Nat) (p0 : Nat) (p1 : Int32) (h : ra_H) : Option (Int32 × ra_H) := match ra_isOb h p0 12 with
  | true => nX12_behindSum_0 N p0 p1 h
  | false => none
set_option maxRecDepth 100000 in
theorem mtX12_behindSum : ra_MT[249]? = some (mX12_behindSum, 1, 1, (1, 13), (8, 24), (0, 82)) := rfl
theorem fX12_behindSum_co (N : Nat) (p0 : Nat) (p1 : Int32) (h : ra_H) (r : (Int32 × ra_H)) (e : fX12_behindSum N p0 p1 h = some r) (D : Nat) (hD : 5 ≤ D) : ra_CO D 249 [.ref p0, .int p1] h (ra_oI r).1 (ra_oI r).2 := by
  have hw : ra_nw2 [.ref p0, .int p1] ≤ 4 := Nat.le_of_ble_eq_true rfl
  have hdb : ∀ v ∈ ([.ref p0, .int p1] : List Value), ∀ x, v ≠ .double x := by
    intro v hv x hx
    simp [hx] at hv
  unfold fX12_behindSum at e
  split at e
  · rename_i ho
    have e1 := e
    exact ⟨4, _, mtX12_behindSum, hD, ra_ev_of (by decide) hdb hw trivial (ra_Ru.weak (nX12_behindSum_0_ok N p0 p1 h _ e1) ⟨rfl, ⟨rfl, trivial⟩⟩), (fun _ => ⟨_, _, rfl, ra_rcv_of ho (by decide) rfl⟩), (fun h => absurd h (by decide))⟩
  · cases e
