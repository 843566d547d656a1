/-! RedMarksModel.isWord(J)Z -/
def mX12_isWord : ra_M := (yX12_isWord, cX12_isWord, 3, (some .boolean))
def lX12_isWord_22 : List ra_I := [(22, .ireturn, 1, 0, 0, 0, 0, 0, [])]
set_option maxRecDepth 100000 in
theorem lX12_isWord_22_ck : lX12_isWord_22.all (ra_ck mX12_isWord 12) = true := by decide +kernel
def nX12_isWord_22 (N : Nat) (b0 : Int32) (h : ra_H) : Option (Int32 × ra_H) :=
  some (b0, h)
def kX12_isWord_22 (N : Nat) : Nat → List (Option Value) → List Value → ra_H → Option (Int32 × ra_H) := ra_k0
theorem kX12_isWord_22_ok (N : Nat) : ra_kok 1 mX12_isWord ra_oI (kX12_isWord_22 N) := ra_k0_ok
set_option maxRecDepth 100000 in
theorem nX12_isWord_22_ok (N : Nat) (b0 : Int32) (h : ra_H) (r : (Int32 × ra_H)) (e : nX12_isWord_22 N b0 h = some r) : ra_Ru 1 mX12_isWord 22 [none, none, none] [.int b0] h (ra_oI r) :=
  ra_sound (by omega) rfl ra_rI_ok (kX12_isWord_22_ok N) (fun m av h h1 e => (ra_c0_ok (ro := ra_oV)) m av h h1 e) (fun m av h x h1 e => (ra_c0_ok (ro := ra_oI)) m av h (x, h1) e) (fun m av h x h1 e => (ra_c0_ok (ro := ra_oJ)) m av h (x, h1) e) (fun m av h x h1 e => (ra_c0_ok (ro := ra_oR)) m av h (x, h1) e) (fun m av h x h1 e => (ra_c0_ok (ro := ra_oN)) m av h (x, h1) e) (fun m av h x h1 e => (ra_c0_ok (ro := ra_oF)) m av h (x, h1) e) 2 lX12_isWord_22 _ _ _ _ lX12_isWord_22_ck (show ra_run ra_rI (kX12_isWord_22 N) ra_c0 ra_c0 ra_c0 ra_c0 ra_c0 ra_c0 2 lX12_isWord_22 [none, none, none] [.int b0] h = some r from e) _ _ rfl
def lX12_isWord_21 : List ra_I := [(21, .iconst (0), 1, 0, 0, 0, (0), 0, [])]
set_option maxRecDepth 100000 in
theorem lX12_isWord_21_ck : lX12_isWord_21.all (ra_ck mX12_isWord 12) = true := by decide +kernel
def nX12_isWord_21 (N : Nat) (h : ra_H) : Option (Int32 × ra_H) :=
  nX12_isWord_22 N ((0 : Int32)) h
def kX12_isWord_21 (N : Nat) : Nat → List (Option Value) → List Value → ra_H → Option (Int32 × ra_H) := (ra_k1 22 (fun L S h => match L, S with
  | [_, _, _], [.int b0] => nX12_isWord_22 N b0 h
  | _, _ => none) ra_k0)
theorem kX12_isWord_21_ok (N : Nat) : ra_kok 1 mX12_isWord ra_oI (kX12_isWord_21 N) := (ra_k1_ok (by
  intro L S h a e
  split at e
  · exact ra_Ru.weak (nX12_isWord_22_ok N _ _ _ e) trivial
  · cases e) ra_k0_ok)
set_option maxRecDepth 100000 in
theorem nX12_isWord_21_ok (N : Nat) (h : ra_H) (r : (Int32 × ra_H)) (e : nX12_isWord_21 N h = some r) : ra_Ru 1 mX12_isWord 21 [none, none, none] [] h (ra_oI r) :=
  ra_sound (by omega) rfl ra_rI_ok (kX12_isWord_21_ok N) (fun m av h h1 e => (ra_c0_ok (ro := ra_oV)) m av h h1 e) (fun m av h x h1 e => (ra_c0_ok (ro := ra_oI)) m av h (x, h1) e) (fun m av h x h1 e => (ra_c0_ok (ro := ra_oJ)) m av h (x, h1) e) (fun m av h x h1 e => (ra_c0_ok (ro := ra_oR)) m av h (x, h1) e) (fun m av h x h1 e => (ra_c0_ok (ro := ra_oN)) m av h (x, h1) e) (fun m av h x h1 e => (ra_c0_ok (ro := ra_oF)) m av h (x, h1) e) 2 lX12_isWord_21 _ _ _ _ lX12_isWord_21_ck (show ra_run ra_rI (kX12_isWord_21 N) ra_c0 ra_c0 ra_c0 ra_c0 ra_c0 ra_c0 2 lX12_isWord_21 [none, none, none] [] h = some r from e) _ _ rfl
def lX12_isWord_0 : List ra_I := [(0, .aload_n 0, 1, 0, 0, 0, 0, 0, []),
  (1, .getfield 245, 3, 12, 11, 0, 0, 0, []),
  (4, .iconst (1), 1, 0, 0, 0, (1), 0, []),
  (5, .if_icmp .ne (16), 3, 21, 0, 0, 0, 0, []),
  (8, .aload_n 0, 1, 0, 0, 0, 0, 0, []),
  (9, .getfield 235, 3, 12, 12, 1, 0, 0, []),
  (12, .lload_n 1, 1, 1, 0, 0, 0, 0, []),
  (13, .lcmp, 1, 0, 0, 0, 0, 0, []),
  (14, .ifCond .ne (7), 3, 21, 0, 0, 0, 0, []),
  (17, .iconst (1), 1, 0, 0, 0, (1), 0, []),
  (18, .goto (4), 3, 22, 0, 0, 0, 0, [])]
set_option maxRecDepth 100000 in
theorem lX12_isWord_0_ck : lX12_isWord_0.all (ra_ck mX12_isWord 12) = true := by decide +kernel
def nX12_isWord_0 (N : Nat) (a0 : Nat) (a1 : Int64) (h : ra_H) : Option (Int32 × ra_H) :=
  (ra_fI h 12 a0 11).bind fun x1 =>
  if x1 = ((1 : Int32)) then
    (ra_fJ h 12 a0 12).bind fun x2 =>
    if (lg_cmp x2 a1) = 0 then
      nX12_isWord_22 N ((1 : Int32)) h
    else
      nX12_isWord_21 N h
  else
    nX12_isWord_21 N h
def kX12_isWord_0 (N : Nat) : Nat → List (Option Value) → List Value → ra_H → Option (Int32 × ra_H) := (ra_k1 21 (fun L S h => match L, S with
  | [_, _, _], [] => nX12_isWord_21 N h
  | _, _ => none) (ra_k1 22 (fun L S h => match L, S with
  | [_, _, _], [.int b0] => nX12_isWord_22 N b0 h
  | _, _ => none) ra_k0))
theorem kX12_isWord_0_ok (N : Nat) : ra_kok 1 mX12_isWord ra_oI (kX12_isWord_0 N) := (ra_k1_ok (by
  intro L S h a e
  split at e
  · exact ra_Ru.weak (nX12_isWord_21_ok N _ _ e) trivial
  · cases e) (ra_k1_ok (by
  intro L S h a e
  split at e
  · exact ra_Ru.weak (nX12_isWord_22_ok N _ _ _ e) trivial
  · cases e) ra_k0_ok))
set_option maxRecDepth 100000 in
theorem nX12_isWord_0_ok (N : Nat) (a0 : Nat) (a1 : Int64) (h : ra_H) (r : (Int32 × ra_H)) (e : nX12_isWord_0 N a0 a1 h = some r) : ra_Ru 1 mX12_isWord 0 [some (.ref a0), some (.long a1), none] [] h (ra_oI r) :=
  ra_sound (by omega) rfl ra_rI_ok (kX12_isWord_0_ok N) (fun m av h h1 e => (ra_c0_ok (ro := ra_oV)) m av h h1 e) (fun m av h x h1 e => (ra_c0_ok (ro := ra_oI)) m av h (x, h1) e) (fun m av h x h1 e => (ra_c0_ok (ro := ra_oJ)) m av h (x, h1) e) (fun m av h x h1 e => (ra_c0_ok (ro := ra_oR)) m av h (x, h1) e) (fun m av h x h1 e => (ra_c0_ok (ro := ra_oN)) m av h (x, h1) e) (fun m av h x h1 e => (ra_c0_ok (ro := ra_oF)) m av h (x, h1) e) 12 lX12_isWord_0 _ _ _ _ lX12_isWord_0_ck (show ra_run ra_rI (kX12_isWord_0 N) ra_c0 ra_c0 ra_c0 ra_c0 ra_c0 ra_c0 12 lX12_isWord_0 [some (.ref a0), some (.long a1), none] [] h = some r from e) _ _ rfl
def fX12_isWord (N : Nat) (p0 : Nat) (p1 : Int64) (h : ra_H) : Option (Int32 × ra_H) := match ra_isOb h p0 12 with
  | true => (nX12_isWord_0 N p0 p1 h).bind (fun q => ra_rz q.1 q.2)
  | false => none
set_option maxRecDepth 100000 in
theorem mtX12_isWord : ra_MT[238]? = some (mX12_isWord, 1, 1, (1, 13), (7, 218), (0, 71)) := rfl
theorem fX12_isWord_co (N : Nat) (p0 : Nat) (p1 : Int64) (h : ra_H) (r : (Int32 × ra_H)) (e : fX12_isWord N p0 p1 h = some r) (D : Nat) (hD : 2 ≤ D) : ra_CO D 238 [.ref p0, .long p1] h (ra_oI r).1 (ra_oI r).2 := by
  have hw : ra_nw2 [.ref p0, .long p1] ≤ 3 := Nat.le_of_ble_eq_true rfl
  have hdb : ∀ v ∈ ([.ref p0, .long p1] : List Value), ∀ x, v ≠ .double x := by
    intro v hv x hx
    simp [hx] at hv
  unfold fX12_isWord at e
  split at e
  · rename_i ho
    obtain ⟨q, e1, e2⟩ := Option.bind_eq_some_iff.mp e
    obtain ⟨rfl, hz⟩ := ra_rz_of e2
    exact ⟨1, _, mtX12_isWord, hD, ra_ev_of (by decide) hdb hw hz (ra_Ru.weak (nX12_isWord_0_ok N p0 p1 h _ e1) ⟨rfl, ⟨rfl, trivial⟩⟩), (fun _ => ⟨_, _, rfl, ra_rcv_of ho (by decide) rfl⟩), (fun h => absurd h (by decide))⟩
  · cases e
/-! RedMarksModel.behindTest()I -/
def mX12_behindTest : ra_M := (yX12_behindTest, cX12_behindTest, 2, (some .int))
def tVX12_behindTest (N : Nat) : Nat → List Value → ra_H → Option ra_H := (ra_c1 233 (fun av h => match av with
  | [.ref z0] => fX12_goOn N z0 h
  | _ => none) (ra_c1 239 (fun av h => match av with
  | [.ref z0, .int z1] => fX12_must N z0 z1 h
  | _ => none) (ra_c1 242 (fun av h => match av with
  | [.ref z0, .int z1, .int z2] => fX12_push N z0 z1 z2 h
  | _ => none) (ra_c1 248 (fun av h => match av with
  | [.ref z0, .int z1, .int z2] => fX12_emit N z0 z1 z2 h
  | _ => none) (ra_c1 251 (fun av h => match av with
  | [.ref z0, .int z1] => fX12_settle N z0 z1 h
  | _ => none) ra_c0)))))
theorem tVX12_behindTest_ok (N : Nat) : ra_cok 4 ra_oV (tVX12_behindTest N) := (ra_c1_ok (by
  intro av h a e
  split at e
  · exact fX12_goOn_co N _ _ _ e 4 (by omega)
  · cases e) (ra_c1_ok (by
  intro av h a e
  split at e
  · exact fX12_must_co N _ _ _ _ e 4 (by omega)
  · cases e) (ra_c1_ok (by
  intro av h a e
  split at e
  · exact fX12_push_co N _ _ _ _ _ e 4 (by omega)
  · cases e) (ra_c1_ok (by
  intro av h a e
  split at e
  · exact fX12_emit_co N _ _ _ _ _ e 4 (by omega)
  · cases e) (ra_c1_ok (by
  intro av h a e
  split at e
  · exact fX12_settle_co N _ _ _ _ e 4 (by omega)
  · cases e) ra_c0_ok)))))
def tIX12_behindTest (N : Nat) : Nat → List Value → ra_H → Option (Int32 × ra_H) := (ra_c1 238 (fun av h => match av with
  | [.ref z0, .long z1] => fX12_isWord N z0 z1 h
  | _ => none) (ra_c1 243 (fun av h => match av with
  | [.ref z0, .int z1] => fX12_isSign N z0 z1 h
  | _ => none) (ra_c1 252 (fun av h => match av with
  | [.ref z0] => fX12_inner N z0 h
  | _ => none) ra_c0)))
theorem tIX12_behindTest_ok (N : Nat) : ra_cok 4 ra_oI (tIX12_behindTest N) := (ra_c1_ok (by
  intro av h a e
  split at e
  · exact fX12_isWord_co N _ _ _ _ e 4 (by omega)
  · cases e) (ra_c1_ok (by
  intro av h a e
  split at e
  · exact fX12_isSign_co N _ _ _ _ e 4 (by omega)
  · cases e) (ra_c1_ok (by
  intro av h a e
  split at e
  · exact fX12_inner_co N _ _ _ e 4 (by omega)
  · cases e) ra_c0_ok)))
def lX12_behindTest_66 : List ra_I := [(66, .iconst (0), 1, 0, 0, 0, (0), 0, []),
  (67, .invokevirtual 273, 3, 248, 3, 0, 0, 0, []),
  (70, .aload_n 0, 1, 0, 0, 0, 0, 0, []),
  (71, .invokevirtual 229, 3, 233, 1, 0, 0, 0, []),
  (74, .iconst (0), 1, 0, 0, 0, (0), 0, []),
  (75, .ireturn, 1, 0, 0, 0, 0, 0, [])]
set_option maxRecDepth 100000 in
theorem lX12_behindTest_66_ck : lX12_behindTest_66.all (ra_ck mX12_behindTest 12) = true := by decide +kernel
def nX12_behindTest_66 (N : Nat) (a0 : Nat) (b0 : Nat) (b1 : Int32) (h : ra_H) : Option (Int32 × ra_H) :=
  (fX12_emit N b0 b1 ((0 : Int32)) h).bind fun h1 =>
  (fX12_goOn N a0 h1).bind fun h2 =>
  some ((0 : Int32), h2)
def kX12_behindTest_66 (N : Nat) : Nat → List (Option Value) → List Value → ra_H → Option (Int32 × ra_H) := ra_k0
theorem kX12_behindTest_66_ok (N : Nat) : ra_kok 4 mX12_behindTest ra_oI (kX12_behindTest_66 N) := ra_k0_ok
set_option maxRecDepth 100000 in
theorem nX12_behindTest_66_ok (N : Nat) (a0 : Nat) (b0 : Nat) (b1 : Int32) (h : ra_H) (r : (Int32 × ra_H)) (e : nX12_behindTest_66 N a0 b0 b1 h = some r) : ra_Ru 4 mX12_behindTest 66 [some (.ref a0), none] [.int b1, .ref b0] h (ra_oI r) :=
  ra_sound (by omega) rfl ra_rI_ok (kX12_behindTest_66_ok N) (fun m av h h1 e => (tVX12_behindTest_ok N) m av h h1 e) (fun m av h x h1 e => (tIX12_behindTest_ok N) m av h (x, h1) e) (fun m av h x h1 e => (ra_c0_ok (ro := ra_oJ)) m av h (x, h1) e) (fun m av h x h1 e => (ra_c0_ok (ro := ra_oR)) m av h (x, h1) e) (fun m av h x h1 e => (ra_c0_ok (ro := ra_oN)) m av h (x, h1) e) (fun m av h x h1 e => (ra_c0_ok (ro := ra_oF)) m av h (x, h1) e) 7 lX12_behindTest_66 _ _ _ _ lX12_behindTest_66_ck (show ra_run ra_rI (kX12_behindTest_66 N) (tVX12_behindTest N) (tIX12_behindTest N) ra_c0 ra_c0 ra_c0 ra_c0 7 lX12_behindTest_66 [some (.ref a0), none] [.int b1, .ref b0] h = some r from e) _ _ rfl
def lX12_behindTest_47 : List ra_I := [(47, .aload_n 0, 1, 0, 0, 0, 0, 0, []),
  (48, .getfield 264, 3, 12, 17, 0, 0, 0, []),
  (51, .invokevirtual 296, 3, 242, 3, 0, 0, 0, []),
  (54, .aload_n 0, 1, 0, 0, 0, 0, 0, []),
  (55, .iload_n 1, 1, 1, 0, 0, 0, 0, []),
  (56, .ifCond .eq (8), 3, 64, 0, 0, 0, 0, []),
  (59, .bipush (28), 2, 0, 0, 0, (28), 0, []),
  (61, .goto (5), 3, 66, 0, 0, 0, 0, []),
  (64, .bipush (29), 2, 0, 0, 0, (29), 0, [])]
set_option maxRecDepth 100000 in
theorem lX12_behindTest_47_ck : lX12_behindTest_47.all (ra_ck mX12_behindTest 12) = true := by decide +kernel
def nX12_behindTest_47 (N : Nat) (a0 : Nat) (a1 : Int32) (b0 : Nat) (b1 : Int32) (h : ra_H) : Option (Int32 × ra_H) :=
  (ra_fI h 12 a0 17).bind fun x1 =>
  (fX12_push N b0 b1 x1 h).bind fun h2 =>
  if a1 = 0 then
    nX12_behindTest_66 N a0 a0 ((29 : Int32)) h2
  else
    nX12_behindTest_66 N a0 a0 ((28 : Int32)) h2
def kX12_behindTest_47 (N : Nat) : Nat → List (Option Value) → List Value → ra_H → Option (Int32 × ra_H) := (ra_k1 66 (fun L S h => match L, S with
  | [some (.ref a0), _], [.int b1, .ref b0] => nX12_behindTest_66 N a0 b0 b1 h
  | _, _ => none) ra_k0)
theorem kX12_behindTest_47_ok (N : Nat) : ra_kok 4 mX12_behindTest ra_oI (kX12_behindTest_47 N) := (ra_k1_ok (by
  intro L S h a e
  split at e
  · exact ra_Ru.weak (nX12_behindTest_66_ok N _ _ _ _ _ e) ⟨rfl, trivial⟩
  · cases e) ra_k0_ok)
set_option maxRecDepth 100000 in
theorem nX12_behindTest_47_ok (N : Nat) (a0 : Nat) (a1 : Int32) (b0 : Nat) (b1 : Int32) (h : ra_H) (r : (Int32 × ra_H)) (e : nX12_behindTest_47 N a0 a1 b0 b1 h = some r) : ra_Ru 4 mX12_behindTest 47 [some (.ref a0), some (.int a1)] [.int b1, .ref b0] h (ra_oI r) :=
  ra_sound (by omega) rfl ra_rI_ok (kX12_behindTest_47_ok N) (fun m av h h1 e => (tVX12_behindTest_ok N) m av h h1 e) (fun m av h x h1 e => (tIX12_behindTest_ok N) m av h (x, h1) e) (fun m av h x h1 e => (ra_c0_ok (ro := ra_oJ)) m av h (x, h1) e) (fun m av h x h1 e => (ra_c0_ok (ro := ra_oR)) m av h (x, h1) e) (fun m av h x h1 e => (ra_c0_ok (ro := ra_oN)) m av h (x, h1) e) (fun m av h x h1 e => (ra_c0_ok (ro := ra_oF)) m av h (x, h1) e) 10 lX12_behindTest_47 _ _ _ _ lX12_behindTest_47_ck (show ra_run ra_rI (kX12_behindTest_47 N) (tVX12_behindTest N) (tIX12_behindTest N) ra_c0 ra_c0 ra_c0 ra_c0 10 lX12_behindTest_47 [some (.ref a0), some (.int a1)] [.int b1, .ref b0] h = some r from e) _ _ rfl
def lX12_behindTest_32 : List ra_I := [(32, .invokevirtual 323, 3, 251, 2, 0, 0, 0, []),
  (35, .aload_n 0, 1, 0, 0, 0, 0, 0, []),
  (36, .iload_n 1, 1, 1, 0, 0, 0, 0, []),
  (37, .ifCond .eq (8), 3, 45, 0, 0, 0, 0, []),
  (40, .bipush (28), 2, 0, 0, 0, (28), 0, []),
  (42, .goto (5), 3, 47, 0, 0, 0, 0, []),
  (45, .bipush (29), 2, 0, 0, 0, (29), 0, [])]
set_option maxRecDepth 100000 in
theorem lX12_behindTest_32_ck : lX12_behindTest_32.all (ra_ck mX12_behindTest 12) = true := by decide +kernel
def nX12_behindTest_32 (N : Nat) (a0 : Nat) (a1 : Int32) (b0 : Nat) (b1 : Int32) (h : ra_H) : Option (Int32 × ra_H) :=
  (fX12_settle N b0 b1 h).bind fun h1 =>
  if a1 = 0 then
    nX12_behindTest_47 N a0 a1 a0 ((29 : Int32)) h1
  else
    nX12_behindTest_47 N a0 a1 a0 ((28 : Int32)) h1
def kX12_behindTest_32 (N : Nat) : Nat → List (Option Value) → List Value → ra_H → Option (Int32 × ra_H) := (ra_k1 47 (fun L S h => match L, S with
  | [some (.ref a0), some (.int a1)], [.int b1, .ref b0] => nX12_behindTest_47 N a0 a1 b0 b1 h
  | _, _ => none) ra_k0)
theorem kX12_behindTest_32_ok (N : Nat) : ra_kok 4 mX12_behindTest ra_oI (kX12_behindTest_32 N) := (ra_k1_ok (by
  intro L S h a e
  split at e
  · exact ra_Ru.weak (nX12_behindTest_47_ok N _ _ _ _ _ _ e) ⟨rfl, ⟨rfl, trivial⟩⟩
  · cases e) ra_k0_ok)
set_option maxRecDepth 100000 in
theorem nX12_behindTest_32_ok (N : Nat) (a0 : Nat) (a1 : Int32) (b0 : Nat) (b1 : Int32) (h : ra_H) (r : (Int32 × ra_H)) (e : nX12_behindTest_32 N a0 a1 b0 b1 h = some r) : ra_Ru 4 mX12_behindTest 32 [some (.ref a0), some (.int a1)] [.int b1, .ref b0] h (ra_oI r) :=
  ra_sound (by omega) rfl ra_rI_ok (kX12_behindTest_32_ok N) (fun m av h h1 e => (tVX12_behindTest_ok N) m av h h1 e) (fun m av h x h1 e => (tIX12_behindTest_ok N) m av h (x, h1) e) (fun m av h x h1 e => (ra_c0_ok (ro := ra_oJ)) m av h (x, h1) e) (fun m av h x h1 e => (ra_c0_ok (ro := ra_oR)) m av h (x, h1) e) (fun m av h x h1 e => (ra_c0_ok (ro := ra_oN)) m av h (x, h1) e) (fun m av h x h1 e => (ra_c0_ok (ro := ra_oF)) m av h (x, h1) e) 8 lX12_behindTest_32 _ _ _ _ lX12_behindTest_32_ck (show ra_run ra_rI (kX12_behindTest_32 N) (tVX12_behindTest N) (tIX12_behindTest N) ra_c0 ra_c0 ra_c0 ra_c0 8 lX12_behindTest_32 [some (.ref a0), some (.int a1)] [.int b1, .ref b0] h = some r from e) _ _ rfl
def lX12_behindTest_22 : List ra_I := [(22, .aload_n 0, 1, 0, 0, 0, 0, 0, []),
  (23, .iload_n 1, 1, 1, 0, 0, 0, 0, []),
  (24, .ifCond .eq (7), 3, 31, 0, 0, 0, 0, []),
  (27, .iconst (2), 1, 0, 0, 0, (2), 0, []),
  (28, .goto (4), 3, 32, 0, 0, 0, 0, []),
  (31, .iconst (1), 1, 0, 0, 0, (1), 0, [])]
set_option maxRecDepth 100000 in
theorem lX12_behindTest_22_ck : lX12_behindTest_22.all (ra_ck mX12_behindTest 12) = true := by decide +kernel
def nX12_behindTest_22 (N : Nat) (a0 : Nat) (a1 : Int32) (h : ra_H) : Option (Int32 × ra_H) :=
  if a1 = 0 then
    nX12_behindTest_32 N a0 a1 a0 ((1 : Int32)) h
  else
    nX12_behindTest_32 N a0 a1 a0 ((2 : Int32)) h
def kX12_behindTest_22 (N : Nat) : Nat → List (Option Value) → List Value → ra_H → Option (Int32 × ra_H) := (ra_k1 32 (fun L S h => match L, S with
  | [some (.ref a0), some (.int a1)], [.int b1, .ref b0] => nX12_behindTest_32 N a0 a1 b0 b1 h
  | _, _ => none) ra_k0)
theorem kX12_behindTest_22_ok (N : Nat) : ra_kok 4 mX12_behindTest ra_oI (kX12_behindTest_22 N) := (ra_k1_ok (by
  intro L S h a e
  split at e
  · exact ra_Ru.weak (nX12_behindTest_32_ok N _ _ _ _ _ _ e) ⟨rfl, ⟨rfl, trivial⟩⟩
  · cases e) ra_k0_ok)
set_option maxRecDepth 100000 in
theorem nX12_behindTest_22_ok (N : Nat) (a0 : Nat) (a1 : Int32) (h : ra_H) (r : (Int32 × ra_H)) (e : nX12_behindTest_22 N a0 a1 h = some r) : ra_Ru 4 mX12_behindTest 22 [some (.ref a0), some (.int a1)] [] h (ra_oI r) :=
  ra_sound (by omega) rfl ra_rI_ok (kX12_behindTest_22_ok N) (fun m av h h1 e => (tVX12_behindTest_ok N) m av h h1 e) (fun m av h x h1 e => (tIX12_behindTest_ok N) m av h (x, h1) e) (fun m av h x h1 e => (ra_c0_ok (ro := ra_oJ)) m av h (x, h1) e) (fun m av h x h1 e => (ra_c0_ok (ro := ra_oR)) m av h (x, h1) e) (fun m av h x h1 e => (ra_c0_ok (ro := ra_oN)) m av h (x, h1) e) (fun m av h x h1 e => (ra_c0_ok (ro := ra_oF)) m av h (x, h1) e) 7 lX12_behindTest_22 _ _ _ _ lX12_behindTest_22_ck (show ra_run ra_rI (kX12_behindTest_22 N) (tVX12_behindTest N) (tIX12_behindTest N) ra_c0 ra_c0 ra_c0 ra_c0 7 lX12_behindTest_22 [some (.ref a0), some (.int a1)] [] h = some r from e) _ _ rfl
def lX12_behindTest_128 : List ra_I := [(128, .iconst (2), 1, 0, 0, 0, (2), 0, []),
  (129, .ireturn, 1, 0, 0, 0, 0, 0, [])]
set_option maxRecDepth 100000 in
theorem lX12_behindTest_128_ck : lX12_behindTest_128.all (ra_ck mX12_behindTest 12) = true := by decide +kernel
def nX12_behindTest_128 (N : Nat) (h : ra_H) : Option (Int32 × ra_H) :=
  some ((2 : Int32), h)
def kX12_behindTest_128 (N : Nat) : Nat → List (Option Value) → List Value → ra_H → Option (Int32 × ra_H) := ra_k0
theorem kX12_behindTest_128_ok (N : Nat) : ra_kok 4 mX12_behindTest ra_oI (kX12_behindTest_128 N) := ra_k0_ok
set_option maxRecDepth 100000 in
theorem nX12_behindTest_128_ok (N : Nat) (h : ra_H) (r : (Int32 × ra_H)) (e : nX12_behindTest_128 N h = some r) : ra_Ru 4 mX12_behindTest 128 [none, none] [] h (ra_oI r) :=
  ra_sound (by omega) rfl ra_rI_ok (kX12_behindTest_128_ok N) (fun m av h h1 e => (tVX12_behindTest_ok N) m av h h1 e) (fun m av h x h1 e => (tIX12_behindTest_ok N) m av h (x, h1) e) (fun m av h x h1 e => (ra_c0_ok (ro := ra_oJ)) m av h (x, h1) e) (fun m av h x h1 e => (ra_c0_ok (ro := ra_oR)) m av h (x, h1) e) (fun m av h x h1 e => (ra_c0_ok (ro := ra_oN)) m av h (x, h1) e) (fun m av h x h1 e => (ra_c0_ok (ro := ra_oF)) m av h (x, h1) e) 3 lX12_behindTest_128 _ _ _ _ lX12_behindTest_128_ck (show ra_run ra_rI (kX12_behindTest_128 N) (tVX12_behindTest N) (tIX12_behindTest N) ra_c0 ra_c0 ra_c0 ra_c0 3 lX12_behindTest_128 [none, none] [] h = some r from e) _ _ rfl
def lX12_behindTest_0 : List ra_I := [(0, .aload_n 0, 1, 0, 0, 0, 0, 0, []),
  (1, .ldc2_w 333, 3, 0, 0, 0, 0, (1476), []),
  (4, .invokevirtual 285, 3, 238, 2, 1, 0, 0, []),
  (7, .istore_n 1, 1, 1, 0, 0, 0, 0, []),
  (8, .iload_n 1, 1, 1, 0, 0, 0, 0, []),
  (9, .ifCond .ne (13), 3, 22, 0, 0, 0, 0, []),
  (12, .aload_n 0, 1, 0, 0, 0, 0, 0, []),
  (13, .ldc2_w 335, 3, 0, 0, 0, 0, (498), []),
  (16, .invokevirtual 285, 3, 238, 2, 1, 0, 0, []),
  (19, .ifCond .eq (57), 3, 76, 0, 0, 0, 0, []),
  (76, .aload_n 0, 1, 0, 0, 0, 0, 0, []),
  (77, .invokevirtual 326, 3, 252, 1, 1, 0, 0, []),
  (80, .iconst (-1), 1, 0, 0, 0, (-1), 0, []),
  (81, .if_icmp .ne (5), 3, 86, 0, 0, 0, 0, []),
  (84, .iconst (4), 1, 0, 0, 0, (4), 0, []),
  (85, .ireturn, 1, 0, 0, 0, 0, 0, []),
  (86, .aload_n 0, 1, 0, 0, 0, 0, 0, []),
  (87, .aload_n 0, 1, 0, 0, 0, 0, 0, []),
  (88, .bipush (41), 2, 0, 0, 0, (41), 0, []),
  (90, .invokevirtual 302, 3, 243, 2, 1, 0, 0, []),
  (93, .invokevirtual 260, 3, 239, 2, 0, 0, 0, []),
  (96, .aload_n 0, 1, 0, 0, 0, 0, 0, []),
  (97, .getfield 225, 3, 12, 14, 0, 0, 0, []),
  (100, .ifCond .ne (28), 3, 128, 0, 0, 0, 0, []),
  (103, .aload_n 0, 1, 0, 0, 0, 0, 0, []),
  (104, .iconst (1), 1, 0, 0, 0, (1), 0, []),
  (105, .invokevirtual 323, 3, 251, 2, 0, 0, 0, []),
  (108, .aload_n 0, 1, 0, 0, 0, 0, 0, []),
  (109, .dup, 1, 0, 0, 0, 0, 0, []),
  (110, .getfield 267, 3, 12, 23, 0, 0, 0, []),
  (113, .iconst (1), 1, 0, 0, 0, (1), 0, []),
  (114, .isub, 1, 0, 0, 0, 0, 0, []),
  (115, .putfield 267, 3, 12, 23, 0, 0, 0, []),
  (118, .aload_n 0, 1, 0, 0, 0, 0, 0, []),
  (119, .dup, 1, 0, 0, 0, 0, 0, []),
  (120, .getfield 293, 3, 12, 24, 0, 0, 0, []),
  (123, .iconst (1), 1, 0, 0, 0, (1), 0, []),
  (124, .isub, 1, 0, 0, 0, 0, 0, []),
  (125, .putfield 293, 3, 12, 24, 0, 0, 0, [])]
set_option maxRecDepth 100000 in
theorem lX12_behindTest_0_ck : lX12_behindTest_0.all (ra_ck mX12_behindTest 12) = true := by decide +kernel
def nX12_behindTest_0 (N : Nat) (a0 : Nat) (h : ra_H) : Option (Int32 × ra_H) :=
  (fX12_isWord N a0 ((1476 : Int64)) h).bind fun q1 =>
  if q1.1 = 0 then
    (fX12_isWord N a0 ((498 : Int64)) q1.2).bind fun q2 =>
    if q2.1 = 0 then
      (fX12_inner N a0 q2.2).bind fun q3 =>
      if q3.1 = ((-1 : Int32)) then
        some ((4 : Int32), q3.2)
      else
        (fX12_isSign N a0 ((41 : Int32)) q3.2).bind fun q4 =>
        (fX12_must N a0 q4.1 q4.2).bind fun h5 =>
        (ra_fI h5 12 a0 14).bind fun x6 =>
        if x6 = 0 then
          (fX12_settle N a0 ((1 : Int32)) h5).bind fun h7 =>
          (ra_fI h7 12 a0 23).bind fun x8 =>
          (ra_fW h7 12 a0 23 (.int (x8 - ((1 : Int32))))).bind fun h9 =>
          (ra_fI h9 12 a0 24).bind fun x10 =>
          (ra_fW h9 12 a0 24 (.int (x10 - ((1 : Int32))))).bind fun h11 =>
          nX12_behindTest_128 N h11
        else
          nX12_behindTest_128 N h5
    else
      nX12_behindTest_22 N a0 q1.1 q2.2
  else
    nX12_behindTest_22 N a0 q1.1 q1.2
def kX12_behindTest_0 (N : Nat) : Nat → List (Option Value) → List Value → ra_H → Option (Int32 × ra_H) := (ra_k1 22 (fun L S h => match L, S with
  | [some (.ref a0), some (.int a1)], [] => nX12_behindTest_22 N a0 a1 h
  | _, _ => none) (ra_k1 128 (fun L S h => match L, S with
  | [_, _], [] => nX12_behindTest_128 N h
  | _, _ => none) ra_k0))
theorem kX12_behindTest_0_ok (N : Nat) : ra_kok 4 mX12_behindTest ra_oI (kX12_behindTest_0 N) := (ra_k1_ok (by
  intro L S h a e
  split at e
  · exact ra_Ru.weak (nX12_behindTest_22_ok N _ _ _ _ e) ⟨rfl, ⟨rfl, trivial⟩⟩
  · cases e) (ra_k1_ok (by
  intro L S h a e
  split at e
  · exact ra_Ru.weak (nX12_behindTest_128_ok N _ _ e) trivial
  · cases e) ra_k0_ok))
set_option maxRecDepth 100000 in
theorem nX12_behindTest_0_ok (N : Nat) (a0 : Nat) (h : ra_H) (r : (Int32 × ra_H)) (e : nX12_behindTest_0 N a0 h = some r) : ra_Ru 4 mX12_behindTest 0 [some (.ref a0), none] [] h (ra_oI r) :=
  ra_sound (by omega) rfl ra_rI_ok (kX12_behindTest_0_ok N) (fun m av h h1 e => (tVX12_behindTest_ok N) m av h h1 e) (fun m av h x h1 e => (tIX12_behindTest_ok N) m av h (x, h1) e) (fun m av h x h1 e => (ra_c0_ok (ro := ra_oJ)) m av h (x, h1) e) (fun m av h x h1 e => (ra_c0_ok (ro := ra_oR)) m av h (x, h1) e) (fun m av h x h1 e => (ra_c0_ok (ro := ra_oN)) m av h (x, h1) e) (fun m av h x h1 e => (ra_c0_ok (ro := ra_oF)) m av h (x, h1) e) 40 lX12_behindTest_0 _ _ _ _ lX12_behindTest_0_ck (show ra_run ra_rI (kX12_behindTest_0 N) (tVX12_behindTest N) (tIX12_behindTest N) ra_c0 ra_c0 ra_c0 ra_c0 40 lX12_behindTest_0 [some (.ref a0), none] [] h = some r from e) _ _ rfl
def fX12_behindTest (N : Nat) (p0 : Nat) (h : ra_H) : Option (Int32 × ra_H) := match ra_isOb h p0 12 with
  | true => nX12_behindTest_0 N p0 h
  | false => none
set_option maxRecDepth 100000 in
theorem mtX12_behindTest : ra_MT[254]? = some (mX12_behindTest, 1, 0, (1, 13), (8, 47), (0, 86)) := rfl
theorem fX12_behindTest_co (N : Nat) (p0 : Nat) (h : ra_H) (r : (Int32 × ra_H)) (e : fX12_behindTest N p0 h = some r) (D : Nat) (hD : 5 ≤ D) : ra_CO D 254 [.ref p0] h (ra_oI r).1 (ra_oI r).2 := by
  have hw : ra_nw2 [.ref p0] ≤ 2 := Nat.le_of_ble_eq_true rfl
  have hdb : ∀ v ∈ ([.ref p0] : List Value), ∀ x, v ≠ .double x := by
    intro v hv x hx
    simp [hx] at hv
  unfold fX12_behindTest at e
  split at e
  · rename_i ho
    have e1 := e
    exact ⟨4, _, mtX12_behindTest, hD, ra_ev_of (by decide) hdb hw trivial (ra_Ru.weak (nX12_behindTest_0_ok N p0 h _ e1) ⟨rfl, trivial⟩), (fun _ => ⟨_, _, rfl, ra_rcv_of ho (by decide) rfl⟩), (fun h => absurd h (by decide))⟩
  · cases e
/-! RedMarksModel.rowAll(I)V -/
def mX12_rowAll : ra_M := (yX12_rowAll, cX12_rowAll, 7, none)
def tIX12_rowAll (N : Nat) : Nat → List Value → ra_H → Option (Int32 × ra_H) := (ra_c1 308 (fun av h => match av with
  | [.ref z0, .int z1, .int z2] => fX12_apart N z0 z1 z2 h
  | _ => none) ra_c0)
theorem tIX12_rowAll_ok (N : Nat) : ra_cok 2 ra_oI (tIX12_rowAll N) := (ra_c1_ok (by
  intro av h a e
  split at e
  · exact fX12_apart_co N _ _ _ _ _ e 2 (by omega)
  · cases e) ra_c0_ok)
def lX12_rowAll_61 : List ra_I := [(61, .aload_n 0, 1, 0, 0, 0, 0, 0, []),
  (62, .getfield 138, 3, 12, 54, 2, 0, 0, []),
  (65, .iload 4, 2, 4, 0, 0, 0, 0, []),
  (67, .iload_n 3, 1, 3, 0, 0, 0, 0, []),
  (68, .iastore, 1, 0, 0, 0, 0, 0, []),
  (69, .iinc 2 (1), 3, 2, 0, 0, (1), 0, []),
  (72, .goto (-70), 3, 2, 0, 0, 0, 0, [])]
set_option maxRecDepth 100000 in
theorem lX12_rowAll_61_ck : lX12_rowAll_61.all (ra_ck mX12_rowAll 12) = true := by decide +kernel
def nX12_rowAll_61 (N : Nat) (c2 : Nat → Int32 → Int32 → ra_H → Option ra_H) (a0 : Nat) (a1 : Int32) (a2 : Int32) (a3 : Int32) (a4 : Int32) (h : ra_H) : Option ra_H :=
  (ra_fR h 12 a0 54).bind fun x1 =>
  (ra_aW h 0 x1 a4 a3).bind fun h2 =>
  let y3 := a2 + (1 : Int32)
  c2 a0 a1 y3 h2
def kX12_rowAll_61 (N : Nat) (c2 : Nat → Int32 → Int32 → ra_H → Option ra_H) : Nat → List (Option Value) → List Value → ra_H → Option ra_H := (ra_k1 2 (fun L S h => match L, S with
  | [some (.ref a0), some (.int a1), some (.int a2), _, _, _, _], [] => c2 a0 a1 a2 h
  | _, _ => none) ra_k0)
theorem kX12_rowAll_61_ok (N : Nat) (c2 : Nat → Int32 → Int32 → ra_H → Option ra_H) (hc2 : ∀ a0 a1 a2 h r, c2 a0 a1 a2 h = some r → ra_Ru 2 mX12_rowAll 2 [some (.ref a0), some (.int a1), some (.int a2), none, none, none, none] [] h (ra_oV r)) : ra_kok 2 mX12_rowAll ra_oV (kX12_rowAll_61 N c2) := (ra_k1_ok (by
  intro L S h a e
  split at e
  · exact ra_Ru.weak (hc2 _ _ _ _ _ e) ⟨rfl, ⟨rfl, ⟨rfl, trivial⟩⟩⟩
  · cases e) ra_k0_ok)
set_option maxRecDepth 100000 in
theorem nX12_rowAll_61_ok (N : Nat) (c2 : Nat → Int32 → Int32 → ra_H → Option ra_H) (hc2 : ∀ a0 a1 a2 h r, c2 a0 a1 a2 h = some r → ra_Ru 2 mX12_rowAll 2 [some (.ref a0), some (.int a1), some (.int a2), none, none, none, none] [] h (ra_oV r)) (a0 : Nat) (a1 : Int32) (a2 : Int32) (a3 : Int32) (a4 : Int32) (h : ra_H) (r : ra_H) (e : nX12_rowAll_61 N c2 a0 a1 a2 a3 a4 h = some r) : ra_Ru 2 mX12_rowAll 61 [some (.ref a0), some (.int a1), some (.int a2), some (.int a3), some (.int a4), none, none] [] h (ra_oV r) :=
  ra_sound (by omega) rfl ra_rV_ok (kX12_rowAll_61_ok N c2 hc2) (fun m av h h1 e => (ra_c0_ok (ro := ra_oV)) m av h h1 e) (fun m av h x h1 e => (tIX12_rowAll_ok N) m av h (x, h1) e) (fun m av h x h1 e => (ra_c0_ok (ro := ra_oJ)) m av h (x, h1) e) (fun m av h x h1 e => (ra_c0_ok (ro := ra_oR)) m av h (x, h1) e) (fun m av h x h1 e => (ra_c0_ok (ro := ra_oN)) m av h (x, h1) e) (fun m av h x h1 e => (ra_c0_ok (ro := ra_oF)) m av h (x, h1) e) 8 lX12_rowAll_61 _ _ _ _ lX12_rowAll_61_ck (show ra_run ra_rV (kX12_rowAll_61 N c2) ra_c0 (tIX12_rowAll N) ra_c0 ra_c0 ra_c0 ra_c0 8 lX12_rowAll_61 [some (.ref a0), some (.int a1), some (.int a2), some (.int a3), some (.int a4), none, none] [] h = some r from e) _ _ rfl
def lX12_rowAll_21 : List ra_I := [(21, .iload 4, 2, 4, 0, 0, 0, 0, []),
  (23, .ifCond .le (38), 3, 61, 0, 0, 0, 0, []),
  (26, .aload_n 0, 1, 0, 0, 0, 0, 0, []),
  (27, .getfield 138, 3, 12, 54, 2, 0, 0, []),
  (30, .iload 4, 2, 4, 0, 0, 0, 0, []),
  (32, .iconst (1), 1, 0, 0, 0, (1), 0, []),
  (33, .isub, 1, 0, 0, 0, 0, 0, []),
  (34, .iaload, 1, 0, 0, 0, 0, 0, []),
  (35, .iload_n 3, 1, 3, 0, 0, 0, 0, []),
  (36, .if_icmp .le (25), 3, 61, 0, 0, 0, 0, []),
  (39, .aload_n 0, 1, 0, 0, 0, 0, 0, []),
  (40, .getfield 138, 3, 12, 54, 2, 0, 0, []),
  (43, .iload 4, 2, 4, 0, 0, 0, 0, []),
  (45, .aload_n 0, 1, 0, 0, 0, 0, 0, []),
  (46, .getfield 138, 3, 12, 54, 2, 0, 0, []),
  (49, .iload 4, 2, 4, 0, 0, 0, 0, []),
  (51, .iconst (1), 1, 0, 0, 0, (1), 0, []),
  (52, .isub, 1, 0, 0, 0, 0, 0, []),
  (53, .iaload, 1, 0, 0, 0, 0, 0, []),
  (54, .iastore, 1, 0, 0, 0, 0, 0, []),
  (55, .iinc 4 (-1), 3, 4, 0, 0, (-1), 0, []),
  (58, .goto (-37), 3, 21, 0, 0, 0, 0, [])]
set_option maxRecDepth 100000 in
theorem lX12_rowAll_21_ck : lX12_rowAll_21.all (ra_ck mX12_rowAll 12) = true := by decide +kernel
def nX12_rowAll_21 (N : Nat) (c2 : Nat → Int32 → Int32 → ra_H → Option ra_H) : Nat → Nat → Int32 → Int32 → Int32 → Int32 → ra_H → Option ra_H
  | 0, _, _, _, _, _, _ => none
  | n + 1, a0, a1, a2, a3, a4, h =>
  if a4 ≤ 0 then
    nX12_rowAll_61 N c2 a0 a1 a2 a3 a4 h
  else
    (ra_fR h 12 a0 54).bind fun x1 =>
    (ra_aI h 0 x1 (a4 - ((1 : Int32)))).bind fun x2 =>
    if x2 ≤ a3 then
      nX12_rowAll_61 N c2 a0 a1 a2 a3 a4 h
    else
      (ra_fR h 12 a0 54).bind fun x3 =>
      (ra_fR h 12 a0 54).bind fun x4 =>
      (ra_aI h 0 x4 (a4 - ((1 : Int32)))).bind fun x5 =>
      (ra_aW h 0 x3 a4 x5).bind fun h6 =>
      let y7 := a4 + (-1 : Int32)
      nX12_rowAll_21 N c2 n a0 a1 a2 a3 y7 h6
def kX12_rowAll_21 (N : Nat) (c2 : Nat → Int32 → Int32 → ra_H → Option ra_H) (cs : Nat → Int32 → Int32 → Int32 → Int32 → ra_H → Option ra_H) : Nat → List (Option Value) → List Value → ra_H → Option ra_H := (ra_k1 21 (fun L S h => match L, S with
  | [some (.ref a0), some (.int a1), some (.int a2), some (.int a3), some (.int a4), _, _], [] => cs a0 a1 a2 a3 a4 h
  | _, _ => none) (ra_k1 61 (fun L S h => match L, S with
  | [some (.ref a0), some (.int a1), some (.int a2), some (.int a3), some (.int a4), _, _], [] => nX12_rowAll_61 N c2 a0 a1 a2 a3 a4 h
  | _, _ => none) ra_k0))
theorem kX12_rowAll_21_ok (N : Nat) (c2 : Nat → Int32 → Int32 → ra_H → Option ra_H) (hc2 : ∀ a0 a1 a2 h r, c2 a0 a1 a2 h = some r → ra_Ru 2 mX12_rowAll 2 [some (.ref a0), some (.int a1), some (.int a2), none, none, none, none] [] h (ra_oV r)) (cs : Nat → Int32 → Int32 → Int32 → Int32 → ra_H → Option ra_H) (hcs : ∀ a0 a1 a2 a3 a4 h r, cs a0 a1 a2 a3 a4 h = some r → ra_Ru 2 mX12_rowAll 21 [some (.ref a0), some (.int a1), some (.int a2), some (.int a3), some (.int a4), none, none] [] h (ra_oV r)) : ra_kok 2 mX12_rowAll ra_oV (kX12_rowAll_21 N c2 cs) := (ra_k1_ok (by
  intro L S h a e
  split at e
  · exact ra_Ru.weak (hcs _ _ _ _ _ _ _ e) ⟨rfl, ⟨rfl, ⟨rfl, ⟨rfl, ⟨rfl, trivial⟩⟩⟩⟩⟩
  · cases e) (ra_k1_ok (by
  intro L S h a e
  split at e
  · exact ra_Ru.weak (nX12_rowAll_61_ok N c2 hc2 _ _ _ _ _ _ _ e) ⟨rfl, ⟨rfl, ⟨rfl, ⟨rfl, ⟨rfl, trivial⟩⟩⟩⟩⟩
  · cases e) ra_k0_ok))
set_option maxRecDepth 100000 in
theorem nX12_rowAll_21_ok (N : Nat) (c2 : Nat → Int32 → Int32 → ra_H → Option ra_H) (hc2 : ∀ a0 a1 a2 h r, c2 a0 a1 a2 h = some r → ra_Ru 2 mX12_rowAll 2 [some (.ref a0), some (.int a1), some (.int a2), none, none, none, none] [] h (ra_oV r)) : ∀ n a0 a1 a2 a3 a4 h r, nX12_rowAll_21 N c2 n a0 a1 a2 a3 a4 h = some r → ra_Ru 2 mX12_rowAll 21 [some (.ref a0), some (.int a1), some (.int a2), some (.int a3), some (.int a4), none, none] [] h (ra_oV r) := by
  intro n
  induction n with
  | zero => intro a0 a1 a2 a3 a4 h r e; cases e
  | succ n ih =>
    intro a0 a1 a2 a3 a4 h r e
    exact ra_sound (by omega) rfl ra_rV_ok (kX12_rowAll_21_ok N c2 hc2 (nX12_rowAll_21 N c2 n) ih) (fun m av h h1 e => (ra_c0_ok (ro := ra_oV)) m av h h1 e) (fun m av h x h1 e => (tIX12_rowAll_ok N) m av h (x, h1) e) (fun m av h x h1 e => (ra_c0_ok (ro := ra_oJ)) m av h (x, h1) e) (fun m av h x h1 e => (ra_c0_ok (ro := ra_oR)) m av h (x, h1) e) (fun m av h x h1 e => (ra_c0_ok (ro := ra_oN)) m av h (x, h1) e) (fun m av h x h1 e => (ra_c0_ok (ro := ra_oF)) m av h (x, h1) e) 23 lX12_rowAll_21 _ _ _ _ lX12_rowAll_21_ck (show ra_run ra_rV (kX12_rowAll_21 N c2 (nX12_rowAll_21 N c2 n)) ra_c0 (tIX12_rowAll N) ra_c0 ra_c0 ra_c0 ra_c0 23 lX12_rowAll_21 [some (.ref a0), some (.int a1), some (.int a2), some (.int a3), some (.int a4), none, none] [] h = some r from e) _ _ rfl
def lX12_rowAll_181 : List ra_I := [(181, .iinc 5 (1), 3, 5, 0, 0, (1), 0, []),
  (184, .goto (-71), 3, 113, 0, 0, 0, 0, [])]
set_option maxRecDepth 100000 in
theorem lX12_rowAll_181_ck : lX12_rowAll_181.all (ra_ck mX12_rowAll 12) = true := by decide +kernel
def nX12_rowAll_181 (N : Nat) (c81 : Nat → Int32 → Int32 → ra_H → Option ra_H) (c87 : Nat → Int32 → Int32 → Int32 → ra_H → Option ra_H) (c113 : Nat → Int32 → Int32 → Int32 → Int32 → Int32 → ra_H → Option ra_H) (a0 : Nat) (a1 : Int32) (a2 : Int32) (a3 : Int32) (a4 : Int32) (a5 : Int32) (h : ra_H) : Option ra_H :=
  let y1 := a5 + (1 : Int32)
  c113 a0 a1 a2 a3 a4 y1 h
def kX12_rowAll_181 (N : Nat) (c81 : Nat → Int32 → Int32 → ra_H → Option ra_H) (c87 : Nat → Int32 → Int32 → Int32 → ra_H → Option ra_H) (c113 : Nat → Int32 → Int32 → Int32 → Int32 → Int32 → ra_H → Option ra_H) : Nat → List (Option Value) → List Value → ra_H → Option ra_H := (ra_k1 113 (fun L S h => match L, S with
  | [some (.ref a0), some (.int a1), some (.int a2), some (.int a3), some (.int a4), some (.int a5), _], [] => c113 a0 a1 a2 a3 a4 a5 h
  | _, _ => none) ra_k0)
theorem kX12_rowAll_181_ok (N : Nat) (c81 : Nat → Int32 → Int32 → ra_H → Option ra_H) (c87 : Nat → Int32 → Int32 → Int32 → ra_H → Option ra_H) (c113 : Nat → Int32 → Int32 → Int32 → Int32 → Int32 → ra_H → Option ra_H) (hc81 : ∀ a0 a1 a2 h r, c81 a0 a1 a2 h = some r → ra_Ru 2 mX12_rowAll 81 [some (.ref a0), some (.int a1), some (.int a2), none, none, none, none] [] h (ra_oV r)) (hc87 : ∀ a0 a1 a2 a3 h r, c87 a0 a1 a2 a3 h = some r → ra_Ru 2 mX12_rowAll 87 [some (.ref a0), some (.int a1), some (.int a2), some (.int a3), none, none, none] [] h (ra_oV r)) (hc113 : ∀ a0 a1 a2 a3 a4 a5 h r, c113 a0 a1 a2 a3 a4 a5 h = some r → ra_Ru 2 mX12_rowAll 113 [some (.ref a0), some (.int a1), some (.int a2), some (.int a3), some (.int a4), some (.int a5), none] [] h (ra_oV r)) : ra_kok 2 mX12_rowAll ra_oV (kX12_rowAll_181 N c81 c87 c113) := (ra_k1_ok (by
  intro L S h a e
  split at e
  · exact ra_Ru.weak (hc113 _ _ _ _ _ _ _ _ e) ⟨rfl, ⟨rfl, ⟨rfl, ⟨rfl, ⟨rfl, ⟨rfl, trivial⟩⟩⟩⟩⟩⟩
  · cases e) ra_k0_ok)
set_option maxRecDepth 100000 in
theorem nX12_rowAll_181_ok (N : Nat) (c81 : Nat → Int32 → Int32 → ra_H → Option ra_H) (c87 : Nat → Int32 → Int32 → Int32 → ra_H → Option ra_H) (c113 : Nat → Int32 → Int32 → Int32 → Int32 → Int32 → ra_H → Option ra_H) (hc81 : ∀ a0 a1 a2 h r, c81 a0 a1 a2 h = some r → ra_Ru 2 mX12_rowAll 81 [some (.ref a0), some (.int a1), some (.int a2), none, none, none, none] [] h (ra_oV r)) (hc87 : ∀ a0 a1 a2 a3 h r, c87 a0 a1 a2 a3 h = some r → ra_Ru 2 mX12_rowAll 87 [some (.ref a0), some (.int a1), some (.int a2), some (.int a3), none, none, none] [] h (ra_oV r)) (hc113 : ∀ a0 a1 a2 a3 a4 a5 h r, c113 a0 a1 a2 a3 a4 a5 h = some r → ra_Ru 2 mX12_rowAll 113 [some (.ref a0), some (.int a1), some (.int a2), some (.int a3), some (.int a4), some (.int a5), none] [] h (ra_oV r)) (a0 : Nat) (a1 : Int32) (a2 : Int32) (a3 : Int32) (a4 : Int32) (a5 : Int32) (h : ra_H) (r : ra_H) (e : nX12_rowAll_181 N c81 c87 c113 a0 a1 a2 a3 a4 a5 h = some r) : ra_Ru 2 mX12_rowAll 181 [some (.ref a0), some (.int a1), some (.int a2), some (.int a3), some (.int a4), some (.int a5), none] [] h (ra_oV r) :=
  ra_sound (by omega) rfl ra_rV_ok (kX12_rowAll_181_ok N c81 c87 c113 hc81 hc87 hc113) (fun m av h h1 e => (ra_c0_ok (ro := ra_oV)) m av h h1 e) (fun m av h x h1 e => (tIX12_rowAll_ok N) m av h (x, h1) e) (fun m av h x h1 e => (ra_c0_ok (ro := ra_oJ)) m av h (x, h1) e) (fun m av h x h1 e => (ra_c0_ok (ro := ra_oR)) m av h (x, h1) e) (fun m av h x h1 e => (ra_c0_ok (ro := ra_oN)) m av h (x, h1) e) (fun m av h x h1 e => (ra_c0_ok (ro := ra_oF)) m av h (x, h1) e) 3 lX12_rowAll_181 _ _ _ _ lX12_rowAll_181_ck (show ra_run ra_rV (kX12_rowAll_181 N c81 c87 c113) ra_c0 (tIX12_rowAll N) ra_c0 ra_c0 ra_c0 ra_c0 3 lX12_rowAll_181 [some (.ref a0), some (.int a1), some (.int a2), some (.int a3), some (.int a4), some (.int a5), none] [] h = some r from e) _ _ rfl
def lX12_rowAll_179 : List ra_I := [(179, .istore 4, 2, 4, 0, 0, 0, 0, [])]
set_option maxRecDepth 100000 in
theorem lX12_rowAll_179_ck : lX12_rowAll_179.all (ra_ck mX12_rowAll 12) = true := by decide +kernel
def nX12_rowAll_179 (N : Nat) (c81 : Nat → Int32 → Int32 → ra_H → Option ra_H) (c87 : Nat → Int32 → Int32 → Int32 → ra_H → Option ra_H) (c113 : Nat → Int32 → Int32 → Int32 → Int32 → Int32 → ra_H → Option ra_H) (a0 : Nat) (a1 : Int32) (a2 : Int32) (a3 : Int32) (a5 : Int32) (b0 : Int32) (h : ra_H) : Option ra_H :=
  nX12_rowAll_181 N c81 c87 c113 a0 a1 a2 a3 b0 a5 h
def kX12_rowAll_179 (N : Nat) (c81 : Nat → Int32 → Int32 → ra_H → Option ra_H) (c87 : Nat → Int32 → Int32 → Int32 → ra_H → Option ra_H) (c113 : Nat → Int32 → Int32 → Int32 → Int32 → Int32 → ra_H → Option ra_H) : Nat → List (Option Value) → List Value → ra_H → Option ra_H := (ra_k1 181 (fun L S h => match L, S with
  | [some (.ref a0), some (.int a1), some (.int a2), some (.int a3), some (.int a4), some (.int a5), _], [] => nX12_rowAll_181 N c81 c87 c113 a0 a1 a2 a3 a4 a5 h
  | _, _ => none) ra_k0)
theorem kX12_rowAll_179_ok (N : Nat) (c81 : Nat → Int32 → Int32 → ra_H → Option ra_H) (c87 : Nat → Int32 → Int32 → Int32 → ra_H → Option ra_H) (c113 : Nat → Int32 → Int32 → Int32 → Int32 → Int32 → ra_H → Option ra_H) (hc81 : ∀ a0 a1 a2 h r, c81 a0 a1 a2 h = some r → ra_Ru 2 mX12_rowAll 81 [some (.ref a0), some (.int a1), some (.int a2), none, none, none, none] [] h (ra_oV r)) (hc87 : ∀ a0 a1 a2 a3 h r, c87 a0 a1 a2 a3 h = some r → ra_Ru 2 mX12_rowAll 87 [some (.ref a0), some (.int a1), some (.int a2), some (.int a3), none, none, none] [] h (ra_oV r)) (hc113 : ∀ a0 a1 a2 a3 a4 a5 h r, c113 a0 a1 a2 a3 a4 a5 h = some r → ra_Ru 2 mX12_rowAll 113 [some (.ref a0), some (.int a1), some (.int a2), some (.int a3), some (.int a4), some (.int a5), none] [] h (ra_oV r)) : ra_kok 2 mX12_rowAll ra_oV (kX12_rowAll_179 N c81 c87 c113) := (ra_k1_ok (by
  intro L S h a e
  split at e
  · exact ra_Ru.weak (nX12_rowAll_181_ok N c81 c87 c113 hc81 hc87 hc113 _ _ _ _ _ _ _ _ e) ⟨rfl, ⟨rfl, ⟨rfl, ⟨rfl, ⟨rfl, ⟨rfl, trivial⟩⟩⟩⟩⟩⟩
  · cases e) ra_k0_ok)
set_option maxRecDepth 100000 in
theorem nX12_rowAll_179_ok (N : Nat) (c81 : Nat → Int32 → Int32 → ra_H → Option ra_H) (c87 : Nat → Int32 → Int32 → Int32 → ra_H → Option ra_H) (c113 : Nat → Int32 → Int32 → Int32 → Int32 → Int32 → ra_H → Option ra_H) (hc81 : ∀ a0 a1 a2 h r, c81 a0 a1 a2 h = some r → ra_Ru 2 mX12_rowAll 81 [some (.ref a0), some (.int a1), some (.int a2), none, none, none, none] [] h (ra_oV r)) (hc87 : ∀ a0 a1 a2 a3 h r, c87 a0 a1 a2 a3 h = some r → ra_Ru 2 mX12_rowAll 87 [some (.ref a0), some (.int a1), some (.int a2), some (.int a3), none, none, none] [] h (ra_oV r)) (hc113 : ∀ a0 a1 a2 a3 a4 a5 h r, c113 a0 a1 a2 a3 a4 a5 h = some r → ra_Ru 2 mX12_rowAll 113 [some (.ref a0), some (.int a1), some (.int a2), some (.int a3), some (.int a4), some (.int a5), none] [] h (ra_oV r)) (a0 : Nat) (a1 : Int32) (a2 : Int32) (a3 : Int32) (a5 : Int32) (b0 : Int32) (h : ra_H) (r : ra_H) (e : nX12_rowAll_179 N c81 c87 c113 a0 a1 a2 a3 a5 b0 h = some r) : ra_Ru 2 mX12_rowAll 179 [some (.ref a0), some (.int a1), some (.int a2), some (.int a3), none, some (.int a5), none] [.int b0] h (ra_oV r) :=
  ra_sound (by omega) rfl ra_rV_ok (kX12_rowAll_179_ok N c81 c87 c113 hc81 hc87 hc113) (fun m av h h1 e => (ra_c0_ok (ro := ra_oV)) m av h h1 e) (fun m av h x h1 e => (tIX12_rowAll_ok N) m av h (x, h1) e) (fun m av h x h1 e => (ra_c0_ok (ro := ra_oJ)) m av h (x, h1) e) (fun m av h x h1 e => (ra_c0_ok (ro := ra_oR)) m av h (x, h1) e) (fun m av h x h1 e => (ra_c0_ok (ro := ra_oN)) m av h (x, h1) e) (fun m av h x h1 e => (ra_c0_ok (ro := ra_oF)) m av h (x, h1) e) 2 lX12_rowAll_179 _ _ _ _ lX12_rowAll_179_ck (show ra_run ra_rV (kX12_rowAll_179 N c81 c87 c113) ra_c0 (tIX12_rowAll N) ra_c0 ra_c0 ra_c0 ra_c0 2 lX12_rowAll_179 [some (.ref a0), some (.int a1), some (.int a2), some (.int a3), none, some (.int a5), none] [.int b0] h = some r from e) _ _ rfl
def lX12_rowAll_113 : List ra_I := [(113, .iload 5, 2, 5, 0, 0, 0, 0, []),
  (115, .iload_n 1, 1, 1, 0, 0, 0, 0, []),
  (116, .if_icmp .ge (71), 3, 187, 0, 0, 0, 0, []),
  (119, .iload_n 2, 1, 2, 0, 0, 0, 0, []),
  (120, .iload 5, 2, 5, 0, 0, 0, 0, []),
  (122, .ishr, 1, 0, 0, 0, 0, 0, []),
  (123, .iconst (1), 1, 0, 0, 0, (1), 0, []),
  (124, .iand, 1, 0, 0, 0, 0, 0, []),
  (125, .ifCond .ne (56), 3, 181, 0, 0, 0, 0, []),
  (128, .aload_n 0, 1, 0, 0, 0, 0, 0, []),
  (129, .aload_n 0, 1, 0, 0, 0, 0, 0, []),
  (130, .getfield 138, 3, 12, 54, 2, 0, 0, []),
  (133, .iload_n 3, 1, 3, 0, 0, 0, 0, []),
  (134, .iaload, 1, 0, 0, 0, 0, 0, []),
  (135, .aload_n 0, 1, 0, 0, 0, 0, 0, []),
  (136, .getfield 138, 3, 12, 54, 2, 0, 0, []),
  (139, .iload 5, 2, 5, 0, 0, 0, 0, []),
  (141, .iaload, 1, 0, 0, 0, 0, 0, []),
  (142, .invokevirtual 483, 3, 308, 3, 1, 0, 0, []),
  (145, .aload_n 0, 1, 0, 0, 0, 0, 0, []),
  (146, .getfield 135, 3, 12, 53, 2, 0, 0, []),
  (149, .bipush (9), 2, 0, 0, 0, (9), 0, []),
  (151, .iload_n 2, 1, 2, 0, 0, 0, 0, []),
  (152, .iconst (1), 1, 0, 0, 0, (1), 0, []),
  (153, .iload 5, 2, 5, 0, 0, 0, 0, []),
  (155, .ishl, 1, 0, 0, 0, 0, 0, []),
  (156, .ior, 1, 0, 0, 0, 0, 0, []),
  (157, .imul, 1, 0, 0, 0, 0, 0, []),
  (158, .iload 5, 2, 5, 0, 0, 0, 0, []),
  (160, .iadd, 1, 0, 0, 0, 0, 0, []),
  (161, .iaload, 1, 0, 0, 0, 0, 0, []),
  (162, .iadd, 1, 0, 0, 0, 0, 0, []),
  (163, .istore 6, 2, 6, 0, 0, 0, 0, []),
  (165, .iload 6, 2, 6, 0, 0, 0, 0, []),
  (167, .iload 4, 2, 4, 0, 0, 0, 0, []),
  (169, .if_icmp .ge (8), 3, 177, 0, 0, 0, 0, []),
  (172, .iload 6, 2, 6, 0, 0, 0, 0, []),
  (174, .goto (5), 3, 179, 0, 0, 0, 0, []),
  (177, .iload 4, 2, 4, 0, 0, 0, 0, []),
  (187, .aload_n 0, 1, 0, 0, 0, 0, 0, []),
  (188, .getfield 135, 3, 12, 53, 2, 0, 0, []),
  (191, .bipush (9), 2, 0, 0, 0, (9), 0, []),
  (193, .iload_n 2, 1, 2, 0, 0, 0, 0, []),
  (194, .imul, 1, 0, 0, 0, 0, 0, []),
  (195, .iload_n 3, 1, 3, 0, 0, 0, 0, []),
  (196, .iadd, 1, 0, 0, 0, 0, 0, []),
  (197, .iload 4, 2, 4, 0, 0, 0, 0, []),
  (199, .iastore, 1, 0, 0, 0, 0, 0, []),
  (200, .iinc 3 (1), 3, 3, 0, 0, (1), 0, []),
  (203, .goto (-116), 3, 87, 0, 0, 0, 0, [])]
set_option maxRecDepth 100000 in
theorem lX12_rowAll_113_ck : lX12_rowAll_113.all (ra_ck mX12_rowAll 12) = true := by decide +kernel
def nX12_rowAll_113 (N : Nat) (c81 : Nat → Int32 → Int32 → ra_H → Option ra_H) (c87 : Nat → Int32 → Int32 → Int32 → ra_H → Option ra_H) : Nat → Nat → Int32 → Int32 → Int32 → Int32 → Int32 → ra_H → Option ra_H
  | 0, _, _, _, _, _, _, _ => none
  | n + 1, a0, a1, a2, a3, a4, a5, h =>
  if a5 < a1 then
    if ((a2 >>> (a5 &&& 31)) &&& ((1 : Int32))) = 0 then
      (ra_fR h 12 a0 54).bind fun x4 =>
      (ra_aI h 0 x4 a3).bind fun x5 =>
      (ra_fR h 12 a0 54).bind fun x6 =>
      (ra_aI h 0 x6 a5).bind fun x7 =>
      (fX12_apart N a0 x5 x7 h).bind fun q8 =>
      (ra_fR q8.2 12 a0 53).bind fun x9 =>
      (ra_aI q8.2 0 x9 ((((9 : Int32)) * (a2 ||| (((1 : Int32)) <<< (a5 &&& 31)))) + a5)).bind fun x10 =>
      let y11 := q8.1 + x10
      if y11 < a4 then
        nX12_rowAll_179 N c81 c87 (nX12_rowAll_113 N c81 c87 n) a0 a1 a2 a3 a5 y11 q8.2
      else
        nX12_rowAll_179 N c81 c87 (nX12_rowAll_113 N c81 c87 n) a0 a1 a2 a3 a5 a4 q8.2
    else
      nX12_rowAll_181 N c81 c87 (nX12_rowAll_113 N c81 c87 n) a0 a1 a2 a3 a4 a5 h
  else
    (ra_fR h 12 a0 53).bind fun x1 =>
    (ra_aW h 0 x1 ((((9 : Int32)) * a2) + a3) a4).bind fun h2 =>
    let y3 := a3 + (1 : Int32)
    c87 a0 a1 a2 y3 h2
def kX12_rowAll_113 (N : Nat) (c81 : Nat → Int32 → Int32 → ra_H → Option ra_H) (c87 : Nat → Int32 → Int32 → Int32 → ra_H → Option ra_H) (cs : Nat → Int32 → Int32 → Int32 → Int32 → Int32 → ra_H → Option ra_H) : Nat → List (Option Value) → List Value → ra_H → Option ra_H := (ra_k1 87 (fun L S h => match L, S with
  | [some (.ref a0), some (.int a1), some (.int a2), some (.int a3), _, _, _], [] => c87 a0 a1 a2 a3 h
  | _, _ => none) (ra_k1 179 (fun L S h => match L, S with
  | [some (.ref a0), some (.int a1), some (.int a2), some (.int a3), _, some (.int a5), _], [.int b0] => nX12_rowAll_179 N c81 c87 cs a0 a1 a2 a3 a5 b0 h
  | _, _ => none) (ra_k1 181 (fun L S h => match L, S with
  | [some (.ref a0), some (.int a1), some (.int a2), some (.int a3), some (.int a4), some (.int a5), _], [] => nX12_rowAll_181 N c81 c87 cs a0 a1 a2 a3 a4 a5 h
  | _, _ => none) ra_k0)))
theorem kX12_rowAll_113_ok (N : Nat) (c81 : Nat → Int32 → Int32 → ra_H → Option ra_H) (c87 : Nat → Int32 → Int32 → Int32 → ra_H → Option ra_H) (hc81 : ∀ a0 a1 a2 h r, c81 a0 a1 a2 h = some r → ra_Ru 2 mX12_rowAll 81 [some (.ref a0), some (.int a1), some (.int a2), none, none, none, none] [] h (ra_oV r)) (hc87 : ∀ a0 a1 a2 a3 h r, c87 a0 a1 a2 a3 h = some r → ra_Ru 2 mX12_rowAll 87 [some (.ref a0), some (.int a1), some (.int a2), some (.int a3), none, none, none] [] h (ra_oV r)) (cs : Nat → Int32 → Int32 → Int32 → Int32 → Int32 → ra_H → Option ra_H) (hcs : ∀ a0 a1 a2 a3 a4 a5 h r, cs a0 a1 a2 a3 a4 a5 h = some r → ra_Ru 2 mX12_rowAll 113 [some (.ref a0), some (.int a1), some (.int a2), some (.int a3), some (.int a4), some (.int a5), none] [] h (ra_oV r)) : ra_kok 2 mX12_rowAll ra_oV (kX12_rowAll_113 N c81 c87 cs) := (ra_k1_ok (by
  intro L S h a e
  split at e
  · exact ra_Ru.weak (hc87 _ _ _ _ _ _ e) ⟨rfl, ⟨rfl, ⟨rfl, ⟨rfl, trivial⟩⟩⟩⟩
  · cases e) (ra_k1_ok (by
  intro L S h a e
  split at e
  · exact ra_Ru.weak (nX12_rowAll_179_ok N c81 c87 cs hc81 hc87 hcs _ _ _ _ _ _ _ _ e) ⟨rfl, ⟨rfl, ⟨rfl, ⟨rfl, ⟨rfl, trivial⟩⟩⟩⟩⟩
  · cases e) (ra_k1_ok (by
  intro L S h a e
  split at e
  · exact ra_Ru.weak (nX12_rowAll_181_ok N c81 c87 cs hc81 hc87 hcs _ _ _ _ _ _ _ _ e) ⟨rfl, ⟨rfl, ⟨rfl, ⟨rfl, ⟨rfl, ⟨rfl, trivial⟩⟩⟩⟩⟩⟩
  · cases e) ra_k0_ok)))
set_option maxRecDepth 100000 in
theorem nX12_rowAll_113_ok (N : Nat) (c81 : Nat → Int32 → Int32 → ra_H → Option ra_H) (c87 : Nat → Int32 → Int32 → Int32 → ra_H → Option ra_H) (hc81 : ∀ a0 a1 a2 h r, c81 a0 a1 a2 h = some r → ra_Ru 2 mX12_rowAll 81 [some (.ref a0), some (.int a1), some (.int a2), none, none, none, none] [] h (ra_oV r)) (hc87 : ∀ a0 a1 a2 a3 h r, c87 a0 a1 a2 a3 h = some r → ra_Ru 2 mX12_rowAll 87 [some (.ref a0), some (.int a1), some (.int a2), some (.int a3), none, none, none] [] h (ra_oV r)) : ∀ n a0 a1 a2 a3 a4 a5 h r, nX12_rowAll_113 N c81 c87 n a0 a1 a2 a3 a4 a5 h = some r → ra_Ru 2 mX12_rowAll 113 [some (.ref a0), some (.int a1), some (.int a2), some (.int a3), some (.int a4), some (.int a5), none] [] h (ra_oV r) := by
  intro n
  induction n with
  | zero => intro a0 a1 a2 a3 a4 a5 h r e; cases e
  | succ n ih =>
    intro a0 a1 a2 a3 a4 a5 h r e
    exact ra_sound (by omega) rfl ra_rV_ok (kX12_rowAll_113_ok N c81 c87 hc81 hc87 (nX12_rowAll_113 N c81 c87 n) ih) (fun m av h h1 e => (ra_c0_ok (ro := ra_oV)) m av h h1 e) (fun m av h x h1 e => (tIX12_rowAll_ok N) m av h (x, h1) e) (fun m av h x h1 e => (ra_c0_ok (ro := ra_oJ)) m av h (x, h1) e) (fun m av h x h1 e => (ra_c0_ok (ro := ra_oR)) m av h (x, h1) e) (fun m av h x h1 e => (ra_c0_ok (ro := ra_oN)) m av h (x, h1) e) (fun m av h x h1 e => (ra_c0_ok (ro := ra_oF)) m av h (x, h1) e) 51 lX12_rowAll_113 _ _ _ _ lX12_rowAll_113_ck (show ra_run ra_rV (kX12_rowAll_113 N c81 c87 (nX12_rowAll_113 N c81 c87 n)) ra_c0 (tIX12_rowAll N) ra_c0 ra_c0 ra_c0 ra_c0 51 lX12_rowAll_113 [some (.ref a0), some (.int a1), some (.int a2), some (.int a3), some (.int a4), some (.int a5), none] [] h = some r from e) _ _ rfl
def lX12_rowAll_108 : List ra_I := [(108, .istore 4, 2, 4, 0, 0, 0, 0, []),
  (110, .iconst (0), 1, 0, 0, 0, (0), 0, []),
  (111, .istore 5, 2, 5, 0, 0, 0, 0, [])]
set_option maxRecDepth 100000 in
theorem lX12_rowAll_108_ck : lX12_rowAll_108.all (ra_ck mX12_rowAll 12) = true := by decide +kernel
def nX12_rowAll_108 (N : Nat) (c81 : Nat → Int32 → Int32 → ra_H → Option ra_H) (c87 : Nat → Int32 → Int32 → Int32 → ra_H → Option ra_H) (a0 : Nat) (a1 : Int32) (a2 : Int32) (a3 : Int32) (b0 : Int32) (h : ra_H) : Option ra_H :=
  nX12_rowAll_113 N c81 c87 N a0 a1 a2 a3 b0 ((0 : Int32)) h
def kX12_rowAll_108 (N : Nat) (c81 : Nat → Int32 → Int32 → ra_H → Option ra_H) (c87 : Nat → Int32 → Int32 → Int32 → ra_H → Option ra_H) : Nat → List (Option Value) → List Value → ra_H → Option ra_H := (ra_k1 113 (fun L S h => match L, S with
  | [some (.ref a0), some (.int a1), some (.int a2), some (.int a3), some (.int a4), some (.int a5), _], [] => nX12_rowAll_113 N c81 c87 N a0 a1 a2 a3 a4 a5 h
  | _, _ => none) ra_k0)
theorem kX12_rowAll_108_ok (N : Nat) (c81 : Nat → Int32 → Int32 → ra_H → Option ra_H) (c87 : Nat → Int32 → Int32 → Int32 → ra_H → Option ra_H) (hc81 : ∀ a0 a1 a2 h r, c81 a0 a1 a2 h = some r → ra_Ru 2 mX12_rowAll 81 [some (.ref a0), some (.int a1), some (.int a2), none, none, none, none] [] h (ra_oV r)) (hc87 : ∀ a0 a1 a2 a3 h r, c87 a0 a1 a2 a3 h = some r → ra_Ru 2 mX12_rowAll 87 [some (.ref a0), some (.int a1), some (.int a2), some (.int a3), none, none, none] [] h (ra_oV r)) : ra_kok 2 mX12_rowAll ra_oV (kX12_rowAll_108 N c81 c87) := (ra_k1_ok (by
  intro L S h a e
  split at e
  · exact ra_Ru.weak (nX12_rowAll_113_ok N c81 c87 hc81 hc87 N _ _ _ _ _ _ _ _ e) ⟨rfl, ⟨rfl, ⟨rfl, ⟨rfl, ⟨rfl, ⟨rfl, trivial⟩⟩⟩⟩⟩⟩
  · cases e) ra_k0_ok)
set_option maxRecDepth 100000 in
theorem nX12_rowAll_108_ok (N : Nat) (c81 : Nat → Int32 → Int32 → ra_H → Option ra_H) (c87 : Nat → Int32 → Int32 → Int32 → ra_H → Option ra_H) (hc81 : ∀ a0 a1 a2 h r, c81 a0 a1 a2 h = some r → ra_Ru 2 mX12_rowAll 81 [some (.ref a0), some (.int a1), some (.int a2), none, none, none, none] [] h (ra_oV r)) (hc87 : ∀ a0 a1 a2 a3 h r, c87 a0 a1 a2 a3 h = some r → ra_Ru 2 mX12_rowAll 87 [some (.ref a0), some (.int a1), some (.int a2), some (.int a3), none, none, none] [] h (ra_oV r)) (a0 : Nat) (a1 : Int32) (a2 : Int32) (a3 : Int32) (b0 : Int32) (h : ra_H) (r : ra_H) (e : nX12_rowAll_108 N c81 c87 a0 a1 a2 a3 b0 h = some r) : ra_Ru 2 mX12_rowAll 108 [some (.ref a0), some (.int a1), some (.int a2), some (.int a3), none, none, none] [.int b0] h (ra_oV r) :=
  ra_sound (by omega) rfl ra_rV_ok (kX12_rowAll_108_ok N c81 c87 hc81 hc87) (fun m av h h1 e => (ra_c0_ok (ro := ra_oV)) m av h h1 e) (fun m av h x h1 e => (tIX12_rowAll_ok N) m av h (x, h1) e) (fun m av h x h1 e => (ra_c0_ok (ro := ra_oJ)) m av h (x, h1) e) (fun m av h x h1 e => (ra_c0_ok (ro := ra_oR)) m av h (x, h1) e) (fun m av h x h1 e => (ra_c0_ok (ro := ra_oN)) m av h (x, h1) e) (fun m av h x h1 e => (ra_c0_ok (ro := ra_oF)) m av h (x, h1) e) 4 lX12_rowAll_108 _ _ _ _ lX12_rowAll_108_ck (show ra_run ra_rV (kX12_rowAll_108 N c81 c87) ra_c0 (tIX12_rowAll N) ra_c0 ra_c0 ra_c0 ra_c0 4 lX12_rowAll_108 [some (.ref a0), some (.int a1), some (.int a2), some (.int a3), none, none, none] [.int b0] h = some r from e) _ _ rfl
def lX12_rowAll_87 : List ra_I := [(87, .iload_n 3, 1, 3, 0, 0, 0, 0, []),
  (88, .iload_n 1, 1, 1, 0, 0, 0, 0, []),
  (89, .if_icmp .ge (117), 3, 206, 0, 0, 0, 0, []),
  (92, .iload_n 2, 1, 2, 0, 0, 0, 0, []),
  (93, .iconst (1), 1, 0, 0, 0, (1), 0, []),
  (94, .iload_n 1, 1, 1, 0, 0, 0, 0, []),
  (95, .ishl, 1, 0, 0, 0, 0, 0, []),
  (96, .iconst (1), 1, 0, 0, 0, (1), 0, []),
  (97, .isub, 1, 0, 0, 0, 0, 0, []),
  (98, .if_icmp .ne (7), 3, 105, 0, 0, 0, 0, []),
  (101, .iconst (0), 1, 0, 0, 0, (0), 0, []),
  (102, .goto (6), 3, 108, 0, 0, 0, 0, []),
  (105, .ldc_w 482, 3, 0, 0, 0, (1000000), 0, []),
  (206, .iinc 2 (-1), 3, 2, 0, 0, (-1), 0, []),
  (209, .goto (-128), 3, 81, 0, 0, 0, 0, [])]
set_option maxRecDepth 100000 in
theorem lX12_rowAll_87_ck : lX12_rowAll_87.all (ra_ck mX12_rowAll 12) = true := by decide +kernel
def nX12_rowAll_87 (N : Nat) (c81 : Nat → Int32 → Int32 → ra_H → Option ra_H) : Nat → Nat → Int32 → Int32 → Int32 → ra_H → Option ra_H
  | 0, _, _, _, _, _ => none
  | n + 1, a0, a1, a2, a3, h =>
  if a3 < a1 then
    if a2 = ((((1 : Int32)) <<< (a1 &&& 31)) - ((1 : Int32))) then
      nX12_rowAll_108 N c81 (nX12_rowAll_87 N c81 n) a0 a1 a2 a3 ((0 : Int32)) h
    else
      nX12_rowAll_108 N c81 (nX12_rowAll_87 N c81 n) a0 a1 a2 a3 ((1000000 : Int32)) h
  else
    let y1 := a2 + (-1 : Int32)
    c81 a0 a1 y1 h
def kX12_rowAll_87 (N : Nat) (c81 : Nat → Int32 → Int32 → ra_H → Option ra_H) (cs : Nat → Int32 → Int32 → Int32 → ra_H → Option ra_H) : Nat → List (Option Value) → List Value → ra_H → Option ra_H := (ra_k1 81 (fun L S h => match L, S with
  | [some (.ref a0), some (.int a1), some (.int a2), _, _, _, _], [] => c81 a0 a1 a2 h
  | _, _ => none) (ra_k1 108 (fun L S h => match L, S with
  | [some (.ref a0), some (.int a1), some (.int a2), some (.int a3), _, _, _], [.int b0] => nX12_rowAll_108 N c81 cs a0 a1 a2 a3 b0 h
  | _, _ => none) ra_k0))
theorem kX12_rowAll_87_ok (N : Nat) (c81 : Nat → Int32 → Int32 → ra_H → Option ra_H) (hc81 : ∀ a0 a1 a2 h r, c81 a0 a1 a2 h = some r → ra_Ru 2 mX12_rowAll 81 [some (.ref a0), some (.int a1), some (.int a2), none, none, none, none] [] h (ra_oV r)) (cs : Nat → Int32 → Int32 → Int32 → ra_H → Option ra_H) (hcs : ∀ a0 a1 a2 a3 h r, cs a0 a1 a2 a3 h = some r → ra_Ru 2 mX12_rowAll 87 [some (.ref a0), some (.int a1), some (.int a2), some (.int a3), none, none, none] [] h (ra_oV r)) : ra_kok 2 mX12_rowAll ra_oV (kX12_rowAll_87 N c81 cs) := (ra_k1_ok (by
  intro L S h a e
  split at e
  · exact ra_Ru.weak (hc81 _ _ _ _ _ e) ⟨rfl, ⟨rfl, ⟨rfl, trivial⟩⟩⟩
  · cases e) (ra_k1_ok (by
  intro L S h a e
  split at e
  · exact ra_Ru.weak (nX12_rowAll_108_ok N c81 cs hc81 hcs _ _ _ _ _ _ _ e) ⟨rfl, ⟨rfl, ⟨rfl, ⟨rfl, trivial⟩⟩⟩⟩
  · cases e) ra_k0_ok))
set_option maxRecDepth 100000 in
theorem nX12_rowAll_87_ok (N : Nat) (c81 : Nat → Int32 → Int32 → ra_H → Option ra_H) (hc81 : ∀ a0 a1 a2 h r, c81 a0 a1 a2 h = some r → ra_Ru 2 mX12_rowAll 81 [some (.ref a0), some (.int a1), some (.int a2), none, none, none, none] [] h (ra_oV r)) : ∀ n a0 a1 a2 a3 h r, nX12_rowAll_87 N c81 n a0 a1 a2 a3 h = some r → ra_Ru 2 mX12_rowAll 87 [some (.ref a0), some (.int a1), some (.int a2), some (.int a3), none, none, none] [] h (ra_oV r) := by
  intro n
  induction n with
  | zero => intro a0 a1 a2 a3 h r e; cases e
  | succ n ih =>
    intro a0 a1 a2 a3 h r e
    exact ra_sound (by omega) rfl ra_rV_ok (kX12_rowAll_87_ok N c81 hc81 (nX12_rowAll_87 N c81 n) ih) (fun m av h h1 e => (ra_c0_ok (ro := ra_oV)) m av h h1 e) (fun m av h x h1 e => (tIX12_rowAll_ok N) m av h (x, h1) e) (fun m av h x h1 e => (ra_c0_ok (ro := ra_oJ)) m av h (x, h1) e) (fun m av h x h1 e => (ra_c0_ok (ro := ra_oR)) m av h (x, h1) e) (fun m av h x h1 e => (ra_c0_ok (ro := ra_oN)) m av h (x, h1) e) (fun m av h x h1 e => (ra_c0_ok (ro := ra_oF)) m av h (x, h1) e) 16 lX12_rowAll_87 _ _ _ _ lX12_rowAll_87_ck (show ra_run ra_rV (kX12_rowAll_87 N c81 (nX12_rowAll_87 N c81 n)) ra_c0 (tIX12_rowAll N) ra_c0 ra_c0 ra_c0 ra_c0 16 lX12_rowAll_87 [some (.ref a0), some (.int a1), some (.int a2), some (.int a3), none, none, none] [] h = some r from e) _ _ rfl
def lX12_rowAll_81 : List ra_I := [(81, .iload_n 2, 1, 2, 0, 0, 0, 0, []),
  (82, .ifCond .le (130), 3, 212, 0, 0, 0, 0, []),
  (85, .iconst (0), 1, 0, 0, 0, (0), 0, []),
  (86, .istore_n 3, 1, 3, 0, 0, 0, 0, []),
  (212, .return_, 1, 0, 0, 0, 0, 0, [])]
set_option maxRecDepth 100000 in
theorem lX12_rowAll_81_ck : lX12_rowAll_81.all (ra_ck mX12_rowAll 12) = true := by decide +kernel
def nX12_rowAll_81 (N : Nat) : Nat → Nat → Int32 → Int32 → ra_H → Option ra_H
  | 0, _, _, _, _ => none
  | n + 1, a0, a1, a2, h =>
  if a2 ≤ 0 then
    some h
  else
    nX12_rowAll_87 N (nX12_rowAll_81 N n) N a0 a1 a2 ((0 : Int32)) h
def kX12_rowAll_81 (N : Nat) (cs : Nat → Int32 → Int32 → ra_H → Option ra_H) : Nat → List (Option Value) → List Value → ra_H → Option ra_H := (ra_k1 87 (fun L S h => match L, S with
  | [some (.ref a0), some (.int a1), some (.int a2), some (.int a3), _, _, _], [] => nX12_rowAll_87 N cs N a0 a1 a2 a3 h
  | _, _ => none) ra_k0)
theorem kX12_rowAll_81_ok (N : Nat) (cs : Nat → Int32 → Int32 → ra_H → Option ra_H) (hcs : ∀ a0 a1 a2 h r, cs a0 a1 a2 h = some r → ra_Ru 2 mX12_rowAll 81 [some (.ref a0), some (.int a1), some (.int a2), none, none, none, none] [] h (ra_oV r)) : ra_kok 2 mX12_rowAll ra_oV (kX12_rowAll_81 N cs) := (ra_k1_ok (by
  intro L S h a e
  split at e
  · exact ra_Ru.weak (nX12_rowAll_87_ok N cs hcs N _ _ _ _ _ _ e) ⟨rfl, ⟨rfl, ⟨rfl, ⟨rfl, trivial⟩⟩⟩⟩
  · cases e) ra_k0_ok)
set_option maxRecDepth 100000 in
theorem nX12_rowAll_81_ok (N : Nat) : ∀ n a0 a1 a2 h r, nX12_rowAll_81 N n a0 a1 a2 h = some r → ra_Ru 2 mX12_rowAll 81 [some (.ref a0), some (.int a1), some (.int a2), none, none, none, none] [] h (ra_oV r) := by
  intro n
  induction n with
  | zero => intro a0 a1 a2 h r e; cases e
  | succ n ih =>
    intro a0 a1 a2 h r e
    exact ra_sound (by omega) rfl ra_rV_ok (kX12_rowAll_81_ok N (nX12_rowAll_81 N n) ih) (fun m av h h1 e => (ra_c0_ok (ro := ra_oV)) m av h h1 e) (fun m av h x h1 e => (tIX12_rowAll_ok N) m av h (x, h1) e) (fun m av h x h1 e => (ra_c0_ok (ro := ra_oJ)) m av h (x, h1) e) (fun m av h x h1 e => (ra_c0_ok (ro := ra_oR)) m av h (x, h1) e) (fun m av h x h1 e => (ra_c0_ok (ro := ra_oN)) m av h (x, h1) e) (fun m av h x h1 e => (ra_c0_ok (ro := ra_oF)) m av h (x, h1) e) 6 lX12_rowAll_81 _ _ _ _ lX12_rowAll_81_ck (show ra_run ra_rV (kX12_rowAll_81 N (nX12_rowAll_81 N n)) ra_c0 (tIX12_rowAll N) ra_c0 ra_c0 ra_c0 ra_c0 6 lX12_rowAll_81 [some (.ref a0), some (.int a1), some (.int a2), none, none, none, none] [] h = some r from e) _ _ rfl
def lX12_rowAll_2 : List ra_I := [(2, .iload_n 2, 1, 2, 0, 0, 0, 0, []),
  (3, .iload_n 1, 1, 1, 0, 0, 0, 0, []),
  (4, .if_icmp .ge (71), 3, 75, 0, 0, 0, 0, []),
  (7, .aload_n 0, 1, 0, 0, 0, 0, 0, []),
  (8, .getfield 13, 3, 12, 3, 2, 0, 0, []),
  (11, .sipush (725), 3, 0, 0, 0, (725), 0, []),
  (14, .iload_n 2, 1, 2, 0, 0, 0, 0, []),
  (15, .iadd, 1, 0, 0, 0, 0, 0, []),
  (16, .iaload, 1, 0, 0, 0, 0, 0, []),
  (17, .istore_n 3, 1, 3, 0, 0, 0, 0, []),
  (18, .iload_n 2, 1, 2, 0, 0, 0, 0, []),
  (19, .istore 4, 2, 4, 0, 0, 0, 0, []),
  (75, .iconst (1), 1, 0, 0, 0, (1), 0, []),
  (76, .iload_n 1, 1, 1, 0, 0, 0, 0, []),
  (77, .ishl, 1, 0, 0, 0, 0, 0, []),
  (78, .iconst (1), 1, 0, 0, 0, (1), 0, []),
  (79, .isub, 1, 0, 0, 0, 0, 0, []),
  (80, .istore_n 2, 1, 2, 0, 0, 0, 0, [])]
set_option maxRecDepth 100000 in
theorem lX12_rowAll_2_ck : lX12_rowAll_2.all (ra_ck mX12_rowAll 12) = true := by decide +kernel
def nX12_rowAll_2 (N : Nat) : Nat → Nat → Int32 → Int32 → ra_H → Option ra_H
  | 0, _, _, _, _ => none
  | n + 1, a0, a1, a2, h =>
  if a2 < a1 then
    (ra_fR h 12 a0 3).bind fun x2 =>
    (ra_aI h 0 x2 (((725 : Int32)) + a2)).bind fun x3 =>
    nX12_rowAll_21 N (nX12_rowAll_2 N n) N a0 a1 a2 x3 a2 h
  else
    let y1 := (((1 : Int32)) <<< (a1 &&& 31)) - ((1 : Int32))
    nX12_rowAll_81 N N a0 a1 y1 h
def kX12_rowAll_2 (N : Nat) (cs : Nat → Int32 → Int32 → ra_H → Option ra_H) : Nat → List (Option Value) → List Value → ra_H → Option ra_H := (ra_k1 21 (fun L S h => match L, S with
  | [some (.ref a0), some (.int a1), some (.int a2), some (.int a3), some (.int a4), _, _], [] => nX12_rowAll_21 N cs N a0 a1 a2 a3 a4 h
  | _, _ => none) (ra_k1 81 (fun L S h => match L, S with
  | [some (.ref a0), some (.int a1), some (.int a2), _, _, _, _], [] => nX12_rowAll_81 N N a0 a1 a2 h
  | _, _ => none) ra_k0))
theorem kX12_rowAll_2_ok (N : Nat) (cs : Nat → Int32 → Int32 → ra_H → Option ra_H) (hcs : ∀ a0 a1 a2 h r, cs a0 a1 a2 h = some r → ra_Ru 2 mX12_rowAll 2 [some (.ref a0), some (.int a1), some (.int a2), none, none, none, none] [] h (ra_oV r)) : ra_kok 2 mX12_rowAll ra_oV (kX12_rowAll_2 N cs) := (ra_k1_ok (by
  intro L S h a e
  split at e
  · exact ra_Ru.weak (nX12_rowAll_21_ok N cs hcs N _ _ _ _ _ _ _ e) ⟨rfl, ⟨rfl, ⟨rfl, ⟨rfl, ⟨rfl, trivial⟩⟩⟩⟩⟩
  · cases e) (ra_k1_ok (by
  intro L S h a e
  split at e
  · exact ra_Ru.weak (nX12_rowAll_81_ok N N _ _ _ _ _ e) ⟨rfl, ⟨rfl, ⟨rfl, trivial⟩⟩⟩
  · cases e) ra_k0_ok))
set_option maxRecDepth 100000 in
theorem nX12_rowAll_2_ok (N : Nat) : ∀ n a0 a1 a2 h r, nX12_rowAll_2 N n a0 a1 a2 h = some r → ra_Ru 2 mX12_rowAll 2 [some (.ref a0), some (.int a1), some (.int a2), none, none, none, none] [] h (ra_oV r) := by
  intro n
  induction n with
  | zero => intro a0 a1 a2 h r e; cases e
  | succ n ih =>
    intro a0 a1 a2 h r e
    exact ra_sound (by omega) rfl ra_rV_ok (kX12_rowAll_2_ok N (nX12_rowAll_2 N n) ih) (fun m av h h1 e => (ra_c0_ok (ro := ra_oV)) m av h h1 e) (fun m av h x h1 e => (tIX12_rowAll_ok N) m av h (x, h1) e) (fun m av h x h1 e => (ra_c0_ok (ro := ra_oJ)) m av h (x, h1) e) (fun m av h x h1 e => (ra_c0_ok (ro := ra_oR)) m av h (x, h1) e) (fun m av h x h1 e => (ra_c0_ok (ro := ra_oN)) m av h (x, h1) e) (fun m av h x h1 e => (ra_c0_ok (ro := ra_oF)) m av h (x, h1) e) 19 lX12_rowAll_2 _ _ _ _ lX12_rowAll_2_ck (show ra_run ra_rV (kX12_rowAll_2 N (nX12_rowAll_2 N n)) ra_c0 (tIX12_rowAll N) ra_c0 ra_c0 ra_c0 ra_c0 19 lX12_rowAll_2 [some (.ref a0), some (.int a1), some (.int a2), none, none, none, none] [] h = some r from e) _ _ rfl
def lX12_rowAll_0 : List ra_I := [(0, .iconst (0), 1, 0, 0, 0, (0), 0, []),
  (1, .istore_n 2, 1, 2, 0, 0, 0, 0, [])]
set_option maxRecDepth 100000 in
theorem lX12_rowAll_0_ck : lX12_rowAll_0.all (ra_ck mX12_rowAll 12) = true := by decide +kernel
def nX12_rowAll_0 (N : Nat) (a0 : Nat) (a1 : Int32) (h : ra_H) : Option ra_H :=
  nX12_rowAll_2 N N a0 a1 ((0 : Int32)) h
def kX12_rowAll_0 (N : Nat) : Nat → List (Option Value) → List Value → ra_H → Option ra_H := (ra_k1 2 (fun L S h => match L, S with
  | [some (.ref a0), some (.int a1), some (.int a2), _, _, _, _], [] => nX12_rowAll_2 N N a0 a1 a2 h
  | _, _ => none) ra_k0)
theorem kX12_rowAll_0_ok (N : Nat) : ra_kok 2 mX12_rowAll ra_oV (kX12_rowAll_0 N) := (ra_k1_ok (by
  intro L S h a e
  split at e
  · exact ra_Ru.weak (nX12_rowAll_2_ok N N _ _ _ _ _ e) ⟨rfl, ⟨rfl, ⟨rfl, trivial⟩⟩⟩
  · cases e) ra_k0_ok)
set_option maxRecDepth 100000 in
theorem nX12_rowAll_0_ok (N : Nat) (a0 : Nat) (a1 : Int32) (h : ra_H) (r : ra_H) (e : nX12_rowAll_0 N a0 a1 h = some r) : ra_Ru 2 mX12_rowAll 0 [some (.ref a0), some (.int a1), none, none, none, none, none] [] h (ra_oV r) :=
  ra_sound (by omega) rfl ra_rV_ok (kX12_rowAll_0_ok N) (fun m av h h1 e => (ra_c0_ok (ro := ra_oV)) m av h h1 e) (fun m av h x h1 e => (tIX12_rowAll_ok N) m av h (x, h1) e) (fun m av h x h1 e => (ra_c0_ok (ro := ra_oJ)) m av h (x, h1) e) (fun m av h x h1 e => (ra_c0_ok (ro := ra_oR)) m av h (x, h1) e) (fun m av h x h1 e => (ra_c0_ok (ro := ra_oN)) m av h (x, h1) e) (fun m av h x h1 e => (ra_c0_ok (ro := ra_oF)) m av h (x, h1) e) 3 lX12_rowAll_0 _ _ _ _ lX12_rowAll_0_ck (show ra_run ra_rV (kX12_rowAll_0 N) ra_c0 (tIX12_rowAll N) ra_c0 ra_c0 ra_c0 ra_c0 3 lX12_rowAll_0 [some (.ref a0), some (.int a1), none, none, none, none, none] [] h = some r from e) _ _ rfl
def fX12_rowAll (N : Nat) (p0 : Nat) (p1 : Int32) (h : ra_H) : Option ra_H := match ra_isOb h p0 12 with
  | true => nX12_rowAll_0 N p0 p1 h
  | false => none
set_option maxRecDepth 100000 in
theorem mtX12_rowAll : ra_MT[307]? = some (mX12_rowAll, 1, 1, (1, 13), (9, 28), (0, 112)) := rfl
theorem fX12_rowAll_co (N : Nat) (p0 : Nat) (p1 : Int32) (h : ra_H) (r : ra_H) (e : fX12_rowAll N p0 p1 h = some r) (D : Nat) (hD : 3 ≤ D) : ra_CO D 307 [.ref p0, .int p1] h (ra_oV r).1 (ra_oV r).2 := by
  have hw : ra_nw2 [.ref p0, .int p1] ≤ 7 := Nat.le_of_ble_eq_true rfl
  have hdb : ∀ v ∈ ([.ref p0, .int p1] : List Value), ∀ x, v ≠ .double x := by
    intro v hv x hx
    simp [hx] at hv
  unfold fX12_rowAll at e
  split at e
  · rename_i ho
    have e1 := e
    exact ⟨2, _, mtX12_rowAll, hD, ra_ev_of (by decide) hdb hw trivial (ra_Ru.weak (nX12_rowAll_0_ok N p0 p1 h _ e1) ⟨rfl, ⟨rfl, trivial⟩⟩), (fun _ => ⟨_, _, rfl, ra_rcv_of ho (by decide) rfl⟩), (fun h => absurd h (by decide))⟩
  · cases e
/-! RedMarksModel.beside(I)I -/
def mX12_beside : ra_M := (yX12_beside, cX12_beside, 10, (some .int))
def tVX12_beside (N : Nat) : Nat → List Value → ra_H → Option ra_H := (ra_c1 307 (fun av h => match av with
  | [.ref z0, .int z1] => fX12_rowAll N z0 z1 h
  | _ => none) ra_c0)
theorem tVX12_beside_ok (N : Nat) : ra_cok 3 ra_oV (tVX12_beside N) := (ra_c1_ok (by
  intro av h a e
  split at e
  · exact fX12_rowAll_co N _ _ _ _ e 3 (by omega)
  · cases e) ra_c0_ok)
def tIX12_beside (N : Nat) : Nat → List Value → ra_H → Option (Int32 × ra_H) := (ra_c1 209 (fun av h => match av with
  | [.long z0, .long z1, .long z2] => fX12_in N z0 z1 z2 h
  | _ => none) (ra_c1 308 (fun av h => match av with
  | [.ref z0, .int z1, .int z2] => fX12_apart N z0 z1 z2 h
  | _ => none) ra_c0))
theorem tIX12_beside_ok (N : Nat) : ra_cok 3 ra_oI (tIX12_beside N) := (ra_c1_ok (by
  intro av h a e
  split at e
  · exact fX12_in_co N _ _ _ _ _ e 3 (by omega)
  · cases e) (ra_c1_ok (by
  intro av h a e
  split at e
  · exact fX12_apart_co N _ _ _ _ _ e 3 (by omega)
  · cases e) ra_c0_ok))
def lX12_beside_33 : List ra_I := [(33, .iconst (-1), 1, 0, 0, 0, (-1), 0, []),
  (34, .ireturn, 1, 0, 0, 0, 0, 0, [])]
set_option maxRecDepth 100000 in
theorem lX12_beside_33_ck : lX12_beside_33.all (ra_ck mX12_beside 12) = true := by decide +kernel
def nX12_beside_33 (N : Nat) (h : ra_H) : Option (Int32 × ra_H) :=
  some ((-1 : Int32), h)
def kX12_beside_33 (N : Nat) : Nat → List (Option Value) → List Value → ra_H → Option (Int32 × ra_H) := ra_k0
theorem kX12_beside_33_ok (N : Nat) : ra_kok 3 mX12_beside ra_oI (kX12_beside_33 N) := ra_k0_ok
set_option maxRecDepth 100000 in
theorem nX12_beside_33_ok (N : Nat) (h : ra_H) (r : (Int32 × ra_H)) (e : nX12_beside_33 N h = some r) : ra_Ru 3 mX12_beside 33 [none, none, none, none, none, none, none, none, none, none] [] h (ra_oI r) :=
  ra_sound (by omega) rfl ra_rI_ok (kX12_beside_33_ok N) (fun m av h h1 e => (tVX12_beside_ok N) m av h h1 e) (fun m av h x h1 e => (tIX12_beside_ok N) m av h (x, h1) e) (fun m av h x h1 e => (ra_c0_ok (ro := ra_oJ)) m av h (x, h1) e) (fun m av h x h1 e => (ra_c0_ok (ro := ra_oR)) m av h (x, h1) e) (fun m av h x h1 e => (ra_c0_ok (ro := ra_oN)) m av h (x, h1) e) (fun m av h x h1 e => (ra_c0_ok (ro := ra_oF)) m av h (x, h1) e) 3 lX12_beside_33 _ _ _ _ lX12_beside_33_ck (show ra_run ra_rI (kX12_beside_33 N) (tVX12_beside N) (tIX12_beside N) ra_c0 ra_c0 ra_c0 ra_c0 3 lX12_beside_33 [none, none, none, none, none, none, none, none, none, none] [] h = some r from e) _ _ rfl
def lX12_beside_82 : List ra_I := [(82, .istore_n 3, 1, 3, 0, 0, 0, 0, []),
  (83, .iinc 4 (1), 3, 4, 0, 0, (1), 0, []),
  (86, .goto (-39), 3, 47, 0, 0, 0, 0, [])]
set_option maxRecDepth 100000 in
theorem lX12_beside_82_ck : lX12_beside_82.all (ra_ck mX12_beside 12) = true := by decide +kernel
def nX12_beside_82 (N : Nat) (c47 : Nat → Int32 → Int32 → Int32 → Int32 → ra_H → Option (Int32 × ra_H)) (a0 : Nat) (a1 : Int32) (a2 : Int32) (a4 : Int32) (b0 : Int32) (h : ra_H) : Option (Int32 × ra_H) :=
  let y1 := a4 + (1 : Int32)
  c47 a0 a1 a2 b0 y1 h
def kX12_beside_82 (N : Nat) (c47 : Nat → Int32 → Int32 → Int32 → Int32 → ra_H → Option (Int32 × ra_H)) : Nat → List (Option Value) → List Value → ra_H → Option (Int32 × ra_H) := (ra_k1 47 (fun L S h => match L, S with
  | [some (.ref a0), some (.int a1), some (.int a2), some (.int a3), some (.int a4), _, _, _, _, _], [] => c47 a0 a1 a2 a3 a4 h
  | _, _ => none) ra_k0)
theorem kX12_beside_82_ok (N : Nat) (c47 : Nat → Int32 → Int32 → Int32 → Int32 → ra_H → Option (Int32 × ra_H)) (hc47 : ∀ a0 a1 a2 a3 a4 h r, c47 a0 a1 a2 a3 a4 h = some r → ra_Ru 3 mX12_beside 47 [some (.ref a0), some (.int a1), some (.int a2), some (.int a3), some (.int a4), none, none, none, none, none] [] h (ra_oI r)) : ra_kok 3 mX12_beside ra_oI (kX12_beside_82 N c47) := (ra_k1_ok (by
  intro L S h a e
  split at e
  · exact ra_Ru.weak (hc47 _ _ _ _ _ _ _ e) ⟨rfl, ⟨rfl, ⟨rfl, ⟨rfl, ⟨rfl, trivial⟩⟩⟩⟩⟩
  · cases e) ra_k0_ok)
set_option maxRecDepth 100000 in
theorem nX12_beside_82_ok (N : Nat) (c47 : Nat → Int32 → Int32 → Int32 → Int32 → ra_H → Option (Int32 × ra_H)) (hc47 : ∀ a0 a1 a2 a3 a4 h r, c47 a0 a1 a2 a3 a4 h = some r → ra_Ru 3 mX12_beside 47 [some (.ref a0), some (.int a1), some (.int a2), some (.int a3), some (.int a4), none, none, none, none, none] [] h (ra_oI r)) (a0 : Nat) (a1 : Int32) (a2 : Int32) (a4 : Int32) (b0 : Int32) (h : ra_H) (r : (Int32 × ra_H)) (e : nX12_beside_82 N c47 a0 a1 a2 a4 b0 h = some r) : ra_Ru 3 mX12_beside 82 [some (.ref a0), some (.int a1), some (.int a2), none, some (.int a4), none, none, none, none, none] [.int b0] h (ra_oI r) :=
  ra_sound (by omega) rfl ra_rI_ok (kX12_beside_82_ok N c47 hc47) (fun m av h h1 e => (tVX12_beside_ok N) m av h h1 e) (fun m av h x h1 e => (tIX12_beside_ok N) m av h (x, h1) e) (fun m av h x h1 e => (ra_c0_ok (ro := ra_oJ)) m av h (x, h1) e) (fun m av h x h1 e => (ra_c0_ok (ro := ra_oR)) m av h (x, h1) e) (fun m av h x h1 e => (ra_c0_ok (ro := ra_oN)) m av h (x, h1) e) (fun m av h x h1 e => (ra_c0_ok (ro := ra_oF)) m av h (x, h1) e) 4 lX12_beside_82 _ _ _ _ lX12_beside_82_ck (show ra_run ra_rI (kX12_beside_82 N c47) (tVX12_beside N) (tIX12_beside N) ra_c0 ra_c0 ra_c0 ra_c0 4 lX12_beside_82 [some (.ref a0), some (.int a1), some (.int a2), none, some (.int a4), none, none, none, none, none] [.int b0] h = some r from e) _ _ rfl
def lX12_beside_207 : List ra_I := [(207, .iinc 8 (-1), 3, 8, 0, 0, (-1), 0, []),
  (210, .goto (-91), 3, 119, 0, 0, 0, 0, [])]
set_option maxRecDepth 100000 in
theorem lX12_beside_207_ck : lX12_beside_207.all (ra_ck mX12_beside 12) = true := by decide +kernel
def nX12_beside_207 (N : Nat) (c105 : Nat → Int32 → Int32 → Int32 → Int32 → Int32 → Int32 → ra_H → Option (Int32 × ra_H)) (c119 : Nat → Int32 → Int32 → Int32 → Int32 → Int32 → Int32 → Int32 → Int32 → ra_H → Option (Int32 × ra_H)) (a0 : Nat) (a1 : Int32) (a2 : Int32) (a3 : Int32) (a4 : Int32) (a5 : Int32) (a6 : Int32) (a7 : Int32) (a8 : Int32) (h : ra_H) : Option (Int32 × ra_H) :=
  let y1 := a8 + (-1 : Int32)
  c119 a0 a1 a2 a3 a4 a5 a6 a7 y1 h
def kX12_beside_207 (N : Nat) (c105 : Nat → Int32 → Int32 → Int32 → Int32 → Int32 → Int32 → ra_H → Option (Int32 × ra_H)) (c119 : Nat → Int32 → Int32 → Int32 → Int32 → Int32 → Int32 → Int32 → Int32 → ra_H → Option (Int32 × ra_H)) : Nat → List (Option Value) → List Value → ra_H → Option (Int32 × ra_H) := (ra_k1 119 (fun L S h => match L, S with
  | [some (.ref a0), some (.int a1), some (.int a2), some (.int a3), some (.int a4), some (.int a5), some (.int a6), some (.int a7), some (.int a8), _], [] => c119 a0 a1 a2 a3 a4 a5 a6 a7 a8 h
  | _, _ => none) ra_k0)
theorem kX12_beside_207_ok (N : Nat) (c105 : Nat → Int32 → Int32 → Int32 → Int32 → Int32 → Int32 → ra_H → Option (Int32 × ra_H)) (c119 : Nat → Int32 → Int32 → Int32 → Int32 → Int32 → Int32 → Int32 → Int32 → ra_H → Option (Int32 × ra_H)) (hc105 : ∀ a0 a1 a2 a3 a4 a5 a6 h r, c105 a0 a1 a2 a3 a4 a5 a6 h = some r → ra_Ru 3 mX12_beside 105 [some (.ref a0), some (.int a1), some (.int a2), some (.int a3), some (.int a4), some (.int a5), some (.int a6), none, none, none] [] h (ra_oI r)) (hc119 : ∀ a0 a1 a2 a3 a4 a5 a6 a7 a8 h r, c119 a0 a1 a2 a3 a4 a5 a6 a7 a8 h = some r → ra_Ru 3 mX12_beside 119 [some (.ref a0), some (.int a1), some (.int a2), some (.int a3), some (.int a4), some (.int a5), some (.int a6), some (.int a7), some (.int a8), none] [] h (ra_oI r)) : ra_kok 3 mX12_beside ra_oI (kX12_beside_207 N c105 c119) := (ra_k1_ok (by
  intro L S h a e
  split at e
  · exact ra_Ru.weak (hc119 _ _ _ _ _ _ _ _ _ _ _ e) ⟨rfl, ⟨rfl, ⟨rfl, ⟨rfl, ⟨rfl, ⟨rfl, ⟨rfl, ⟨rfl, ⟨rfl, trivial⟩⟩⟩⟩⟩⟩⟩⟩⟩
  · cases e) ra_k0_ok)
set_option maxRecDepth 100000 in
theorem nX12_beside_207_ok (N : Nat) (c105 : Nat → Int32 → Int32 → Int32 → Int32 → Int32 → Int32 → ra_H → Option (Int32 × ra_H)) (c119 : Nat → Int32 → Int32 → Int32 → Int32 → Int32 → Int32 → Int32 → Int32 → ra_H → Option (Int32 × ra_H)) (hc105 : ∀ a0 a1 a2 a3 a4 a5 a6 h r, c105 a0 a1 a2 a3 a4 a5 a6 h = some r → ra_Ru 3 mX12_beside 105 [some (.ref a0), some (.int a1), some (.int a2), some (.int a3), some (.int a4), some (.int a5), some (.int a6), none, none, none] [] h (ra_oI r)) (hc119 : ∀ a0 a1 a2 a3 a4 a5 a6 a7 a8 h r, c119 a0 a1 a2 a3 a4 a5 a6 a7 a8 h = some r → ra_Ru 3 mX12_beside 119 [some (.ref a0), some (.int a1), some (.int a2), some (.int a3), some (.int a4), some (.int a5), some (.int a6), some (.int a7), some (.int a8), none] [] h (ra_oI r)) (a0 : Nat) (a1 : Int32) (a2 : Int32) (a3 : Int32) (a4 : Int32) (a5 : Int32) (a6 : Int32) (a7 : Int32) (a8 : Int32) (h : ra_H) (r : (Int32 × ra_H)) (e : nX12_beside_207 N c105 c119 a0 a1 a2 a3 a4 a5 a6 a7 a8 h = some r) : ra_Ru 3 mX12_beside 207 [some (.ref a0), some (.int a1), some (.int a2), some (.int a3), some (.int a4), some (.int a5), some (.int a6), some (.int a7), some (.int a8), none] [] h (ra_oI r) :=
  ra_sound (by omega) rfl ra_rI_ok (kX12_beside_207_ok N c105 c119 hc105 hc119) (fun m av h h1 e => (tVX12_beside_ok N) m av h h1 e) (fun m av h x h1 e => (tIX12_beside_ok N) m av h (x, h1) e) (fun m av h x h1 e => (ra_c0_ok (ro := ra_oJ)) m av h (x, h1) e) (fun m av h x h1 e => (ra_c0_ok (ro := ra_oR)) m av h (x, h1) e) (fun m av h x h1 e => (ra_c0_ok (ro := ra_oN)) m av h (x, h1) e) (fun m av h x h1 e => (ra_c0_ok (ro := ra_oF)) m av h (x, h1) e) 3 lX12_beside_207 _ _ _ _ lX12_beside_207_ck (show ra_run ra_rI (kX12_beside_207 N c105 c119) (tVX12_beside N) (tIX12_beside N) ra_c0 ra_c0 ra_c0 ra_c0 3 lX12_beside_207 [some (.ref a0), some (.int a1), some (.int a2), some (.int a3), some (.int a4), some (.int a5), some (.int a6), some (.int a7), some (.int a8), none] [] h = some r from e) _ _ rfl
def lX12_beside_205 : List ra_I := [(205, .istore 7, 2, 7, 0, 0, 0, 0, [])]
set_option maxRecDepth 100000 in
theorem lX12_beside_205_ck : lX12_beside_205.all (ra_ck mX12_beside 12) = true := by decide +kernel
def nX12_beside_205 (N : Nat) (c105 : Nat → Int32 → Int32 → Int32 → Int32 → Int32 → Int32 → ra_H → Option (Int32 × ra_H)) (c119 : Nat → Int32 → Int32 → Int32 → Int32 → Int32 → Int32 → Int32 → Int32 → ra_H → Option (Int32 × ra_H)) (a0 : Nat) (a1 : Int32) (a2 : Int32) (a3 : Int32) (a4 : Int32) (a5 : Int32) (a6 : Int32) (a8 : Int32) (b0 : Int32) (h : ra_H) : Option (Int32 × ra_H) :=
  nX12_beside_207 N c105 c119 a0 a1 a2 a3 a4 a5 a6 b0 a8 h
def kX12_beside_205 (N : Nat) (c105 : Nat → Int32 → Int32 → Int32 → Int32 → Int32 → Int32 → ra_H → Option (Int32 × ra_H)) (c119 : Nat → Int32 → Int32 → Int32 → Int32 → Int32 → Int32 → Int32 → Int32 → ra_H → Option (Int32 × ra_H)) : Nat → List (Option Value) → List Value → ra_H → Option (Int32 × ra_H) := (ra_k1 207 (fun L S h => match L, S with
  | [some (.ref a0), some (.int a1), some (.int a2), some (.int a3), some (.int a4), some (.int a5), some (.int a6), some (.int a7), some (.int a8), _], [] => nX12_beside_207 N c105 c119 a0 a1 a2 a3 a4 a5 a6 a7 a8 h
  | _, _ => none) ra_k0)
theorem kX12_beside_205_ok (N : Nat) (c105 : Nat → Int32 → Int32 → Int32 → Int32 → Int32 → Int32 → ra_H → Option (Int32 × ra_H)) (c119 : Nat → Int32 → Int32 → Int32 → Int32 → Int32 → Int32 → Int32 → Int32 → ra_H → Option (Int32 × ra_H)) (hc105 : ∀ a0 a1 a2 a3 a4 a5 a6 h r, c105 a0 a1 a2 a3 a4 a5 a6 h = some r → ra_Ru 3 mX12_beside 105 [some (.ref a0), some (.int a1), some (.int a2), some (.int a3), some (.int a4), some (.int a5), some (.int a6), none, none, none] [] h (ra_oI r)) (hc119 : ∀ a0 a1 a2 a3 a4 a5 a6 a7 a8 h r, c119 a0 a1 a2 a3 a4 a5 a6 a7 a8 h = some r → ra_Ru 3 mX12_beside 119 [some (.ref a0), some (.int a1), some (.int a2), some (.int a3), some (.int a4), some (.int a5), some (.int a6), some (.int a7), some (.int a8), none] [] h (ra_oI r)) : ra_kok 3 mX12_beside ra_oI (kX12_beside_205 N c105 c119) := (ra_k1_ok (by
  intro L S h a e
  split at e
  · exact ra_Ru.weak (nX12_beside_207_ok N c105 c119 hc105 hc119 _ _ _ _ _ _ _ _ _ _ _ e) ⟨rfl, ⟨rfl, ⟨rfl, ⟨rfl, ⟨rfl, ⟨rfl, ⟨rfl, ⟨rfl, ⟨rfl, trivial⟩⟩⟩⟩⟩⟩⟩⟩⟩
  · cases e) ra_k0_ok)
set_option maxRecDepth 100000 in
theorem nX12_beside_205_ok (N : Nat) (c105 : Nat → Int32 → Int32 → Int32 → Int32 → Int32 → Int32 → ra_H → Option (Int32 × ra_H)) (c119 : Nat → Int32 → Int32 → Int32 → Int32 → Int32 → Int32 → Int32 → Int32 → ra_H → Option (Int32 × ra_H)) (hc105 : ∀ a0 a1 a2 a3 a4 a5 a6 h r, c105 a0 a1 a2 a3 a4 a5 a6 h = some r → ra_Ru 3 mX12_beside 105 [some (.ref a0), some (.int a1), some (.int a2), some (.int a3), some (.int a4), some (.int a5), some (.int a6), none, none, none] [] h (ra_oI r)) (hc119 : ∀ a0 a1 a2 a3 a4 a5 a6 a7 a8 h r, c119 a0 a1 a2 a3 a4 a5 a6 a7 a8 h = some r → ra_Ru 3 mX12_beside 119 [some (.ref a0), some (.int a1), some (.int a2), some (.int a3), some (.int a4), some (.int a5), some (.int a6), some (.int a7), some (.int a8), none] [] h (ra_oI r)) (a0 : Nat) (a1 : Int32) (a2 : Int32) (a3 : Int32) (a4 : Int32) (a5 : Int32) (a6 : Int32) (a8 : Int32) (b0 : Int32) (h : ra_H) (r : (Int32 × ra_H)) (e : nX12_beside_205 N c105 c119 a0 a1 a2 a3 a4 a5 a6 a8 b0 h = some r) : ra_Ru 3 mX12_beside 205 [some (.ref a0), some (.int a1), some (.int a2), some (.int a3), some (.int a4), some (.int a5), some (.int a6), none, some (.int a8), none] [.int b0] h (ra_oI r) :=
  ra_sound (by omega) rfl ra_rI_ok (kX12_beside_205_ok N c105 c119 hc105 hc119) (fun m av h h1 e => (tVX12_beside_ok N) m av h h1 e) (fun m av h x h1 e => (tIX12_beside_ok N) m av h (x, h1) e) (fun m av h x h1 e => (ra_c0_ok (ro := ra_oJ)) m av h (x, h1) e) (fun m av h x h1 e => (ra_c0_ok (ro := ra_oR)) m av h (x, h1) e) (fun m av h x h1 e => (ra_c0_ok (ro := ra_oN)) m av h (x, h1) e) (fun m av h x h1 e => (ra_c0_ok (ro := ra_oF)) m av h (x, h1) e) 2 lX12_beside_205 _ _ _ _ lX12_beside_205_ck (show ra_run ra_rI (kX12_beside_205 N c105 c119) (tVX12_beside N) (tIX12_beside N) ra_c0 ra_c0 ra_c0 ra_c0 2 lX12_beside_205 [some (.ref a0), some (.int a1), some (.int a2), some (.int a3), some (.int a4), some (.int a5), some (.int a6), none, some (.int a8), none] [.int b0] h = some r from e) _ _ rfl
def lX12_beside_189 : List ra_I := [(189, .iadd, 1, 0, 0, 0, 0, 0, []),
  (190, .istore 9, 2, 9, 0, 0, 0, 0, []),
  (192, .iload 9, 2, 9, 0, 0, 0, 0, []),
  (194, .iload_n 3, 1, 3, 0, 0, 0, 0, []),
  (195, .if_icmp .ne (8), 3, 203, 0, 0, 0, 0, []),
  (198, .iload 8, 2, 8, 0, 0, 0, 0, []),
  (200, .goto (5), 3, 205, 0, 0, 0, 0, []),
  (203, .iload 7, 2, 7, 0, 0, 0, 0, [])]
set_option maxRecDepth 100000 in
theorem lX12_beside_189_ck : lX12_beside_189.all (ra_ck mX12_beside 12) = true := by decide +kernel
def nX12_beside_189 (N : Nat) (c105 : Nat → Int32 → Int32 → Int32 → Int32 → Int32 → Int32 → ra_H → Option (Int32 × ra_H)) (c119 : Nat → Int32 → Int32 → Int32 → Int32 → Int32 → Int32 → Int32 → Int32 → ra_H → Option (Int32 × ra_H)) (a0 : Nat) (a1 : Int32) (a2 : Int32) (a3 : Int32) (a4 : Int32) (a5 : Int32) (a6 : Int32) (a7 : Int32) (a8 : Int32) (b0 : Int32) (b1 : Int32) (h : ra_H) : Option (Int32 × ra_H) :=
  let y1 := b0 + b1
  if y1 = a3 then
    nX12_beside_205 N c105 c119 a0 a1 a2 a3 a4 a5 a6 a8 a8 h
  else
    nX12_beside_205 N c105 c119 a0 a1 a2 a3 a4 a5 a6 a8 a7 h
def kX12_beside_189 (N : Nat) (c105 : Nat → Int32 → Int32 → Int32 → Int32 → Int32 → Int32 → ra_H → Option (Int32 × ra_H)) (c119 : Nat → Int32 → Int32 → Int32 → Int32 → Int32 → Int32 → Int32 → Int32 → ra_H → Option (Int32 × ra_H)) : Nat → List (Option Value) → List Value → ra_H → Option (Int32 × ra_H) := (ra_k1 205 (fun L S h => match L, S with
  | [some (.ref a0), some (.int a1), some (.int a2), some (.int a3), some (.int a4), some (.int a5), some (.int a6), _, some (.int a8), _], [.int b0] => nX12_beside_205 N c105 c119 a0 a1 a2 a3 a4 a5 a6 a8 b0 h
  | _, _ => none) ra_k0)
theorem kX12_beside_189_ok (N : Nat) (c105 : Nat → Int32 → Int32 → Int32 → Int32 → Int32 → Int32 → ra_H → Option (Int32 × ra_H)) (c119 : Nat → Int32 → Int32 → Int32 → Int32 → Int32 → Int32 → Int32 → Int32 → ra_H → Option (Int32 × ra_H)) (hc105 : ∀ a0 a1 a2 a3 a4 a5 a6 h r, c105 a0 a1 a2 a3 a4 a5 a6 h = some r → ra_Ru 3 mX12_beside 105 [some (.ref a0), some (.int a1), some (.int a2), some (.int a3), some (.int a4), some (.int a5), some (.int a6), none, none, none] [] h (ra_oI r)) (hc119 : ∀ a0 a1 a2 a3 a4 a5 a6 a7 a8 h r, c119 a0 a1 a2 a3 a4 a5 a6 a7 a8 h = some r → ra_Ru 3 mX12_beside 119 [some (.ref a0), some (.int a1), some (.int a2), some (.int a3), some (.int a4), some (.int a5), some (.int a6), some (.int a7), some (.int a8), none] [] h (ra_oI r)) : ra_kok 3 mX12_beside ra_oI (kX12_beside_189 N c105 c119) := (ra_k1_ok (by
  intro L S h a e
  split at e
  · exact ra_Ru.weak (nX12_beside_205_ok N c105 c119 hc105 hc119 _ _ _ _ _ _ _ _ _ _ _ e) ⟨rfl, ⟨rfl, ⟨rfl, ⟨rfl, ⟨rfl, ⟨rfl, ⟨rfl, ⟨rfl, trivial⟩⟩⟩⟩⟩⟩⟩⟩
  · cases e) ra_k0_ok)
set_option maxRecDepth 100000 in
theorem nX12_beside_189_ok (N : Nat) (c105 : Nat → Int32 → Int32 → Int32 → Int32 → Int32 → Int32 → ra_H → Option (Int32 × ra_H)) (c119 : Nat → Int32 → Int32 → Int32 → Int32 → Int32 → Int32 → Int32 → Int32 → ra_H → Option (Int32 × ra_H)) (hc105 : ∀ a0 a1 a2 a3 a4 a5 a6 h r, c105 a0 a1 a2 a3 a4 a5 a6 h = some r → ra_Ru 3 mX12_beside 105 [some (.ref a0), some (.int a1), some (.int a2), some (.int a3), some (.int a4), some (.int a5), some (.int a6), none, none, none] [] h (ra_oI r)) (hc119 : ∀ a0 a1 a2 a3 a4 a5 a6 a7 a8 h r, c119 a0 a1 a2 a3 a4 a5 a6 a7 a8 h = some r → ra_Ru 3 mX12_beside 119 [some (.ref a0), some (.int a1), some (.int a2), some (.int a3), some (.int a4), some (.int a5), some (.int a6), some (.int a7), some (.int a8), none] [] h (ra_oI r)) (a0 : Nat) (a1 : Int32) (a2 : Int32) (a3 : Int32) (a4 : Int32) (a5 : Int32) (a6 : Int32) (a7 : Int32) (a8 : Int32) (b0 : Int32) (b1 : Int32) (h : ra_H) (r : (Int32 × ra_H)) (e : nX12_beside_189 N c105 c119 a0 a1 a2 a3 a4 a5 a6 a7 a8 b0 b1 h = some r) : ra_Ru 3 mX12_beside 189 [some (.ref a0), some (.int a1), some (.int a2), some (.int a3), some (.int a4), some (.int a5), some (.int a6), some (.int a7), some (.int a8), none] [.int b1, .int b0] h (ra_oI r) :=
  ra_sound (by omega) rfl ra_rI_ok (kX12_beside_189_ok N c105 c119 hc105 hc119) (fun m av h h1 e => (tVX12_beside_ok N) m av h h1 e) (fun m av h x h1 e => (tIX12_beside_ok N) m av h (x, h1) e) (fun m av h x h1 e => (ra_c0_ok (ro := ra_oJ)) m av h (x, h1) e) (fun m av h x h1 e => (ra_c0_ok (ro := ra_oR)) m av h (x, h1) e) (fun m av h x h1 e => (ra_c0_ok (ro := ra_oN)) m av h (x, h1) e) (fun m av h x h1 e => (ra_c0_ok (ro := ra_oF)) m av h (x, h1) e) 9 lX12_beside_189 _ _ _ _ lX12_beside_189_ck (show ra_run ra_rI (kX12_beside_189 N c105 c119) (tVX12_beside N) (tIX12_beside N) ra_c0 ra_c0 ra_c0 ra_c0 9 lX12_beside_189 [some (.ref a0), some (.int a1), some (.int a2), some (.int a3), some (.int a4), some (.int a5), some (.int a6), some (.int a7), some (.int a8), none] [.int b1, .int b0] h = some r from e) _ _ rfl
def lX12_beside_178 : List ra_I := [(178, .iaload, 1, 0, 0, 0, 0, 0, []),
  (179, .aload_n 0, 1, 0, 0, 0, 0, 0, []),
  (180, .getfield 138, 3, 12, 54, 2, 0, 0, []),
  (183, .iload 8, 2, 8, 0, 0, 0, 0, []),
  (185, .iaload, 1, 0, 0, 0, 0, 0, []),
  (186, .invokevirtual 483, 3, 308, 3, 1, 0, 0, [])]
set_option maxRecDepth 100000 in
theorem lX12_beside_178_ck : lX12_beside_178.all (ra_ck mX12_beside 12) = true := by decide +kernel
def nX12_beside_178 (N : Nat) (c105 : Nat → Int32 → Int32 → Int32 → Int32 → Int32 → Int32 → ra_H → Option (Int32 × ra_H)) (c119 : Nat → Int32 → Int32 → Int32 → Int32 → Int32 → Int32 → Int32 → Int32 → ra_H → Option (Int32 × ra_H)) (a0 : Nat) (a1 : Int32) (a2 : Int32) (a3 : Int32) (a4 : Int32) (a5 : Int32) (a6 : Int32) (a7 : Int32) (a8 : Int32) (b0 : Int32) (b1 : Nat) (b2 : Nat) (b3 : Int32) (h : ra_H) : Option (Int32 × ra_H) :=
  (ra_aI h 0 b2 b3).bind fun x1 =>
  (ra_fR h 12 a0 54).bind fun x2 =>
  (ra_aI h 0 x2 a8).bind fun x3 =>
  (fX12_apart N b1 x1 x3 h).bind fun q4 =>
  nX12_beside_189 N c105 c119 a0 a1 a2 a3 a4 a5 a6 a7 a8 b0 q4.1 q4.2
def kX12_beside_178 (N : Nat) (c105 : Nat → Int32 → Int32 → Int32 → Int32 → Int32 → Int32 → ra_H → Option (Int32 × ra_H)) (c119 : Nat → Int32 → Int32 → Int32 → Int32 → Int32 → Int32 → Int32 → Int32 → ra_H → Option (Int32 × ra_H)) : Nat → List (Option Value) → List Value → ra_H → Option (Int32 × ra_H) := (ra_k1 189 (fun L S h => match L, S with
  | [some (.ref a0), some (.int a1), some (.int a2), some (.int a3), some (.int a4), some (.int a5), some (.int a6), some (.int a7), some (.int a8), _], [.int b1, .int b0] => nX12_beside_189 N c105 c119 a0 a1 a2 a3 a4 a5 a6 a7 a8 b0 b1 h
  | _, _ => none) ra_k0)
theorem kX12_beside_178_ok (N : Nat) (c105 : Nat → Int32 → Int32 → Int32 → Int32 → Int32 → Int32 → ra_H → Option (Int32 × ra_H)) (c119 : Nat → Int32 → Int32 → Int32 → Int32 → Int32 → Int32 → Int32 → Int32 → ra_H → Option (Int32 × ra_H)) (hc105 : ∀ a0 a1 a2 a3 a4 a5 a6 h r, c105 a0 a1 a2 a3 a4 a5 a6 h = some r → ra_Ru 3 mX12_beside 105 [some (.ref a0), some (.int a1), some (.int a2), some (.int a3), some (.int a4), some (.int a5), some (.int a6), none, none, none] [] h (ra_oI r)) (hc119 : ∀ a0 a1 a2 a3 a4 a5 a6 a7 a8 h r, c119 a0 a1 a2 a3 a4 a5 a6 a7 a8 h = some r → ra_Ru 3 mX12_beside 119 [some (.ref a0), some (.int a1), some (.int a2), some (.int a3), some (.int a4), some (.int a5), some (.int a6), some (.int a7), some (.int a8), none] [] h (ra_oI r)) : ra_kok 3 mX12_beside ra_oI (kX12_beside_178 N c105 c119) := (ra_k1_ok (by
  intro L S h a e
  split at e
  · exact ra_Ru.weak (nX12_beside_189_ok N c105 c119 hc105 hc119 _ _ _ _ _ _ _ _ _ _ _ _ _ e) ⟨rfl, ⟨rfl, ⟨rfl, ⟨rfl, ⟨rfl, ⟨rfl, ⟨rfl, ⟨rfl, ⟨rfl, trivial⟩⟩⟩⟩⟩⟩⟩⟩⟩
  · cases e) ra_k0_ok)
set_option maxRecDepth 100000 in
theorem nX12_beside_178_ok (N : Nat) (c105 : Nat → Int32 → Int32 → Int32 → Int32 → Int32 → Int32 → ra_H → Option (Int32 × ra_H)) (c119 : Nat → Int32 → Int32 → Int32 → Int32 → Int32 → Int32 → Int32 → Int32 → ra_H → Option (Int32 × ra_H)) (hc105 : ∀ a0 a1 a2 a3 a4 a5 a6 h r, c105 a0 a1 a2 a3 a4 a5 a6 h = some r → ra_Ru 3 mX12_beside 105 [some (.ref a0), some (.int a1), some (.int a2), some (.int a3), some (.int a4), some (.int a5), some (.int a6), none, none, none] [] h (ra_oI r)) (hc119 : ∀ a0 a1 a2 a3 a4 a5 a6 a7 a8 h r, c119 a0 a1 a2 a3 a4 a5 a6 a7 a8 h = some r → ra_Ru 3 mX12_beside 119 [some (.ref a0), some (.int a1), some (.int a2), some (.int a3), some (.int a4), some (.int a5), some (.int a6), some (.int a7), some (.int a8), none] [] h (ra_oI r)) (a0 : Nat) (a1 : Int32) (a2 : Int32) (a3 : Int32) (a4 : Int32) (a5 : Int32) (a6 : Int32) (a7 : Int32) (a8 : Int32) (b0 : Int32) (b1 : Nat) (b2 : Nat) (b3 : Int32) (h : ra_H) (r : (Int32 × ra_H)) (e : nX12_beside_178 N c105 c119 a0 a1 a2 a3 a4 a5 a6 a7 a8 b0 b1 b2 b3 h = some r) : ra_Ru 3 mX12_beside 178 [some (.ref a0), some (.int a1), some (.int a2), some (.int a3), some (.int a4), some (.int a5), some (.int a6), some (.int a7), some (.int a8), none] [.int b3, .ref b2, .ref b1, .int b0] h (ra_oI r) :=
  ra_sound (by omega) rfl ra_rI_ok (kX12_beside_178_ok N c105 c119 hc105 hc119) (fun m av h h1 e => (tVX12_beside_ok N) m av h h1 e) (fun m av h x h1 e => (tIX12_beside_ok N) m av h (x, h1) e) (fun m av h x h1 e => (ra_c0_ok (ro := ra_oJ)) m av h (x, h1) e) (fun m av h x h1 e => (ra_c0_ok (ro := ra_oR)) m av h (x, h1) e) (fun m av h x h1 e => (ra_c0_ok (ro := ra_oN)) m av h (x, h1) e) (fun m av h x h1 e => (ra_c0_ok (ro := ra_oF)) m av h (x, h1) e) 7 lX12_beside_178 _ _ _ _ lX12_beside_178_ck (show ra_run ra_rI (kX12_beside_178 N c105 c119) (tVX12_beside N) (tIX12_beside N) ra_c0 ra_c0 ra_c0 ra_c0 7 lX12_beside_178 [some (.ref a0), some (.int a1), some (.int a2), some (.int a3), some (.int a4), some (.int a5), some (.int a6), some (.int a7), some (.int a8), none] [.int b3, .ref b2, .ref b1, .int b0] h = some r from e) _ _ rfl
def lX12_beside_119 : List ra_I := [(119, .iload 8, 2, 8, 0, 0, 0, 0, []),
  (121, .ifCond .lt (92), 3, 213, 0, 0, 0, 0, []),
  (124, .iload 4, 2, 4, 0, 0, 0, 0, []),
  (126, .iload 8, 2, 8, 0, 0, 0, 0, []),
  (128, .ishr, 1, 0, 0, 0, 0, 0, []),
  (129, .iconst (1), 1, 0, 0, 0, (1), 0, []),
  (130, .iand, 1, 0, 0, 0, 0, 0, []),
  (131, .ifCond .ne (76), 3, 207, 0, 0, 0, 0, []),
  (134, .aload_n 0, 1, 0, 0, 0, 0, 0, []),
  (135, .getfield 135, 3, 12, 53, 2, 0, 0, []),
  (138, .bipush (9), 2, 0, 0, 0, (9), 0, []),
  (140, .iload 4, 2, 4, 0, 0, 0, 0, []),
  (142, .iconst (1), 1, 0, 0, 0, (1), 0, []),
  (143, .iload 8, 2, 8, 0, 0, 0, 0, []),
  (145, .ishl, 1, 0, 0, 0, 0, 0, []),
  (146, .ior, 1, 0, 0, 0, 0, 0, []),
  (147, .imul, 1, 0, 0, 0, 0, 0, []),
  (148, .iload 8, 2, 8, 0, 0, 0, 0, []),
  (150, .iadd, 1, 0, 0, 0, 0, 0, []),
  (151, .iaload, 1, 0, 0, 0, 0, 0, []),
  (152, .iload 5, 2, 5, 0, 0, 0, 0, []),
  (154, .iconst (-1), 1, 0, 0, 0, (-1), 0, []),
  (155, .if_icmp .ne (7), 3, 162, 0, 0, 0, 0, []),
  (158, .iconst (0), 1, 0, 0, 0, (0), 0, []),
  (159, .goto (30), 3, 189, 0, 0, 0, 0, []),
  (162, .aload_n 0, 1, 0, 0, 0, 0, 0, []),
  (163, .aload_n 0, 1, 0, 0, 0, 0, 0, []),
  (164, .getfield 138, 3, 12, 54, 2, 0, 0, []),
  (167, .iload 5, 2, 5, 0, 0, 0, 0, []),
  (169, .ifCond .ge (7), 3, 176, 0, 0, 0, 0, []),
  (172, .iconst (0), 1, 0, 0, 0, (0), 0, []),
  (173, .goto (5), 3, 178, 0, 0, 0, 0, []),
  (176, .iload 5, 2, 5, 0, 0, 0, 0, []),
  (213, .aload_n 0, 1, 0, 0, 0, 0, 0, []),
  (214, .getfield 135, 3, 12, 53, 2, 0, 0, []),
  (217, .bipush (9), 2, 0, 0, 0, (9), 0, []),
  (219, .iload 4, 2, 4, 0, 0, 0, 0, []),
  (221, .iconst (1), 1, 0, 0, 0, (1), 0, []),
  (222, .iload 7, 2, 7, 0, 0, 0, 0, []),
  (224, .ishl, 1, 0, 0, 0, 0, 0, []),
  (225, .ior, 1, 0, 0, 0, 0, 0, []),
  (226, .imul, 1, 0, 0, 0, 0, 0, []),
  (227, .iload 7, 2, 7, 0, 0, 0, 0, []),
  (229, .iadd, 1, 0, 0, 0, 0, 0, []),
  (230, .iaload, 1, 0, 0, 0, 0, 0, []),
  (231, .istore_n 3, 1, 3, 0, 0, 0, 0, []),
  (232, .iload 4, 2, 4, 0, 0, 0, 0, []),
  (234, .iconst (1), 1, 0, 0, 0, (1), 0, []),
  (235, .iload 7, 2, 7, 0, 0, 0, 0, []),
  (237, .ishl, 1, 0, 0, 0, 0, 0, []),
  (238, .ior, 1, 0, 0, 0, 0, 0, []),
  (239, .istore 4, 2, 4, 0, 0, 0, 0, []),
  (241, .iload 7, 2, 7, 0, 0, 0, 0, []),
  (243, .istore 5, 2, 5, 0, 0, 0, 0, []),
  (245, .iinc 6 (1), 3, 6, 0, 0, (1), 0, []),
  (248, .goto (-143), 3, 105, 0, 0, 0, 0, [])]
set_option maxRecDepth 100000 in
theorem lX12_beside_119_ck : lX12_beside_119.all (ra_ck mX12_beside 12) = true := by decide +kernel
def nX12_beside_119 (N : Nat) (c105 : Nat → Int32 → Int32 → Int32 → Int32 → Int32 → Int32 → ra_H → Option (Int32 × ra_H)) : Nat → Nat → Int32 → Int32 → Int32 → Int32 → Int32 → Int32 → Int32 → Int32 → ra_H → Option (Int32 × ra_H)
  | 0, _, _, _, _, _, _, _, _, _, _ => none
  | n + 1, a0, a1, a2, a3, a4, a5, a6, a7, a8, h =>
  if a8 < 0 then
    (ra_fR h 12 a0 53).bind fun x1 =>
    (ra_aI h 0 x1 ((((9 : Int32)) * (a4 ||| (((1 : Int32)) <<< (a7 &&& 31)))) + a7)).bind fun x2 =>
    let y3 := a4 ||| (((1 : Int32)) <<< (a7 &&& 31))
    let y4 := a6 + (1 : Int32)
    c105 a0 a1 a2 x2 y3 a7 y4 h
  else
    if ((a4 >>> (a8 &&& 31)) &&& ((1 : Int32))) = 0 then
      (ra_fR h 12 a0 53).bind fun x5 =>
      (ra_aI h 0 x5 ((((9 : Int32)) * (a4 ||| (((1 : Int32)) <<< (a8 &&& 31)))) + a8)).bind fun x6 =>
      if a5 = ((-1 : Int32)) then
        nX12_beside_189 N c105 (nX12_beside_119 N c105 n) a0 a1 a2 a3 a4 a5 a6 a7 a8 x6 ((0 : Int32)) h
      else
        (ra_fR h 12 a0 54).bind fun x7 =>
        if a5 < 0 then
          nX12_beside_178 N c105 (nX12_beside_119 N c105 n) a0 a1 a2 a3 a4 a5 a6 a7 a8 x6 a0 x7 ((0 : Int32)) h
        else
          nX12_beside_178 N c105 (nX12_beside_119 N c105 n) a0 a1 a2 a3 a4 a5 a6 a7 a8 x6 a0 x7 a5 h
    else
      nX12_beside_207 N c105 (nX12_beside_119 N c105 n) a0 a1 a2 a3 a4 a5 a6 a7 a8 h
def kX12_beside_119 (N : Nat) (c105 : Nat → Int32 → Int32 → Int32 → Int32 → Int32 → Int32 → ra_H → Option (Int32 × ra_H)) (cs : Nat → Int32 → Int32 → Int32 → Int32 → Int32 → Int32 → Int32 → Int32 → ra_H → Option (Int32 × ra_H)) : Nat → List (Option Value) → List Value → ra_H → Option (Int32 × ra_H) := (ra_k1 105 (fun L S h => match L, S with
  | [some (.ref a0), some (.int a1), some (.int a2), some (.int a3), some (.int a4), some (.int a5), some (.int a6), _, _, _], [] => c105 a0 a1 a2 a3 a4 a5 a6 h
  | _, _ => none) (ra_k1 178 (fun L S h => match L, S with
  | [some (.ref a0), some (.int a1), some (.int a2), some (.int a3), some (.int a4), some (.int a5), some (.int a6), some (.int a7), some (.int a8), _], [.int b3, .ref b2, .ref b1, .int b0] => nX12_beside_178 N c105 cs a0 a1 a2 a3 a4 a5 a6 a7 a8 b0 b1 b2 b3 h
  | _, _ => none) (ra_k1 189 (fun L S h => match L, S with
  | [some (.ref a0), some (.int a1), some (.int a2), some (.int a3), some (.int a4), some (.int a5), some (.int a6), some (.int a7), some (.int a8), _], [.int b1, .int b0] => nX12_beside_189 N c105 cs a0 a1 a2 a3 a4 a5 a6 a7 a8 b0 b1 h
  | _, _ => none) (ra_k1 207 (fun L S h => match L, S with
  | [some (.ref a0), some (.int a1), some (.int a2), some (.int a3), some (.int a4), some (.int a5), some (.int a6), some (.int a7), some (.int a8), _], [] => nX12_beside_207 N c105 cs a0 a1 a2 a3 a4 a5 a6 a7 a8 h
  | _, _ => none) ra_k0))))
theorem kX12_beside_119_ok (N : Nat) (c105 : Nat → Int32 → Int32 → Int32 → Int32 → Int32 → Int32 → ra_H → Option (Int32 × ra_H)) (hc105 : ∀ a0 a1 a2 a3 a4 a5 a6 h r, c105 a0 a1 a2 a3 a4 a5 a6 h = some r → ra_Ru 3 mX12_beside 105 [some (.ref a0), some (.int a1), some (.int a2), some (.int a3), some (.int a4), some (.int a5), some (.int a6), none, none, none] [] h (ra_oI r)) (cs : Nat → Int32 → Int32 → Int32 → Int32 → Int32 → Int32 → Int32 → Int32 → ra_H → Option (Int32 × ra_H)) (hcs : ∀ a0 a1 a2 a3 a4 a5 a6 a7 a8 h r, cs a0 a1 a2 a3 a4 a5 a6 a7 a8 h = some r → ra_Ru 3 mX12_beside 119 [some (.ref a0), some (.int a1), some (.int a2), some (.int a3), some (.int a4), some (.int a5), some (.int a6), some (.int a7), some (.int a8), none] [] h (ra_oI r)) : ra_kok 3 mX12_beside ra_oI (kX12_beside_119 N c105 cs) := (ra_k1_ok (by
  intro L S h a e
  split at e
  · exact ra_Ru.weak (hc105 _ _ _ _ _ _ _ _ _ e) ⟨rfl, ⟨rfl, ⟨rfl, ⟨rfl, ⟨rfl, ⟨rfl, ⟨rfl, trivial⟩⟩⟩⟩⟩⟩⟩
  · cases e) (ra_k1_ok (by
  intro L S h a e
  split at e
  · exact ra_Ru.weak (nX12_beside_178_ok N c105 cs hc105 hcs _ _ _ _ _ _ _ _ _ _ _ _ _ _ _ e) ⟨rfl, ⟨rfl, ⟨rfl, ⟨rfl, ⟨rfl, ⟨rfl, ⟨rfl, ⟨rfl, ⟨rfl, trivial⟩⟩⟩⟩⟩⟩⟩⟩⟩
  · cases e) (ra_k1_ok (by
  intro L S h a e
  split at e
  · exact ra_Ru.weak (nX12_beside_189_ok N c105 cs hc105 hcs _ _ _ _ _ _ _ _ _ _ _ _ _ e) ⟨rfl, ⟨rfl, ⟨rfl, ⟨rfl, ⟨rfl, ⟨rfl, ⟨rfl, ⟨rfl, ⟨rfl, trivial⟩⟩⟩⟩⟩⟩⟩⟩⟩
  · cases e) (ra_k1_ok (by
  intro L S h a e
  split at e
  · exact ra_Ru.weak (nX12_beside_207_ok N c105 cs hc105 hcs _ _ _ _ _ _ _ _ _ _ _ e) ⟨rfl, ⟨rfl, ⟨rfl, ⟨rfl, ⟨rfl, ⟨rfl, ⟨rfl, ⟨rfl, ⟨rfl, trivial⟩⟩⟩⟩⟩⟩⟩⟩⟩
  · cases e) ra_k0_ok))))
set_option maxRecDepth 100000 in
theorem nX12_beside_119_ok (N : Nat) (c105 : Nat → Int32 → Int32 → Int32 → Int32 → Int32 → Int32 → ra_H → Option (Int32 × ra_H)) (hc105 : ∀ a0 a1 a2 a3 a4 a5 a6 h r, c105 a0 a1 a2 a3 a4 a5 a6 h = some r → ra_Ru 3 mX12_beside 105 [some (.ref a0), some (.int a1), some (.int a2), some (.int a3), some (.int a4), some (.int a5), some (.int a6), none, none, none] [] h (ra_oI r)) : ∀ n a0 a1 a2 a3 a4 a5 a6 a7 a8 h r, nX12_beside_119 N c105 n a0 a1 a2 a3 a4 a5 a6 a7 a8 h = some r → ra_Ru 3 mX12_beside 119 [some (.ref a0), some (.int a1), some (.int a2), some (.int a3), some (.int a4), some (.int a5), some (.int a6), some (.int a7), some (.int a8), none] [] h (ra_oI r) := by
  intro n
  induction n with
  | zero => intro a0 a1 a2 a3 a4 a5 a6 a7 a8 h r e; cases e
  | succ n ih =>
    intro a0 a1 a2 a3 a4 a5 a6 a7 a8 h r e
    exact ra_sound (by omega) rfl ra_rI_ok (kX12_beside_119_ok N c105 hc105 (nX12_beside_119 N c105 n) ih) (fun m av h h1 e => (tVX12_beside_ok N) m av h h1 e) (fun m av h x h1 e => (tIX12_beside_ok N) m av h (x, h1) e) (fun m av h x h1 e => (ra_c0_ok (ro := ra_oJ)) m av h (x, h1) e) (fun m av h x h1 e => (ra_c0_ok (ro := ra_oR)) m av h (x, h1) e) (fun m av h x h1 e => (ra_c0_ok (ro := ra_oN)) m av h (x, h1) e) (fun m av h x h1 e => (ra_c0_ok (ro := ra_oF)) m av h (x, h1) e) 57 lX12_beside_119 _ _ _ _ lX12_beside_119_ck (show ra_run ra_rI (kX12_beside_119 N c105 (nX12_beside_119 N c105 n)) (tVX12_beside N) (tIX12_beside N) ra_c0 ra_c0 ra_c0 ra_c0 57 lX12_beside_119 [some (.ref a0), some (.int a1), some (.int a2), some (.int a3), some (.int a4), some (.int a5), some (.int a6), some (.int a7), some (.int a8), none] [] h = some r from e) _ _ rfl
def lX12_beside_105 : List ra_I := [(105, .iload 6, 2, 6, 0, 0, 0, 0, []),
  (107, .iload_n 1, 1, 1, 0, 0, 0, 0, []),
  (108, .if_icmp .gt (143), 3, 251, 0, 0, 0, 0, []),
  (111, .iconst (-1), 1, 0, 0, 0, (-1), 0, []),
  (112, .istore 7, 2, 7, 0, 0, 0, 0, []),
  (114, .iload_n 2, 1, 2, 0, 0, 0, 0, []),
  (115, .iconst (1), 1, 0, 0, 0, (1), 0, []),
  (116, .isub, 1, 0, 0, 0, 0, 0, []),
  (117, .istore 8, 2, 8, 0, 0, 0, 0, []),
  (251, .aload_n 0, 1, 0, 0, 0, 0, 0, []),
  (252, .getfield 138, 3, 12, 54, 2, 0, 0, []),
  (255, .iload 5, 2, 5, 0, 0, 0, 0, []),
  (257, .iaload, 1, 0, 0, 0, 0, 0, []),
  (258, .ireturn, 1, 0, 0, 0, 0, 0, [])]
set_option maxRecDepth 100000 in
theorem lX12_beside_105_ck : lX12_beside_105.all (ra_ck mX12_beside 12) = true := by decide +kernel
def nX12_beside_105 (N : Nat) : Nat → Nat → Int32 → Int32 → Int32 → Int32 → Int32 → Int32 → ra_H → Option (Int32 × ra_H)
  | 0, _, _, _, _, _, _, _, _ => none
  | n + 1, a0, a1, a2, a3, a4, a5, a6, h =>
  if a6 ≤ a1 then
    let y3 := a2 - ((1 : Int32))
    nX12_beside_119 N (nX12_beside_105 N n) N a0 a1 a2 a3 a4 a5 a6 ((-1 : Int32)) y3 h
  else
    (ra_fR h 12 a0 54).bind fun x1 =>
    (ra_aI h 0 x1 a5).bind fun x2 =>
    some (x2, h)
def kX12_beside_105 (N : Nat) (cs : Nat → Int32 → Int32 → Int32 → Int32 → Int32 → Int32 → ra_H → Option (Int32 × ra_H)) : Nat → List (Option Value) → List Value → ra_H → Option (Int32 × ra_H) := (ra_k1 119 (fun L S h => match L, S with
  | [some (.ref a0), some (.int a1), some (.int a2), some (.int a3), some (.int a4), some (.int a5), some (.int a6), some (.int a7), some (.int a8), _], [] => nX12_beside_119 N cs N a0 a1 a2 a3 a4 a5 a6 a7 a8 h
  | _, _ => none) ra_k0)
theorem kX12_beside_105_ok (N : Nat) (cs : Nat → Int32 → Int32 → Int32 → Int32 → Int32 → Int32 → ra_H → Option (Int32 × ra_H)) (hcs : ∀ a0 a1 a2 a3 a4 a5 a6 h r, cs a0 a1 a2 a3 a4 a5 a6 h = some r → ra_Ru 3 mX12_beside 105 [some (.ref a0), some (.int a1), some (.int a2), some (.int a3), some (.int a4), some (.int a5), some (.int a6), none, none, none] [] h (ra_oI r)) : ra_kok 3 mX12_beside ra_oI (kX12_beside_105 N cs) := (ra_k1_ok (by
  intro L S h a e
  split at e
  · exact ra_Ru.weak (nX12_beside_119_ok N cs hcs N _ _ _ _ _ _ _ _ _ _ _ e) ⟨rfl, ⟨rfl, ⟨rfl, ⟨rfl, ⟨rfl, ⟨rfl, ⟨rfl, ⟨rfl, ⟨rfl, trivial⟩⟩⟩⟩⟩⟩⟩⟩⟩
  · cases e) ra_k0_ok)
set_option maxRecDepth 100000 in
theorem nX12_beside_105_ok (N : Nat) : ∀ n a0 a1 a2 a3 a4 a5 a6 h r, nX12_beside_105 N n a0 a1 a2 a3 a4 a5 a6 h = some r → ra_Ru 3 mX12_beside 105 [some (.ref a0), some (.int a1), some (.int a2), some (.int a3), some (.int a4), some (.int a5), some (.int a6), none, none, none] [] h (ra_oI r) := by
  intro n
  induction n with
  | zero => intro a0 a1 a2 a3 a4 a5 a6 h r e; cases e
  | succ n ih =>
    intro a0 a1 a2 a3 a4 a5 a6 h r e
    exact ra_sound (by omega) rfl ra_rI_ok (kX12_beside_105_ok N (nX12_beside_105 N n) ih) (fun m av h h1 e => (tVX12_beside_ok N) m av h h1 e) (fun m av h x h1 e => (tIX12_beside_ok N) m av h (x, h1) e) (fun m av h x h1 e => (ra_c0_ok (ro := ra_oJ)) m av h (x, h1) e) (fun m av h x h1 e => (ra_c0_ok (ro := ra_oR)) m av h (x, h1) e) (fun m av h x h1 e => (ra_c0_ok (ro := ra_oN)) m av h (x, h1) e) (fun m av h x h1 e => (ra_c0_ok (ro := ra_oF)) m av h (x, h1) e) 15 lX12_beside_105 _ _ _ _ lX12_beside_105_ck (show ra_run ra_rI (kX12_beside_105 N (nX12_beside_105 N n)) (tVX12_beside N) (tIX12_beside N) ra_c0 ra_c0 ra_c0 ra_c0 15 lX12_beside_105 [some (.ref a0), some (.int a1), some (.int a2), some (.int a3), some (.int a4), some (.int a5), some (.int a6), none, none, none] [] h = some r from e) _ _ rfl
def lX12_beside_47 : List ra_I := [(47, .iload 4, 2, 4, 0, 0, 0, 0, []),
  (49, .iload_n 2, 1, 2, 0, 0, 0, 0, []),
  (50, .if_icmp .ge (39), 3, 89, 0, 0, 0, 0, []),
  (53, .aload_n 0, 1, 0, 0, 0, 0, 0, []),
  (54, .getfield 135, 3, 12, 53, 2, 0, 0, []),
  (57, .bipush (9), 2, 0, 0, 0, (9), 0, []),
  (59, .iconst (1), 1, 0, 0, 0, (1), 0, []),
  (60, .iload 4, 2, 4, 0, 0, 0, 0, []),
  (62, .ishl, 1, 0, 0, 0, 0, 0, []),
  (63, .imul, 1, 0, 0, 0, 0, 0, []),
  (64, .iload 4, 2, 4, 0, 0, 0, 0, []),
  (66, .iadd, 1, 0, 0, 0, 0, 0, []),
  (67, .iaload, 1, 0, 0, 0, 0, 0, []),
  (68, .istore 5, 2, 5, 0, 0, 0, 0, []),
  (70, .iload 5, 2, 5, 0, 0, 0, 0, []),
  (72, .iload_n 3, 1, 3, 0, 0, 0, 0, []),
  (73, .if_icmp .ge (8), 3, 81, 0, 0, 0, 0, []),
  (76, .iload 5, 2, 5, 0, 0, 0, 0, []),
  (78, .goto (4), 3, 82, 0, 0, 0, 0, []),
  (81, .iload_n 3, 1, 3, 0, 0, 0, 0, []),
  (89, .iload_n 1, 1, 1, 0, 0, 0, 0, []),
  (90, .iconst (-1), 1, 0, 0, 0, (-1), 0, []),
  (91, .if_icmp .ne (5), 3, 96, 0, 0, 0, 0, []),
  (94, .iload_n 3, 1, 3, 0, 0, 0, 0, []),
  (95, .ireturn, 1, 0, 0, 0, 0, 0, []),
  (96, .iconst (0), 1, 0, 0, 0, (0), 0, []),
  (97, .istore 4, 2, 4, 0, 0, 0, 0, []),
  (99, .iconst (-1), 1, 0, 0, 0, (-1), 0, []),
  (100, .istore 5, 2, 5, 0, 0, 0, 0, []),
  (102, .iconst (0), 1, 0, 0, 0, (0), 0, []),
  (103, .istore 6, 2, 6, 0, 0, 0, 0, [])]
set_option maxRecDepth 100000 in
theorem lX12_beside_47_ck : lX12_beside_47.all (ra_ck mX12_beside 12) = true := by decide +kernel
def nX12_beside_47 (N : Nat) : Nat → Nat → Int32 → Int32 → Int32 → Int32 → ra_H → Option (Int32 × ra_H)
  | 0, _, _, _, _, _, _ => none
  | n + 1, a0, a1, a2, a3, a4, h =>
  if a4 < a2 then
    (ra_fR h 12 a0 53).bind fun x1 =>
    (ra_aI h 0 x1 ((((9 : Int32)) * (((1 : Int32)) <<< (a4 &&& 31))) + a4)).bind fun x2 =>
    if x2 < a3 then
      nX12_beside_82 N (nX12_beside_47 N n) a0 a1 a2 a4 x2 h
    else
      nX12_beside_82 N (nX12_beside_47 N n) a0 a1 a2 a4 a3 h
  else
    if a1 = ((-1 : Int32)) then
      some (a3, h)
    else
      nX12_beside_105 N N a0 a1 a2 a3 ((0 : Int32)) ((-1 : Int32)) ((0 : Int32)) h
def kX12_beside_47 (N : Nat) (cs : Nat → Int32 → Int32 → Int32 → Int32 → ra_H → Option (Int32 × ra_H)) : Nat → List (Option Value) → List Value → ra_H → Option (Int32 × ra_H) := (ra_k1 82 (fun L S h => match L, S with
  | [some (.ref a0), some (.int a1), some (.int a2), _, some (.int a4), _, _, _, _, _], [.int b0] => nX12_beside_82 N cs a0 a1 a2 a4 b0 h
  | _, _ => none) (ra_k1 105 (fun L S h => match L, S with
  | [some (.ref a0), some (.int a1), some (.int a2), some (.int a3), some (.int a4), some (.int a5), some (.int a6), _, _, _], [] => nX12_beside_105 N N a0 a1 a2 a3 a4 a5 a6 h
  | _, _ => none) ra_k0))
theorem kX12_beside_47_ok (N : Nat) (cs : Nat → Int32 → Int32 → Int32 → Int32 → ra_H → Option (Int32 × ra_H)) (hcs : ∀ a0 a1 a2 a3 a4 h r, cs a0 a1 a2 a3 a4 h = some r → ra_Ru 3 mX12_beside 47 [some (.ref a0), some (.int a1), some (.int a2), some (.int a3), some (.int a4), none, none, none, none, none] [] h (ra_oI r)) : ra_kok 3 mX12_beside ra_oI (kX12_beside_47 N cs) := (ra_k1_ok (by
  intro L S h a e
  split at e
  · exact ra_Ru.weak (nX12_beside_82_ok N cs hcs _ _ _ _ _ _ _ e) ⟨rfl, ⟨rfl, ⟨rfl, ⟨rfl, trivial⟩⟩⟩⟩
  · cases e) (ra_k1_ok (by
  intro L S h a e
  split at e
  · exact ra_Ru.weak (nX12_beside_105_ok N N _ _ _ _ _ _ _ _ _ e) ⟨rfl, ⟨rfl, ⟨rfl, ⟨rfl, ⟨rfl, ⟨rfl, ⟨rfl, trivial⟩⟩⟩⟩⟩⟩⟩
  · cases e) ra_k0_ok))
set_option maxRecDepth 100000 in
theorem nX12_beside_47_ok (N : Nat) : ∀ n a0 a1 a2 a3 a4 h r, nX12_beside_47 N n a0 a1 a2 a3 a4 h = some r → ra_Ru 3 mX12_beside 47 [some (.ref a0), some (.int a1), some (.int a2), some (.int a3), some (.int a4), none, none, none, none, none] [] h (ra_oI r) := by
  intro n
  induction n with
  | zero => intro a0 a1 a2 a3 a4 h r e; cases e
  | succ n ih =>
    intro a0 a1 a2 a3 a4 h r e
    exact ra_sound (by omega) rfl ra_rI_ok (kX12_beside_47_ok N (nX12_beside_47 N n) ih) (fun m av h h1 e => (tVX12_beside_ok N) m av h h1 e) (fun m av h x h1 e => (tIX12_beside_ok N) m av h (x, h1) e) (fun m av h x h1 e => (ra_c0_ok (ro := ra_oJ)) m av h (x, h1) e) (fun m av h x h1 e => (ra_c0_ok (ro := ra_oR)) m av h (x, h1) e) (fun m av h x h1 e => (ra_c0_ok (ro := ra_oN)) m av h (x, h1) e) (fun m av h x h1 e => (ra_c0_ok (ro := ra_oF)) m av h (x, h1) e) 32 lX12_beside_47 _ _ _ _ lX12_beside_47_ck (show ra_run ra_rI (kX12_beside_47 N (nX12_beside_47 N n)) (tVX12_beside N) (tIX12_beside N) ra_c0 ra_c0 ra_c0 ra_c0 32 lX12_beside_47 [some (.ref a0), some (.int a1), some (.int a2), some (.int a3), some (.int a4), none, none, none, none, none] [] h = some r from e) _ _ rfl
def lX12_beside_0 : List ra_I := [(0, .aload_n 0, 1, 0, 0, 0, 0, 0, []),
  (1, .iconst (0), 1, 0, 0, 0, (0), 0, []),
  (2, .putfield 147, 3, 12, 0, 0, 0, 0, []),
  (5, .aload_n 0, 1, 0, 0, 0, 0, 0, []),
  (6, .getfield 13, 3, 12, 3, 2, 0, 0, []),
  (9, .sipush (483), 3, 0, 0, 0, (483), 0, []),
  (12, .iaload, 1, 0, 0, 0, 0, 0, []),
  (13, .istore_n 2, 1, 2, 0, 0, 0, 0, []),
  (14, .iload_n 2, 1, 2, 0, 0, 0, 0, []),
  (15, .ifCond .eq (18), 3, 33, 0, 0, 0, 0, []),
  (18, .iload_n 1, 1, 1, 0, 0, 0, 0, []),
  (19, .i2l, 1, 0, 0, 0, 0, 0, []),
  (20, .ldc2_w 252, 3, 0, 0, 0, 0, (-1), []),
  (23, .iload_n 2, 1, 2, 0, 0, 0, 0, []),
  (24, .i2l, 1, 0, 0, 0, 0, 0, []),
  (25, .lconst 1, 1, 0, 0, 0, 0, 1, []),
  (26, .lsub, 1, 0, 0, 0, 0, 0, []),
  (27, .invokestatic 153, 3, 209, 3, 1, 0, 0, []),
  (30, .ifCond .ne (5), 3, 35, 0, 0, 0, 0, []),
  (35, .aload_n 0, 1, 0, 0, 0, 0, 0, []),
  (36, .iload_n 2, 1, 2, 0, 0, 0, 0, []),
  (37, .invokevirtual 486, 3, 307, 2, 0, 0, 0, []),
  (40, .ldc_w 482, 3, 0, 0, 0, (1000000), 0, []),
  (43, .istore_n 3, 1, 3, 0, 0, 0, 0, []),
  (44, .iconst (0), 1, 0, 0, 0, (0), 0, []),
  (45, .istore 4, 2, 4, 0, 0, 0, 0, [])]
set_option maxRecDepth 100000 in
theorem lX12_beside_0_ck : lX12_beside_0.all (ra_ck mX12_beside 12) = true := by decide +kernel
def nX12_beside_0 (N : Nat) (a0 : Nat) (a1 : Int32) (h : ra_H) : Option (Int32 × ra_H) :=
  (ra_fW h 12 a0 0 (.int ((0 : Int32)))).bind fun h1 =>
  (ra_fR h1 12 a0 3).bind fun x2 =>
  (ra_aI h1 0 x2 ((483 : Int32))).bind fun x3 =>
  if x3 = 0 then
    nX12_beside_33 N h1
  else
    (fX12_in N (Int32.toInt64 a1) ((-1 : Int64)) ((Int32.toInt64 x3) - ((1 : Int64))) h1).bind fun q4 =>
    if q4.1 = 0 then
      nX12_beside_33 N q4.2
    else
      (fX12_rowAll N a0 x3 q4.2).bind fun h5 =>
      nX12_beside_47 N N a0 a1 x3 ((1000000 : Int32)) ((0 : Int32)) h5
def kX12_beside_0 (N : Nat) : Nat → List (Option Value) → List Value → ra_H → Option (Int32 × ra_H) := (ra_k1 33 (fun L S h => match L, S with
  | [_, _, _, _, _, _, _, _, _, _], [] => nX12_beside_33 N h
  | _, _ => none) (ra_k1 47 (fun L S h => match L, S with
  | [some (.ref a0), some (.int a1), some (.int a2), some (.int a3), some (.int a4), _, _, _, _, _], [] => nX12_beside_47 N N a0 a1 a2 a3 a4 h
  | _, _ => none) ra_k0))
theorem kX12_beside_0_ok (N : Nat) : ra_kok 3 mX12_beside ra_oI (kX12_beside_0 N) := (ra_k1_ok (by
  intro L S h a e
  split at e
  · exact ra_Ru.weak (nX12_beside_33_ok N _ _ e) trivial
  · cases e) (ra_k1_ok (by
  intro L S h a e
  split at e
  · exact ra_Ru.weak (nX12_beside_47_ok N N _ _ _ _ _ _ _ e) ⟨rfl, ⟨rfl, ⟨rfl, ⟨rfl, ⟨rfl, trivial⟩⟩⟩⟩⟩
  · cases e) ra_k0_ok))
set_option maxRecDepth 100000 in
theorem nX12_beside_0_ok (N : Nat) (a0 : Nat) (a1 : Int32) (h : ra_H) (r : (Int32 × ra_H)) (e : nX12_beside_0 N a0 a1 h = some r) : ra_Ru 3 mX12_beside 0 [some (.ref a0), some (.int a1), none, none, none, none, none, none, none, none] [] h (ra_oI r) :=
  ra_sound (by omega) rfl ra_rI_ok (kX12_beside_0_ok N) (fun m av h h1 e => (tVX12_beside_ok N) m av h h1 e) (fun m av h x h1 e => (tIX12_beside_ok N) m av h (x, h1) e) (fun m av h x h1 e => (ra_c0_ok (ro := ra_oJ)) m av h (x, h1) e) (fun m av h x h1 e => (ra_c0_ok (ro := ra_oR)) m av h (x, h1) e) (fun m av h x h1 e => (ra_c0_ok (ro := ra_oN)) m av h (x, h1) e) (fun m av h x h1 e => (ra_c0_ok (ro := ra_oF)) m av h (x, h1) e) 27 lX12_beside_0 _ _ _ _ lX12_beside_0_ck (show ra_run ra_rI (kX12_beside_0 N) (tVX12_beside N) (tIX12_beside N) ra_c0 ra_c0 ra_c0 ra_c0 27 lX12_beside_0 [some (.ref a0), some (.int a1), none, none, none, none, none, none, none, none] [] h = some r from e) _ _ rfl
def fX12_beside (N : Nat) (p0 : Nat) (p1 : Int32) (h : ra_H) : Option (Int32 × ra_H) := match ra_isOb h p0 12 with
  | true => nX12_beside_0 N p0 p1 h
  | false => none
set_option maxRecDepth 100000 in
theorem mtX12_beside : ra_MT[306]? = some (mX12_beside, 1, 1, (1, 13), (9, 23), (9, 24)) := rfl
theorem fX12_beside_co (N : Nat) (p0 : Nat) (p1 : Int32) (h : ra_H) (r : (Int32 × ra_H)) (e : fX12_beside N p0 p1 h = some r) (D : Nat) (hD : 4 ≤ D) : ra_CO D 306 [.ref p0, .int p1] h (ra_oI r).1 (ra_oI r).2 := by
  have hw : ra_nw2 [.ref p0, .int p1] ≤ 10 := Nat.le_of_ble_eq_true rfl
  have hdb : ∀ v ∈ ([.ref p0, .int p1] : List Value), ∀ x, v ≠ .double x := by
    intro v hv x hx
    simp [hx] at hv
  unfold fX12_beside at e
  split at e
  · rename_i ho
    have e1 := e
    exact ⟨3, _, mtX12_beside, hD, ra_ev_of (by decide) hdb hw trivial (ra_Ru.weak (nX12_beside_0_ok N p0 p1 h _ e1) ⟨rfl, ⟨rfl, trivial⟩⟩), (fun _ => ⟨_, _, rfl, ra_rcv_of ho (by decide) rfl⟩), (fun h => absurd h (by decide))⟩
  · cases e
/-! RedMarksModel.hasMark(I)Z -/
def mX12_hasMark : ra_M := (yX12_hasMark, cX12_hasMark, 2, (some .boolean))
def lX12_hasMark_18 : List ra_I := [(18, .ireturn, 1, 0, 0, 0, 0, 0, [])]
set_option maxRecDepth 100000 in
theorem lX12_hasMark_18_ck : lX12_hasMark_18.all (ra_ck mX12_hasMark 12) = true := by decide +kernel
def nX12_hasMark_18 (N : Nat) (b0 : Int32) (h : ra_H) : Option (Int32 × ra_H) :=
  some (b0, h)
def kX12_hasMark_18 (N : Nat) : Nat → List (Option Value) → List Value → ra_H → Option (Int32 × ra_H) := ra_k0
theorem kX12_hasMark_18_ok (N : Nat) : ra_kok 1 mX12_hasMark ra_oI (kX12_hasMark_18 N) := ra_k0_ok
set_option maxRecDepth 100000 in
theorem nX12_hasMark_18_ok (N : Nat) (b0 : Int32) (h : ra_H) (r : (Int32 × ra_H)) (e : nX12_hasMark_18 N b0 h = some r) : ra_Ru 1 mX12_hasMark 18 [none, none] [.int b0] h (ra_oI r) :=
  ra_sound (by omega) rfl ra_rI_ok (kX12_hasMark_18_ok N) (fun m av h h1 e => (ra_c0_ok (ro := ra_oV)) m av h h1 e) (fun m av h x h1 e => (ra_c0_ok (ro := ra_oI)) m av h (x, h1) e) (fun m av h x h1 e => (ra_c0_ok (ro := ra_oJ)) m av h (x, h1) e) (fun m av h x h1 e => (ra_c0_ok (ro := ra_oR)) m av h (x, h1) e) (fun m av h x h1 e => (ra_c0_ok (ro := ra_oN)) m av h (x, h1) e) (fun m av h x h1 e => (ra_c0_ok (ro := ra_oF)) m av h (x, h1) e) 2 lX12_hasMark_18 _ _ _ _ lX12_hasMark_18_ck (show ra_run ra_rI (kX12_hasMark_18 N) ra_c0 ra_c0 ra_c0 ra_c0 ra_c0 ra_c0 2 lX12_hasMark_18 [none, none] [.int b0] h = some r from e) _ _ rfl
def lX12_hasMark_0 : List ra_I := [(0, .aload_n 0, 1, 0, 0, 0, 0, 0, []),
  (1, .getfield 13, 3, 12, 3, 2, 0, 0, []),
  (4, .bipush (12), 2, 0, 0, 0, (12), 0, []),
  (6, .iload_n 1, 1, 1, 0, 0, 0, 0, []),
  (7, .imul, 1, 0, 0, 0, 0, 0, []),
  (8, .iaload, 1, 0, 0, 0, 0, 0, []),
  (9, .iconst (-1), 1, 0, 0, 0, (-1), 0, []),
  (10, .if_icmp .eq (7), 3, 17, 0, 0, 0, 0, []),
  (13, .iconst (1), 1, 0, 0, 0, (1), 0, []),
  (14, .goto (4), 3, 18, 0, 0, 0, 0, []),
  (17, .iconst (0), 1, 0, 0, 0, (0), 0, [])]
set_option maxRecDepth 100000 in
theorem lX12_hasMark_0_ck : lX12_hasMark_0.all (ra_ck mX12_hasMark 12) = true := by decide +kernel
def nX12_hasMark_0 (N : Nat) (a0 : Nat) (a1 : Int32) (h : ra_H) : Option (Int32 × ra_H) :=
  (ra_fR h 12 a0 3).bind fun x1 =>
  (ra_aI h 0 x1 (((12 : Int32)) * a1)).bind fun x2 =>
  if x2 = ((-1 : Int32)) then
    nX12_hasMark_18 N ((0 : Int32)) h
  else
    nX12_hasMark_18 N ((1 : Int32)) h
def kX12_hasMark_0 (N : Nat) : Nat → List (Option Value) → List Value → ra_H → Option (Int32 × ra_H) := (ra_k1 18 (fun L S h => match L, S with
  | [_, _], [.int b0] => nX12_hasMark_18 N b0 h
  | _, _ => none) ra_k0)
theorem kX12_hasMark_0_ok (N : Nat) : ra_kok 1 mX12_hasMark ra_oI (kX12_hasMark_0 N) := (ra_k1_ok (by
  intro L S h a e
  split at e
  · exact ra_Ru.weak (nX12_hasMark_18_ok N _ _ _ e) trivial
  · cases e) ra_k0_ok)
set_option maxRecDepth 100000 in
theorem nX12_hasMark_0_ok (N : Nat) (a0 : Nat) (a1 : Int32) (h : ra_H) (r : (Int32 × ra_H)) (e : nX12_hasMark_0 N a0 a1 h = some r) : ra_Ru 1 mX12_hasMark 0 [some (.ref a0), some (.int a1)] [] h (ra_oI r) :=
  ra_sound (by omega) rfl ra_rI_ok (kX12_hasMark_0_ok N) (fun m av h h1 e => (ra_c0_ok (ro := ra_oV)) m av h h1 e) (fun m av h x h1 e => (ra_c0_ok (ro := ra_oI)) m av h (x, h1) e) (fun m av h x h1 e => (ra_c0_ok (ro := ra_oJ)) m av h (x, h1) e) (fun m av h x h1 e => (ra_c0_ok (ro := ra_oR)) m av h (x, h1) e) (fun m av h x h1 e => (ra_c0_ok (ro := ra_oN)) m av h (x, h1) e) (fun m av h x h1 e => (ra_c0_ok (ro := ra_oF)) m av h (x, h1) e) 12 lX12_hasMark_0 _ _ _ _ lX12_hasMark_0_ck (show ra_run ra_rI (kX12_hasMark_0 N) ra_c0 ra_c0 ra_c0 ra_c0 ra_c0 ra_c0 12 lX12_hasMark_0 [some (.ref a0), some (.int a1)] [] h = some r from e) _ _ rfl
def fX12_hasMark (N : Nat) (p0 : Nat) (p1 : Int32) (h : ra_H) : Option (Int32 × ra_H) := match ra_isOb h p0 12 with
  | true => (nX12_hasMark_0 N p0 p1 h).bind (fun q => ra_rz q.1 q.2)
  | false => none
set_option maxRecDepth 100000 in
theorem mtX12_hasMark : ra_MT[258]? = some (mX12_hasMark, 1, 1, (1, 13), (8, 67), (0, 89)) := rfl
theorem fX12_hasMark_co (N : Nat) (p0 : Nat) (p1 : Int32) (h : ra_H) (r : (Int32 × ra_H)) (e : fX12_hasMark N p0 p1 h = some r) (D : Nat) (hD : 2 ≤ D) : ra_CO D 258 [.ref p0, .int p1] h (ra_oI r).1 (ra_oI r).2 := by
  have hw : ra_nw2 [.ref p0, .int p1] ≤ 2 := Nat.le_of_ble_eq_true rfl
  have hdb : ∀ v ∈ ([.ref p0, .int p1] : List Value), ∀ x, v ≠ .double x := by
    intro v hv x hx
    simp [hx] at hv
  unfold fX12_hasMark at e
  split at e
  · rename_i ho
    obtain ⟨q, e1, e2⟩ := Option.bind_eq_some_iff.mp e
    obtain ⟨rfl, hz⟩ := ra_rz_of e2
    exact ⟨1, _, mtX12_hasMark, hD, ra_ev_of (by decide) hdb hw hz (ra_Ru.weak (nX12_hasMark_0_ok N p0 p1 h _ e1) ⟨rfl, ⟨rfl, trivial⟩⟩), (fun _ => ⟨_, _, rfl, ra_rcv_of ho (by decide) rfl⟩), (fun h => absurd h (by decide))⟩
  · cases e
/-! RedMarksModel.findSeat(II)V -/
def mX12_findSeat : ra_M := (yX12_findSeat, cX12_findSeat, 13, none)
def tVX12_findSeat (N : Nat) : Nat → List Value → ra_H → Option ra_H := (ra_c1 259 (fun av h => match av with
  | [.ref z0, .int z1, .int z2, .int z3] => fX12_ask N z0 z1 z2 z3 h
  | _ => none) ra_c0)
theorem tVX12_findSeat_ok (N : Nat) : ra_cok 5 ra_oV (tVX12_findSeat N) := (ra_c1_ok (by
  intro av h a e
  split at e
  · exact fX12_ask_co N _ _ _ _ _ _ e 5 (by omega)
  · cases e) ra_c0_ok)
def tIX12_findSeat (N : Nat) : Nat → List Value → ra_H → Option (Int32 × ra_H) := (ra_c1 209 (fun av h => match av with
  | [.long z0, .long z1, .long z2] => fX12_in N z0 z1 z2 h
  | _ => none) (ra_c1 258 (fun av h => match av with
  | [.ref z0, .int z1] => fX12_hasMark N z0 z1 h
  | _ => none) ra_c0))
theorem tIX12_findSeat_ok (N : Nat) : ra_cok 5 ra_oI (tIX12_findSeat N) := (ra_c1_ok (by
  intro av h a e
  split at e
  · exact fX12_in_co N _ _ _ _ _ e 5 (by omega)
  · cases e) (ra_c1_ok (by
  intro av h a e
  split at e
  · exact fX12_hasMark_co N _ _ _ _ e 5 (by omega)
  · cases e) ra_c0_ok))
def lX12_findSeat_131 : List ra_I := [(131, .return_, 1, 0, 0, 0, 0, 0, [])]
set_option maxRecDepth 100000 in
theorem lX12_findSeat_131_ck : lX12_findSeat_131.all (ra_ck mX12_findSeat 12) = true := by decide +kernel
def nX12_findSeat_131 (N : Nat) (h : ra_H) : Option ra_H :=
  some h
def kX12_findSeat_131 (N : Nat) : Nat → List (Option Value) → List Value → ra_H → Option ra_H := ra_k0
theorem kX12_findSeat_131_ok (N : Nat) : ra_kok 5 mX12_findSeat ra_oV (kX12_findSeat_131 N) := ra_k0_ok
set_option maxRecDepth 100000 in
theorem nX12_findSeat_131_ok (N : Nat) (h : ra_H) (r : ra_H) (e : nX12_findSeat_131 N h = some r) : ra_Ru 5 mX12_findSeat 131 [none, none, none, none, none, none, none, none, none, none, none, none, none] [] h (ra_oV r) :=
  ra_sound (by omega) rfl ra_rV_ok (kX12_findSeat_131_ok N) (fun m av h h1 e => (tVX12_findSeat_ok N) m av h h1 e) (fun m av h x h1 e => (tIX12_findSeat_ok N) m av h (x, h1) e) (fun m av h x h1 e => (ra_c0_ok (ro := ra_oJ)) m av h (x, h1) e) (fun m av h x h1 e => (ra_c0_ok (ro := ra_oR)) m av h (x, h1) e) (fun m av h x h1 e => (ra_c0_ok (ro := ra_oN)) m av h (x, h1) e) (fun m av h x h1 e => (ra_c0_ok (ro := ra_oF)) m av h (x, h1) e) 2 lX12_findSeat_131 _ _ _ _ lX12_findSeat_131_ck (show ra_run ra_rV (kX12_findSeat_131 N) (tVX12_findSeat N) (tIX12_findSeat N) ra_c0 ra_c0 ra_c0 ra_c0 2 lX12_findSeat_131 [none, none, none, none, none, none, none, none, none, none, none, none, none] [] h = some r from e) _ _ rfl
def lX12_findSeat_242 : List ra_I := [(242, .bastore, 1, 0, 0, 0, 0, 0, []),
  (243, .return_, 1, 0, 0, 0, 0, 0, [])]
set_option maxRecDepth 100000 in
theorem lX12_findSeat_242_ck : lX12_findSeat_242.all (ra_ck mX12_findSeat 12) = true := by decide +kernel
def nX12_findSeat_242 (N : Nat) (b0 : Nat) (b1 : Int32) (b2 : Int32) (h : ra_H) : Option ra_H :=
  (ra_aW h 2 b0 b1 (vp_nar .boolean b2)).bind fun h1 =>
  some h1
def kX12_findSeat_242 (N : Nat) : Nat → List (Option Value) → List Value → ra_H → Option ra_H := ra_k0
theorem kX12_findSeat_242_ok (N : Nat) : ra_kok 5 mX12_findSeat ra_oV (kX12_findSeat_242 N) := ra_k0_ok
set_option maxRecDepth 100000 in
theorem nX12_findSeat_242_ok (N : Nat) (b0 : Nat) (b1 : Int32) (b2 : Int32) (h : ra_H) (r : ra_H) (e : nX12_findSeat_242 N b0 b1 b2 h = some r) : ra_Ru 5 mX12_findSeat 242 [none, none, none, none, none, none, none, none, none, none, none, none, none] [.int b2, .int b1, .ref b0] h (ra_oV r) :=
  ra_sound (by omega) rfl ra_rV_ok (kX12_findSeat_242_ok N) (fun m av h h1 e => (tVX12_findSeat_ok N) m av h h1 e) (fun m av h x h1 e => (tIX12_findSeat_ok N) m av h (x, h1) e) (fun m av h x h1 e => (ra_c0_ok (ro := ra_oJ)) m av h (x, h1) e) (fun m av h x h1 e => (ra_c0_ok (ro := ra_oR)) m av h (x, h1) e) (fun m av h x h1 e => (ra_c0_ok (ro := ra_oN)) m av h (x, h1) e) (fun m av h x h1 e => (ra_c0_ok (ro := ra_oF)) m av h (x, h1) e) 3 lX12_findSeat_242 _ _ _ _ lX12_findSeat_242_ck (show ra_run ra_rV (kX12_findSeat_242 N) (tVX12_findSeat N) (tIX12_findSeat N) ra_c0 ra_c0 ra_c0 ra_c0 3 lX12_findSeat_242 [none, none, none, none, none, none, none, none, none, none, none, none, none] [.int b2, .int b1, .ref b0] h = some r from e) _ _ rfl
def lX12_findSeat_237 : List ra_I := [(237, .iconst (1), 1, 0, 0, 0, (1), 0, []),
  (238, .goto (4), 3, 242, 0, 0, 0, 0, [])]
set_option maxRecDepth 100000 in
theorem lX12_findSeat_237_ck : lX12_findSeat_237.all (ra_ck mX12_findSeat 12) = true := by decide +kernel
def nX12_findSeat_237 (N : Nat) (b0 : Nat) (b1 : Int32) (h : ra_H) : Option ra_H :=
  nX12_findSeat_242 N b0 b1 ((1 : Int32)) h
def kX12_findSeat_237 (N : Nat) : Nat → List (Option Value) → List Value → ra_H → Option ra_H := (ra_k1 242 (fun L S h => match L, S with
  | [_, _, _, _, _, _, _, _, _, _, _, _, _], [.int b2, .int b1, .ref b0] => nX12_findSeat_242 N b0 b1 b2 h
  | _, _ => none) ra_k0)
theorem kX12_findSeat_237_ok (N : Nat) : ra_kok 5 mX12_findSeat ra_oV (kX12_findSeat_237 N) := (ra_k1_ok (by
  intro L S h a e
  split at e
  · exact ra_Ru.weak (nX12_findSeat_242_ok N _ _ _ _ _ e) trivial
  · cases e) ra_k0_ok)
set_option maxRecDepth 100000 in
theorem nX12_findSeat_237_ok (N : Nat) (b0 : Nat) (b1 : Int32) (h : ra_H) (r : ra_H) (e : nX12_findSeat_237 N b0 b1 h = some r) : ra_Ru 5 mX12_findSeat 237 [none, none, none, none, none, none, none, none, none, none, none, none, none] [.int b1, .ref b0] h (ra_oV r) :=
  ra_sound (by omega) rfl ra_rV_ok (kX12_findSeat_237_ok N) (fun m av h h1 e => (tVX12_findSeat_ok N) m av h h1 e) (fun m av h x h1 e => (tIX12_findSeat_ok N) m av h (x, h1) e) (fun m av h x h1 e => (ra_c0_ok (ro := ra_oJ)) m av h (x, h1) e) (fun m av h x h1 e => (ra_c0_ok (ro := ra_oR)) m av h (x, h1) e) (fun m av h x h1 e => (ra_c0_ok (ro := ra_oN)) m av h (x, h1) e) (fun m av h x h1 e => (ra_c0_ok (ro := ra_oF)) m av h (x, h1) e) 3 lX12_findSeat_237 _ _ _ _ lX12_findSeat_237_ck (show ra_run ra_rV (kX12_findSeat_237 N) (tVX12_findSeat N) (tIX12_findSeat N) ra_c0 ra_c0 ra_c0 ra_c0 3 lX12_findSeat_237 [none, none, none, none, none, none, none, none, none, none, none, none, none] [.int b1, .ref b0] h = some r from e) _ _ rfl
def lX12_findSeat_241 : List ra_I := [(241, .iconst (0), 1, 0, 0, 0, (0), 0, [])]
set_option maxRecDepth 100000 in
theorem lX12_findSeat_241_ck : lX12_findSeat_241.all (ra_ck mX12_findSeat 12) = true := by decide +kernel
def nX12_findSeat_241 (N : Nat) (b0 : Nat) (b1 : Int32) (h : ra_H) : Option ra_H :=
  nX12_findSeat_242 N b0 b1 ((0 : Int32)) h
def kX12_findSeat_241 (N : Nat) : Nat → List (Option Value) → List Value → ra_H → Option ra_H := (ra_k1 242 (fun L S h => match L, S with
  | [_, _, _, _, _, _, _, _, _, _, _, _, _], [.int b2, .int b1, .ref b0] => nX12_findSeat_242 N b0 b1 b2 h
  | _, _ => none) ra_k0)
theorem kX12_findSeat_241_ok (N : Nat) : ra_kok 5 mX12_findSeat ra_oV (kX12_findSeat_241 N) := (ra_k1_ok (by
  intro L S h a e
  split at e
  · exact ra_Ru.weak (nX12_findSeat_242_ok N _ _ _ _ _ e) trivial
  · cases e) ra_k0_ok)
set_option maxRecDepth 100000 in
theorem nX12_findSeat_241_ok (N : Nat) (b0 : Nat) (b1 : Int32) (h : ra_H) (r : ra_H) (e : nX12_findSeat_241 N b0 b1 h = some r) : ra_Ru 5 mX12_findSeat 241 [none, none, none, none, none, none, none, none, none, none, none, none, none] [.int b1, .ref b0] h (ra_oV r) :=
  ra_sound (by omega) rfl ra_rV_ok (kX12_findSeat_241_ok N) (fun m av h h1 e => (tVX12_findSeat_ok N) m av h h1 e) (fun m av h x h1 e => (tIX12_findSeat_ok N) m av h (x, h1) e) (fun m av h x h1 e => (ra_c0_ok (ro := ra_oJ)) m av h (x, h1) e) (fun m av h x h1 e => (ra_c0_ok (ro := ra_oR)) m av h (x, h1) e) (fun m av h x h1 e => (ra_c0_ok (ro := ra_oN)) m av h (x, h1) e) (fun m av h x h1 e => (ra_c0_ok (ro := ra_oF)) m av h (x, h1) e) 2 lX12_findSeat_241 _ _ _ _ lX12_findSeat_241_ck (show ra_run ra_rV (kX12_findSeat_241 N) (tVX12_findSeat N) (tIX12_findSeat N) ra_c0 ra_c0 ra_c0 ra_c0 2 lX12_findSeat_241 [none, none, none, none, none, none, none, none, none, none, none, none, none] [.int b1, .ref b0] h = some r from e) _ _ rfl
def lX12_findSeat_93 : List ra_I := [(93, .lstore 8, 2, 8, 0, 0, 0, 0, []),
  (95, .lload 4, 2, 4, 0, 0, 0, 0, []),
  (97, .lconst 0, 1, 0, 0, 0, 0, 0, []),
  (98, .ldc2_w 161, 3, 0, 0, 0, 0, (8), []),
  (101, .invokestatic 153, 3, 209, 3, 1, 0, 0, []),
  (104, .ifCond .eq (27), 3, 131, 0, 0, 0, 0, []),
  (107, .lload 6, 2, 6, 0, 0, 0, 0, []),
  (109, .lconst 0, 1, 0, 0, 0, 0, 0, []),
  (110, .ldc2_w 165, 3, 0, 0, 0, 0, (5), []),
  (113, .invokestatic 153, 3, 209, 3, 1, 0, 0, []),
  (116, .ifCond .eq (15), 3, 131, 0, 0, 0, 0, []),
  (119, .lload 8, 2, 8, 0, 0, 0, 0, []),
  (121, .lconst 1, 1, 0, 0, 0, 0, 1, []),
  (122, .ldc2_w 163, 3, 0, 0, 0, 0, (99), []),
  (125, .invokestatic 153, 3, 209, 3, 1, 0, 0, []),
  (128, .ifCond .ne (4), 3, 132, 0, 0, 0, 0, []),
  (132, .bipush (6), 2, 0, 0, 0, (6), 0, []),
  (134, .lload 4, 2, 4, 0, 0, 0, 0, []),
  (136, .l2i, 1, 0, 0, 0, 0, 0, []),
  (137, .imul, 1, 0, 0, 0, 0, 0, []),
  (138, .lload 6, 2, 6, 0, 0, 0, 0, []),
  (140, .l2i, 1, 0, 0, 0, 0, 0, []),
  (141, .iadd, 1, 0, 0, 0, 0, 0, []),
  (142, .istore 10, 2, 10, 0, 0, 0, 0, []),
  (144, .aload_n 0, 1, 0, 0, 0, 0, 0, []),
  (145, .getfield 92, 3, 12, 35, 2, 0, 0, []),
  (148, .iload_n 3, 1, 3, 0, 0, 0, 0, []),
  (149, .bipush (100), 2, 0, 0, 0, (100), 0, []),
  (151, .iload 10, 2, 10, 0, 0, 0, 0, []),
  (153, .imul, 1, 0, 0, 0, 0, 0, []),
  (154, .lload 8, 2, 8, 0, 0, 0, 0, []),
  (156, .l2i, 1, 0, 0, 0, 0, 0, []),
  (157, .iadd, 1, 0, 0, 0, 0, 0, []),
  (158, .iastore, 1, 0, 0, 0, 0, 0, []),
  (159, .aload_n 0, 1, 0, 0, 0, 0, 0, []),
  (160, .getfield 13, 3, 12, 3, 2, 0, 0, []),
  (163, .sipush (490), 3, 0, 0, 0, (490), 0, []),
  (166, .lload 4, 2, 4, 0, 0, 0, 0, []),
  (168, .l2i, 1, 0, 0, 0, 0, 0, []),
  (169, .iadd, 1, 0, 0, 0, 0, 0, []),
  (170, .iaload, 1, 0, 0, 0, 0, 0, []),
  (171, .istore 11, 2, 11, 0, 0, 0, 0, []),
  (173, .aload_n 0, 1, 0, 0, 0, 0, 0, []),
  (174, .getfield 13, 3, 12, 3, 2, 0, 0, []),
  (177, .bipush (12), 2, 0, 0, 0, (12), 0, []),
  (179, .iload_n 2, 1, 2, 0, 0, 0, 0, []),
  (180, .imul, 1, 0, 0, 0, 0, 0, []),
  (181, .iconst (5), 1, 0, 0, 0, (5), 0, []),
  (182, .iadd, 1, 0, 0, 0, 0, 0, []),
  (183, .iaload, 1, 0, 0, 0, 0, 0, []),
  (184, .istore 12, 2, 12, 0, 0, 0, 0, []),
  (186, .aload_n 0, 1, 0, 0, 0, 0, 0, []),
  (187, .getfield 95, 3, 12, 36, 2, 0, 0, []),
  (190, .iload_n 3, 1, 3, 0, 0, 0, 0, []),
  (191, .aload_n 0, 1, 0, 0, 0, 0, 0, []),
  (192, .getfield 13, 3, 12, 3, 2, 0, 0, []),
  (195, .bipush (12), 2, 0, 0, 0, (12), 0, []),
  (197, .iload_n 2, 1, 2, 0, 0, 0, 0, []),
  (198, .imul, 1, 0, 0, 0, 0, 0, []),
  (199, .iconst (4), 1, 0, 0, 0, (4), 0, []),
  (200, .iadd, 1, 0, 0, 0, 0, 0, []),
  (201, .iaload, 1, 0, 0, 0, 0, 0, []),
  (202, .aload_n 0, 1, 0, 0, 0, 0, 0, []),
  (203, .getfield 13, 3, 12, 3, 2, 0, 0, []),
  (206, .sipush (500), 3, 0, 0, 0, (500), 0, []),
  (209, .iconst (2), 1, 0, 0, 0, (2), 0, []),
  (210, .iload 10, 2, 10, 0, 0, 0, 0, []),
  (212, .imul, 1, 0, 0, 0, 0, 0, []),
  (213, .iadd, 1, 0, 0, 0, 0, 0, []),
  (214, .iconst (1), 1, 0, 0, 0, (1), 0, []),
  (215, .iadd, 1, 0, 0, 0, 0, 0, []),
  (216, .iaload, 1, 0, 0, 0, 0, 0, []),
  (217, .if_icmp .gt (24), 3, 241, 0, 0, 0, 0, []),
  (220, .iload 11, 2, 11, 0, 0, 0, 0, []),
  (222, .ifCond .eq (15), 3, 237, 0, 0, 0, 0, []),
  (225, .iload 12, 2, 12, 0, 0, 0, 0, []),
  (227, .ifCond .eq (10), 3, 237, 0, 0, 0, 0, []),
  (230, .iload 11, 2, 11, 0, 0, 0, 0, []),
  (232, .iload 12, 2, 12, 0, 0, 0, 0, []),
  (234, .if_icmp .ne (7), 3, 241, 0, 0, 0, 0, [])]
set_option maxRecDepth 100000 in
theorem lX12_findSeat_93_ck : lX12_findSeat_93.all (ra_ck mX12_findSeat 12) = true := by decide +kernel
def nX12_findSeat_93 (N : Nat) (a0 : Nat) (a2 : Int32) (a3 : Int32) (a4 : Int64) (a6 : Int64) (b0 : Int64) (h : ra_H) : Option ra_H :=
  (fX12_in N a4 ((0 : Int64)) ((8 : Int64)) h).bind fun q1 =>
  if q1.1 = 0 then
    nX12_findSeat_131 N q1.2
  else
    (fX12_in N a6 ((0 : Int64)) ((5 : Int64)) q1.2).bind fun q2 =>
    if q2.1 = 0 then
      nX12_findSeat_131 N q2.2
    else
      (fX12_in N b0 ((1 : Int64)) ((99 : Int64)) q2.2).bind fun q3 =>
      if q3.1 = 0 then
        nX12_findSeat_131 N q3.2
      else
        let y4 := (((6 : Int32)) * (Int64.toInt32 a4)) + (Int64.toInt32 a6)
        (ra_fR q3.2 12 a0 35).bind fun x5 =>
        (ra_aW q3.2 0 x5 a3 ((((100 : Int32)) * y4) + (Int64.toInt32 b0))).bind fun h6 =>
        (ra_fR h6 12 a0 3).bind fun x7 =>
        (ra_aI h6 0 x7 (((490 : Int32)) + (Int64.toInt32 a4))).bind fun x8 =>
        (ra_fR h6 12 a0 3).bind fun x9 =>
        (ra_aI h6 0 x9 ((((12 : Int32)) * a2) + ((5 : Int32)))).bind fun x10 =>
        (ra_fR h6 12 a0 36).bind fun x11 =>
        (ra_fR h6 12 a0 3).bind fun x12 =>
        (ra_aI h6 0 x12 ((((12 : Int32)) * a2) + ((4 : Int32)))).bind fun x13 =>
        (ra_fR h6 12 a0 3).bind fun x14 =>
        (ra_aI h6 0 x14 ((((500 : Int32)) + (((2 : Int32)) * y4)) + ((1 : Int32)))).bind fun x15 =>
        if x13 ≤ x15 then
          if x8 = 0 then
            nX12_findSeat_237 N x11 a3 h6
          else
            if x10 = 0 then
              nX12_findSeat_237 N x11 a3 h6
            else
              if x8 = x10 then
                nX12_findSeat_237 N x11 a3 h6
              else
                nX12_findSeat_241 N x11 a3 h6
        else
          nX12_findSeat_241 N x11 a3 h6
def kX12_findSeat_93 (N : Nat) : Nat → List (Option Value) → List Value → ra_H → Option ra_H := (ra_k1 131 (fun L S h => match L, S with
  | [_, _, _, _, _, _, _, _, _, _, _, _, _], [] => nX12_findSeat_131 N h
  | _, _ => none) (ra_k1 237 (fun L S h => match L, S with
  | [_, _, _, _, _, _, _, _, _, _, _, _, _], [.int b1, .ref b0] => nX12_findSeat_237 N b0 b1 h
  | _, _ => none) (ra_k1 241 (fun L S h => match L, S with
  | [_, _, _, _, _, _, _, _, _, _, _, _, _], [.int b1, .ref b0] => nX12_findSeat_241 N b0 b1 h
  | _, _ => none) ra_k0)))
theorem kX12_findSeat_93_ok (N : Nat) : ra_kok 5 mX12_findSeat ra_oV (kX12_findSeat_93 N) := (ra_k1_ok (by
  intro L S h a e
  split at e
  · exact ra_Ru.weak (nX12_findSeat_131_ok N _ _ e) trivial
  · cases e) (ra_k1_ok (by
  intro L S h a e
  split at e
  · exact ra_Ru.weak (nX12_findSeat_237_ok N _ _ _ _ e) trivial
  · cases e) (ra_k1_ok (by
  intro L S h a e
  split at e
  · exact ra_Ru.weak (nX12_findSeat_241_ok N _ _ _ _ e) trivial
  · cases e) ra_k0_ok)))
set_option maxRecDepth 100000 in
theorem nX12_findSeat_93_ok (N : Nat) (a0 : Nat) (a2 : Int32) (a3 : Int32) (a4 : Int64) (a6 : Int64) (b0 : Int64) (h : ra_H) (r : ra_H) (e : nX12_findSeat_93 N a0 a2 a3 a4 a6 b0 h = some r) : ra_Ru 5 mX12_findSeat 93 [some (.ref a0), none, some (.int a2), some (.int a3), some (.long a4), none, some (.long a6), none, none, none, none, none, none] [.long b0] h (ra_oV r) :=
  ra_sound (by omega) rfl ra_rV_ok (kX12_findSeat_93_ok N) (fun m av h h1 e => (tVX12_findSeat_ok N) m av h h1 e) (fun m av h x h1 e => (tIX12_findSeat_ok N) m av h (x, h1) e) (fun m av h x h1 e => (ra_c0_ok (ro := ra_oJ)) m av h (x, h1) e) (fun m av h x h1 e => (ra_c0_ok (ro := ra_oR)) m av h (x, h1) e) (fun m av h x h1 e => (ra_c0_ok (ro := ra_oN)) m av h (x, h1) e) (fun m av h x h1 e => (ra_c0_ok (ro := ra_oF)) m av h (x, h1) e) 81 lX12_findSeat_93 _ _ _ _ lX12_findSeat_93_ck (show ra_run ra_rV (kX12_findSeat_93 N) (tVX12_findSeat N) (tIX12_findSeat N) ra_c0 ra_c0 ra_c0 ra_c0 81 lX12_findSeat_93 [some (.ref a0), none, some (.int a2), some (.int a3), some (.long a4), none, some (.long a6), none, none, none, none, none, none] [.long b0] h = some r from e) _ _ rfl
def lX12_findSeat_54 : List ra_I := [(54, .lstore 4, 2, 4, 0, 0, 0, 0, []),
  (56, .aload_n 0, 1, 0, 0, 0, 0, 0, []),
  (57, .iload_n 1, 1, 1, 0, 0, 0, 0, []),
  (58, .iload_n 2, 1, 2, 0, 0, 0, 0, []),
  (59, .iconst (1), 1, 0, 0, 0, (1), 0, []),
  (60, .invokevirtual 396, 3, 259, 4, 0, 0, 0, []),
  (63, .aload_n 0, 1, 0, 0, 0, 0, 0, []),
  (64, .getfield 387, 3, 12, 34, 1, 0, 0, []),
  (67, .lstore 6, 2, 6, 0, 0, 0, 0, []),
  (69, .aload_n 0, 1, 0, 0, 0, 0, 0, []),
  (70, .iload_n 1, 1, 1, 0, 0, 0, 0, []),
  (71, .iload_n 2, 1, 2, 0, 0, 0, 0, []),
  (72, .iconst (2), 1, 0, 0, 0, (2), 0, []),
  (73, .invokevirtual 396, 3, 259, 4, 0, 0, 0, []),
  (76, .aload_n 0, 1, 0, 0, 0, 0, 0, []),
  (77, .getfield 384, 3, 12, 33, 0, 0, 0, []),
  (80, .ifCond .eq (10), 3, 90, 0, 0, 0, 0, []),
  (83, .aload_n 0, 1, 0, 0, 0, 0, 0, []),
  (84, .getfield 387, 3, 12, 34, 1, 0, 0, []),
  (87, .goto (6), 3, 93, 0, 0, 0, 0, []),
  (90, .ldc2_w 252, 3, 0, 0, 0, 0, (-1), [])]
set_option maxRecDepth 100000 in
theorem lX12_findSeat_54_ck : lX12_findSeat_54.all (ra_ck mX12_findSeat 12) = true := by decide +kernel
def nX12_findSeat_54 (N : Nat) (a0 : Nat) (a1 : Int32) (a2 : Int32) (a3 : Int32) (b0 : Int64) (h : ra_H) : Option ra_H :=
  (fX12_ask N a0 a1 a2 ((1 : Int32)) h).bind fun h1 =>
  (ra_fJ h1 12 a0 34).bind fun x2 =>
  (fX12_ask N a0 a1 a2 ((2 : Int32)) h1).bind fun h3 =>
  (ra_fI h3 12 a0 33).bind fun x4 =>
  if x4 = 0 then
    nX12_findSeat_93 N a0 a2 a3 b0 x2 ((-1 : Int64)) h3
  else
    (ra_fJ h3 12 a0 34).bind fun x5 =>
    nX12_findSeat_93 N a0 a2 a3 b0 x2 x5 h3
def kX12_findSeat_54 (N : Nat) : Nat → List (Option Value) → List Value → ra_H → Option ra_H := (ra_k1 93 (fun L S h => match L, S with
  | [some (.ref a0), _, some (.int a2), some (.int a3), some (.long a4), _, some (.long a6), _, _, _, _, _, _], [.long b0] => nX12_findSeat_93 N a0 a2 a3 a4 a6 b0 h
  | _, _ => none) ra_k0)
theorem kX12_findSeat_54_ok (N : Nat) : ra_kok 5 mX12_findSeat ra_oV (kX12_findSeat_54 N) := (ra_k1_ok (by
  intro L S h a e
  split at e
  · exact ra_Ru.weak (nX12_findSeat_93_ok N _ _ _ _ _ _ _ _ e) ⟨rfl, ⟨rfl, ⟨rfl, ⟨rfl, ⟨rfl, trivial⟩⟩⟩⟩⟩
  · cases e) ra_k0_ok)
set_option maxRecDepth 100000 in
theorem nX12_findSeat_54_ok (N : Nat) (a0 : Nat) (a1 : Int32) (a2 : Int32) (a3 : Int32) (b0 : Int64) (h : ra_H) (r : ra_H) (e : nX12_findSeat_54 N a0 a1 a2 a3 b0 h = some r) : ra_Ru 5 mX12_findSeat 54 [some (.ref a0), some (.int a1), some (.int a2), some (.int a3), none, none, none, none, none, none, none, none, none] [.long b0] h (ra_oV r) :=
  ra_sound (by omega) rfl ra_rV_ok (kX12_findSeat_54_ok N) (fun m av h h1 e => (tVX12_findSeat_ok N) m av h h1 e) (fun m av h x h1 e => (tIX12_findSeat_ok N) m av h (x, h1) e) (fun m av h x h1 e => (ra_c0_ok (ro := ra_oJ)) m av h (x, h1) e) (fun m av h x h1 e => (ra_c0_ok (ro := ra_oR)) m av h (x, h1) e) (fun m av h x h1 e => (ra_c0_ok (ro := ra_oN)) m av h (x, h1) e) (fun m av h x h1 e => (ra_c0_ok (ro := ra_oF)) m av h (x, h1) e) 22 lX12_findSeat_54 _ _ _ _ lX12_findSeat_54_ck (show ra_run ra_rV (kX12_findSeat_54 N) (tVX12_findSeat N) (tIX12_findSeat N) ra_c0 ra_c0 ra_c0 ra_c0 22 lX12_findSeat_54 [some (.ref a0), some (.int a1), some (.int a2), some (.int a3), none, none, none, none, none, none, none, none, none] [.long b0] h = some r from e) _ _ rfl
def lX12_findSeat_0 : List ra_I := [(0, .bipush (40), 2, 0, 0, 0, (40), 0, []),
  (2, .iload_n 1, 1, 1, 0, 0, 0, 0, []),
  (3, .imul, 1, 0, 0, 0, 0, 0, []),
  (4, .iload_n 2, 1, 2, 0, 0, 0, 0, []),
  (5, .iadd, 1, 0, 0, 0, 0, 0, []),
  (6, .istore_n 3, 1, 3, 0, 0, 0, 0, []),
  (7, .aload_n 0, 1, 0, 0, 0, 0, 0, []),
  (8, .getfield 92, 3, 12, 35, 2, 0, 0, []),
  (11, .iload_n 3, 1, 3, 0, 0, 0, 0, []),
  (12, .iconst (-1), 1, 0, 0, 0, (-1), 0, []),
  (13, .iastore, 1, 0, 0, 0, 0, 0, []),
  (14, .aload_n 0, 1, 0, 0, 0, 0, 0, []),
  (15, .getfield 95, 3, 12, 36, 2, 0, 0, []),
  (18, .iload_n 3, 1, 3, 0, 0, 0, 0, []),
  (19, .iconst (0), 1, 0, 0, 0, (0), 0, []),
  (20, .bastore, 1, 0, 0, 0, 0, 0, []),
  (21, .aload_n 0, 1, 0, 0, 0, 0, 0, []),
  (22, .iload_n 2, 1, 2, 0, 0, 0, 0, []),
  (23, .invokevirtual 393, 3, 258, 2, 1, 0, 0, []),
  (26, .ifCond .ne (4), 3, 30, 0, 0, 0, 0, []),
  (29, .return_, 1, 0, 0, 0, 0, 0, []),
  (30, .aload_n 0, 1, 0, 0, 0, 0, 0, []),
  (31, .iload_n 1, 1, 1, 0, 0, 0, 0, []),
  (32, .iload_n 2, 1, 2, 0, 0, 0, 0, []),
  (33, .iconst (0), 1, 0, 0, 0, (0), 0, []),
  (34, .invokevirtual 396, 3, 259, 4, 0, 0, 0, []),
  (37, .aload_n 0, 1, 0, 0, 0, 0, 0, []),
  (38, .getfield 384, 3, 12, 33, 0, 0, 0, []),
  (41, .ifCond .eq (10), 3, 51, 0, 0, 0, 0, []),
  (44, .aload_n 0, 1, 0, 0, 0, 0, 0, []),
  (45, .getfield 387, 3, 12, 34, 1, 0, 0, []),
  (48, .goto (6), 3, 54, 0, 0, 0, 0, []),
  (51, .ldc2_w 252, 3, 0, 0, 0, 0, (-1), [])]
set_option maxRecDepth 100000 in
theorem lX12_findSeat_0_ck : lX12_findSeat_0.all (ra_ck mX12_findSeat 12) = true := by decide +kernel
def nX12_findSeat_0 (N : Nat) (a0 : Nat) (a1 : Int32) (a2 : Int32) (h : ra_H) : Option ra_H :=
  let y1 := (((40 : Int32)) * a1) + a2
  (ra_fR h 12 a0 35).bind fun x2 =>
  (ra_aW h 0 x2 y1 ((-1 : Int32))).bind fun h3 =>
  (ra_fR h3 12 a0 36).bind fun x4 =>
  (ra_aW h3 2 x4 y1 (vp_nar .boolean ((0 : Int32)))).bind fun h5 =>
  (fX12_hasMark N a0 a2 h5).bind fun q6 =>
  if q6.1 = 0 then
    some q6.2
  else
    (fX12_ask N a0 a1 a2 ((0 : Int32)) q6.2).bind fun h7 =>
    (ra_fI h7 12 a0 33).bind fun x8 =>
    if x8 = 0 then
      nX12_findSeat_54 N a0 a1 a2 y1 ((-1 : Int64)) h7
    else
      (ra_fJ h7 12 a0 34).bind fun x9 =>
      nX12_findSeat_54 N a0 a1 a2 y1 x9 h7
def kX12_findSeat_0 (N : Nat) : Nat → List (Option Value) → List Value → ra_H → Option ra_H := (ra_k1 54 (fun L S h => match L, S with
  | [some (.ref a0), some (.int a1), some (.int a2), some (.int a3), _, _, _, _, _, _, _, _, _], [.long b0] => nX12_findSeat_54 N a0 a1 a2 a3 b0 h
  | _, _ => none) ra_k0)
theorem kX12_findSeat_0_ok (N : Nat) : ra_kok 5 mX12_findSeat ra_oV (kX12_findSeat_0 N) := (ra_k1_ok (by
  intro L S h a e
  split at e
  · exact ra_Ru.weak (nX12_findSeat_54_ok N _ _ _ _ _ _ _ e) ⟨rfl, ⟨rfl, ⟨rfl, ⟨rfl, trivial⟩⟩⟩⟩
  · cases e) ra_k0_ok)
set_option maxRecDepth 100000 in
theorem nX12_findSeat_0_ok (N : Nat) (a0 : Nat) (a1 : Int32) (a2 : Int32) (h : ra_H) (r : ra_H) (e : nX12_findSeat_0 N a0 a1 a2 h = some r) : ra_Ru 5 mX12_findSeat 0 [some (.ref a0), some (.int a1), some (.int a2), none, none, none, none, none, none, none, none, none, none] [] h (ra_oV r) :=
  ra_sound (by omega) rfl ra_rV_ok (kX12_findSeat_0_ok N) (fun m av h h1 e => (tVX12_findSeat_ok N) m av h h1 e) (fun m av h x h1 e => (tIX12_findSeat_ok N) m av h (x, h1) e) (fun m av h x h1 e => (ra_c0_ok (ro := ra_oJ)) m av h (x, h1) e) (fun m av h x h1 e => (ra_c0_ok (ro := ra_oR)) m av h (x, h1) e) (fun m av h x h1 e => (ra_c0_ok (ro := ra_oN)) m av h (x, h1) e) (fun m av h x h1 e => (ra_c0_ok (ro := ra_oF)) m av h (x, h1) e) 34 lX12_findSeat_0 _ _ _ _ lX12_findSeat_0_ck (show ra_run ra_rV (kX12_findSeat_0 N) (tVX12_findSeat N) (tIX12_findSeat N) ra_c0 ra_c0 ra_c0 ra_c0 34 lX12_findSeat_0 [some (.ref a0), some (.int a1), some (.int a2), none, none, none, none, none, none, none, none, none, none] [] h = some r from e) _ _ rfl
def fX12_findSeat (N : Nat) (p0 : Nat) (p1 : Int32) (p2 : Int32) (h : ra_H) : Option ra_H := match ra_isOb h p0 12 with
  | true => nX12_findSeat_0 N p0 p1 p2 h
  | false => none
set_option maxRecDepth 100000 in
theorem mtX12_findSeat : ra_MT[257]? = some (mX12_findSeat, 1, 2, (1, 13), (8, 63), (0, 88)) := rfl
theorem fX12_findSeat_co (N : Nat) (p0 : Nat) (p1 : Int32) (p2 : Int32) (h : ra_H) (r : ra_H) (e : fX12_findSeat N p0 p1 p2 h = some r) (D : Nat) (hD : 6 ≤ D) : ra_CO D 257 [.ref p0, .int p1, .int p2] h (ra_oV r).1 (ra_oV r).2 := by
  have hw : ra_nw2 [.ref p0, .int p1, .int p2] ≤ 13 := Nat.le_of_ble_eq_true rfl
  have hdb : ∀ v ∈ ([.ref p0, .int p1, .int p2] : List Value), ∀ x, v ≠ .double x := by
    intro v hv x hx
    simp [hx] at hv
  unfold fX12_findSeat at e
  split at e
  · rename_i ho
    have e1 := e
    exact ⟨5, _, mtX12_findSeat, hD, ra_ev_of (by decide) hdb hw trivial (ra_Ru.weak (nX12_findSeat_0_ok N p0 p1 p2 h _ e1) ⟨rfl, ⟨rfl, ⟨rfl, trivial⟩⟩⟩), (fun _ => ⟨_, _, rfl, ra_rcv_of ho (by decide) rfl⟩), (fun h => absurd h (by decide))⟩
  · cases e
/-! RedMarksModel.findSeats()V -/
def mX12_findSeats : ra_M := (yX12_findSeats, cX12_findSeats, 3, none)
def tVX12_findSeats (N : Nat) : Nat → List Value → ra_H → Option ra_H := (ra_c1 257 (fun av h => match av with
  | [.ref z0, .int z1, .int z2] => fX12_findSeat N z0 z1 z2 h
  | _ => none) ra_c0)
theorem tVX12_findSeats_ok (N : Nat) : ra_cok 6 ra_oV (tVX12_findSeats N) := (ra_c1_ok (by
  intro av h a e
  split at e
  · exact fX12_findSeat_co N _ _ _ _ _ e 6 (by omega)
  · cases e) ra_c0_ok)
def lX12_findSeats_16 : List ra_I := [(16, .iload_n 2, 1, 2, 0, 0, 0, 0, []),
  (17, .aload_n 0, 1, 0, 0, 0, 0, 0, []),
  (18, .getfield 13, 3, 12, 3, 2, 0, 0, []),
  (21, .sipush (480), 3, 0, 0, 0, (480), 0, []),
  (24, .iaload, 1, 0, 0, 0, 0, 0, []),
  (25, .if_icmp .ge (15), 3, 40, 0, 0, 0, 0, []),
  (28, .aload_n 0, 1, 0, 0, 0, 0, 0, []),
  (29, .iload_n 1, 1, 1, 0, 0, 0, 0, []),
  (30, .iload_n 2, 1, 2, 0, 0, 0, 0, []),
  (31, .invokevirtual 400, 3, 257, 3, 0, 0, 0, []),
  (34, .iinc 2 (1), 3, 2, 0, 0, (1), 0, []),
  (37, .goto (-21), 3, 16, 0, 0, 0, 0, []),
  (40, .iinc 1 (1), 3, 1, 0, 0, (1), 0, []),
  (43, .goto (-41), 3, 2, 0, 0, 0, 0, [])]
set_option maxRecDepth 100000 in
theorem lX12_findSeats_16_ck : lX12_findSeats_16.all (ra_ck mX12_findSeats 12) = true := by decide +kernel
def nX12_findSeats_16 (N : Nat) (c2 : Nat → Int32 → ra_H → Option ra_H) : Nat → Nat → Int32 → Int32 → ra_H → Option ra_H
  | 0, _, _, _, _ => none
  | n + 1, a0, a1, a2, h =>
  (ra_fR h 12 a0 3).bind fun x1 =>
  (ra_aI h 0 x1 ((480 : Int32))).bind fun x2 =>
  if a2 < x2 then
    (fX12_findSeat N a0 a1 a2 h).bind fun h4 =>
    let y5 := a2 + (1 : Int32)
    nX12_findSeats_16 N c2 n a0 a1 y5 h4
  else
    let y3 := a1 + (1 : Int32)
    c2 a0 y3 h
def kX12_findSeats_16 (N : Nat) (c2 : Nat → Int32 → ra_H → Option ra_H) (cs : Nat → Int32 → Int32 → ra_H → Option ra_H) : Nat → List (Option Value) → List Value → ra_H → Option ra_H := (ra_k1 2 (fun L S h => match L, S with
  | [some (.ref a0), some (.int a1), _], [] => c2 a0 a1 h
  | _, _ => none) (ra_k1 16 (fun L S h => match L, S with
  | [some (.ref a0), some (.int a1), some (.int a2)], [] => cs a0 a1 a2 h
  | _, _ => none) ra_k0))
theorem kX12_findSeats_16_ok (N : Nat) (c2 : Nat → Int32 → ra_H → Option ra_H) (hc2 : ∀ a0 a1 h r, c2 a0 a1 h = some r → ra_Ru 6 mX12_findSeats 2 [some (.ref a0), some (.int a1), none] [] h (ra_oV r)) (cs : Nat → Int32 → Int32 → ra_H → Option ra_H) (hcs : ∀ a0 a1 a2 h r, cs a0 a1 a2 h = some r → ra_Ru 6 mX12_findSeats 16 [some (.ref a0), some (.int a1), some (.int a2)] [] h (ra_oV r)) : ra_kok 6 mX12_findSeats ra_oV (kX12_findSeats_16 N c2 cs) := (ra_k1_ok (by
  intro L S h a e
  split at e
  · exact ra_Ru.weak (hc2 _ _ _ _ e) ⟨rfl, ⟨rfl, trivial⟩⟩
  · cases e) (ra_k1_ok (by
  intro L S h a e
  split at e
  · exact ra_Ru.weak (hcs _ _ _ _ _ e) ⟨rfl, ⟨rfl, ⟨rfl, trivial⟩⟩⟩
  · cases e) ra_k0_ok))
set_option maxRecDepth 100000 in
theorem nX12_findSeats_16_ok (N : Nat) (c2 : Nat → Int32 → ra_H → Option ra_H) (hc2 : ∀ a0 a1 h r, c2 a0 a1 h = some r → ra_Ru 6 mX12_findSeats 2 [some (.ref a0), some (.int a1), none] [] h (ra_oV r)) : ∀ n a0 a1 a2 h r, nX12_findSeats_16 N c2 n a0 a1 a2 h = some r → ra_Ru 6 mX12_findSeats 16 [some (.ref a0), some (.int a1), some (.int a2)] [] h (ra_oV r) := by
  intro n
  induction n with
  | zero => intro a0 a1 a2 h r e; cases e
  | succ n ih =>
    intro a0 a1 a2 h r e
    exact ra_sound (by omega) rfl ra_rV_ok (kX12_findSeats_16_ok N c2 hc2 (nX12_findSeats_16 N c2 n) ih) (fun m av h h1 e => (tVX12_findSeats_ok N) m av h h1 e) (fun m av h x h1 e => (ra_c0_ok (ro := ra_oI)) m av h (x, h1) e) (fun m av h x h1 e => (ra_c0_ok (ro := ra_oJ)) m av h (x, h1) e) (fun m av h x h1 e => (ra_c0_ok (ro := ra_oR)) m av h (x, h1) e) (fun m av h x h1 e => (ra_c0_ok (ro := ra_oN)) m av h (x, h1) e) (fun m av h x h1 e => (ra_c0_ok (ro := ra_oF)) m av h (x, h1) e) 15 lX12_findSeats_16 _ _ _ _ lX12_findSeats_16_ck (show ra_run ra_rV (kX12_findSeats_16 N c2 (nX12_findSeats_16 N c2 n)) (tVX12_findSeats N) ra_c0 ra_c0 ra_c0 ra_c0 ra_c0 15 lX12_findSeats_16 [some (.ref a0), some (.int a1), some (.int a2)] [] h = some r from e) _ _ rfl
def lX12_findSeats_2 : List ra_I := [(2, .iload_n 1, 1, 1, 0, 0, 0, 0, []),
  (3, .aload_n 0, 1, 0, 0, 0, 0, 0, []),
  (4, .getfield 13, 3, 12, 3, 2, 0, 0, []),
  (7, .sipush (481), 3, 0, 0, 0, (481), 0, []),
  (10, .iaload, 1, 0, 0, 0, 0, 0, []),
  (11, .if_icmp .ge (35), 3, 46, 0, 0, 0, 0, []),
  (14, .iconst (0), 1, 0, 0, 0, (0), 0, []),
  (15, .istore_n 2, 1, 2, 0, 0, 0, 0, []),
  (46, .return_, 1, 0, 0, 0, 0, 0, [])]
set_option maxRecDepth 100000 in
theorem lX12_findSeats_2_ck : lX12_findSeats_2.all (ra_ck mX12_findSeats 12) = true := by decide +kernel
def nX12_findSeats_2 (N : Nat) : Nat → Nat → Int32 → ra_H → Option ra_H
  | 0, _, _, _ => none
  | n + 1, a0, a1, h =>
  (ra_fR h 12 a0 3).bind fun x1 =>
  (ra_aI h 0 x1 ((481 : Int32))).bind fun x2 =>
  if a1 < x2 then
    nX12_findSeats_16 N (nX12_findSeats_2 N n) N a0 a1 ((0 : Int32)) h
  else
    some h
def kX12_findSeats_2 (N : Nat) (cs : Nat → Int32 → ra_H → Option ra_H) : Nat → List (Option Value) → List Value → ra_H → Option ra_H := (ra_k1 16 (fun L S h => match L, S with
  | [some (.ref a0), some (.int a1), some (.int a2)], [] => nX12_findSeats_16 N cs N a0 a1 a2 h
  | _, _ => none) ra_k0)
theorem kX12_findSeats_2_ok (N : Nat) (cs : Nat → Int32 → ra_H → Option ra_H) (hcs : ∀ a0 a1 h r, cs a0 a1 h = some r → ra_Ru 6 mX12_findSeats 2 [some (.ref a0), some (.int a1), none] [] h (ra_oV r)) : ra_kok 6 mX12_findSeats ra_oV (kX12_findSeats_2 N cs) := (ra_k1_ok (by
  intro L S h a e
  split at e
  · exact ra_Ru.weak (nX12_findSeats_16_ok N cs hcs N _ _ _ _ _ e) ⟨rfl, ⟨rfl, ⟨rfl, trivial⟩⟩⟩
  · cases e) ra_k0_ok)
set_option maxRecDepth 100000 in
theorem nX12_findSeats_2_ok (N : Nat) : ∀ n a0 a1 h r, nX12_findSeats_2 N n a0 a1 h = some r → ra_Ru 6 mX12_findSeats 2 [some (.ref a0), some (.int a1), none] [] h (ra_oV r) := by
  intro n
  induction n with
  | zero => intro a0 a1 h r e; cases e
  | succ n ih =>
    intro a0 a1 h r e
    exact ra_sound (by omega) rfl ra_rV_ok (kX12_findSeats_2_ok N (nX12_findSeats_2 N n) ih) (fun m av h h1 e => (tVX12_findSeats_ok N) m av h h1 e) (fun m av h x h1 e => (ra_c0_ok (ro := ra_oI)) m av h (x, h1) e) (fun m av h x h1 e => (ra_c0_ok (ro := ra_oJ)) m av h (x, h1) e) (fun m av h x h1 e => (ra_c0_ok (ro := ra_oR)) m av h (x, h1) e) (fun m av h x h1 e => (ra_c0_ok (ro := ra_oN)) m av h (x, h1) e) (fun m av h x h1 e => (ra_c0_ok (ro := ra_oF)) m av h (x, h1) e) 10 lX12_findSeats_2 _ _ _ _ lX12_findSeats_2_ck (show ra_run ra_rV (kX12_findSeats_2 N (nX12_findSeats_2 N n)) (tVX12_findSeats N) ra_c0 ra_c0 ra_c0 ra_c0 ra_c0 10 lX12_findSeats_2 [some (.ref a0), some (.int a1), none] [] h = some r from e) _ _ rfl
def lX12_findSeats_0 : List ra_I := [(0, .iconst (0), 1, 0, 0, 0, (0), 0, []),
  (1, .istore_n 1, 1, 1, 0, 0, 0, 0, [])]
set_option maxRecDepth 100000 in
theorem lX12_findSeats_0_ck : lX12_findSeats_0.all (ra_ck mX12_findSeats 12) = true := by decide +kernel
def nX12_findSeats_0 (N : Nat) (a0 : Nat) (h : ra_H) : Option ra_H :=
  nX12_findSeats_2 N N a0 ((0 : Int32)) h
def kX12_findSeats_0 (N : Nat) : Nat → List (Option Value) → List Value → ra_H → Option ra_H := (ra_k1 2 (fun L S h => match L, S with
  | [some (.ref a0), some (.int a1), _], [] => nX12_findSeats_2 N N a0 a1 h
  | _, _ => none) ra_k0)
theorem kX12_findSeats_0_ok (N : Nat) : ra_kok 6 mX12_findSeats ra_oV (kX12_findSeats_0 N) := (ra_k1_ok (by
  intro L S h a e
  split at e
  · exact ra_Ru.weak (nX12_findSeats_2_ok N N _ _ _ _ e) ⟨rfl, ⟨rfl, trivial⟩⟩
  · cases e) ra_k0_ok)
set_option maxRecDepth 100000 in
theorem nX12_findSeats_0_ok (N : Nat) (a0 : Nat) (h : ra_H) (r : ra_H) (e : nX12_findSeats_0 N a0 h = some r) : ra_Ru 6 mX12_findSeats 0 [some (.ref a0), none, none] [] h (ra_oV r) :=
  ra_sound (by omega) rfl ra_rV_ok (kX12_findSeats_0_ok N) (fun m av h h1 e => (tVX12_findSeats_ok N) m av h h1 e) (fun m av h x h1 e => (ra_c0_ok (ro := ra_oI)) m av h (x, h1) e) (fun m av h x h1 e => (ra_c0_ok (ro := ra_oJ)) m av h (x, h1) e) (fun m av h x h1 e => (ra_c0_ok (ro := ra_oR)) m av h (x, h1) e) (fun m av h x h1 e => (ra_c0_ok (ro := ra_oN)) m av h (x, h1) e) (fun m av h x h1 e => (ra_c0_ok (ro := ra_oF)) m av h (x, h1) e) 3 lX12_findSeats_0 _ _ _ _ lX12_findSeats_0_ck (show ra_run ra_rV (kX12_findSeats_0 N) (tVX12_findSeats N) ra_c0 ra_c0 ra_c0 ra_c0 ra_c0 3 lX12_findSeats_0 [some (.ref a0), none, none] [] h = some r from e) _ _ rfl
def fX12_findSeats (N : Nat) (p0 : Nat) (h : ra_H) : Option ra_H := match ra_isOb h p0 12 with
  | true => nX12_findSeats_0 N p0 h
  | false => none
set_option maxRecDepth 100000 in
theorem mtX12_findSeats : ra_MT[264]? = some (mX12_findSeats, 1, 0, (1, 13), (8, 94), (0, 94)) := rfl
theorem fX12_findSeats_co (N : Nat) (p0 : Nat) (h : ra_H) (r : ra_H) (e : fX12_findSeats N p0 h = some r) (D : Nat) (hD : 7 ≤ D) : ra_CO D 264 [.ref p0] h (ra_oV r).1 (ra_oV r).2 := by
  have hw : ra_nw2 [.ref p0] ≤ 3 := Nat.le_of_ble_eq_true rfl
  have hdb : ∀ v ∈ ([.ref p0] : List Value), ∀ x, v ≠ .double x := by
    intro v hv x hx
    simp [hx] at hv
  unfold fX12_findSeats at e
  split at e
  · rename_i ho
    have e1 := e
    exact ⟨6, _, mtX12_findSeats, hD, ra_ev_of (by decide) hdb hw trivial (ra_Ru.weak (nX12_findSeats_0_ok N p0 h _ e1) ⟨rfl, trivial⟩), (fun _ => ⟨_, _, rfl, ra_rcv_of ho (by decide) rfl⟩), (fun h => absurd h (by decide))⟩
  · cases e
/-! RedMarksModel.standing(III)I -/
def mX12_standing : ra_M := (yX12_standing, cX12_standing, 8, (some .int))
def tIX12_standing (N : Nat) : Nat → List Value → ra_H → Option (Int32 × ra_H) := (ra_c1 258 (fun av h => match av with
  | [.ref z0, .int z1] => fX12_hasMark N z0 z1 h
  | _ => none) ra_c0)
theorem tIX12_standing_ok (N : Nat) : ra_cok 2 ra_oI (tIX12_standing N) := (ra_c1_ok (by
  intro av h a e
  split at e
  · exact fX12_hasMark_co N _ _ _ _ e 2 (by omega)
  · cases e) ra_c0_ok)
def lX12_standing_173 : List ra_I := [(173, .iinc 5 (1), 3, 5, 0, 0, (1), 0, []),
  (176, .goto (-160), 3, 16, 0, 0, 0, 0, [])]
set_option maxRecDepth 100000 in
theorem lX12_standing_173_ck : lX12_standing_173.all (ra_ck mX12_standing 12) = true := by decide +kernel
def nX12_standing_173 (N : Nat) (c16 : Nat → Int32 → Int32 → Int32 → Int32 → Int32 → ra_H → Option (Int32 × ra_H)) (a0 : Nat) (a1 : Int32) (a2 : Int32) (a3 : Int32) (a4 : Int32) (a5 : Int32) (h : ra_H) : Option (Int32 × ra_H) :=
  let y1 := a5 + (1 : Int32)
  c16 a0 a1 a2 a3 a4 y1 h
def kX12_standing_173 (N : Nat) (c16 : Nat → Int32 → Int32 → Int32 → Int32 → Int32 → ra_H → Option (Int32 × ra_H)) : Nat → List (Option Value) → List Value → ra_H → Option (Int32 × ra_H) := (ra_k1 16 (fun L S h => match L, S with
  | [some (.ref a0), some (.int a1), some (.int a2), some (.int a3), some (.int a4), some (.int a5), _, _], [] => c16 a0 a1 a2 a3 a4 a5 h
  | _, _ => none) ra_k0)
theorem kX12_standing_173_ok (N : Nat) (c16 : Nat → Int32 → Int32 → Int32 → Int32 → Int32 → ra_H → Option (Int32 × ra_H)) (hc16 : ∀ a0 a1 a2 a3 a4 a5 h r, c16 a0 a1 a2 a3 a4 a5 h = some r → ra_Ru 2 mX12_standing 16 [some (.ref a0), some (.int a1), some (.int a2), some (.int a3), some (.int a4), some (.int a5), none, none] [] h (ra_oI r)) : ra_kok 2 mX12_standing ra_oI (kX12_standing_173 N c16) := (ra_k1_ok (by
  intro L S h a e
  split at e
  · exact ra_Ru.weak (hc16 _ _ _ _ _ _ _ _ e) ⟨rfl, ⟨rfl, ⟨rfl, ⟨rfl, ⟨rfl, ⟨rfl, trivial⟩⟩⟩⟩⟩⟩
  · cases e) ra_k0_ok)
set_option maxRecDepth 100000 in
theorem nX12_standing_173_ok (N : Nat) (c16 : Nat → Int32 → Int32 → Int32 → Int32 → Int32 → ra_H → Option (Int32 × ra_H)) (hc16 : ∀ a0 a1 a2 a3 a4 a5 h r, c16 a0 a1 a2 a3 a4 a5 h = some r → ra_Ru 2 mX12_standing 16 [some (.ref a0), some (.int a1), some (.int a2), some (.int a3), some (.int a4), some (.int a5), none, none] [] h (ra_oI r)) (a0 : Nat) (a1 : Int32) (a2 : Int32) (a3 : Int32) (a4 : Int32) (a5 : Int32) (h : ra_H) (r : (Int32 × ra_H)) (e : nX12_standing_173 N c16 a0 a1 a2 a3 a4 a5 h = some r) : ra_Ru 2 mX12_standing 173 [some (.ref a0), some (.int a1), some (.int a2), some (.int a3), some (.int a4), some (.int a5), none, none] [] h (ra_oI r) :=
  ra_sound (by omega) rfl ra_rI_ok (kX12_standing_173_ok N c16 hc16) (fun m av h h1 e => (ra_c0_ok (ro := ra_oV)) m av h h1 e) (fun m av h x h1 e => (tIX12_standing_ok N) m av h (x, h1) e) (fun m av h x h1 e => (ra_c0_ok (ro := ra_oJ)) m av h (x, h1) e) (fun m av h x h1 e => (ra_c0_ok (ro := ra_oR)) m av h (x, h1) e) (fun m av h x h1 e => (ra_c0_ok (ro := ra_oN)) m av h (x, h1) e) (fun m av h x h1 e => (ra_c0_ok (ro := ra_oF)) m av h (x, h1) e) 3 lX12_standing_173 _ _ _ _ lX12_standing_173_ck (show ra_run ra_rI (kX12_standing_173 N c16) ra_c0 (tIX12_standing N) ra_c0 ra_c0 ra_c0 ra_c0 3 lX12_standing_173 [some (.ref a0), some (.int a1), some (.int a2), some (.int a3), some (.int a4), some (.int a5), none, none] [] h = some r from e) _ _ rfl
def lX12_standing_147 : List ra_I := [(147, .iastore, 1, 0, 0, 0, 0, 0, []),
  (148, .aload_n 0, 1, 0, 0, 0, 0, 0, []),
  (149, .getfield 101, 3, 12, 39, 2, 0, 0, []),
  (152, .iload 5, 2, 5, 0, 0, 0, 0, []),
  (154, .iaload, 1, 0, 0, 0, 0, 0, []),
  (155, .iconst (4), 1, 0, 0, 0, (4), 0, []),
  (156, .if_icmp .ne (17), 3, 173, 0, 0, 0, 0, []),
  (159, .aload_n 0, 1, 0, 0, 0, 0, 0, []),
  (160, .getfield 98, 3, 12, 37, 2, 0, 0, []),
  (163, .iload 7, 2, 7, 0, 0, 0, 0, []),
  (165, .aload_n 0, 1, 0, 0, 0, 0, 0, []),
  (166, .getfield 408, 3, 12, 38, 0, 0, 0, []),
  (169, .iastore, 1, 0, 0, 0, 0, 0, []),
  (170, .iinc 4 (1), 3, 4, 0, 0, (1), 0, [])]
set_option maxRecDepth 100000 in
theorem lX12_standing_147_ck : lX12_standing_147.all (ra_ck mX12_standing 12) = true := by decide +kernel
def nX12_standing_147 (N : Nat) (c16 : Nat → Int32 → Int32 → Int32 → Int32 → Int32 → ra_H → Option (Int32 × ra_H)) (a0 : Nat) (a1 : Int32) (a2 : Int32) (a3 : Int32) (a4 : Int32) (a5 : Int32) (a7 : Int32) (b0 : Nat) (b1 : Int32) (b2 : Int32) (h : ra_H) : Option (Int32 × ra_H) :=
  (ra_aW h 0 b0 b1 b2).bind fun h1 =>
  (ra_fR h1 12 a0 39).bind fun x2 =>
  (ra_aI h1 0 x2 a5).bind fun x3 =>
  if x3 = ((4 : Int32)) then
    (ra_fR h1 12 a0 37).bind fun x4 =>
    (ra_fI h1 12 a0 38).bind fun x5 =>
    (ra_aW h1 0 x4 a7 x5).bind fun h6 =>
    let y7 := a4 + (1 : Int32)
    nX12_standing_173 N c16 a0 a1 a2 a3 y7 a5 h6
  else
    nX12_standing_173 N c16 a0 a1 a2 a3 a4 a5 h1
def kX12_standing_147 (N : Nat) (c16 : Nat → Int32 → Int32 → Int32 → Int32 → Int32 → ra_H → Option (Int32 × ra_H)) : Nat → List (Option Value) → List Value → ra_H → Option (Int32 × ra_H) := (ra_k1 173 (fun L S h => match L, S with
  | [some (.ref a0), some (.int a1), some (.int a2), some (.int a3), some (.int a4), some (.int a5), _, _], [] => nX12_standing_173 N c16 a0 a1 a2 a3 a4 a5 h
  | _, _ => none) ra_k0)
theorem kX12_standing_147_ok (N : Nat) (c16 : Nat → Int32 → Int32 → Int32 → Int32 → Int32 → ra_H → Option (Int32 × ra_H)) (hc16 : ∀ a0 a1 a2 a3 a4 a5 h r, c16 a0 a1 a2 a3 a4 a5 h = some r → ra_Ru 2 mX12_standing 16 [some (.ref a0), some (.int a1), some (.int a2), some (.int a3), some (.int a4), some (.int a5), none, none] [] h (ra_oI r)) : ra_kok 2 mX12_standing ra_oI (kX12_standing_147 N c16) := (ra_k1_ok (by
  intro L S h a e
  split at e
  · exact ra_Ru.weak (nX12_standing_173_ok N c16 hc16 _ _ _ _ _ _ _ _ e) ⟨rfl, ⟨rfl, ⟨rfl, ⟨rfl, ⟨rfl, ⟨rfl, trivial⟩⟩⟩⟩⟩⟩
  · cases e) ra_k0_ok)
set_option maxRecDepth 100000 in
theorem nX12_standing_147_ok (N : Nat) (c16 : Nat → Int32 → Int32 → Int32 → Int32 → Int32 → ra_H → Option (Int32 × ra_H)) (hc16 : ∀ a0 a1 a2 a3 a4 a5 h r, c16 a0 a1 a2 a3 a4 a5 h = some r → ra_Ru 2 mX12_standing 16 [some (.ref a0), some (.int a1), some (.int a2), some (.int a3), some (.int a4), some (.int a5), none, none] [] h (ra_oI r)) (a0 : Nat) (a1 : Int32) (a2 : Int32) (a3 : Int32) (a4 : Int32) (a5 : Int32) (a7 : Int32) (b0 : Nat) (b1 : Int32) (b2 : Int32) (h : ra_H) (r : (Int32 × ra_H)) (e : nX12_standing_147 N c16 a0 a1 a2 a3 a4 a5 a7 b0 b1 b2 h = some r) : ra_Ru 2 mX12_standing 147 [some (.ref a0), some (.int a1), some (.int a2), some (.int a3), some (.int a4), some (.int a5), none, some (.int a7)] [.int b2, .int b1, .ref b0] h (ra_oI r) :=
  ra_sound (by omega) rfl ra_rI_ok (kX12_standing_147_ok N c16 hc16) (fun m av h h1 e => (ra_c0_ok (ro := ra_oV)) m av h h1 e) (fun m av h x h1 e => (tIX12_standing_ok N) m av h (x, h1) e) (fun m av h x h1 e => (ra_c0_ok (ro := ra_oJ)) m av h (x, h1) e) (fun m av h x h1 e => (ra_c0_ok (ro := ra_oR)) m av h (x, h1) e) (fun m av h x h1 e => (ra_c0_ok (ro := ra_oN)) m av h (x, h1) e) (fun m av h x h1 e => (ra_c0_ok (ro := ra_oF)) m av h (x, h1) e) 15 lX12_standing_147 _ _ _ _ lX12_standing_147_ck (show ra_run ra_rI (kX12_standing_147 N c16) ra_c0 (tIX12_standing N) ra_c0 ra_c0 ra_c0 ra_c0 15 lX12_standing_147 [some (.ref a0), some (.int a1), some (.int a2), some (.int a3), some (.int a4), some (.int a5), none, some (.int a7)] [.int b2, .int b1, .ref b0] h = some r from e) _ _ rfl
def lX12_standing_134 : List ra_I := [(134, .iaload, 1, 0, 0, 0, 0, 0, []),
  (135, .aload_n 0, 1, 0, 0, 0, 0, 0, []),
  (136, .getfield 408, 3, 12, 38, 0, 0, 0, []),
  (139, .if_icmp .ne (7), 3, 146, 0, 0, 0, 0, []),
  (142, .iconst (3), 1, 0, 0, 0, (3), 0, []),
  (143, .goto (4), 3, 147, 0, 0, 0, 0, []),
  (146, .iconst (4), 1, 0, 0, 0, (4), 0, [])]
set_option maxRecDepth 100000 in
theorem lX12_standing_134_ck : lX12_standing_134.all (ra_ck mX12_standing 12) = true := by decide +kernel
def nX12_standing_134 (N : Nat) (c16 : Nat → Int32 → Int32 → Int32 → Int32 → Int32 → ra_H → Option (Int32 × ra_H)) (a0 : Nat) (a1 : Int32) (a2 : Int32) (a3 : Int32) (a4 : Int32) (a5 : Int32) (a7 : Int32) (b0 : Nat) (b1 : Int32) (b2 : Nat) (b3 : Int32) (h : ra_H) : Option (Int32 × ra_H) :=
  (ra_aI h 0 b2 b3).bind fun x1 =>
  (ra_fI h 12 a0 38).bind fun x2 =>
  if x1 = x2 then
    nX12_standing_147 N c16 a0 a1 a2 a3 a4 a5 a7 b0 b1 ((3 : Int32)) h
  else
    nX12_standing_147 N c16 a0 a1 a2 a3 a4 a5 a7 b0 b1 ((4 : Int32)) h
def kX12_standing_134 (N : Nat) (c16 : Nat → Int32 → Int32 → Int32 → Int32 → Int32 → ra_H → Option (Int32 × ra_H)) : Nat → List (Option Value) → List Value → ra_H → Option (Int32 × ra_H) := (ra_k1 147 (fun L S h => match L, S with
  | [some (.ref a0), some (.int a1), some (.int a2), some (.int a3), some (.int a4), some (.int a5), _, some (.int a7)], [.int b2, .int b1, .ref b0] => nX12_standing_147 N c16 a0 a1 a2 a3 a4 a5 a7 b0 b1 b2 h
  | _, _ => none) ra_k0)
theorem kX12_standing_134_ok (N : Nat) (c16 : Nat → Int32 → Int32 → Int32 → Int32 → Int32 → ra_H → Option (Int32 × ra_H)) (hc16 : ∀ a0 a1 a2 a3 a4 a5 h r, c16 a0 a1 a2 a3 a4 a5 h = some r → ra_Ru 2 mX12_standing 16 [some (.ref a0), some (.int a1), some (.int a2), some (.int a3), some (.int a4), some (.int a5), none, none] [] h (ra_oI r)) : ra_kok 2 mX12_standing ra_oI (kX12_standing_134 N c16) := (ra_k1_ok (by
  intro L S h a e
  split at e
  · exact ra_Ru.weak (nX12_standing_147_ok N c16 hc16 _ _ _ _ _ _ _ _ _ _ _ _ e) ⟨rfl, ⟨rfl, ⟨rfl, ⟨rfl, ⟨rfl, ⟨rfl, ⟨rfl, trivial⟩⟩⟩⟩⟩⟩⟩
  · cases e) ra_k0_ok)
set_option maxRecDepth 100000 in
theorem nX12_standing_134_ok (N : Nat) (c16 : Nat → Int32 → Int32 → Int32 → Int32 → Int32 → ra_H → Option (Int32 × ra_H)) (hc16 : ∀ a0 a1 a2 a3 a4 a5 h r, c16 a0 a1 a2 a3 a4 a5 h = some r → ra_Ru 2 mX12_standing 16 [some (.ref a0), some (.int a1), some (.int a2), some (.int a3), some (.int a4), some (.int a5), none, none] [] h (ra_oI r)) (a0 : Nat) (a1 : Int32) (a2 : Int32) (a3 : Int32) (a4 : Int32) (a5 : Int32) (a7 : Int32) (b0 : Nat) (b1 : Int32) (b2 : Nat) (b3 : Int32) (h : ra_H) (r : (Int32 × ra_H)) (e : nX12_standing_134 N c16 a0 a1 a2 a3 a4 a5 a7 b0 b1 b2 b3 h = some r) : ra_Ru 2 mX12_standing 134 [some (.ref a0), some (.int a1), some (.int a2), some (.int a3), some (.int a4), some (.int a5), none, some (.int a7)] [.int b3, .ref b2, .int b1, .ref b0] h (ra_oI r) :=
  ra_sound (by omega) rfl ra_rI_ok (kX12_standing_134_ok N c16 hc16) (fun m av h h1 e => (ra_c0_ok (ro := ra_oV)) m av h h1 e) (fun m av h x h1 e => (tIX12_standing_ok N) m av h (x, h1) e) (fun m av h x h1 e => (ra_c0_ok (ro := ra_oJ)) m av h (x, h1) e) (fun m av h x h1 e => (ra_c0_ok (ro := ra_oR)) m av h (x, h1) e) (fun m av h x h1 e => (ra_c0_ok (ro := ra_oN)) m av h (x, h1) e) (fun m av h x h1 e => (ra_c0_ok (ro := ra_oF)) m av h (x, h1) e) 8 lX12_standing_134 _ _ _ _ lX12_standing_134_ck (show ra_run ra_rI (kX12_standing_134 N c16) ra_c0 (tIX12_standing N) ra_c0 ra_c0 ra_c0 ra_c0 8 lX12_standing_134 [some (.ref a0), some (.int a1), some (.int a2), some (.int a3), some (.int a4), some (.int a5), none, some (.int a7)] [.int b3, .ref b2, .int b1, .ref b0] h = some r from e) _ _ rfl
def lX12_standing_52 : List ra_I := [(52, .imul, 1, 0, 0, 0, 0, 0, []),
  (53, .iload 5, 2, 5, 0, 0, 0, 0, []),
  (55, .iadd, 1, 0, 0, 0, 0, 0, []),
  (56, .istore 6, 2, 6, 0, 0, 0, 0, []),
  (58, .aload_n 0, 1, 0, 0, 0, 0, 0, []),
  (59, .getfield 92, 3, 12, 35, 2, 0, 0, []),
  (62, .iload 6, 2, 6, 0, 0, 0, 0, []),
  (64, .iaload, 1, 0, 0, 0, 0, 0, []),
  (65, .istore 7, 2, 7, 0, 0, 0, 0, []),
  (67, .aload_n 0, 1, 0, 0, 0, 0, 0, []),
  (68, .getfield 104, 3, 12, 40, 2, 0, 0, []),
  (71, .iload 5, 2, 5, 0, 0, 0, 0, []),
  (73, .iload 7, 2, 7, 0, 0, 0, 0, []),
  (75, .iastore, 1, 0, 0, 0, 0, 0, []),
  (76, .aload_n 0, 1, 0, 0, 0, 0, 0, []),
  (77, .getfield 101, 3, 12, 39, 2, 0, 0, []),
  (80, .iload 5, 2, 5, 0, 0, 0, 0, []),
  (82, .aload_n 0, 1, 0, 0, 0, 0, 0, []),
  (83, .iload 5, 2, 5, 0, 0, 0, 0, []),
  (85, .invokevirtual 393, 3, 258, 2, 1, 0, 0, []),
  (88, .ifCond .ne (7), 3, 95, 0, 0, 0, 0, []),
  (91, .iconst (0), 1, 0, 0, 0, (0), 0, []),
  (92, .goto (55), 3, 147, 0, 0, 0, 0, []),
  (95, .iload 7, 2, 7, 0, 0, 0, 0, []),
  (97, .iconst (-1), 1, 0, 0, 0, (-1), 0, []),
  (98, .if_icmp .ne (7), 3, 105, 0, 0, 0, 0, []),
  (101, .iconst (1), 1, 0, 0, 0, (1), 0, []),
  (102, .goto (45), 3, 147, 0, 0, 0, 0, []),
  (105, .aload_n 0, 1, 0, 0, 0, 0, 0, []),
  (106, .getfield 95, 3, 12, 36, 2, 0, 0, []),
  (109, .iload 6, 2, 6, 0, 0, 0, 0, []),
  (111, .baload, 1, 0, 0, 0, 0, 0, []),
  (112, .ifCond .ne (7), 3, 119, 0, 0, 0, 0, []),
  (115, .iconst (2), 1, 0, 0, 0, (2), 0, []),
  (116, .goto (31), 3, 147, 0, 0, 0, 0, []),
  (119, .aload_n 0, 1, 0, 0, 0, 0, 0, []),
  (120, .getfield 98, 3, 12, 37, 2, 0, 0, []),
  (123, .iload 7, 2, 7, 0, 0, 0, 0, []),
  (125, .ifCond .ge (7), 3, 132, 0, 0, 0, 0, []),
  (128, .iconst (0), 1, 0, 0, 0, (0), 0, []),
  (129, .goto (5), 3, 134, 0, 0, 0, 0, []),
  (132, .iload 7, 2, 7, 0, 0, 0, 0, [])]
set_option maxRecDepth 100000 in
theorem lX12_standing_52_ck : lX12_standing_52.all (ra_ck mX12_standing 12) = true := by decide +kernel
def nX12_standing_52 (N : Nat) (c16 : Nat → Int32 → Int32 → Int32 → Int32 → Int32 → ra_H → Option (Int32 × ra_H)) (a0 : Nat) (a1 : Int32) (a2 : Int32) (a3 : Int32) (a4 : Int32) (a5 : Int32) (b0 : Int32) (b1 : Int32) (h : ra_H) : Option (Int32 × ra_H) :=
  let y1 := (b0 * b1) + a5
  (ra_fR h 12 a0 35).bind fun x2 =>
  (ra_aI h 0 x2 y1).bind fun x3 =>
  (ra_fR h 12 a0 40).bind fun x4 =>
  (ra_aW h 0 x4 a5 x3).bind fun h5 =>
  (ra_fR h5 12 a0 39).bind fun x6 =>
  (fX12_hasMark N a0 a5 h5).bind fun q7 =>
  if q7.1 = 0 then
    nX12_standing_147 N c16 a0 a1 a2 a3 a4 a5 x3 x6 a5 ((0 : Int32)) q7.2
  else
    if x3 = ((-1 : Int32)) then
      nX12_standing_147 N c16 a0 a1 a2 a3 a4 a5 x3 x6 a5 ((1 : Int32)) q7.2
    else
      (ra_fR q7.2 12 a0 36).bind fun x8 =>
      (ra_aI q7.2 2 x8 y1).bind fun x9 =>
      if x9 = 0 then
        nX12_standing_147 N c16 a0 a1 a2 a3 a4 a5 x3 x6 a5 ((2 : Int32)) q7.2
      else
        (ra_fR q7.2 12 a0 37).bind fun x10 =>
        if x3 < 0 then
          nX12_standing_134 N c16 a0 a1 a2 a3 a4 a5 x3 x6 a5 x10 ((0 : Int32)) q7.2
        else
          nX12_standing_134 N c16 a0 a1 a2 a3 a4 a5 x3 x6 a5 x10 x3 q7.2
def kX12_standing_52 (N : Nat) (c16 : Nat → Int32 → Int32 → Int32 → Int32 → Int32 → ra_H → Option (Int32 × ra_H)) : Nat → List (Option Value) → List Value → ra_H → Option (Int32 × ra_H) := (ra_k1 134 (fun L S h => match L, S with
  | [some (.ref a0), some (.int a1), some (.int a2), some (.int a3), some (.int a4), some (.int a5), _, some (.int a7)], [.int b3, .ref b2, .int b1, .ref b0] => nX12_standing_134 N c16 a0 a1 a2 a3 a4 a5 a7 b0 b1 b2 b3 h
  | _, _ => none) (ra_k1 147 (fun L S h => match L, S with
  | [some (.ref a0), some (.int a1), some (.int a2), some (.int a3), some (.int a4), some (.int a5), _, some (.int a7)], [.int b2, .int b1, .ref b0] => nX12_standing_147 N c16 a0 a1 a2 a3 a4 a5 a7 b0 b1 b2 h
  | _, _ => none) ra_k0))
theorem kX12_standing_52_ok (N : Nat) (c16 : Nat → Int32 → Int32 → Int32 → Int32 → Int32 → ra_H → Option (Int32 × ra_H)) (hc16 : ∀ a0 a1 a2 a3 a4 a5 h r, c16 a0 a1 a2 a3 a4 a5 h = some r → ra_Ru 2 mX12_standing 16 [some (.ref a0), some (.int a1), some (.int a2), some (.int a3), some (.int a4), some (.int a5), none, none] [] h (ra_oI r)) : ra_kok 2 mX12_standing ra_oI (kX12_standing_52 N c16) := (ra_k1_ok (by
  intro L S h a e
  split at e
  · exact ra_Ru.weak (nX12_standing_134_ok N c16 hc16 _ _ _ _ _ _ _ _ _ _ _ _ _ e) ⟨rfl, ⟨rfl, ⟨rfl, ⟨rfl, ⟨rfl, ⟨rfl, ⟨rfl, trivial⟩⟩⟩⟩⟩⟩⟩
  · cases e) (ra_k1_ok (by
  intro L S h a e
  split at e
  · exact ra_Ru.weak (nX12_standing_147_ok N c16 hc16 _ _ _ _ _ _ _ _ _ _ _ _ e) ⟨rfl, ⟨rfl, ⟨rfl, ⟨rfl, ⟨rfl, ⟨rfl, ⟨rfl, trivial⟩⟩⟩⟩⟩⟩⟩
  · cases e) ra_k0_ok))
set_option maxRecDepth 100000 in
theorem nX12_standing_52_ok (N : Nat) (c16 : Nat → Int32 → Int32 → Int32 → Int32 → Int32 → ra_H → Option (Int32 × ra_H)) (hc16 : ∀ a0 a1 a2 a3 a4 a5 h r, c16 a0 a1 a2 a3 a4 a5 h = some r → ra_Ru 2 mX12_standing 16 [some (.ref a0), some (.int a1), some (.int a2), some (.int a3), some (.int a4), some (.int a5), none, none] [] h (ra_oI r)) (a0 : Nat) (a1 : Int32) (a2 : Int32) (a3 : Int32) (a4 : Int32) (a5 : Int32) (b0 : Int32) (b1 : Int32) (h : ra_H) (r : (Int32 × ra_H)) (e : nX12_standing_52 N c16 a0 a1 a2 a3 a4 a5 b0 b1 h = some r) : ra_Ru 2 mX12_standing 52 [some (.ref a0), some (.int a1), some (.int a2), some (.int a3), some (.int a4), some (.int a5), none, none] [.int b1, .int b0] h (ra_oI r) :=
  ra_sound (by omega) rfl ra_rI_ok (kX12_standing_52_ok N c16 hc16) (fun m av h h1 e => (ra_c0_ok (ro := ra_oV)) m av h h1 e) (fun m av h x h1 e => (tIX12_standing_ok N) m av h (x, h1) e) (fun m av h x h1 e => (ra_c0_ok (ro := ra_oJ)) m av h (x, h1) e) (fun m av h x h1 e => (ra_c0_ok (ro := ra_oR)) m av h (x, h1) e) (fun m av h x h1 e => (ra_c0_ok (ro := ra_oN)) m av h (x, h1) e) (fun m av h x h1 e => (ra_c0_ok (ro := ra_oF)) m av h (x, h1) e) 43 lX12_standing_52 _ _ _ _ lX12_standing_52_ck (show ra_run ra_rI (kX12_standing_52 N c16) ra_c0 (tIX12_standing N) ra_c0 ra_c0 ra_c0 ra_c0 43 lX12_standing_52 [some (.ref a0), some (.int a1), some (.int a2), some (.int a3), some (.int a4), some (.int a5), none, none] [.int b1, .int b0] h = some r from e) _ _ rfl
def lX12_standing_16 : List ra_I := [(16, .iload 5, 2, 5, 0, 0, 0, 0, []),
  (18, .aload_n 0, 1, 0, 0, 0, 0, 0, []),
  (19, .getfield 13, 3, 12, 3, 2, 0, 0, []),
  (22, .sipush (480), 3, 0, 0, 0, (480), 0, []),
  (25, .iaload, 1, 0, 0, 0, 0, 0, []),
  (26, .if_icmp .ge (153), 3, 179, 0, 0, 0, 0, []),
  (29, .bipush (40), 2, 0, 0, 0, (40), 0, []),
  (31, .aload_n 0, 1, 0, 0, 0, 0, 0, []),
  (32, .getfield 13, 3, 12, 3, 2, 0, 0, []),
  (35, .bipush (12), 2, 0, 0, 0, (12), 0, []),
  (37, .iload 5, 2, 5, 0, 0, 0, 0, []),
  (39, .imul, 1, 0, 0, 0, 0, 0, []),
  (40, .iconst (2), 1, 0, 0, 0, (2), 0, []),
  (41, .iadd, 1, 0, 0, 0, 0, 0, []),
  (42, .iaload, 1, 0, 0, 0, 0, 0, []),
  (43, .iload_n 3, 1, 3, 0, 0, 0, 0, []),
  (44, .if_icmp .ge (7), 3, 51, 0, 0, 0, 0, []),
  (47, .iload_n 1, 1, 1, 0, 0, 0, 0, []),
  (48, .goto (4), 3, 52, 0, 0, 0, 0, []),
  (51, .iload_n 2, 1, 2, 0, 0, 0, 0, []),
  (179, .iload 4, 2, 4, 0, 0, 0, 0, []),
  (181, .ireturn, 1, 0, 0, 0, 0, 0, [])]
set_option maxRecDepth 100000 in
theorem lX12_standing_16_ck : lX12_standing_16.all (ra_ck mX12_standing 12) = true := by decide +kernel
def nX12_standing_16 (N : Nat) : Nat → Nat → Int32 → Int32 → Int32 → Int32 → Int32 → ra_H → Option (Int32 × ra_H)
  | 0, _, _, _, _, _, _, _ => none
  | n + 1, a0, a1, a2, a3, a4, a5, h =>
  (ra_fR h 12 a0 3).bind fun x1 =>
  (ra_aI h 0 x1 ((480 : Int32))).bind fun x2 =>
  if a5 < x2 then
    (ra_fR h 12 a0 3).bind fun x3 =>
    (ra_aI h 0 x3 ((((12 : Int32)) * a5) + ((2 : Int32)))).bind fun x4 =>
    if x4 < a3 then
      nX12_standing_52 N (nX12_standing_16 N n) a0 a1 a2 a3 a4 a5 ((40 : Int32)) a1 h
    else
      nX12_standing_52 N (nX12_standing_16 N n) a0 a1 a2 a3 a4 a5 ((40 : Int32)) a2 h
  else
    some (a4, h)
def kX12_standing_16 (N : Nat) (cs : Nat → Int32 → Int32 → Int32 → Int32 → Int32 → ra_H → Option (Int32 × ra_H)) : Nat → List (Option Value) → List Value → ra_H → Option (Int32 × ra_H) := (ra_k1 52 (fun L S h => match L, S with
  | [some (.ref a0), some (.int a1), some (.int a2), some (.int a3), some (.int a4), some (.int a5), _, _], [.int b1, .int b0] => nX12_standing_52 N cs a0 a1 a2 a3 a4 a5 b0 b1 h
  | _, _ => none) ra_k0)
theorem kX12_standing_16_ok (N : Nat) (cs : Nat → Int32 → Int32 → Int32 → Int32 → Int32 → ra_H → Option (Int32 × ra_H)) (hcs : ∀ a0 a1 a2 a3 a4 a5 h r, cs a0 a1 a2 a3 a4 a5 h = some r → ra_Ru 2 mX12_standing 16 [some (.ref a0), some (.int a1), some (.int a2), some (.int a3), some (.int a4), some (.int a5), none, none] [] h (ra_oI r)) : ra_kok 2 mX12_standing ra_oI (kX12_standing_16 N cs) := (ra_k1_ok (by
  intro L S h a e
  split at e
  · exact ra_Ru.weak (nX12_standing_52_ok N cs hcs _ _ _ _ _ _ _ _ _ _ e) ⟨rfl, ⟨rfl, ⟨rfl, ⟨rfl, ⟨rfl, ⟨rfl, trivial⟩⟩⟩⟩⟩⟩
  · cases e) ra_k0_ok)
set_option maxRecDepth 100000 in
theorem nX12_standing_16_ok (N : Nat) : ∀ n a0 a1 a2 a3 a4 a5 h r, nX12_standing_16 N n a0 a1 a2 a3 a4 a5 h = some r → ra_Ru 2 mX12_standing 16 [some (.ref a0), some (.int a1), some (.int a2), some (.int a3), some (.int a4), some (.int a5), none, none] [] h (ra_oI r) := by
  intro n
  induction n with
  | zero => intro a0 a1 a2 a3 a4 a5 h r e; cases e
  | succ n ih =>
    intro a0 a1 a2 a3 a4 a5 h r e
    exact ra_sound (by omega) rfl ra_rI_ok (kX12_standing_16_ok N (nX12_standing_16 N n) ih) (fun m av h h1 e => (ra_c0_ok (ro := ra_oV)) m av h h1 e) (fun m av h x h1 e => (tIX12_standing_ok N) m av h (x, h1) e) (fun m av h x h1 e => (ra_c0_ok (ro := ra_oJ)) m av h (x, h1) e) (fun m av h x h1 e => (ra_c0_ok (ro := ra_oR)) m av h (x, h1) e) (fun m av h x h1 e => (ra_c0_ok (ro := ra_oN)) m av h (x, h1) e) (fun m av h x h1 e => (ra_c0_ok (ro := ra_oF)) m av h (x, h1) e) 23 lX12_standing_16 _ _ _ _ lX12_standing_16_ck (show ra_run ra_rI (kX12_standing_16 N (nX12_standing_16 N n)) ra_c0 (tIX12_standing N) ra_c0 ra_c0 ra_c0 ra_c0 23 lX12_standing_16 [some (.ref a0), some (.int a1), some (.int a2), some (.int a3), some (.int a4), some (.int a5), none, none] [] h = some r from e) _ _ rfl
def lX12_standing_0 : List ra_I := [(0, .aload_n 0, 1, 0, 0, 0, 0, 0, []),
  (1, .dup, 1, 0, 0, 0, 0, 0, []),
  (2, .getfield 408, 3, 12, 38, 0, 0, 0, []),
  (5, .iconst (1), 1, 0, 0, 0, (1), 0, []),
  (6, .iadd, 1, 0, 0, 0, 0, 0, []),
  (7, .putfield 408, 3, 12, 38, 0, 0, 0, []),
  (10, .iconst (0), 1, 0, 0, 0, (0), 0, []),
  (11, .istore 4, 2, 4, 0, 0, 0, 0, []),
  (13, .iconst (0), 1, 0, 0, 0, (0), 0, []),
  (14, .istore 5, 2, 5, 0, 0, 0, 0, [])]
set_option maxRecDepth 100000 in
theorem lX12_standing_0_ck : lX12_standing_0.all (ra_ck mX12_standing 12) = true := by decide +kernel
def nX12_standing_0 (N : Nat) (a0 : Nat) (a1 : Int32) (a2 : Int32) (a3 : Int32) (h : ra_H) : Option (Int32 × ra_H) :=
  (ra_fI h 12 a0 38).bind fun x1 =>
  (ra_fW h 12 a0 38 (.int (x1 + ((1 : Int32))))).bind fun h2 =>
  nX12_standing_16 N N a0 a1 a2 a3 ((0 : Int32)) ((0 : Int32)) h2
def kX12_standing_0 (N : Nat) : Nat → List (Option Value) → List Value → ra_H → Option (Int32 × ra_H) := (ra_k1 16 (fun L S h => match L, S with
  | [some (.ref a0), some (.int a1), some (.int a2), some (.int a3), some (.int a4), some (.int a5), _, _], [] => nX12_standing_16 N N a0 a1 a2 a3 a4 a5 h
  | _, _ => none) ra_k0)
theorem kX12_standing_0_ok (N : Nat) : ra_kok 2 mX12_standing ra_oI (kX12_standing_0 N) := (ra_k1_ok (by
  intro L S h a e
  split at e
  · exact ra_Ru.weak (nX12_standing_16_ok N N _ _ _ _ _ _ _ _ e) ⟨rfl, ⟨rfl, ⟨rfl, ⟨rfl, ⟨rfl, ⟨rfl, trivial⟩⟩⟩⟩⟩⟩
  · cases e) ra_k0_ok)
set_option maxRecDepth 100000 in
theorem nX12_standing_0_ok (N : Nat) (a0 : Nat) (a1 : Int32) (a2 : Int32) (a3 : Int32) (h : ra_H) (r : (Int32 × ra_H)) (e : nX12_standing_0 N a0 a1 a2 a3 h = some r) : ra_Ru 2 mX12_standing 0 [some (.ref a0), some (.int a1), some (.int a2), some (.int a3), none, none, none, none] [] h (ra_oI r) :=
  ra_sound (by omega) rfl ra_rI_ok (kX12_standing_0_ok N) (fun m av h h1 e => (ra_c0_ok (ro := ra_oV)) m av h h1 e) (fun m av h x h1 e => (tIX12_standing_ok N) m av h (x, h1) e) (fun m av h x h1 e => (ra_c0_ok (ro := ra_oJ)) m av h (x, h1) e) (fun m av h x h1 e => (ra_c0_ok (ro := ra_oR)) m av h (x, h1) e) (fun m av h x h1 e => (ra_c0_ok (ro := ra_oN)) m av h (x, h1) e) (fun m av h x h1 e => (ra_c0_ok (ro := ra_oF)) m av h (x, h1) e) 11 lX12_standing_0 _ _ _ _ lX12_standing_0_ck (show ra_run ra_rI (kX12_standing_0 N) ra_c0 (tIX12_standing N) ra_c0 ra_c0 ra_c0 ra_c0 11 lX12_standing_0 [some (.ref a0), some (.int a1), some (.int a2), some (.int a3), none, none, none, none] [] h = some r from e) _ _ rfl
def fX12_standing (N : Nat) (p0 : Nat) (p1 : Int32) (p2 : Int32) (p3 : Int32) (h : ra_H) : Option (Int32 × ra_H) := match ra_isOb h p0 12 with
  | true => nX12_standing_0 N p0 p1 p2 p3 h
  | false => none
set_option maxRecDepth 100000 in
theorem mtX12_standing : ra_MT[265]? = some (mX12_standing, 1, 3, (1, 13), (8, 98), (0, 95)) := rfl
theorem fX12_standing_co (N : Nat) (p0 : Nat) (p1 : Int32) (p2 : Int32) (p3 : Int32) (h : ra_H) (r : (Int32 × ra_H)) (e : fX12_standing N p0 p1 p2 p3 h = some r) (D : Nat) (hD : 3 ≤ D) : ra_CO D 265 [.ref p0, .int p1, .int p2, .int p3] h (ra_oI r).1 (ra_oI r).2 := by
  have hw : ra_nw2 [.ref p0, .int p1, .int p2, .int p3] ≤ 8 := Nat.le_of_ble_eq_true rfl
  have hdb : ∀ v ∈ ([.ref p0, .int p1, .int p2, .int p3] : List Value), ∀ x, v ≠ .double x := by
    intro v hv x hx
    simp [hx] at hv
  unfold fX12_standing at e
  split at e
  · rename_i ho
    have e1 := e
    exact ⟨2, _, mtX12_standing, hD, ra_ev_of (by decide) hdb hw trivial (ra_Ru.weak (nX12_standing_0_ok N p0 p1 p2 p3 h _ e1) ⟨rfl, ⟨rfl, ⟨rfl, ⟨rfl, trivial⟩⟩⟩⟩), (fun _ => ⟨_, _, rfl, ra_rcv_of ho (by decide) rfl⟩), (fun h => absurd h (by decide))⟩
  · cases e
/-! RedMarksModel.best(I)I -/
def mX12_best : ra_M := (yX12_best, cX12_best, 11, (some .int))
def tVX12_best (N : Nat) : Nat → List Value → ra_H → Option ra_H := (ra_c1 264 (fun av h => match av with
  | [.ref z0] => fX12_findSeats N z0 h
  | _ => none) ra_c0)
theorem tVX12_best_ok (N : Nat) : ra_cok 7 ra_oV (tVX12_best N) := (ra_c1_ok (by
  intro av h a e
  split at e
  · exact fX12_findSeats_co N _ _ _ e 7 (by omega)
  · cases e) ra_c0_ok)
def tIX12_best (N : Nat) : Nat → List Value → ra_H → Option (Int32 × ra_H) := (ra_c1 209 (fun av h => match av with
  | [.long z0, .long z1, .long z2] => fX12_in N z0 z1 z2 h
  | _ => none) (ra_c1 265 (fun av h => match av with
  | [.ref z0, .int z1, .int z2, .int z3] => fX12_standing N z0 z1 z2 z3 h
  | _ => none) ra_c0))
theorem tIX12_best_ok (N : Nat) : ra_cok 7 ra_oI (tIX12_best N) := (ra_c1_ok (by
  intro av h a e
  split at e
  · exact fX12_in_co N _ _ _ _ _ e 7 (by omega)
  · cases e) (ra_c1_ok (by
  intro av h a e
  split at e
  · exact fX12_standing_co N _ _ _ _ _ _ e 7 (by omega)
  · cases e) ra_c0_ok))
def lX12_best_28 : List ra_I := [(28, .iconst (-1), 1, 0, 0, 0, (-1), 0, []),
  (29, .ireturn, 1, 0, 0, 0, 0, 0, [])]
set_option maxRecDepth 100000 in
theorem lX12_best_28_ck : lX12_best_28.all (ra_ck mX12_best 12) = true := by decide +kernel
def nX12_best_28 (N : Nat) (h : ra_H) : Option (Int32 × ra_H) :=
  some ((-1 : Int32), h)
def kX12_best_28 (N : Nat) : Nat → List (Option Value) → List Value → ra_H → Option (Int32 × ra_H) := ra_k0
theorem kX12_best_28_ok (N : Nat) : ra_kok 7 mX12_best ra_oI (kX12_best_28 N) := ra_k0_ok
set_option maxRecDepth 100000 in
theorem nX12_best_28_ok (N : Nat) (h : ra_H) (r : (Int32 × ra_H)) (e : nX12_best_28 N h = some r) : ra_Ru 7 mX12_best 28 [none, none, none, none, none, none, none, none, none, none, none] [] h (ra_oI r) :=
  ra_sound (by omega) rfl ra_rI_ok (kX12_best_28_ok N) (fun m av h h1 e => (tVX12_best_ok N) m av h h1 e) (fun m av h x h1 e => (tIX12_best_ok N) m av h (x, h1) e) (fun m av h x h1 e => (ra_c0_ok (ro := ra_oJ)) m av h (x, h1) e) (fun m av h x h1 e => (ra_c0_ok (ro := ra_oR)) m av h (x, h1) e) (fun m av h x h1 e => (ra_c0_ok (ro := ra_oN)) m av h (x, h1) e) (fun m av h x h1 e => (ra_c0_ok (ro := ra_oF)) m av h (x, h1) e) 3 lX12_best_28 _ _ _ _ lX12_best_28_ck (show ra_run ra_rI (kX12_best_28 N) (tVX12_best N) (tIX12_best N) ra_c0 ra_c0 ra_c0 ra_c0 3 lX12_best_28 [none, none, none, none, none, none, none, none, none, none, none] [] h = some r from e) _ _ rfl
def lX12_best_138 : List ra_I := [(138, .iadd, 1, 0, 0, 0, 0, 0, []),
  (139, .istore 6, 2, 6, 0, 0, 0, 0, []),
  (141, .iinc 9 (1), 3, 9, 0, 0, (1), 0, []),
  (144, .goto (-62), 3, 82, 0, 0, 0, 0, [])]
set_option maxRecDepth 100000 in
theorem lX12_best_138_ck : lX12_best_138.all (ra_ck mX12_best 12) = true := by decide +kernel
def nX12_best_138 (N : Nat) (c50 : Nat → Int32 → Int32 → Int32 → Int32 → Int32 → Int32 → Int32 → ra_H → Option (Int32 × ra_H)) (c66 : Nat → Int32 → Int32 → Int32 → Int32 → Int32 → Int32 → Int32 → Int32 → ra_H → Option (Int32 × ra_H)) (c82 : Nat → Int32 → Int32 → Int32 → Int32 → Int32 → Int32 → Int32 → Int32 → Int32 → ra_H → Option (Int32 × ra_H)) (a0 : Nat) (a1 : Int32) (a2 : Int32) (a3 : Int32) (a4 : Int32) (a5 : Int32) (a7 : Int32) (a8 : Int32) (a9 : Int32) (b0 : Int32) (b1 : Int32) (h : ra_H) : Option (Int32 × ra_H) :=
  let y1 := b0 + b1
  let y2 := a9 + (1 : Int32)
  c82 a0 a1 a2 a3 a4 a5 y1 a7 a8 y2 h
def kX12_best_138 (N : Nat) (c50 : Nat → Int32 → Int32 → Int32 → Int32 → Int32 → Int32 → Int32 → ra_H → Option (Int32 × ra_H)) (c66 : Nat → Int32 → Int32 → Int32 → Int32 → Int32 → Int32 → Int32 → Int32 → ra_H → Option (Int32 × ra_H)) (c82 : Nat → Int32 → Int32 → Int32 → Int32 → Int32 → Int32 → Int32 → Int32 → Int32 → ra_H → Option (Int32 × ra_H)) : Nat → List (Option Value) → List Value → ra_H → Option (Int32 × ra_H) := (ra_k1 82 (fun L S h => match L, S with
  | [some (.ref a0), some (.int a1), some (.int a2), some (.int a3), some (.int a4), some (.int a5), some (.int a6), some (.int a7), some (.int a8), some (.int a9), _], [] => c82 a0 a1 a2 a3 a4 a5 a6 a7 a8 a9 h
  | _, _ => none) ra_k0)
theorem kX12_best_138_ok (N : Nat) (c50 : Nat → Int32 → Int32 → Int32 → Int32 → Int32 → Int32 → Int32 → ra_H → Option (Int32 × ra_H)) (c66 : Nat → Int32 → Int32 → Int32 → Int32 → Int32 → Int32 → Int32 → Int32 → ra_H → Option (Int32 × ra_H)) (c82 : Nat → Int32 → Int32 → Int32 → Int32 → Int32 → Int32 → Int32 → Int32 → Int32 → ra_H → Option (Int32 × ra_H)) (hc50 : ∀ a0 a1 a2 a3 a4 a5 a6 a7 h r, c50 a0 a1 a2 a3 a4 a5 a6 a7 h = some r → ra_Ru 7 mX12_best 50 [some (.ref a0), some (.int a1), some (.int a2), some (.int a3), some (.int a4), some (.int a5), some (.int a6), some (.int a7), none, none, none] [] h (ra_oI r)) (hc66 : ∀ a0 a1 a2 a3 a4 a5 a6 a7 a8 h r, c66 a0 a1 a2 a3 a4 a5 a6 a7 a8 h = some r → ra_Ru 7 mX12_best 66 [some (.ref a0), some (.int a1), some (.int a2), some (.int a3), some (.int a4), some (.int a5), some (.int a6), some (.int a7), some (.int a8), none, none] [] h (ra_oI r)) (hc82 : ∀ a0 a1 a2 a3 a4 a5 a6 a7 a8 a9 h r, c82 a0 a1 a2 a3 a4 a5 a6 a7 a8 a9 h = some r → ra_Ru 7 mX12_best 82 [some (.ref a0), some (.int a1), some (.int a2), some (.int a3), some (.int a4), some (.int a5), some (.int a6), some (.int a7), some (.int a8), some (.int a9), none] [] h (ra_oI r)) : ra_kok 7 mX12_best ra_oI (kX12_best_138 N c50 c66 c82) := (ra_k1_ok (by
  intro L S h a e
  split at e
  · exact ra_Ru.weak (hc82 _ _ _ _ _ _ _ _ _ _ _ _ e) ⟨rfl, ⟨rfl, ⟨rfl, ⟨rfl, ⟨rfl, ⟨rfl, ⟨rfl, ⟨rfl, ⟨rfl, ⟨rfl, trivial⟩⟩⟩⟩⟩⟩⟩⟩⟩⟩
  · cases e) ra_k0_ok)
set_option maxRecDepth 100000 in
theorem nX12_best_138_ok (N : Nat) (c50 : Nat → Int32 → Int32 → Int32 → Int32 → Int32 → Int32 → Int32 → ra_H → Option (Int32 × ra_H)) (c66 : Nat → Int32 → Int32 → Int32 → Int32 → Int32 → Int32 → Int32 → Int32 → ra_H → Option (Int32 × ra_H)) (c82 : Nat → Int32 → Int32 → Int32 → Int32 → Int32 → Int32 → Int32 → Int32 → Int32 → ra_H → Option (Int32 × ra_H)) (hc50 : ∀ a0 a1 a2 a3 a4 a5 a6 a7 h r, c50 a0 a1 a2 a3 a4 a5 a6 a7 h = some r → ra_Ru 7 mX12_best 50 [some (.ref a0), some (.int a1), some (.int a2), some (.int a3), some (.int a4), some (.int a5), some (.int a6), some (.int a7), none, none, none] [] h (ra_oI r)) (hc66 : ∀ a0 a1 a2 a3 a4 a5 a6 a7 a8 h r, c66 a0 a1 a2 a3 a4 a5 a6 a7 a8 h = some r → ra_Ru 7 mX12_best 66 [some (.ref a0), some (.int a1), some (.int a2), some (.int a3), some (.int a4), some (.int a5), some (.int a6), some (.int a7), some (.int a8), none, none] [] h (ra_oI r)) (hc82 : ∀ a0 a1 a2 a3 a4 a5 a6 a7 a8 a9 h r, c82 a0 a1 a2 a3 a4 a5 a6 a7 a8 a9 h = some r → ra_Ru 7 mX12_best 82 [some (.ref a0), some (.int a1), some (.int a2), some (.int a3), some (.int a4), some (.int a5), some (.int a6), some (.int a7), some (.int a8), some (.int a9), none] [] h (ra_oI r)) (a0 : Nat) (a1 : Int32) (a2 : Int32) (a3 : Int32) (a4 : Int32) (a5 : Int32) (a7 : Int32) (a8 : Int32) (a9 : Int32) (b0 : Int32) (b1 : Int32) (h : ra_H) (r : (Int32 × ra_H)) (e : nX12_best_138 N c50 c66 c82 a0 a1 a2 a3 a4 a5 a7 a8 a9 b0 b1 h = some r) : ra_Ru 7 mX12_best 138 [some (.ref a0), some (.int a1), some (.int a2), some (.int a3), some (.int a4), some (.int a5), none, some (.int a7), some (.int a8), some (.int a9), none] [.int b1, .int b0] h (ra_oI r) :=
  ra_sound (by omega) rfl ra_rI_ok (kX12_best_138_ok N c50 c66 c82 hc50 hc66 hc82) (fun m av h h1 e => (tVX12_best_ok N) m av h h1 e) (fun m av h x h1 e => (tIX12_best_ok N) m av h (x, h1) e) (fun m av h x h1 e => (ra_c0_ok (ro := ra_oJ)) m av h (x, h1) e) (fun m av h x h1 e => (ra_c0_ok (ro := ra_oR)) m av h (x, h1) e) (fun m av h x h1 e => (ra_c0_ok (ro := ra_oN)) m av h (x, h1) e) (fun m av h x h1 e => (ra_c0_ok (ro := ra_oF)) m av h (x, h1) e) 5 lX12_best_138 _ _ _ _ lX12_best_138_ck (show ra_run ra_rI (kX12_best_138 N c50 c66 c82) (tVX12_best N) (tIX12_best N) ra_c0 ra_c0 ra_c0 ra_c0 5 lX12_best_138 [some (.ref a0), some (.int a1), some (.int a2), some (.int a3), some (.int a4), some (.int a5), none, some (.int a7), some (.int a8), some (.int a9), none] [.int b1, .int b0] h = some r from e) _ _ rfl
def lX12_best_125 : List ra_I := [(125, .iload 6, 2, 6, 0, 0, 0, 0, []),
  (127, .iload 10, 2, 10, 0, 0, 0, 0, []),
  (129, .iload_n 2, 1, 2, 0, 0, 0, 0, []),
  (130, .if_icmp .ne (7), 3, 137, 0, 0, 0, 0, []),
  (133, .iconst (1), 1, 0, 0, 0, (1), 0, []),
  (134, .goto (4), 3, 138, 0, 0, 0, 0, []),
  (137, .iconst (0), 1, 0, 0, 0, (0), 0, [])]
set_option maxRecDepth 100000 in
theorem lX12_best_125_ck : lX12_best_125.all (ra_ck mX12_best 12) = true := by decide +kernel
def nX12_best_125 (N : Nat) (c50 : Nat → Int32 → Int32 → Int32 → Int32 → Int32 → Int32 → Int32 → ra_H → Option (Int32 × ra_H)) (c66 : Nat → Int32 → Int32 → Int32 → Int32 → Int32 → Int32 → Int32 → Int32 → ra_H → Option (Int32 × ra_H)) (c82 : Nat → Int32 → Int32 → Int32 → Int32 → Int32 → Int32 → Int32 → Int32 → Int32 → ra_H → Option (Int32 × ra_H)) (a0 : Nat) (a1 : Int32) (a2 : Int32) (a3 : Int32) (a4 : Int32) (a5 : Int32) (a6 : Int32) (a7 : Int32) (a8 : Int32) (a9 : Int32) (a10 : Int32) (h : ra_H) : Option (Int32 × ra_H) :=
  if a10 = a2 then
    nX12_best_138 N c50 c66 c82 a0 a1 a2 a3 a4 a5 a7 a8 a9 a6 ((1 : Int32)) h
  else
    nX12_best_138 N c50 c66 c82 a0 a1 a2 a3 a4 a5 a7 a8 a9 a6 ((0 : Int32)) h
def kX12_best_125 (N : Nat) (c50 : Nat → Int32 → Int32 → Int32 → Int32 → Int32 → Int32 → Int32 → ra_H → Option (Int32 × ra_H)) (c66 : Nat → Int32 → Int32 → Int32 → Int32 → Int32 → Int32 → Int32 → Int32 → ra_H → Option (Int32 × ra_H)) (c82 : Nat → Int32 → Int32 → Int32 → Int32 → Int32 → Int32 → Int32 → Int32 → Int32 → ra_H → Option (Int32 × ra_H)) : Nat → List (Option Value) → List Value → ra_H → Option (Int32 × ra_H) := (ra_k1 138 (fun L S h => match L, S with
  | [some (.ref a0), some (.int a1), some (.int a2), some (.int a3), some (.int a4), some (.int a5), _, some (.int a7), some (.int a8), some (.int a9), _], [.int b1, .int b0] => nX12_best_138 N c50 c66 c82 a0 a1 a2 a3 a4 a5 a7 a8 a9 b0 b1 h
  | _, _ => none) ra_k0)
theorem kX12_best_125_ok (N : Nat) (c50 : Nat → Int32 → Int32 → Int32 → Int32 → Int32 → Int32 → Int32 → ra_H → Option (Int32 × ra_H)) (c66 : Nat → Int32 → Int32 → Int32 → Int32 → Int32 → Int32 → Int32 → Int32 → ra_H → Option (Int32 × ra_H)) (c82 : Nat → Int32 → Int32 → Int32 → Int32 → Int32 → Int32 → Int32 → Int32 → Int32 → ra_H → Option (Int32 × ra_H)) (hc50 : ∀ a0 a1 a2 a3 a4 a5 a6 a7 h r, c50 a0 a1 a2 a3 a4 a5 a6 a7 h = some r → ra_Ru 7 mX12_best 50 [some (.ref a0), some (.int a1), some (.int a2), some (.int a3), some (.int a4), some (.int a5), some (.int a6), some (.int a7), none, none, none] [] h (ra_oI r)) (hc66 : ∀ a0 a1 a2 a3 a4 a5 a6 a7 a8 h r, c66 a0 a1 a2 a3 a4 a5 a6 a7 a8 h = some r → ra_Ru 7 mX12_best 66 [some (.ref a0), some (.int a1), some (.int a2), some (.int a3), some (.int a4), some (.int a5), some (.int a6), some (.int a7), some (.int a8), none, none] [] h (ra_oI r)) (hc82 : ∀ a0 a1 a2 a3 a4 a5 a6 a7 a8 a9 h r, c82 a0 a1 a2 a3 a4 a5 a6 a7 a8 a9 h = some r → ra_Ru 7 mX12_best 82 [some (.ref a0), some (.int a1), some (.int a2), some (.int a3), some (.int a4), some (.int a5), some (.int a6), some (.int a7), some (.int a8), some (.int a9), none] [] h (ra_oI r)) : ra_kok 7 mX12_best ra_oI (kX12_best_125 N c50 c66 c82) := (ra_k1_ok (by
  intro L S h a e
  split at e
  · exact ra_Ru.weak (nX12_best_138_ok N c50 c66 c82 hc50 hc66 hc82 _ _ _ _ _ _ _ _ _ _ _ _ _ e) ⟨rfl, ⟨rfl, ⟨rfl, ⟨rfl, ⟨rfl, ⟨rfl, ⟨rfl, ⟨rfl, ⟨rfl, trivial⟩⟩⟩⟩⟩⟩⟩⟩⟩
  · cases e) ra_k0_ok)
set_option maxRecDepth 100000 in
theorem nX12_best_125_ok (N : Nat) (c50 : Nat → Int32 → Int32 → Int32 → Int32 → Int32 → Int32 → Int32 → ra_H → Option (Int32 × ra_H)) (c66 : Nat → Int32 → Int32 → Int32 → Int32 → Int32 → Int32 → Int32 → Int32 → ra_H → Option (Int32 × ra_H)) (c82 : Nat → Int32 → Int32 → Int32 → Int32 → Int32 → Int32 → Int32 → Int32 → Int32 → ra_H → Option (Int32 × ra_H)) (hc50 : ∀ a0 a1 a2 a3 a4 a5 a6 a7 h r, c50 a0 a1 a2 a3 a4 a5 a6 a7 h = some r → ra_Ru 7 mX12_best 50 [some (.ref a0), some (.int a1), some (.int a2), some (.int a3), some (.int a4), some (.int a5), some (.int a6), some (.int a7), none, none, none] [] h (ra_oI r)) (hc66 : ∀ a0 a1 a2 a3 a4 a5 a6 a7 a8 h r, c66 a0 a1 a2 a3 a4 a5 a6 a7 a8 h = some r → ra_Ru 7 mX12_best 66 [some (.ref a0), some (.int a1), some (.int a2), some (.int a3), some (.int a4), some (.int a5), some (.int a6), some (.int a7), some (.int a8), none, none] [] h (ra_oI r)) (hc82 : ∀ a0 a1 a2 a3 a4 a5 a6 a7 a8 a9 h r, c82 a0 a1 a2 a3 a4 a5 a6 a7 a8 a9 h = some r → ra_Ru 7 mX12_best 82 [some (.ref a0), some (.int a1), some (.int a2), some (.int a3), some (.int a4), some (.int a5), some (.int a6), some (.int a7), some (.int a8), some (.int a9), none] [] h (ra_oI r)) (a0 : Nat) (a1 : Int32) (a2 : Int32) (a3 : Int32) (a4 : Int32) (a5 : Int32) (a6 : Int32) (a7 : Int32) (a8 : Int32) (a9 : Int32) (a10 : Int32) (h : ra_H) (r : (Int32 × ra_H)) (e : nX12_best_125 N c50 c66 c82 a0 a1 a2 a3 a4 a5 a6 a7 a8 a9 a10 h = some r) : ra_Ru 7 mX12_best 125 [some (.ref a0), some (.int a1), some (.int a2), some (.int a3), some (.int a4), some (.int a5), some (.int a6), some (.int a7), some (.int a8), some (.int a9), some (.int a10)] [] h (ra_oI r) :=
  ra_sound (by omega) rfl ra_rI_ok (kX12_best_125_ok N c50 c66 c82 hc50 hc66 hc82) (fun m av h h1 e => (tVX12_best_ok N) m av h h1 e) (fun m av h x h1 e => (tIX12_best_ok N) m av h (x, h1) e) (fun m av h x h1 e => (ra_c0_ok (ro := ra_oJ)) m av h (x, h1) e) (fun m av h x h1 e => (ra_c0_ok (ro := ra_oR)) m av h (x, h1) e) (fun m av h x h1 e => (ra_c0_ok (ro := ra_oN)) m av h (x, h1) e) (fun m av h x h1 e => (ra_c0_ok (ro := ra_oF)) m av h (x, h1) e) 8 lX12_best_125 _ _ _ _ lX12_best_125_ck (show ra_run ra_rI (kX12_best_125 N c50 c66 c82) (tVX12_best N) (tIX12_best N) ra_c0 ra_c0 ra_c0 ra_c0 8 lX12_best_125 [some (.ref a0), some (.int a1), some (.int a2), some (.int a3), some (.int a4), some (.int a5), some (.int a6), some (.int a7), some (.int a8), some (.int a9), some (.int a10)] [] h = some r from e) _ _ rfl
def lX12_best_82 : List ra_I := [(82, .iload 9, 2, 9, 0, 0, 0, 0, []),
  (84, .sipush (200), 3, 0, 0, 0, (200), 0, []),
  (87, .if_icmp .gt (60), 3, 147, 0, 0, 0, 0, []),
  (90, .aload_n 0, 1, 0, 0, 0, 0, 0, []),
  (91, .iload 7, 2, 7, 0, 0, 0, 0, []),
  (93, .iload 8, 2, 8, 0, 0, 0, 0, []),
  (95, .iload 9, 2, 9, 0, 0, 0, 0, []),
  (97, .invokevirtual 416, 3, 265, 4, 1, 0, 0, []),
  (100, .istore 10, 2, 10, 0, 0, 0, 0, []),
  (102, .iload 10, 2, 10, 0, 0, 0, 0, []),
  (104, .iload_n 2, 1, 2, 0, 0, 0, 0, []),
  (105, .if_icmp .le (20), 3, 125, 0, 0, 0, 0, []),
  (108, .iload 10, 2, 10, 0, 0, 0, 0, []),
  (110, .istore_n 2, 1, 2, 0, 0, 0, 0, []),
  (111, .iload 7, 2, 7, 0, 0, 0, 0, []),
  (113, .istore_n 3, 1, 3, 0, 0, 0, 0, []),
  (114, .iload 8, 2, 8, 0, 0, 0, 0, []),
  (116, .istore 4, 2, 4, 0, 0, 0, 0, []),
  (118, .iload 9, 2, 9, 0, 0, 0, 0, []),
  (120, .istore 5, 2, 5, 0, 0, 0, 0, []),
  (122, .iconst (0), 1, 0, 0, 0, (0), 0, []),
  (123, .istore 6, 2, 6, 0, 0, 0, 0, []),
  (147, .iinc 8 (1), 3, 8, 0, 0, (1), 0, []),
  (150, .goto (-84), 3, 66, 0, 0, 0, 0, [])]
set_option maxRecDepth 100000 in
theorem lX12_best_82_ck : lX12_best_82.all (ra_ck mX12_best 12) = true := by decide +kernel
def nX12_best_82 (N : Nat) (c50 : Nat → Int32 → Int32 → Int32 → Int32 → Int32 → Int32 → Int32 → ra_H → Option (Int32 × ra_H)) (c66 : Nat → Int32 → Int32 → Int32 → Int32 → Int32 → Int32 → Int32 → Int32 → ra_H → Option (Int32 × ra_H)) : Nat → Nat → Int32 → Int32 → Int32 → Int32 → Int32 → Int32 → Int32 → Int32 → Int32 → ra_H → Option (Int32 × ra_H)
  | 0, _, _, _, _, _, _, _, _, _, _, _ => none
  | n + 1, a0, a1, a2, a3, a4, a5, a6, a7, a8, a9, h =>
  if a9 ≤ ((200 : Int32)) then
    (fX12_standing N a0 a7 a8 a9 h).bind fun q2 =>
    if q2.1 ≤ a2 then
      nX12_best_125 N c50 c66 (nX12_best_82 N c50 c66 n) a0 a1 a2 a3 a4 a5 a6 a7 a8 a9 q2.1 q2.2
    else
      nX12_best_125 N c50 c66 (nX12_best_82 N c50 c66 n) a0 a1 q2.1 a7 a8 a9 ((0 : Int32)) a7 a8 a9 q2.1 q2.2
  else
    let y1 := a8 + (1 : Int32)
    c66 a0 a1 a2 a3 a4 a5 a6 a7 y1 h
def kX12_best_82 (N : Nat) (c50 : Nat → Int32 → Int32 → Int32 → Int32 → Int32 → Int32 → Int32 → ra_H → Option (Int32 × ra_H)) (c66 : Nat → Int32 → Int32 → Int32 → Int32 → Int32 → Int32 → Int32 → Int32 → ra_H → Option (Int32 × ra_H)) (cs : Nat → Int32 → Int32 → Int32 → Int32 → Int32 → Int32 → Int32 → Int32 → Int32 → ra_H → Option (Int32 × ra_H)) : Nat → List (Option Value) → List Value → ra_H → Option (Int32 × ra_H) := (ra_k1 66 (fun L S h => match L, S with
  | [some (.ref a0), some (.int a1), some (.int a2), some (.int a3), some (.int a4), some (.int a5), some (.int a6), some (.int a7), some (.int a8), _, _], [] => c66 a0 a1 a2 a3 a4 a5 a6 a7 a8 h
  | _, _ => none) (ra_k1 125 (fun L S h => match L, S with
  | [some (.ref a0), some (.int a1), some (.int a2), some (.int a3), some (.int a4), some (.int a5), some (.int a6), some (.int a7), some (.int a8), some (.int a9), some (.int a10)], [] => nX12_best_125 N c50 c66 cs a0 a1 a2 a3 a4 a5 a6 a7 a8 a9 a10 h
  | _, _ => none) ra_k0))
theorem kX12_best_82_ok (N : Nat) (c50 : Nat → Int32 → Int32 → Int32 → Int32 → Int32 → Int32 → Int32 → ra_H → Option (Int32 × ra_H)) (c66 : Nat → Int32 → Int32 → Int32 → Int32 → Int32 → Int32 → Int32 → Int32 → ra_H → Option (Int32 × ra_H)) (hc50 : ∀ a0 a1 a2 a3 a4 a5 a6 a7 h r, c50 a0 a1 a2 a3 a4 a5 a6 a7 h = some r → ra_Ru 7 mX12_best 50 [some (.ref a0), some (.int a1), some (.int a2), some (.int a3), some (.int a4), some (.int a5), some (.int a6), some (.int a7), none, none, none] [] h (ra_oI r)) (hc66 : ∀ a0 a1 a2 a3 a4 a5 a6 a7 a8 h r, c66 a0 a1 a2 a3 a4 a5 a6 a7 a8 h = some r → ra_Ru 7 mX12_best 66 [some (.ref a0), some (.int a1), some (.int a2), some (.int a3), some (.int a4), some (.int a5), some (.int a6), some (.int a7), some (.int a8), none, none] [] h (ra_oI r)) (cs : Nat → Int32 → Int32 → Int32 → Int32 → Int32 → Int32 → Int32 → Int32 → Int32 → ra_H → Option (Int32 × ra_H)) (hcs : ∀ a0 a1 a2 a3 a4 a5 a6 a7 a8 a9 h r, cs a0 a1 a2 a3 a4 a5 a6 a7 a8 a9 h = some r → ra_Ru 7 mX12_best 82 [some (.ref a0), some (.int a1), some (.int a2), some (.int a3), some (.int a4), some (.int a5), some (.int a6), some (.int a7), some (.int a8), some (.int a9), none] [] h (ra_oI r)) : ra_kok 7 mX12_best ra_oI (kX12_best_82 N c50 c66 cs) := (ra_k1_ok (by
  intro L S h a e
  split at e
  · exact ra_Ru.weak (hc66 _ _ _ _ _ _ _ _ _ _ _ e) ⟨rfl, ⟨rfl, ⟨rfl, ⟨rfl, ⟨rfl, ⟨rfl, ⟨rfl, ⟨rfl, ⟨rfl, trivial⟩⟩⟩⟩⟩⟩⟩⟩⟩
  · cases e) (ra_k1_ok (by
  intro L S h a e
  split at e
  · exact ra_Ru.weak (nX12_best_125_ok N c50 c66 cs hc50 hc66 hcs _ _ _ _ _ _ _ _ _ _ _ _ _ e) ⟨rfl, ⟨rfl, ⟨rfl, ⟨rfl, ⟨rfl, ⟨rfl, ⟨rfl, ⟨rfl, ⟨rfl, ⟨rfl, ⟨rfl, trivial⟩⟩⟩⟩⟩⟩⟩⟩⟩⟩⟩
  · cases e) ra_k0_ok))
set_option maxRecDepth 100000 in
theorem nX12_best_82_ok (N : Nat) (c50 : Nat → Int32 → Int32 → Int32 → Int32 → Int32 → Int32 → Int32 → ra_H → Option (Int32 × ra_H)) (c66 : Nat → Int32 → Int32 → Int32 → Int32 → Int32 → Int32 → Int32 → Int32 → ra_H → Option (Int32 × ra_H)) (hc50 : ∀ a0 a1 a2 a3 a4 a5 a6 a7 h r, c50 a0 a1 a2 a3 a4 a5 a6 a7 h = some r → ra_Ru 7 mX12_best 50 [some (.ref a0), some (.int a1), some (.int a2), some (.int a3), some (.int a4), some (.int a5), some (.int a6), some (.int a7), none, none, none] [] h (ra_oI r)) (hc66 : ∀ a0 a1 a2 a3 a4 a5 a6 a7 a8 h r, c66 a0 a1 a2 a3 a4 a5 a6 a7 a8 h = some r → ra_Ru 7 mX12_best 66 [some (.ref a0), some (.int a1), some (.int a2), some (.int a3), some (.int a4), some (.int a5), some (.int a6), some (.int a7), some (.int a8), none, none] [] h (ra_oI r)) : ∀ n a0 a1 a2 a3 a4 a5 a6 a7 a8 a9 h r, nX12_best_82 N c50 c66 n a0 a1 a2 a3 a4 a5 a6 a7 a8 a9 h = some r → ra_Ru 7 mX12_best 82 [some (.ref a0), some (.int a1), some (.int a2), some (.int a3), some (.int a4), some (.int a5), some (.int a6), some (.int a7), some (.int a8), some (.int a9), none] [] h (ra_oI r) := by
  intro n
  induction n with
  | zero => intro a0 a1 a2 a3 a4 a5 a6 a7 a8 a9 h r e; cases e
  | succ n ih =>
    intro a0 a1 a2 a3 a4 a5 a6 a7 a8 a9 h r e
    exact ra_sound (by omega) rfl ra_rI_ok (kX12_best_82_ok N c50 c66 hc50 hc66 (nX12_best_82 N c50 c66 n) ih) (fun m av h h1 e => (tVX12_best_ok N) m av h h1 e) (fun m av h x h1 e => (tIX12_best_ok N) m av h (x, h1) e) (fun m av h x h1 e => (ra_c0_ok (ro := ra_oJ)) m av h (x, h1) e) (fun m av h x h1 e => (ra_c0_ok (ro := ra_oR)) m av h (x, h1) e) (fun m av h x h1 e => (ra_c0_ok (ro := ra_oN)) m av h (x, h1) e) (fun m av h x h1 e => (ra_c0_ok (ro := ra_oF)) m av h (x, h1) e) 25 lX12_best_82 _ _ _ _ lX12_best_82_ck (show ra_run ra_rI (kX12_best_82 N c50 c66 (nX12_best_82 N c50 c66 n)) (tVX12_best N) (tIX12_best N) ra_c0 ra_c0 ra_c0 ra_c0 25 lX12_best_82 [some (.ref a0), some (.int a1), some (.int a2), some (.int a3), some (.int a4), some (.int a5), some (.int a6), some (.int a7), some (.int a8), some (.int a9), none] [] h = some r from e) _ _ rfl
def lX12_best_66 : List ra_I := [(66, .iload 8, 2, 8, 0, 0, 0, 0, []),
  (68, .aload_n 0, 1, 0, 0, 0, 0, 0, []),
  (69, .getfield 13, 3, 12, 3, 2, 0, 0, []),
  (72, .sipush (481), 3, 0, 0, 0, (481), 0, []),
  (75, .iaload, 1, 0, 0, 0, 0, 0, []),
  (76, .if_icmp .ge (77), 3, 153, 0, 0, 0, 0, []),
  (79, .iconst (0), 1, 0, 0, 0, (0), 0, []),
  (80, .istore 9, 2, 9, 0, 0, 0, 0, []),
  (153, .iinc 7 (1), 3, 7, 0, 0, (1), 0, []),
  (156, .goto (-106), 3, 50, 0, 0, 0, 0, [])]
set_option maxRecDepth 100000 in
theorem lX12_best_66_ck : lX12_best_66.all (ra_ck mX12_best 12) = true := by decide +kernel
def nX12_best_66 (N : Nat) (c50 : Nat → Int32 → Int32 → Int32 → Int32 → Int32 → Int32 → Int32 → ra_H → Option (Int32 × ra_H)) : Nat → Nat → Int32 → Int32 → Int32 → Int32 → Int32 → Int32 → Int32 → Int32 → ra_H → Option (Int32 × ra_H)
  | 0, _, _, _, _, _, _, _, _, _, _ => none
  | n + 1, a0, a1, a2, a3, a4, a5, a6, a7, a8, h =>
  (ra_fR h 12 a0 3).bind fun x1 =>
  (ra_aI h 0 x1 ((481 : Int32))).bind fun x2 =>
  if a8 < x2 then
    nX12_best_82 N c50 (nX12_best_66 N c50 n) N a0 a1 a2 a3 a4 a5 a6 a7 a8 ((0 : Int32)) h
  else
    let y3 := a7 + (1 : Int32)
    c50 a0 a1 a2 a3 a4 a5 a6 y3 h
def kX12_best_66 (N : Nat) (c50 : Nat → Int32 → Int32 → Int32 → Int32 → Int32 → Int32 → Int32 → ra_H → Option (Int32 × ra_H)) (cs : Nat → Int32 → Int32 → Int32 → Int32 → Int32 → Int32 → Int32 → Int32 → ra_H → Option (Int32 × ra_H)) : Nat → List (Option Value) → List Value → ra_H → Option (Int32 × ra_H) := (ra_k1 50 (fun L S h => match L, S with
  | [some (.ref a0), some (.int a1), some (.int a2), some (.int a3), some (.int a4), some (.int a5), some (.int a6), some (.int a7), _, _, _], [] => c50 a0 a1 a2 a3 a4 a5 a6 a7 h
  | _, _ => none) (ra_k1 82 (fun L S h => match L, S with
  | [some (.ref a0), some (.int a1), some (.int a2), some (.int a3), some (.int a4), some (.int a5), some (.int a6), some (.int a7), some (.int a8), some (.int a9), _], [] => nX12_best_82 N c50 cs N a0 a1 a2 a3 a4 a5 a6 a7 a8 a9 h
  | _, _ => none) ra_k0))
theorem kX12_best_66_ok (N : Nat) (c50 : Nat → Int32 → Int32 → Int32 → Int32 → Int32 → Int32 → Int32 → ra_H → Option (Int32 × ra_H)) (hc50 : ∀ a0 a1 a2 a3 a4 a5 a6 a7 h r, c50 a0 a1 a2 a3 a4 a5 a6 a7 h = some r → ra_Ru 7 mX12_best 50 [some (.ref a0), some (.int a1), some (.int a2), some (.int a3), some (.int a4), some (.int a5), some (.int a6), some (.int a7), none, none, none] [] h (ra_oI r)) (cs : Nat → Int32 → Int32 → Int32 → Int32 → Int32 → Int32 → Int32 → Int32 → ra_H → Option (Int32 × ra_H)) (hcs : ∀ a0 a1 a2 a3 a4 a5 a6 a7 a8 h r, cs a0 a1 a2 a3 a4 a5 a6 a7 a8 h = some r → ra_Ru 7 mX12_best 66 [some (.ref a0), some (.int a1), some (.int a2), some (.int a3), some (.int a4), some (.int a5), some (.int a6), some (.int a7), some (.int a8), none, none] [] h (ra_oI r)) : ra_kok 7 mX12_best ra_oI (kX12_best_66 N c50 cs) := (ra_k1_ok (by
  intro L S h a e
  split at e
  · exact ra_Ru.weak (hc50 _ _ _ _ _ _ _ _ _ _ e) ⟨rfl, ⟨rfl, ⟨rfl, ⟨rfl, ⟨rfl, ⟨rfl, ⟨rfl, ⟨rfl, trivial⟩⟩⟩⟩⟩⟩⟩⟩
  · cases e) (ra_k1_ok (by
  intro L S h a e
  split at e
  · exact ra_Ru.weak (nX12_best_82_ok N c50 cs hc50 hcs N _ _ _ _ _ _ _ _ _ _ _ _ e) ⟨rfl, ⟨rfl, ⟨rfl, ⟨rfl, ⟨rfl, ⟨rfl, ⟨rfl, ⟨rfl, ⟨rfl, ⟨rfl, trivial⟩⟩⟩⟩⟩⟩⟩⟩⟩⟩
  · cases e) ra_k0_ok))
set_option maxRecDepth 100000 in
theorem nX12_best_66_ok (N : Nat) (c50 : Nat → Int32 → Int32 → Int32 → Int32 → Int32 → Int32 → Int32 → ra_H → Option (Int32 × ra_H)) (hc50 : ∀ a0 a1 a2 a3 a4 a5 a6 a7 h r, c50 a0 a1 a2 a3 a4 a5 a6 a7 h = some r → ra_Ru 7 mX12_best 50 [some (.ref a0), some (.int a1), some (.int a2), some (.int a3), some (.int a4), some (.int a5), some (.int a6), some (.int a7), none, none, none] [] h (ra_oI r)) : ∀ n a0 a1 a2 a3 a4 a5 a6 a7 a8 h r, nX12_best_66 N c50 n a0 a1 a2 a3 a4 a5 a6 a7 a8 h = some r → ra_Ru 7 mX12_best 66 [some (.ref a0), some (.int a1), some (.int a2), some (.int a3), some (.int a4), some (.int a5), some (.int a6), some (.int a7), some (.int a8), none, none] [] h (ra_oI r) := by
  intro n
  induction n with
  | zero => intro a0 a1 a2 a3 a4 a5 a6 a7 a8 h r e; cases e
  | succ n ih =>
    intro a0 a1 a2 a3 a4 a5 a6 a7 a8 h r e
    exact ra_sound (by omega) rfl ra_rI_ok (kX12_best_66_ok N c50 hc50 (nX12_best_66 N c50 n) ih) (fun m av h h1 e => (tVX12_best_ok N) m av h h1 e) (fun m av h x h1 e => (tIX12_best_ok N) m av h (x, h1) e) (fun m av h x h1 e => (ra_c0_ok (ro := ra_oJ)) m av h (x, h1) e) (fun m av h x h1 e => (ra_c0_ok (ro := ra_oR)) m av h (x, h1) e) (fun m av h x h1 e => (ra_c0_ok (ro := ra_oN)) m av h (x, h1) e) (fun m av h x h1 e => (ra_c0_ok (ro := ra_oF)) m av h (x, h1) e) 11 lX12_best_66 _ _ _ _ lX12_best_66_ck (show ra_run ra_rI (kX12_best_66 N c50 (nX12_best_66 N c50 n)) (tVX12_best N) (tIX12_best N) ra_c0 ra_c0 ra_c0 ra_c0 11 lX12_best_66 [some (.ref a0), some (.int a1), some (.int a2), some (.int a3), some (.int a4), some (.int a5), some (.int a6), some (.int a7), some (.int a8), none, none] [] h = some r from e) _ _ rfl
def lX12_best_198 : List ra_I := [(198, .ireturn, 1, 0, 0, 0, 0, 0, [])]
set_option maxRecDepth 100000 in
theorem lX12_best_198_ck : lX12_best_198.all (ra_ck mX12_best 12) = true := by decide +kernel
def nX12_best_198 (N : Nat) (b0 : Int32) (h : ra_H) : Option (Int32 × ra_H) :=
  some (b0, h)
def kX12_best_198 (N : Nat) : Nat → List (Option Value) → List Value → ra_H → Option (Int32 × ra_H) := ra_k0
theorem kX12_best_198_ok (N : Nat) : ra_kok 7 mX12_best ra_oI (kX12_best_198 N) := ra_k0_ok
set_option maxRecDepth 100000 in
theorem nX12_best_198_ok (N : Nat) (b0 : Int32) (h : ra_H) (r : (Int32 × ra_H)) (e : nX12_best_198 N b0 h = some r) : ra_Ru 7 mX12_best 198 [none, none, none, none, none, none, none, none, none, none, none] [.int b0] h (ra_oI r) :=
  ra_sound (by omega) rfl ra_rI_ok (kX12_best_198_ok N) (fun m av h h1 e => (tVX12_best_ok N) m av h h1 e) (fun m av h x h1 e => (tIX12_best_ok N) m av h (x, h1) e) (fun m av h x h1 e => (ra_c0_ok (ro := ra_oJ)) m av h (x, h1) e) (fun m av h x h1 e => (ra_c0_ok (ro := ra_oR)) m av h (x, h1) e) (fun m av h x h1 e => (ra_c0_ok (ro := ra_oN)) m av h (x, h1) e) (fun m av h x h1 e => (ra_c0_ok (ro := ra_oF)) m av h (x, h1) e) 2 lX12_best_198 _ _ _ _ lX12_best_198_ck (show ra_run ra_rI (kX12_best_198 N) (tVX12_best N) (tIX12_best N) ra_c0 ra_c0 ra_c0 ra_c0 2 lX12_best_198 [none, none, none, none, none, none, none, none, none, none, none] [.int b0] h = some r from e) _ _ rfl
def lX12_best_50 : List ra_I := [(50, .iload 7, 2, 7, 0, 0, 0, 0, []),
  (52, .aload_n 0, 1, 0, 0, 0, 0, 0, []),
  (53, .getfield 13, 3, 12, 3, 2, 0, 0, []),
  (56, .sipush (481), 3, 0, 0, 0, (481), 0, []),
  (59, .iaload, 1, 0, 0, 0, 0, 0, []),
  (60, .if_icmp .ge (99), 3, 159, 0, 0, 0, 0, []),
  (63, .iconst (0), 1, 0, 0, 0, (0), 0, []),
  (64, .istore 8, 2, 8, 0, 0, 0, 0, []),
  (159, .iload_n 1, 1, 1, 0, 0, 0, 0, []),
  (160, .ifCond .ne (7), 3, 167, 0, 0, 0, 0, []),
  (163, .iload_n 2, 1, 2, 0, 0, 0, 0, []),
  (164, .goto (34), 3, 198, 0, 0, 0, 0, []),
  (167, .iload_n 1, 1, 1, 0, 0, 0, 0, []),
  (168, .iconst (1), 1, 0, 0, 0, (1), 0, []),
  (169, .if_icmp .ne (7), 3, 176, 0, 0, 0, 0, []),
  (172, .iload_n 3, 1, 3, 0, 0, 0, 0, []),
  (173, .goto (25), 3, 198, 0, 0, 0, 0, []),
  (176, .iload_n 1, 1, 1, 0, 0, 0, 0, []),
  (177, .iconst (2), 1, 0, 0, 0, (2), 0, []),
  (178, .if_icmp .ne (8), 3, 186, 0, 0, 0, 0, []),
  (181, .iload 4, 2, 4, 0, 0, 0, 0, []),
  (183, .goto (15), 3, 198, 0, 0, 0, 0, []),
  (186, .iload_n 1, 1, 1, 0, 0, 0, 0, []),
  (187, .iconst (3), 1, 0, 0, 0, (3), 0, []),
  (188, .if_icmp .ne (8), 3, 196, 0, 0, 0, 0, []),
  (191, .iload 5, 2, 5, 0, 0, 0, 0, []),
  (193, .goto (5), 3, 198, 0, 0, 0, 0, []),
  (196, .iload 6, 2, 6, 0, 0, 0, 0, [])]
set_option maxRecDepth 100000 in
theorem lX12_best_50_ck : lX12_best_50.all (ra_ck mX12_best 12) = true := by decide +kernel
def nX12_best_50 (N : Nat) : Nat → Nat → Int32 → Int32 → Int32 → Int32 → Int32 → Int32 → Int32 → ra_H → Option (Int32 × ra_H)
  | 0, _, _, _, _, _, _, _, _, _ => none
  | n + 1, a0, a1, a2, a3, a4, a5, a6, a7, h =>
  (ra_fR h 12 a0 3).bind fun x1 =>
  (ra_aI h 0 x1 ((481 : Int32))).bind fun x2 =>
  if a7 < x2 then
    nX12_best_66 N (nX12_best_50 N n) N a0 a1 a2 a3 a4 a5 a6 a7 ((0 : Int32)) h
  else
    if a1 = 0 then
      nX12_best_198 N a2 h
    else
      if a1 = ((1 : Int32)) then
        nX12_best_198 N a3 h
      else
        if a1 = ((2 : Int32)) then
          nX12_best_198 N a4 h
        else
          if a1 = ((3 : Int32)) then
            nX12_best_198 N a5 h
          else
            nX12_best_198 N a6 h
def kX12_best_50 (N : Nat) (cs : Nat → Int32 → Int32 → Int32 → Int32 → Int32 → Int32 → Int32 → ra_H → Option (Int32 × ra_H)) : Nat → List (Option Value) → List Value → ra_H → Option (Int32 × ra_H) := (ra_k1 66 (fun L S h => match L, S with
  | [some (.ref a0), some (.int a1), some (.int a2), some (.int a3), some (.int a4), some (.int a5), some (.int a6), some (.int a7), some (.int a8), _, _], [] => nX12_best_66 N cs N a0 a1 a2 a3 a4 a5 a6 a7 a8 h
  | _, _ => none) (ra_k1 198 (fun L S h => match L, S with
  | [_, _, _, _, _, _, _, _, _, _, _], [.int b0] => nX12_best_198 N b0 h
  | _, _ => none) ra_k0))
theorem kX12_best_50_ok (N : Nat) (cs : Nat → Int32 → Int32 → Int32 → Int32 → Int32 → Int32 → Int32 → ra_H → Option (Int32 × ra_H)) (hcs : ∀ a0 a1 a2 a3 a4 a5 a6 a7 h r, cs a0 a1 a2 a3 a4 a5 a6 a7 h = some r → ra_Ru 7 mX12_best 50 [some (.ref a0), some (.int a1), some (.int a2), some (.int a3), some (.int a4), some (.int a5), some (.int a6), some (.int a7), none, none, none] [] h (ra_oI r)) : ra_kok 7 mX12_best ra_oI (kX12_best_50 N cs) := (ra_k1_ok (by
  intro L S h a e
  split at e
  · exact ra_Ru.weak (nX12_best_66_ok N cs hcs N _ _ _ _ _ _ _ _ _ _ _ e) ⟨rfl, ⟨rfl, ⟨rfl, ⟨rfl, ⟨rfl, ⟨rfl, ⟨rfl, ⟨rfl, ⟨rfl, trivial⟩⟩⟩⟩⟩⟩⟩⟩⟩
  · cases e) (ra_k1_ok (by
  intro L S h a e
  split at e
  · exact ra_Ru.weak (nX12_best_198_ok N _ _ _ e) trivial
  · cases e) ra_k0_ok))
set_option maxRecDepth 100000 in
theorem nX12_best_50_ok (N : Nat) : ∀ n a0 a1 a2 a3 a4 a5 a6 a7 h r, nX12_best_50 N n a0 a1 a2 a3 a4 a5 a6 a7 h = some r → ra_Ru 7 mX12_best 50 [some (.ref a0), some (.int a1), some (.int a2), some (.int a3), some (.int a4), some (.int a5), some (.int a6), some (.int a7), none, none, none] [] h (ra_oI r) := by
  intro n
  induction n with
  | zero => intro a0 a1 a2 a3 a4 a5 a6 a7 h r e; cases e
  | succ n ih =>
    intro a0 a1 a2 a3 a4 a5 a6 a7 h r e
    exact ra_sound (by omega) rfl ra_rI_ok (kX12_best_50_ok N (nX12_best_50 N n) ih) (fun m av h h1 e => (tVX12_best_ok N) m av h h1 e) (fun m av h x h1 e => (tIX12_best_ok N) m av h (x, h1) e) (fun m av h x h1 e => (ra_c0_ok (ro := ra_oJ)) m av h (x, h1) e) (fun m av h x h1 e => (ra_c0_ok (ro := ra_oR)) m av h (x, h1) e) (fun m av h x h1 e => (ra_c0_ok (ro := ra_oN)) m av h (x, h1) e) (fun m av h x h1 e => (ra_c0_ok (ro := ra_oF)) m av h (x, h1) e) 29 lX12_best_50 _ _ _ _ lX12_best_50_ck (show ra_run ra_rI (kX12_best_50 N (nX12_best_50 N n)) (tVX12_best N) (tIX12_best N) ra_c0 ra_c0 ra_c0 ra_c0 29 lX12_best_50 [some (.ref a0), some (.int a1), some (.int a2), some (.int a3), some (.int a4), some (.int a5), some (.int a6), some (.int a7), none, none, none] [] h = some r from e) _ _ rfl
def lX12_best_0 : List ra_I := [(0, .aload_n 0, 1, 0, 0, 0, 0, 0, []),
  (1, .iconst (0), 1, 0, 0, 0, (0), 0, []),
  (2, .putfield 147, 3, 12, 0, 0, 0, 0, []),
  (5, .iload_n 1, 1, 1, 0, 0, 0, 0, []),
  (6, .i2l, 1, 0, 0, 0, 0, 0, []),
  (7, .lconst 0, 1, 0, 0, 0, 0, 0, []),
  (8, .ldc2_w 420, 3, 0, 0, 0, 0, (4), []),
  (11, .invokestatic 153, 3, 209, 3, 1, 0, 0, []),
  (14, .ifCond .eq (14), 3, 28, 0, 0, 0, 0, []),
  (17, .aload_n 0, 1, 0, 0, 0, 0, 0, []),
  (18, .getfield 13, 3, 12, 3, 2, 0, 0, []),
  (21, .sipush (481), 3, 0, 0, 0, (481), 0, []),
  (24, .iaload, 1, 0, 0, 0, 0, 0, []),
  (25, .ifCond .ne (5), 3, 30, 0, 0, 0, 0, []),
  (30, .aload_n 0, 1, 0, 0, 0, 0, 0, []),
  (31, .invokevirtual 413, 3, 264, 1, 0, 0, 0, []),
  (34, .iconst (-1), 1, 0, 0, 0, (-1), 0, []),
  (35, .istore_n 2, 1, 2, 0, 0, 0, 0, []),
  (36, .iconst (0), 1, 0, 0, 0, (0), 0, []),
  (37, .istore_n 3, 1, 3, 0, 0, 0, 0, []),
  (38, .iconst (0), 1, 0, 0, 0, (0), 0, []),
  (39, .istore 4, 2, 4, 0, 0, 0, 0, []),
  (41, .iconst (0), 1, 0, 0, 0, (0), 0, []),
  (42, .istore 5, 2, 5, 0, 0, 0, 0, []),
  (44, .iconst (0), 1, 0, 0, 0, (0), 0, []),
  (45, .istore 6, 2, 6, 0, 0, 0, 0, []),
  (47, .iconst (0), 1, 0, 0, 0, (0), 0, []),
  (48, .istore 7, 2, 7, 0, 0, 0, 0, [])]
set_option maxRecDepth 100000 in
theorem lX12_best_0_ck : lX12_best_0.all (ra_ck mX12_best 12) = true := by decide +kernel
def nX12_best_0 (N : Nat) (a0 : Nat) (a1 : Int32) (h : ra_H) : Option (Int32 × ra_H) :=
  (ra_fW h 12 a0 0 (.int ((0 : Int32)))).bind fun h1 =>
  (fX12_in N (Int32.toInt64 a1) ((0 : Int64)) ((4 : Int64)) h1).bind fun q2 =>
  if q2.1 = 0 then
    nX12_best_28 N q2.2
  else
    (ra_fR q2.2 12 a0 3).bind fun x3 =>
    (ra_aI q2.2 0 x3 ((481 : Int32))).bind fun x4 =>
    if x4 = 0 then
      nX12_best_28 N q2.2
    else
      (fX12_findSeats N a0 q2.2).bind fun h5 =>
      nX12_best_50 N N a0 a1 ((-1 : Int32)) ((0 : Int32)) ((0 : Int32)) ((0 : Int32)) ((0 : Int32)) ((0 : Int32)) h5
def kX12_best_0 (N : Nat) : Nat → List (Option Value) → List Value → ra_H → Option (Int32 × ra_H) := (ra_k1 28 (fun L S h => match L, S with
  | [_, _, _, _, _, _, _, _, _, _, _], [] => nX12_best_28 N h
  | _, _ => none) (ra_k1 50 (fun L S h => match L, S with
  | [some (.ref a0), some (.int a1), some (.int a2), some (.int a3), some (.int a4), some (.int a5), some (.int a6), some (.int a7), _, _, _], [] => nX12_best_50 N N a0 a1 a2 a3 a4 a5 a6 a7 h
  | _, _ => none) ra_k0))
theorem kX12_best_0_ok (N : Nat) : ra_kok 7 mX12_best ra_oI (kX12_best_0 N) := (ra_k1_ok (by
  intro L S h a e
  split at e
  · exact ra_Ru.weak (nX12_best_28_ok N _ _ e) trivial
  · cases e) (ra_k1_ok (by
  intro L S h a e
  split at e
  · exact ra_Ru.weak (nX12_best_50_ok N N _ _ _ _ _ _ _ _ _ _ e) ⟨rfl, ⟨rfl, ⟨rfl, ⟨rfl, ⟨rfl, ⟨rfl, ⟨rfl, ⟨rfl, trivial⟩⟩⟩⟩⟩⟩⟩⟩
  · cases e) ra_k0_ok))
set_option maxRecDepth 100000 in
theorem nX12_best_0_ok (N : Nat) (a0 : Nat) (a1 : Int32) (h : ra_H) (r : (Int32 × ra_H)) (e : nX12_best_0 N a0 a1 h = some r) : ra_Ru 7 mX12_best 0 [some (.ref a0), some (.int a1), none, none, none, none, none, none, none, none, none] [] h (ra_oI r) :=
  ra_sound (by omega) rfl ra_rI_ok (kX12_best_0_ok N) (fun m av h h1 e => (tVX12_best_ok N) m av h h1 e) (fun m av h x h1 e => (tIX12_best_ok N) m av h (x, h1) e) (fun m av h x h1 e => (ra_c0_ok (ro := ra_oJ)) m av h (x, h1) e) (fun m av h x h1 e => (ra_c0_ok (ro := ra_oR)) m av h (x, h1) e) (fun m av h x h1 e => (ra_c0_ok (ro := ra_oN)) m av h (x, h1) e) (fun m av h x h1 e => (ra_c0_ok (ro := ra_oF)) m av h (x, h1) e) 29 lX12_best_0 _ _ _ _ lX12_best_0_ck (show ra_run ra_rI (kX12_best_0 N) (tVX12_best N) (tIX12_best N) ra_c0 ra_c0 ra_c0 ra_c0 29 lX12_best_0 [some (.ref a0), some (.int a1), none, none, none, none, none, none, none, none, none] [] h = some r from e) _ _ rfl
def fX12_best (N : Nat) (p0 : Nat) (p1 : Int32) (h : ra_H) : Option (Int32 × ra_H) := match ra_isOb h p0 12 with
  | true => nX12_best_0 N p0 p1 h
  | false => none
set_option maxRecDepth 100000 in
theorem mtX12_best : ra_MT[266]? = some (mX12_best, 1, 1, (1, 13), (8, 101), (8, 102)) := rfl
theorem fX12_best_co (N : Nat) (p0 : Nat) (p1 : Int32) (h : ra_H) (r : (Int32 × ra_H)) (e : fX12_best N p0 p1 h = some r) (D : Nat) (hD : 8 ≤ D) : ra_CO D 266 [.ref p0, .int p1] h (ra_oI r).1 (ra_oI r).2 := by
  have hw : ra_nw2 [.ref p0, .int p1] ≤ 11 := Nat.le_of_ble_eq_true rfl
  have hdb : ∀ v ∈ ([.ref p0, .int p1] : List Value), ∀ x, v ≠ .double x := by
    intro v hv x hx
    simp [hx] at hv
  unfold fX12_best at e
  split at e
  · rename_i ho
    have e1 := e
    exact ⟨7, _, mtX12_best, hD, ra_ev_of (by decide) hdb hw trivial (ra_Ru.weak (nX12_best_0_ok N p0 p1 h _ e1) ⟨rfl, ⟨rfl, trivial⟩⟩), (fun _ => ⟨_, _, rfl, ra_rcv_of ho (by decide) rfl⟩), (fun h => absurd h (by decide))⟩
  · cases e
/-! RedMarksModel.boundOf(I)I -/
def mX12_boundOf : ra_M := (yX12_boundOf, cX12_boundOf, 4, (some .int))
def lX12_boundOf_62 : List ra_I := [(62, .ireturn, 1, 0, 0, 0, 0, 0, [])]
set_option maxRecDepth 100000 in
theorem lX12_boundOf_62_ck : lX12_boundOf_62.all (ra_ck mX12_boundOf 12) = true := by decide +kernel
def nX12_boundOf_62 (N : Nat) (b0 : Int32) (h : ra_H) : Option (Int32 × ra_H) :=
  some (b0, h)
def kX12_boundOf_62 (N : Nat) : Nat → List (Option Value) → List Value → ra_H → Option (Int32 × ra_H) := ra_k0
theorem kX12_boundOf_62_ok (N : Nat) : ra_kok 1 mX12_boundOf ra_oI (kX12_boundOf_62 N) := ra_k0_ok
set_option maxRecDepth 100000 in
theorem nX12_boundOf_62_ok (N : Nat) (b0 : Int32) (h : ra_H) (r : (Int32 × ra_H)) (e : nX12_boundOf_62 N b0 h = some r) : ra_Ru 1 mX12_boundOf 62 [none, none, none, none] [.int b0] h (ra_oI r) :=
  ra_sound (by omega) rfl ra_rI_ok (kX12_boundOf_62_ok N) (fun m av h h1 e => (ra_c0_ok (ro := ra_oV)) m av h h1 e) (fun m av h x h1 e => (ra_c0_ok (ro := ra_oI)) m av h (x, h1) e) (fun m av h x h1 e => (ra_c0_ok (ro := ra_oJ)) m av h (x, h1) e) (fun m av h x h1 e => (ra_c0_ok (ro := ra_oR)) m av h (x, h1) e) (fun m av h x h1 e => (ra_c0_ok (ro := ra_oN)) m av h (x, h1) e) (fun m av h x h1 e => (ra_c0_ok (ro := ra_oF)) m av h (x, h1) e) 2 lX12_boundOf_62 _ _ _ _ lX12_boundOf_62_ck (show ra_run ra_rI (kX12_boundOf_62 N) ra_c0 ra_c0 ra_c0 ra_c0 ra_c0 ra_c0 2 lX12_boundOf_62 [none, none, none, none] [.int b0] h = some r from e) _ _ rfl
def lX12_boundOf_0 : List ra_I := [(0, .sipush (735), 3, 0, 0, 0, (735), 0, []),
  (3, .iconst (2), 1, 0, 0, 0, (2), 0, []),
  (4, .aload_n 0, 1, 0, 0, 0, 0, 0, []),
  (5, .getfield 13, 3, 12, 3, 2, 0, 0, []),
  (8, .bipush (12), 2, 0, 0, 0, (12), 0, []),
  (10, .iload_n 1, 1, 1, 0, 0, 0, 0, []),
  (11, .imul, 1, 0, 0, 0, 0, 0, []),
  (12, .bipush (7), 2, 0, 0, 0, (7), 0, []),
  (14, .iadd, 1, 0, 0, 0, 0, 0, []),
  (15, .iaload, 1, 0, 0, 0, 0, 0, []),
  (16, .imul, 1, 0, 0, 0, 0, 0, []),
  (17, .iadd, 1, 0, 0, 0, 0, 0, []),
  (18, .istore_n 2, 1, 2, 0, 0, 0, 0, []),
  (19, .aload_n 0, 1, 0, 0, 0, 0, 0, []),
  (20, .getfield 13, 3, 12, 3, 2, 0, 0, []),
  (23, .bipush (12), 2, 0, 0, 0, (12), 0, []),
  (25, .iload_n 1, 1, 1, 0, 0, 0, 0, []),
  (26, .imul, 1, 0, 0, 0, 0, 0, []),
  (27, .iconst (2), 1, 0, 0, 0, (2), 0, []),
  (28, .iadd, 1, 0, 0, 0, 0, 0, []),
  (29, .iaload, 1, 0, 0, 0, 0, 0, []),
  (30, .istore_n 3, 1, 3, 0, 0, 0, 0, []),
  (31, .iload_n 3, 1, 3, 0, 0, 0, 0, []),
  (32, .aload_n 0, 1, 0, 0, 0, 0, 0, []),
  (33, .getfield 13, 3, 12, 3, 2, 0, 0, []),
  (36, .iload_n 2, 1, 2, 0, 0, 0, 0, []),
  (37, .iaload, 1, 0, 0, 0, 0, 0, []),
  (38, .if_icmp .ge (7), 3, 45, 0, 0, 0, 0, []),
  (41, .iconst (-1), 1, 0, 0, 0, (-1), 0, []),
  (42, .goto (20), 3, 62, 0, 0, 0, 0, []),
  (45, .iload_n 3, 1, 3, 0, 0, 0, 0, []),
  (46, .aload_n 0, 1, 0, 0, 0, 0, 0, []),
  (47, .getfield 13, 3, 12, 3, 2, 0, 0, []),
  (50, .iload_n 2, 1, 2, 0, 0, 0, 0, []),
  (51, .iconst (1), 1, 0, 0, 0, (1), 0, []),
  (52, .iadd, 1, 0, 0, 0, 0, 0, []),
  (53, .iaload, 1, 0, 0, 0, 0, 0, []),
  (54, .if_icmp .le (7), 3, 61, 0, 0, 0, 0, []),
  (57, .iconst (1), 1, 0, 0, 0, (1), 0, []),
  (58, .goto (4), 3, 62, 0, 0, 0, 0, []),
  (61, .iconst (0), 1, 0, 0, 0, (0), 0, [])]
set_option maxRecDepth 100000 in
theorem lX12_boundOf_0_ck : lX12_boundOf_0.all (ra_ck mX12_boundOf 12) = true := by decide +kernel
def nX12_boundOf_0 (N : Nat) (a0 : Nat) (a1 : Int32) (h : ra_H) : Option (Int32 × ra_H) :=
  (ra_fR h 12 a0 3).bind fun x1 =>
  (ra_aI h 0 x1 ((((12 : Int32)) * a1) + ((7 : Int32)))).bind fun x2 =>
  let y3 := ((735 : Int32)) + (((2 : Int32)) * x2)
  (ra_fR h 12 a0 3).bind fun x4 =>
  (ra_aI h 0 x4 ((((12 : Int32)) * a1) + ((2 : Int32)))).bind fun x5 =>
  (ra_fR h 12 a0 3).bind fun x6 =>
  (ra_aI h 0 x6 y3).bind fun x7 =>
  if x5 < x7 then
    nX12_boundOf_62 N ((-1 : Int32)) h
  else
    (ra_fR h 12 a0 3).bind fun x8 =>
    (ra_aI h 0 x8 (y3 + ((1 : Int32)))).bind fun x9 =>
    if x5 ≤ x9 then
      nX12_boundOf_62 N ((0 : Int32)) h
    else
      nX12_boundOf_62 N ((1 : Int32)) h
def kX12_boundOf_0 (N : Nat) : Nat → List (Option Value) → List Value → ra_H → Option (Int32 × ra_H) := (ra_k1 62 (fun L S h => match L, S with
  | [_, _, _, _], [.int b0] => nX12_boundOf_62 N b0 h
  | _, _ => none) ra_k0)
theorem kX12_boundOf_0_ok (N : Nat) : ra_kok 1 mX12_boundOf ra_oI (kX12_boundOf_0 N) := (ra_k1_ok (by
  intro L S h a e
  split at e
  · exact ra_Ru.weak (nX12_boundOf_62_ok N _ _ _ e) trivial
  · cases e) ra_k0_ok)
set_option maxRecDepth 100000 in
theorem nX12_boundOf_0_ok (N : Nat) (a0 : Nat) (a1 : Int32) (h : ra_H) (r : (Int32 × ra_H)) (e : nX12_boundOf_0 N a0 a1 h = some r) : ra_Ru 1 mX12_boundOf 0 [some (.ref a0), some (.int a1), none, none] [] h (ra_oI r) :=
  ra_sound (by omega) rfl ra_rI_ok (kX12_boundOf_0_ok N) (fun m av h h1 e => (ra_c0_ok (ro := ra_oV)) m av h h1 e) (fun m av h x h1 e => (ra_c0_ok (ro := ra_oI)) m av h (x, h1) e) (fun m av h x h1 e => (ra_c0_ok (ro := ra_oJ)) m av h (x, h1) e) (fun m av h x h1 e => (ra_c0_ok (ro := ra_oR)) m av h (x, h1) e) (fun m av h x h1 e => (ra_c0_ok (ro := ra_oN)) m av h (x, h1) e) (fun m av h x h1 e => (ra_c0_ok (ro := ra_oF)) m av h (x, h1) e) 42 lX12_boundOf_0 _ _ _ _ lX12_boundOf_0_ck (show ra_run ra_rI (kX12_boundOf_0 N) ra_c0 ra_c0 ra_c0 ra_c0 ra_c0 ra_c0 42 lX12_boundOf_0 [some (.ref a0), some (.int a1), none, none] [] h = some r from e) _ _ rfl
def fX12_boundOf (N : Nat) (p0 : Nat) (p1 : Int32) (h : ra_H) : Option (Int32 × ra_H) := match ra_isOb h p0 12 with
  | true => nX12_boundOf_0 N p0 p1 h
  | false => none
set_option maxRecDepth 100000 in
theorem mtX12_boundOf : ra_MT[298]? = some (mX12_boundOf, 1, 1, (1, 13), (8, 232), (0, 110)) := rfl
theorem fX12_boundOf_co (N : Nat) (p0 : Nat) (p1 : Int32) (h : ra_H) (r : (Int32 × ra_H)) (e : fX12_boundOf N p0 p1 h = some r) (D : Nat) (hD : 2 ≤ D) : ra_CO D 298 [.ref p0, .int p1] h (ra_oI r).1 (ra_oI r).2 := by
  have hw : ra_nw2 [.ref p0, .int p1] ≤ 4 := Nat.le_of_ble_eq_true rfl
  have hdb : ∀ v ∈ ([.ref p0, .int p1] : List Value), ∀ x, v ≠ .double x := by
    intro v hv x hx
    simp [hx] at hv
  unfold fX12_boundOf at e
  split at e
  · rename_i ho
    have e1 := e
    exact ⟨1, _, mtX12_boundOf, hD, ra_ev_of (by decide) hdb hw trivial (ra_Ru.weak (nX12_boundOf_0_ok N p0 p1 h _ e1) ⟨rfl, ⟨rfl, trivial⟩⟩), (fun _ => ⟨_, _, rfl, ra_rcv_of ho (by decide) rfl⟩), (fun h => absurd h (by decide))⟩
  · cases e
/-! RedMarksModel.binder(III)I -/
def mX12_binder : ra_M := (yX12_binder, cX12_binder, 6, (some .int))
def tIX12_binder (N : Nat) : Nat → List Value → ra_H → Option (Int32 × ra_H) := (ra_c1 209 (fun av h => match av with
  | [.long z0, .long z1, .long z2] => fX12_in N z0 z1 z2 h
  | _ => none) (ra_c1 210 (fun av h => match av with
  | [.ref z0, .int z1] => fX12_tell N z0 z1 h
  | _ => none) (ra_c1 298 (fun av h => match av with
  | [.ref z0, .int z1] => fX12_boundOf N z0 z1 h
  | _ => none) ra_c0)))
theorem tIX12_binder_ok (N : Nat) : ra_cok 2 ra_oI (tIX12_binder N) := (ra_c1_ok (by
  intro av h a e
  split at e
  · exact fX12_in_co N _ _ _ _ _ e 2 (by omega)
  · cases e) (ra_c1_ok (by
  intro av h a e
  split at e
  · exact fX12_tell_co N _ _ _ _ e 2 (by omega)
  · cases e) (ra_c1_ok (by
  intro av h a e
  split at e
  · exact fX12_boundOf_co N _ _ _ _ e 2 (by omega)
  · cases e) ra_c0_ok)))
def lX12_binder_42 : List ra_I := [(42, .aload_n 0, 1, 0, 0, 0, 0, 0, []),
  (43, .iconst (-1), 1, 0, 0, 0, (-1), 0, []),
  (44, .invokevirtual 157, 3, 210, 2, 1, 0, 0, []),
  (47, .ireturn, 1, 0, 0, 0, 0, 0, [])]
set_option maxRecDepth 100000 in
theorem lX12_binder_42_ck : lX12_binder_42.all (ra_ck mX12_binder 12) = true := by decide +kernel
def nX12_binder_42 (N : Nat) (a0 : Nat) (h : ra_H) : Option (Int32 × ra_H) :=
  (fX12_tell N a0 ((-1 : Int32)) h).bind fun q1 =>
  some (q1.1, q1.2)
def kX12_binder_42 (N : Nat) : Nat → List (Option Value) → List Value → ra_H → Option (Int32 × ra_H) := ra_k0
theorem kX12_binder_42_ok (N : Nat) : ra_kok 2 mX12_binder ra_oI (kX12_binder_42 N) := ra_k0_ok
set_option maxRecDepth 100000 in
theorem nX12_binder_42_ok (N : Nat) (a0 : Nat) (h : ra_H) (r : (Int32 × ra_H)) (e : nX12_binder_42 N a0 h = some r) : ra_Ru 2 mX12_binder 42 [some (.ref a0), none, none, none, none, none] [] h (ra_oI r) :=
  ra_sound (by omega) rfl ra_rI_ok (kX12_binder_42_ok N) (fun m av h h1 e => (ra_c0_ok (ro := ra_oV)) m av h h1 e) (fun m av h x h1 e => (tIX12_binder_ok N) m av h (x, h1) e) (fun m av h x h1 e => (ra_c0_ok (ro := ra_oJ)) m av h (x, h1) e) (fun m av h x h1 e => (ra_c0_ok (ro := ra_oR)) m av h (x, h1) e) (fun m av h x h1 e => (ra_c0_ok (ro := ra_oN)) m av h (x, h1) e) (fun m av h x h1 e => (ra_c0_ok (ro := ra_oF)) m av h (x, h1) e) 5 lX12_binder_42 _ _ _ _ lX12_binder_42_ck (show ra_run ra_rI (kX12_binder_42 N) ra_c0 (tIX12_binder N) ra_c0 ra_c0 ra_c0 ra_c0 5 lX12_binder_42 [some (.ref a0), none, none, none, none, none] [] h = some r from e) _ _ rfl
def lX12_binder_128 : List ra_I := [(128, .iadd, 1, 0, 0, 0, 0, 0, []),
  (129, .istore 4, 2, 4, 0, 0, 0, 0, []),
  (131, .iinc 5 (1), 3, 5, 0, 0, (1), 0, []),
  (134, .goto (-52), 3, 82, 0, 0, 0, 0, [])]
set_option maxRecDepth 100000 in
theorem lX12_binder_128_ck : lX12_binder_128.all (ra_ck mX12_binder 12) = true := by decide +kernel
def nX12_binder_128 (N : Nat) (c82 : Nat → Int32 → Int32 → Int32 → ra_H → Option (Int32 × ra_H)) (a0 : Nat) (a1 : Int32) (a5 : Int32) (b0 : Int32) (b1 : Int32) (h : ra_H) : Option (Int32 × ra_H) :=
  let y1 := b0 + b1
  let y2 := a5 + (1 : Int32)
  c82 a0 a1 y1 y2 h
def kX12_binder_128 (N : Nat) (c82 : Nat → Int32 → Int32 → Int32 → ra_H → Option (Int32 × ra_H)) : Nat → List (Option Value) → List Value → ra_H → Option (Int32 × ra_H) := (ra_k1 82 (fun L S h => match L, S with
  | [some (.ref a0), some (.int a1), _, _, some (.int a4), some (.int a5)], [] => c82 a0 a1 a4 a5 h
  | _, _ => none) ra_k0)
theorem kX12_binder_128_ok (N : Nat) (c82 : Nat → Int32 → Int32 → Int32 → ra_H → Option (Int32 × ra_H)) (hc82 : ∀ a0 a1 a4 a5 h r, c82 a0 a1 a4 a5 h = some r → ra_Ru 2 mX12_binder 82 [some (.ref a0), some (.int a1), none, none, some (.int a4), some (.int a5)] [] h (ra_oI r)) : ra_kok 2 mX12_binder ra_oI (kX12_binder_128 N c82) := (ra_k1_ok (by
  intro L S h a e
  split at e
  · exact ra_Ru.weak (hc82 _ _ _ _ _ _ e) ⟨rfl, ⟨rfl, ⟨rfl, ⟨rfl, trivial⟩⟩⟩⟩
  · cases e) ra_k0_ok)
set_option maxRecDepth 100000 in
theorem nX12_binder_128_ok (N : Nat) (c82 : Nat → Int32 → Int32 → Int32 → ra_H → Option (Int32 × ra_H)) (hc82 : ∀ a0 a1 a4 a5 h r, c82 a0 a1 a4 a5 h = some r → ra_Ru 2 mX12_binder 82 [some (.ref a0), some (.int a1), none, none, some (.int a4), some (.int a5)] [] h (ra_oI r)) (a0 : Nat) (a1 : Int32) (a5 : Int32) (b0 : Int32) (b1 : Int32) (h : ra_H) (r : (Int32 × ra_H)) (e : nX12_binder_128 N c82 a0 a1 a5 b0 b1 h = some r) : ra_Ru 2 mX12_binder 128 [some (.ref a0), some (.int a1), none, none, none, some (.int a5)] [.int b1, .int b0] h (ra_oI r) :=
  ra_sound (by omega) rfl ra_rI_ok (kX12_binder_128_ok N c82 hc82) (fun m av h h1 e => (ra_c0_ok (ro := ra_oV)) m av h h1 e) (fun m av h x h1 e => (tIX12_binder_ok N) m av h (x, h1) e) (fun m av h x h1 e => (ra_c0_ok (ro := ra_oJ)) m av h (x, h1) e) (fun m av h x h1 e => (ra_c0_ok (ro := ra_oR)) m av h (x, h1) e) (fun m av h x h1 e => (ra_c0_ok (ro := ra_oN)) m av h (x, h1) e) (fun m av h x h1 e => (ra_c0_ok (ro := ra_oF)) m av h (x, h1) e) 5 lX12_binder_128 _ _ _ _ lX12_binder_128_ck (show ra_run ra_rI (kX12_binder_128 N c82) ra_c0 (tIX12_binder N) ra_c0 ra_c0 ra_c0 ra_c0 5 lX12_binder_128 [some (.ref a0), some (.int a1), none, none, none, some (.int a5)] [.int b1, .int b0] h = some r from e) _ _ rfl
def lX12_binder_127 : List ra_I := [(127, .iconst (0), 1, 0, 0, 0, (0), 0, [])]
set_option maxRecDepth 100000 in
theorem lX12_binder_127_ck : lX12_binder_127.all (ra_ck mX12_binder 12) = true := by decide +kernel
def nX12_binder_127 (N : Nat) (c82 : Nat → Int32 → Int32 → Int32 → ra_H → Option (Int32 × ra_H)) (a0 : Nat) (a1 : Int32) (a5 : Int32) (b0 : Int32) (h : ra_H) : Option (Int32 × ra_H) :=
  nX12_binder_128 N c82 a0 a1 a5 b0 ((0 : Int32)) h
def kX12_binder_127 (N : Nat) (c82 : Nat → Int32 → Int32 → Int32 → ra_H → Option (Int32 × ra_H)) : Nat → List (Option Value) → List Value → ra_H → Option (Int32 × ra_H) := (ra_k1 128 (fun L S h => match L, S with
  | [some (.ref a0), some (.int a1), _, _, _, some (.int a5)], [.int b1, .int b0] => nX12_binder_128 N c82 a0 a1 a5 b0 b1 h
  | _, _ => none) ra_k0)
theorem kX12_binder_127_ok (N : Nat) (c82 : Nat → Int32 → Int32 → Int32 → ra_H → Option (Int32 × ra_H)) (hc82 : ∀ a0 a1 a4 a5 h r, c82 a0 a1 a4 a5 h = some r → ra_Ru 2 mX12_binder 82 [some (.ref a0), some (.int a1), none, none, some (.int a4), some (.int a5)] [] h (ra_oI r)) : ra_kok 2 mX12_binder ra_oI (kX12_binder_127 N c82) := (ra_k1_ok (by
  intro L S h a e
  split at e
  · exact ra_Ru.weak (nX12_binder_128_ok N c82 hc82 _ _ _ _ _ _ _ e) ⟨rfl, ⟨rfl, ⟨rfl, trivial⟩⟩⟩
  · cases e) ra_k0_ok)
set_option maxRecDepth 100000 in
theorem nX12_binder_127_ok (N : Nat) (c82 : Nat → Int32 → Int32 → Int32 → ra_H → Option (Int32 × ra_H)) (hc82 : ∀ a0 a1 a4 a5 h r, c82 a0 a1 a4 a5 h = some r → ra_Ru 2 mX12_binder 82 [some (.ref a0), some (.int a1), none, none, some (.int a4), some (.int a5)] [] h (ra_oI r)) (a0 : Nat) (a1 : Int32) (a5 : Int32) (b0 : Int32) (h : ra_H) (r : (Int32 × ra_H)) (e : nX12_binder_127 N c82 a0 a1 a5 b0 h = some r) : ra_Ru 2 mX12_binder 127 [some (.ref a0), some (.int a1), none, none, none, some (.int a5)] [.int b0] h (ra_oI r) :=
  ra_sound (by omega) rfl ra_rI_ok (kX12_binder_127_ok N c82 hc82) (fun m av h h1 e => (ra_c0_ok (ro := ra_oV)) m av h h1 e) (fun m av h x h1 e => (tIX12_binder_ok N) m av h (x, h1) e) (fun m av h x h1 e => (ra_c0_ok (ro := ra_oJ)) m av h (x, h1) e) (fun m av h x h1 e => (ra_c0_ok (ro := ra_oR)) m av h (x, h1) e) (fun m av h x h1 e => (ra_c0_ok (ro := ra_oN)) m av h (x, h1) e) (fun m av h x h1 e => (ra_c0_ok (ro := ra_oF)) m av h (x, h1) e) 2 lX12_binder_127 _ _ _ _ lX12_binder_127_ck (show ra_run ra_rI (kX12_binder_127 N c82) ra_c0 (tIX12_binder N) ra_c0 ra_c0 ra_c0 ra_c0 2 lX12_binder_127 [some (.ref a0), some (.int a1), none, none, none, some (.int a5)] [.int b0] h = some r from e) _ _ rfl
def lX12_binder_82 : List ra_I := [(82, .iload 5, 2, 5, 0, 0, 0, 0, []),
  (84, .aload_n 0, 1, 0, 0, 0, 0, 0, []),
  (85, .getfield 13, 3, 12, 3, 2, 0, 0, []),
  (88, .sipush (480), 3, 0, 0, 0, (480), 0, []),
  (91, .iaload, 1, 0, 0, 0, 0, 0, []),
  (92, .if_icmp .ge (45), 3, 137, 0, 0, 0, 0, []),
  (95, .iload 4, 2, 4, 0, 0, 0, 0, []),
  (97, .aload_n 0, 1, 0, 0, 0, 0, 0, []),
  (98, .getfield 13, 3, 12, 3, 2, 0, 0, []),
  (101, .bipush (12), 2, 0, 0, 0, (12), 0, []),
  (103, .iload 5, 2, 5, 0, 0, 0, 0, []),
  (105, .imul, 1, 0, 0, 0, 0, 0, []),
  (106, .bipush (7), 2, 0, 0, 0, (7), 0, []),
  (108, .iadd, 1, 0, 0, 0, 0, 0, []),
  (109, .iaload, 1, 0, 0, 0, 0, 0, []),
  (110, .iload_n 1, 1, 1, 0, 0, 0, 0, []),
  (111, .if_icmp .ne (16), 3, 127, 0, 0, 0, 0, []),
  (114, .aload_n 0, 1, 0, 0, 0, 0, 0, []),
  (115, .iload 5, 2, 5, 0, 0, 0, 0, []),
  (117, .invokevirtual 476, 3, 298, 2, 1, 0, 0, []),
  (120, .ifCond .eq (7), 3, 127, 0, 0, 0, 0, []),
  (123, .iconst (1), 1, 0, 0, 0, (1), 0, []),
  (124, .goto (4), 3, 128, 0, 0, 0, 0, []),
  (137, .aload_n 0, 1, 0, 0, 0, 0, 0, []),
  (138, .iload 4, 2, 4, 0, 0, 0, 0, []),
  (140, .invokevirtual 157, 3, 210, 2, 1, 0, 0, []),
  (143, .ireturn, 1, 0, 0, 0, 0, 0, [])]
set_option maxRecDepth 100000 in
theorem lX12_binder_82_ck : lX12_binder_82.all (ra_ck mX12_binder 12) = true := by decide +kernel
def nX12_binder_82 (N : Nat) : Nat → Nat → Int32 → Int32 → Int32 → ra_H → Option (Int32 × ra_H)
  | 0, _, _, _, _, _ => none
  | n + 1, a0, a1, a4, a5, h =>
  (ra_fR h 12 a0 3).bind fun x1 =>
  (ra_aI h 0 x1 ((480 : Int32))).bind fun x2 =>
  if a5 < x2 then
    (ra_fR h 12 a0 3).bind fun x4 =>
    (ra_aI h 0 x4 ((((12 : Int32)) * a5) + ((7 : Int32)))).bind fun x5 =>
    if x5 = a1 then
      (fX12_boundOf N a0 a5 h).bind fun q6 =>
      if q6.1 = 0 then
        nX12_binder_127 N (nX12_binder_82 N n) a0 a1 a5 a4 q6.2
      else
        nX12_binder_128 N (nX12_binder_82 N n) a0 a1 a5 a4 ((1 : Int32)) q6.2
    else
      nX12_binder_127 N (nX12_binder_82 N n) a0 a1 a5 a4 h
  else
    (fX12_tell N a0 a4 h).bind fun q3 =>
    some (q3.1, q3.2)
def kX12_binder_82 (N : Nat) (cs : Nat → Int32 → Int32 → Int32 → ra_H → Option (Int32 × ra_H)) : Nat → List (Option Value) → List Value → ra_H → Option (Int32 × ra_H) := (ra_k1 127 (fun L S h => match L, S with
  | [some (.ref a0), some (.int a1), _, _, _, some (.int a5)], [.int b0] => nX12_binder_127 N cs a0 a1 a5 b0 h
  | _, _ => none) (ra_k1 128 (fun L S h => match L, S with
  | [some (.ref a0), some (.int a1), _, _, _, some (.int a5)], [.int b1, .int b0] => nX12_binder_128 N cs a0 a1 a5 b0 b1 h
  | _, _ => none) ra_k0))
theorem kX12_binder_82_ok (N : Nat) (cs : Nat → Int32 → Int32 → Int32 → ra_H → Option (Int32 × ra_H)) (hcs : ∀ a0 a1 a4 a5 h r, cs a0 a1 a4 a5 h = some r → ra_Ru 2 mX12_binder 82 [some (.ref a0), some (.int a1), none, none, some (.int a4), some (.int a5)] [] h (ra_oI r)) : ra_kok 2 mX12_binder ra_oI (kX12_binder_82 N cs) := (ra_k1_ok (by
  intro L S h a e
  split at e
  · exact ra_Ru.weak (nX12_binder_127_ok N cs hcs _ _ _ _ _ _ e) ⟨rfl, ⟨rfl, ⟨rfl, trivial⟩⟩⟩
  · cases e) (ra_k1_ok (by
  intro L S h a e
  split at e
  · exact ra_Ru.weak (nX12_binder_128_ok N cs hcs _ _ _ _ _ _ _ e) ⟨rfl, ⟨rfl, ⟨rfl, trivial⟩⟩⟩
  · cases e) ra_k0_ok))
set_option maxRecDepth 100000 in
theorem nX12_binder_82_ok (N : Nat) : ∀ n a0 a1 a4 a5 h r, nX12_binder_82 N n a0 a1 a4 a5 h = some r → ra_Ru 2 mX12_binder 82 [some (.ref a0), some (.int a1), none, none, some (.int a4), some (.int a5)] [] h (ra_oI r) := by
  intro n
  induction n with
  | zero => intro a0 a1 a4 a5 h r e; cases e
  | succ n ih =>
    intro a0 a1 a4 a5 h r e
    exact ra_sound (by omega) rfl ra_rI_ok (kX12_binder_82_ok N (nX12_binder_82 N n) ih) (fun m av h h1 e => (ra_c0_ok (ro := ra_oV)) m av h h1 e) (fun m av h x h1 e => (tIX12_binder_ok N) m av h (x, h1) e) (fun m av h x h1 e => (ra_c0_ok (ro := ra_oJ)) m av h (x, h1) e) (fun m av h x h1 e => (ra_c0_ok (ro := ra_oR)) m av h (x, h1) e) (fun m av h x h1 e => (ra_c0_ok (ro := ra_oN)) m av h (x, h1) e) (fun m av h x h1 e => (ra_c0_ok (ro := ra_oF)) m av h (x, h1) e) 28 lX12_binder_82 _ _ _ _ lX12_binder_82_ck (show ra_run ra_rI (kX12_binder_82 N (nX12_binder_82 N n)) ra_c0 (tIX12_binder N) ra_c0 ra_c0 ra_c0 ra_c0 28 lX12_binder_82 [some (.ref a0), some (.int a1), none, none, some (.int a4), some (.int a5)] [] h = some r from e) _ _ rfl
def lX12_binder_0 : List ra_I := [(0, .aload_n 0, 1, 0, 0, 0, 0, 0, []),
  (1, .iconst (0), 1, 0, 0, 0, (0), 0, []),
  (2, .putfield 147, 3, 12, 0, 0, 0, 0, []),
  (5, .iload_n 1, 1, 1, 0, 0, 0, 0, []),
  (6, .i2l, 1, 0, 0, 0, 0, 0, []),
  (7, .lconst 0, 1, 0, 0, 0, 0, 0, []),
  (8, .ldc2_w 175, 3, 0, 0, 0, 0, (9), []),
  (11, .invokestatic 153, 3, 209, 3, 1, 0, 0, []),
  (14, .ifCond .eq (28), 3, 42, 0, 0, 0, 0, []),
  (17, .iload_n 2, 1, 2, 0, 0, 0, 0, []),
  (18, .i2l, 1, 0, 0, 0, 0, 0, []),
  (19, .lconst 0, 1, 0, 0, 0, 0, 0, []),
  (20, .ldc2_w 167, 3, 0, 0, 0, 0, (199), []),
  (23, .invokestatic 153, 3, 209, 3, 1, 0, 0, []),
  (26, .ifCond .eq (16), 3, 42, 0, 0, 0, 0, []),
  (29, .iload_n 3, 1, 3, 0, 0, 0, 0, []),
  (30, .i2l, 1, 0, 0, 0, 0, 0, []),
  (31, .iload_n 2, 1, 2, 0, 0, 0, 0, []),
  (32, .i2l, 1, 0, 0, 0, 0, 0, []),
  (33, .ldc2_w 167, 3, 0, 0, 0, 0, (199), []),
  (36, .invokestatic 153, 3, 209, 3, 1, 0, 0, []),
  (39, .ifCond .ne (9), 3, 48, 0, 0, 0, 0, []),
  (48, .aload_n 0, 1, 0, 0, 0, 0, 0, []),
  (49, .getfield 13, 3, 12, 3, 2, 0, 0, []),
  (52, .sipush (735), 3, 0, 0, 0, (735), 0, []),
  (55, .iconst (2), 1, 0, 0, 0, (2), 0, []),
  (56, .iload_n 1, 1, 1, 0, 0, 0, 0, []),
  (57, .imul, 1, 0, 0, 0, 0, 0, []),
  (58, .iadd, 1, 0, 0, 0, 0, 0, []),
  (59, .iload_n 2, 1, 2, 0, 0, 0, 0, []),
  (60, .iastore, 1, 0, 0, 0, 0, 0, []),
  (61, .aload_n 0, 1, 0, 0, 0, 0, 0, []),
  (62, .getfield 13, 3, 12, 3, 2, 0, 0, []),
  (65, .sipush (735), 3, 0, 0, 0, (735), 0, []),
  (68, .iconst (2), 1, 0, 0, 0, (2), 0, []),
  (69, .iload_n 1, 1, 1, 0, 0, 0, 0, []),
  (70, .imul, 1, 0, 0, 0, 0, 0, []),
  (71, .iadd, 1, 0, 0, 0, 0, 0, []),
  (72, .iconst (1), 1, 0, 0, 0, (1), 0, []),
  (73, .iadd, 1, 0, 0, 0, 0, 0, []),
  (74, .iload_n 3, 1, 3, 0, 0, 0, 0, []),
  (75, .iastore, 1, 0, 0, 0, 0, 0, []),
  (76, .iconst (0), 1, 0, 0, 0, (0), 0, []),
  (77, .istore 4, 2, 4, 0, 0, 0, 0, []),
  (79, .iconst (0), 1, 0, 0, 0, (0), 0, []),
  (80, .istore 5, 2, 5, 0, 0, 0, 0, [])]
set_option maxRecDepth 100000 in
theorem lX12_binder_0_ck : lX12_binder_0.all (ra_ck mX12_binder 12) = true := by decide +kernel
def nX12_binder_0 (N : Nat) (a0 : Nat) (a1 : Int32) (a2 : Int32) (a3 : Int32) (h : ra_H) : Option (Int32 × ra_H) :=
  (ra_fW h 12 a0 0 (.int ((0 : Int32)))).bind fun h1 =>
  (fX12_in N (Int32.toInt64 a1) ((0 : Int64)) ((9 : Int64)) h1).bind fun q2 =>
  if q2.1 = 0 then
    nX12_binder_42 N a0 q2.2
  else
    (fX12_in N (Int32.toInt64 a2) ((0 : Int64)) ((199 : Int64)) q2.2).bind fun q3 =>
    if q3.1 = 0 then
      nX12_binder_42 N a0 q3.2
    else
      (fX12_in N (Int32.toInt64 a3) (Int32.toInt64 a2) ((199 : Int64)) q3.2).bind fun q4 =>
      if q4.1 = 0 then
        nX12_binder_42 N a0 q4.2
      else
        (ra_fR q4.2 12 a0 3).bind fun x5 =>
        (ra_aW q4.2 0 x5 (((735 : Int32)) + (((2 : Int32)) * a1)) a2).bind fun h6 =>
        (ra_fR h6 12 a0 3).bind fun x7 =>
        (ra_aW h6 0 x7 ((((735 : Int32)) + (((2 : Int32)) * a1)) + ((1 : Int32))) a3).bind fun h8 =>
        nX12_binder_82 N N a0 a1 ((0 : Int32)) ((0 : Int32)) h8
def kX12_binder_0 (N : Nat) : Nat → List (Option Value) → List Value → ra_H → Option (Int32 × ra_H) := (ra_k1 42 (fun L S h => match L, S with
  | [some (.ref a0), _, _, _, _, _], [] => nX12_binder_42 N a0 h
  | _, _ => none) (ra_k1 82 (fun L S h => match L, S with
  | [some (.ref a0), some (.int a1), _, _, some (.int a4), some (.int a5)], [] => nX12_binder_82 N N a0 a1 a4 a5 h
  | _, _ => none) ra_k0))
theorem kX12_binder_0_ok (N : Nat) : ra_kok 2 mX12_binder ra_oI (kX12_binder_0 N) := (ra_k1_ok (by
  intro L S h a e
  split at e
  · exact ra_Ru.weak (nX12_binder_42_ok N _ _ _ e) ⟨rfl, trivial⟩
  · cases e) (ra_k1_ok (by
  intro L S h a e
  split at e
  · exact ra_Ru.weak (nX12_binder_82_ok N N _ _ _ _ _ _ e) ⟨rfl, ⟨rfl, ⟨rfl, ⟨rfl, trivial⟩⟩⟩⟩
  · cases e) ra_k0_ok))
set_option maxRecDepth 100000 in
theorem nX12_binder_0_ok (N : Nat) (a0 : Nat) (a1 : Int32) (a2 : Int32) (a3 : Int32) (h : ra_H) (r : (Int32 × ra_H)) (e : nX12_binder_0 N a0 a1 a2 a3 h = some r) : ra_Ru 2 mX12_binder 0 [some (.ref a0), some (.int a1), some (.int a2), some (.int a3), none, none] [] h (ra_oI r) :=
  ra_sound (by omega) rfl ra_rI_ok (kX12_binder_0_ok N) (fun m av h h1 e => (ra_c0_ok (ro := ra_oV)) m av h h1 e) (fun m av h x h1 e => (tIX12_binder_ok N) m av h (x, h1) e) (fun m av h x h1 e => (ra_c0_ok (ro := ra_oJ)) m av h (x, h1) e) (fun m av h x h1 e => (ra_c0_ok (ro := ra_oR)) m av h (x, h1) e) (fun m av h x h1 e => (ra_c0_ok (ro := ra_oN)) m av h (x, h1) e) (fun m av h x h1 e => (ra_c0_ok (ro := ra_oF)) m av h (x, h1) e) 47 lX12_binder_0 _ _ _ _ lX12_binder_0_ck (show ra_run ra_rI (kX12_binder_0 N) ra_c0 (tIX12_binder N) ra_c0 ra_c0 ra_c0 ra_c0 47 lX12_binder_0 [some (.ref a0), some (.int a1), some (.int a2), some (.int a3), none, none] [] h = some r from e) _ _ rfl
def fX12_binder (N : Nat) (p0 : Nat) (p1 : Int32) (p2 : Int32) (p3 : Int32) (h : ra_H) : Option (Int32 × ra_H) := match ra_isOb h p0 12 with
  | true => nX12_binder_0 N p0 p1 p2 p3 h
  | false => none
set_option maxRecDepth 100000 in
theorem mtX12_binder : ra_MT[297]? = some (mX12_binder, 1, 3, (1, 13), (8, 227), (8, 228)) := rfl
theorem fX12_binder_co (N : Nat) (p0 : Nat) (p1 : Int32) (p2 : Int32) (p3 : Int32) (h : ra_H) (r : (Int32 × ra_H)) (e : fX12_binder N p0 p1 p2 p3 h = some r) (D : Nat) (hD : 3 ≤ D) : ra_CO D 297 [.ref p0, .int p1, .int p2, .int p3] h (ra_oI r).1 (ra_oI r).2 := by
  have hw : ra_nw2 [.ref p0, .int p1, .int p2, .int p3] ≤ 6 := Nat.le_of_ble_eq_true rfl
  have hdb : ∀ v ∈ ([.ref p0, .int p1, .int p2, .int p3] : List Value), ∀ x, v ≠ .double x := by
    intro v hv x hx
    simp [hx] at hv
  unfold fX12_binder at e
  split at e
  · rename_i ho
    have e1 := e
    exact ⟨2, _, mtX12_binder, hD, ra_ev_of (by decide) hdb hw trivial (ra_Ru.weak (nX12_binder_0_ok N p0 p1 p2 p3 h _ e1) ⟨rfl, ⟨rfl, ⟨rfl, ⟨rfl, trivial⟩⟩⟩⟩), (fun _ => ⟨_, _, rfl, ra_rcv_of ho (by decide) rfl⟩), (fun h => absurd h (by decide))⟩
  · cases e
/-! RedMarksModel.fits(II)Z -/
def mX12_fits : ra_M := (yX12_fits, cX12_fits, 2, (some .boolean))
def tIX12_fits (N : Nat) : Nat → List Value → ra_H → Option (Int32 × ra_H) := (ra_c1 209 (fun av h => match av with
  | [.long z0, .long z1, .long z2] => fX12_in N z0 z1 z2 h
  | _ => none) ra_c0)
theorem tIX12_fits_ok (N : Nat) : ra_cok 2 ra_oI (tIX12_fits N) := (ra_c1_ok (by
  intro av h a e
  split at e
  · exact fX12_in_co N _ _ _ _ _ e 2 (by omega)
  · cases e) ra_c0_ok)
def lX12_fits_0 : List ra_I := [(0, .iload_n 0, 1, 0, 0, 0, 0, 0, []),
  (1, .tableswitch (155) (2) (11) #[55, 65, 75, 85, 95, 105, 115, 125, 135, 145], 55, 156, 0, 0, 0, 0, [(2, 56), (3, 66), (4, 76), (5, 86), (6, 96), (7, 106), (8, 116), (9, 126), (10, 136), (11, 146)]),
  (56, .iload_n 1, 1, 1, 0, 0, 0, 0, []),
  (57, .i2l, 1, 0, 0, 0, 0, 0, []),
  (58, .lconst 0, 1, 0, 0, 0, 0, 0, []),
  (59, .ldc2_w 167, 3, 0, 0, 0, 0, (199), []),
  (62, .invokestatic 153, 3, 209, 3, 1, 0, 0, []),
  (65, .ireturn, 1, 0, 0, 0, 0, 0, []),
  (66, .iload_n 1, 1, 1, 0, 0, 0, 0, []),
  (67, .i2l, 1, 0, 0, 0, 0, 0, []),
  (68, .lconst 1, 1, 0, 0, 0, 0, 1, []),
  (69, .ldc2_w 169, 3, 0, 0, 0, 0, (30), []),
  (72, .invokestatic 153, 3, 209, 3, 1, 0, 0, []),
  (75, .ireturn, 1, 0, 0, 0, 0, 0, []),
  (76, .iload_n 1, 1, 1, 0, 0, 0, 0, []),
  (77, .i2l, 1, 0, 0, 0, 0, 0, []),
  (78, .lconst 1, 1, 0, 0, 0, 0, 1, []),
  (79, .ldc2_w 171, 3, 0, 0, 0, 0, (40), []),
  (82, .invokestatic 153, 3, 209, 3, 1, 0, 0, []),
  (85, .ireturn, 1, 0, 0, 0, 0, 0, []),
  (86, .iload_n 1, 1, 1, 0, 0, 0, 0, []),
  (87, .i2l, 1, 0, 0, 0, 0, 0, []),
  (88, .lconst 0, 1, 0, 0, 0, 0, 0, []),
  (89, .ldc2_w 173, 3, 0, 0, 0, 0, (2), []),
  (92, .invokestatic 153, 3, 209, 3, 1, 0, 0, []),
  (95, .ireturn, 1, 0, 0, 0, 0, 0, []),
  (96, .iload_n 1, 1, 1, 0, 0, 0, 0, []),
  (97, .i2l, 1, 0, 0, 0, 0, 0, []),
  (98, .lconst 0, 1, 0, 0, 0, 0, 0, []),
  (99, .ldc2_w 171, 3, 0, 0, 0, 0, (40), []),
  (102, .invokestatic 153, 3, 209, 3, 1, 0, 0, []),
  (105, .ireturn, 1, 0, 0, 0, 0, 0, []),
  (106, .iload_n 1, 1, 1, 0, 0, 0, 0, []),
  (107, .i2l, 1, 0, 0, 0, 0, 0, []),
  (108, .lconst 0, 1, 0, 0, 0, 0, 0, []),
  (109, .ldc2_w 175, 3, 0, 0, 0, 0, (9), []),
  (112, .invokestatic 153, 3, 209, 3, 1, 0, 0, []),
  (115, .ireturn, 1, 0, 0, 0, 0, 0, []),
  (116, .iload_n 1, 1, 1, 0, 0, 0, 0, []),
  (117, .i2l, 1, 0, 0, 0, 0, 0, []),
  (118, .lconst 0, 1, 0, 0, 0, 0, 0, []),
  (119, .ldc2_w 175, 3, 0, 0, 0, 0, (9), []),
  (122, .invokestatic 153, 3, 209, 3, 1, 0, 0, []),
  (125, .ireturn, 1, 0, 0, 0, 0, 0, []),
  (126, .iload_n 1, 1, 1, 0, 0, 0, 0, []),
  (127, .i2l, 1, 0, 0, 0, 0, 0, []),
  (128, .lconst 0, 1, 0, 0, 0, 0, 0, []),
  (129, .ldc2_w 177, 3, 0, 0, 0, 0, (999), []),
  (132, .invokestatic 153, 3, 209, 3, 1, 0, 0, []),
  (135, .ireturn, 1, 0, 0, 0, 0, 0, []),
  (136, .iload_n 1, 1, 1, 0, 0, 0, 0, []),
  (137, .i2l, 1, 0, 0, 0, 0, 0, []),
  (138, .lconst 0, 1, 0, 0, 0, 0, 0, []),
  (139, .ldc2_w 179, 3, 0, 0, 0, 0, (7), []),
  (142, .invokestatic 153, 3, 209, 3, 1, 0, 0, []),
  (145, .ireturn, 1, 0, 0, 0, 0, 0, []),
  (146, .iload_n 1, 1, 1, 0, 0, 0, 0, []),
  (147, .i2l, 1, 0, 0, 0, 0, 0, []),
  (148, .lconst 0, 1, 0, 0, 0, 0, 0, []),
  (149, .ldc2_w 181, 3, 0, 0, 0, 0, (11), []),
  (152, .invokestatic 153, 3, 209, 3, 1, 0, 0, []),
  (155, .ireturn, 1, 0, 0, 0, 0, 0, []),
  (156, .iconst (0), 1, 0, 0, 0, (0), 0, []),
  (157, .ireturn, 1, 0, 0, 0, 0, 0, [])]
set_option maxRecDepth 100000 in
theorem lX12_fits_0_ck : lX12_fits_0.all (ra_ck mX12_fits 12) = true := by decide +kernel
def nX12_fits_0 (N : Nat) (a0 : Int32) (a1 : Int32) (h : ra_H) : Option (Int32 × ra_H) :=
  if a0 = (2 : Int32) then
    (fX12_in N (Int32.toInt64 a1) ((0 : Int64)) ((199 : Int64)) h).bind fun q1 =>
    some (q1.1, q1.2)
  else
  if a0 = (3 : Int32) then
    (fX12_in N (Int32.toInt64 a1) ((1 : Int64)) ((30 : Int64)) h).bind fun q2 =>
    some (q2.1, q2.2)
  else
  if a0 = (4 : Int32) then
    (fX12_in N (Int32.toInt64 a1) ((1 : Int64)) ((40 : Int64)) h).bind fun q3 =>
    some (q3.1, q3.2)
  else
  if a0 = (5 : Int32) then
    (fX12_in N (Int32.toInt64 a1) ((0 : Int64)) ((2 : Int64)) h).bind fun q4 =>
    some (q4.1, q4.2)
  else
  if a0 = (6 : Int32) then
    (fX12_in N (Int32.toInt64 a1) ((0 : Int64)) ((40 : Int64)) h).bind fun q5 =>
    some (q5.1, q5.2)
  else
  if a0 = (7 : Int32) then
    (fX12_in N (Int32.toInt64 a1) ((0 : Int64)) ((9 : Int64)) h).bind fun q6 =>
    some (q6.1, q6.2)
  else
  if a0 = (8 : Int32) then
    (fX12_in N (Int32.toInt64 a1) ((0 : Int64)) ((9 : Int64)) h).bind fun q7 =>
    some (q7.1, q7.2)
  else
  if a0 = (9 : Int32) then
    (fX12_in N (Int32.toInt64 a1) ((0 : Int64)) ((999 : Int64)) h).bind fun q8 =>
    some (q8.1, q8.2)
  else
  if a0 = (10 : Int32) then
    (fX12_in N (Int32.toInt64 a1) ((0 : Int64)) ((7 : Int64)) h).bind fun q9 =>
    some (q9.1, q9.2)
  else
  if a0 = (11 : Int32) then
    (fX12_in N (Int32.toInt64 a1) ((0 : Int64)) ((11 : Int64)) h).bind fun q10 =>
    some (q10.1, q10.2)
  else
  some ((0 : Int32), h)
def kX12_fits_0 (N : Nat) : Nat → List (Option Value) → List Value → ra_H → Option (Int32 × ra_H) := ra_k0
theorem kX12_fits_0_ok (N : Nat) : ra_kok 2 mX12_fits ra_oI (kX12_fits_0 N) := ra_k0_ok
set_option maxRecDepth 100000 in
theorem nX12_fits_0_ok (N : Nat) (a0 : Int32) (a1 : Int32) (h : ra_H) (r : (Int32 × ra_H)) (e : nX12_fits_0 N a0 a1 h = some r) : ra_Ru 2 mX12_fits 0 [some (.int a0), some (.int a1)] [] h (ra_oI r) :=
  ra_sound (by omega) rfl ra_rI_ok (kX12_fits_0_ok N) (fun m av h h1 e => (ra_c0_ok (ro := ra_oV)) m av h h1 e) (fun m av h x h1 e => (tIX12_fits_ok N) m av h (x, h1) e) (fun m av h x h1 e => (ra_c0_ok (ro := ra_oJ)) m av h (x, h1) e) (fun m av h x h1 e => (ra_c0_ok (ro := ra_oR)) m av h (x, h1) e) (fun m av h x h1 e => (ra_c0_ok (ro := ra_oN)) m av h (x, h1) e) (fun m av h x h1 e => (ra_c0_ok (ro := ra_oF)) m av h (x, h1) e) 65 lX12_fits_0 _ _ _ _ lX12_fits_0_ck (show ra_run ra_rI (kX12_fits_0 N) ra_c0 (tIX12_fits N) ra_c0 ra_c0 ra_c0 ra_c0 65 lX12_fits_0 [some (.int a0), some (.int a1)] [] h = some r from e) _ _ rfl
def fX12_fits (N : Nat) (p0 : Int32) (p1 : Int32) (h : ra_H) : Option (Int32 × ra_H) := (nX12_fits_0 N p0 p1 h).bind (fun q => ra_rz q.1 q.2)
set_option maxRecDepth 100000 in
theorem mtX12_fits : ra_MT[215]? = some (mX12_fits, 0, 2, (1, 13), (7, 112), (0, 0)) := rfl
theorem fX12_fits_co (N : Nat) (p0 : Int32) (p1 : Int32) (h : ra_H) (r : (Int32 × ra_H)) (e : fX12_fits N p0 p1 h = some r) (D : Nat) (hD : 3 ≤ D) : ra_CO D 215 [.int p0, .int p1] h (ra_oI r).1 (ra_oI r).2 := by
  have hw : ra_nw2 [.int p0, .int p1] ≤ 2 := Nat.le_of_ble_eq_true rfl
  have hdb : ∀ v ∈ ([.int p0, .int p1] : List Value), ∀ x, v ≠ .double x := by
    intro v hv x hx
    simp [hx] at hv
  unfold fX12_fits at e
  obtain ⟨q, e1, e2⟩ := Option.bind_eq_some_iff.mp e
  obtain ⟨rfl, hz⟩ := ra_rz_of e2
  exact ⟨2, _, mtX12_fits, hD, ra_ev_of (by decide) hdb hw hz (ra_Ru.weak (nX12_fits_0_ok N p0 p1 h _ e1) ⟨rfl, ⟨rfl, trivial⟩⟩), (fun h => absurd h (by decide)), (fun h => absurd h (by decide))⟩
/-! RedMarksModel.isMark(II)Z -/
def mX12_isMark : ra_M := (yX12_isMark, cX12_isMark, 2, (some .boolean))
def tIX12_isMark (N : Nat) : Nat → List Value → ra_H → Option (Int32 × ra_H) := (ra_c1 209 (fun av h => match av with
  | [.long z0, .long z1, .long z2] => fX12_in N z0 z1 z2 h
  | _ => none) ra_c0)
theorem tIX12_isMark_ok (N : Nat) : ra_cok 2 ra_oI (tIX12_isMark N) := (ra_c1_ok (by
  intro av h a e
  split at e
  · exact fX12_in_co N _ _ _ _ _ e 2 (by omega)
  · cases e) ra_c0_ok)
def lX12_isMark_39 : List ra_I := [(39, .ireturn, 1, 0, 0, 0, 0, 0, [])]
set_option maxRecDepth 100000 in
theorem lX12_isMark_39_ck : lX12_isMark_39.all (ra_ck mX12_isMark 12) = true := by decide +kernel
def nX12_isMark_39 (N : Nat) (b0 : Int32) (h : ra_H) : Option (Int32 × ra_H) :=
  some (b0, h)
def kX12_isMark_39 (N : Nat) : Nat → List (Option Value) → List Value → ra_H → Option (Int32 × ra_H) := ra_k0
theorem kX12_isMark_39_ok (N : Nat) : ra_kok 2 mX12_isMark ra_oI (kX12_isMark_39 N) := ra_k0_ok
set_option maxRecDepth 100000 in
theorem nX12_isMark_39_ok (N : Nat) (b0 : Int32) (h : ra_H) (r : (Int32 × ra_H)) (e : nX12_isMark_39 N b0 h = some r) : ra_Ru 2 mX12_isMark 39 [none, none] [.int b0] h (ra_oI r) :=
  ra_sound (by omega) rfl ra_rI_ok (kX12_isMark_39_ok N) (fun m av h h1 e => (ra_c0_ok (ro := ra_oV)) m av h h1 e) (fun m av h x h1 e => (tIX12_isMark_ok N) m av h (x, h1) e) (fun m av h x h1 e => (ra_c0_ok (ro := ra_oJ)) m av h (x, h1) e) (fun m av h x h1 e => (ra_c0_ok (ro := ra_oR)) m av h (x, h1) e) (fun m av h x h1 e => (ra_c0_ok (ro := ra_oN)) m av h (x, h1) e) (fun m av h x h1 e => (ra_c0_ok (ro := ra_oF)) m av h (x, h1) e) 2 lX12_isMark_39 _ _ _ _ lX12_isMark_39_ck (show ra_run ra_rI (kX12_isMark_39 N) ra_c0 (tIX12_isMark N) ra_c0 ra_c0 ra_c0 ra_c0 2 lX12_isMark_39 [none, none] [.int b0] h = some r from e) _ _ rfl
def lX12_isMark_34 : List ra_I := [(34, .iconst (1), 1, 0, 0, 0, (1), 0, []),
  (35, .goto (4), 3, 39, 0, 0, 0, 0, [])]
set_option maxRecDepth 100000 in
theorem lX12_isMark_34_ck : lX12_isMark_34.all (ra_ck mX12_isMark 12) = true := by decide +kernel
def nX12_isMark_34 (N : Nat) (h : ra_H) : Option (Int32 × ra_H) :=
  nX12_isMark_39 N ((1 : Int32)) h
def kX12_isMark_34 (N : Nat) : Nat → List (Option Value) → List Value → ra_H → Option (Int32 × ra_H) := (ra_k1 39 (fun L S h => match L, S with
  | [_, _], [.int b0] => nX12_isMark_39 N b0 h
  | _, _ => none) ra_k0)
theorem kX12_isMark_34_ok (N : Nat) : ra_kok 2 mX12_isMark ra_oI (kX12_isMark_34 N) := (ra_k1_ok (by
  intro L S h a e
  split at e
  · exact ra_Ru.weak (nX12_isMark_39_ok N _ _ _ e) trivial
  · cases e) ra_k0_ok)
set_option maxRecDepth 100000 in
theorem nX12_isMark_34_ok (N : Nat) (h : ra_H) (r : (Int32 × ra_H)) (e : nX12_isMark_34 N h = some r) : ra_Ru 2 mX12_isMark 34 [none, none] [] h (ra_oI r) :=
  ra_sound (by omega) rfl ra_rI_ok (kX12_isMark_34_ok N) (fun m av h h1 e => (ra_c0_ok (ro := ra_oV)) m av h h1 e) (fun m av h x h1 e => (tIX12_isMark_ok N) m av h (x, h1) e) (fun m av h x h1 e => (ra_c0_ok (ro := ra_oJ)) m av h (x, h1) e) (fun m av h x h1 e => (ra_c0_ok (ro := ra_oR)) m av h (x, h1) e) (fun m av h x h1 e => (ra_c0_ok (ro := ra_oN)) m av h (x, h1) e) (fun m av h x h1 e => (ra_c0_ok (ro := ra_oF)) m av h (x, h1) e) 3 lX12_isMark_34 _ _ _ _ lX12_isMark_34_ck (show ra_run ra_rI (kX12_isMark_34 N) ra_c0 (tIX12_isMark N) ra_c0 ra_c0 ra_c0 ra_c0 3 lX12_isMark_34 [none, none] [] h = some r from e) _ _ rfl
def lX12_isMark_38 : List ra_I := [(38, .iconst (0), 1, 0, 0, 0, (0), 0, [])]
set_option maxRecDepth 100000 in
theorem lX12_isMark_38_ck : lX12_isMark_38.all (ra_ck mX12_isMark 12) = true := by decide +kernel
def nX12_isMark_38 (N : Nat) (h : ra_H) : Option (Int32 × ra_H) :=
  nX12_isMark_39 N ((0 : Int32)) h
def kX12_isMark_38 (N : Nat) : Nat → List (Option Value) → List Value → ra_H → Option (Int32 × ra_H) := (ra_k1 39 (fun L S h => match L, S with
  | [_, _], [.int b0] => nX12_isMark_39 N b0 h
  | _, _ => none) ra_k0)
theorem kX12_isMark_38_ok (N : Nat) : ra_kok 2 mX12_isMark ra_oI (kX12_isMark_38 N) := (ra_k1_ok (by
  intro L S h a e
  split at e
  · exact ra_Ru.weak (nX12_isMark_39_ok N _ _ _ e) trivial
  · cases e) ra_k0_ok)
set_option maxRecDepth 100000 in
theorem nX12_isMark_38_ok (N : Nat) (h : ra_H) (r : (Int32 × ra_H)) (e : nX12_isMark_38 N h = some r) : ra_Ru 2 mX12_isMark 38 [none, none] [] h (ra_oI r) :=
  ra_sound (by omega) rfl ra_rI_ok (kX12_isMark_38_ok N) (fun m av h h1 e => (ra_c0_ok (ro := ra_oV)) m av h h1 e) (fun m av h x h1 e => (tIX12_isMark_ok N) m av h (x, h1) e) (fun m av h x h1 e => (ra_c0_ok (ro := ra_oJ)) m av h (x, h1) e) (fun m av h x h1 e => (ra_c0_ok (ro := ra_oR)) m av h (x, h1) e) (fun m av h x h1 e => (ra_c0_ok (ro := ra_oN)) m av h (x, h1) e) (fun m av h x h1 e => (ra_c0_ok (ro := ra_oF)) m av h (x, h1) e) 2 lX12_isMark_38 _ _ _ _ lX12_isMark_38_ck (show ra_run ra_rI (kX12_isMark_38 N) ra_c0 (tIX12_isMark N) ra_c0 ra_c0 ra_c0 ra_c0 2 lX12_isMark_38 [none, none] [] h = some r from e) _ _ rfl
def lX12_isMark_10 : List ra_I := [(10, .iload_n 0, 1, 0, 0, 0, 0, 0, []),
  (11, .i2l, 1, 0, 0, 0, 0, 0, []),
  (12, .lconst 0, 1, 0, 0, 0, 0, 0, []),
  (13, .ldc2_w 161, 3, 0, 0, 0, 0, (8), []),
  (16, .invokestatic 153, 3, 209, 3, 1, 0, 0, []),
  (19, .ifCond .eq (19), 3, 38, 0, 0, 0, 0, []),
  (22, .iload_n 1, 1, 1, 0, 0, 0, 0, []),
  (23, .i2l, 1, 0, 0, 0, 0, 0, []),
  (24, .lconst 1, 1, 0, 0, 0, 0, 1, []),
  (25, .ldc2_w 163, 3, 0, 0, 0, 0, (99), []),
  (28, .invokestatic 153, 3, 209, 3, 1, 0, 0, []),
  (31, .ifCond .eq (7), 3, 38, 0, 0, 0, 0, [])]
set_option maxRecDepth 100000 in
theorem lX12_isMark_10_ck : lX12_isMark_10.all (ra_ck mX12_isMark 12) = true := by decide +kernel
def nX12_isMark_10 (N : Nat) (a0 : Int32) (a1 : Int32) (h : ra_H) : Option (Int32 × ra_H) :=
  (fX12_in N (Int32.toInt64 a0) ((0 : Int64)) ((8 : Int64)) h).bind fun q1 =>
  if q1.1 = 0 then
    nX12_isMark_38 N q1.2
  else
    (fX12_in N (Int32.toInt64 a1) ((1 : Int64)) ((99 : Int64)) q1.2).bind fun q2 =>
    if q2.1 = 0 then
      nX12_isMark_38 N q2.2
    else
      nX12_isMark_34 N q2.2
def kX12_isMark_10 (N : Nat) : Nat → List (Option Value) → List Value → ra_H → Option (Int32 × ra_H) := (ra_k1 34 (fun L S h => match L, S with
  | [_, _], [] => nX12_isMark_34 N h
  | _, _ => none) (ra_k1 38 (fun L S h => match L, S with
  | [_, _], [] => nX12_isMark_38 N h
  | _, _ => none) ra_k0))
theorem kX12_isMark_10_ok (N : Nat) : ra_kok 2 mX12_isMark ra_oI (kX12_isMark_10 N) := (ra_k1_ok (by
  intro L S h a e
  split at e
  · exact ra_Ru.weak (nX12_isMark_34_ok N _ _ e) trivial
  · cases e) (ra_k1_ok (by
  intro L S h a e
  split at e
  · exact ra_Ru.weak (nX12_isMark_38_ok N _ _ e) trivial
  · cases e) ra_k0_ok))
set_option maxRecDepth 100000 in
theorem nX12_isMark_10_ok (N : Nat) (a0 : Int32) (a1 : Int32) (h : ra_H) (r : (Int32 × ra_H)) (e : nX12_isMark_10 N a0 a1 h = some r) : ra_Ru 2 mX12_isMark 10 [some (.int a0), some (.int a1)] [] h (ra_oI r) :=
  ra_sound (by omega) rfl ra_rI_ok (kX12_isMark_10_ok N) (fun m av h h1 e => (ra_c0_ok (ro := ra_oV)) m av h h1 e) (fun m av h x h1 e => (tIX12_isMark_ok N) m av h (x, h1) e) (fun m av h x h1 e => (ra_c0_ok (ro := ra_oJ)) m av h (x, h1) e) (fun m av h x h1 e => (ra_c0_ok (ro := ra_oR)) m av h (x, h1) e) (fun m av h x h1 e => (ra_c0_ok (ro := ra_oN)) m av h (x, h1) e) (fun m av h x h1 e => (ra_c0_ok (ro := ra_oF)) m av h (x, h1) e) 13 lX12_isMark_10 _ _ _ _ lX12_isMark_10_ck (show ra_run ra_rI (kX12_isMark_10 N) ra_c0 (tIX12_isMark N) ra_c0 ra_c0 ra_c0 ra_c0 13 lX12_isMark_10 [some (.int a0), some (.int a1)] [] h = some r from e) _ _ rfl
def lX12_isMark_0 : List ra_I := [(0, .iload_n 0, 1, 0, 0, 0, 0, 0, []),
  (1, .iconst (-1), 1, 0, 0, 0, (-1), 0, []),
  (2, .if_icmp .ne (8), 3, 10, 0, 0, 0, 0, []),
  (5, .iload_n 1, 1, 1, 0, 0, 0, 0, []),
  (6, .iconst (-1), 1, 0, 0, 0, (-1), 0, []),
  (7, .if_icmp .eq (27), 3, 34, 0, 0, 0, 0, [])]
set_option maxRecDepth 100000 in
theorem lX12_isMark_0_ck : lX12_isMark_0.all (ra_ck mX12_isMark 12) = true := by decide +kernel
def nX12_isMark_0 (N : Nat) (a0 : Int32) (a1 : Int32) (h : ra_H) : Option (Int32 × ra_H) :=
  if a0 = ((-1 : Int32)) then
    if a1 = ((-1 : Int32)) then
      nX12_isMark_34 N h
    else
      nX12_isMark_10 N a0 a1 h
  else
    nX12_isMark_10 N a0 a1 h
def kX12_isMark_0 (N : Nat) : Nat → List (Option Value) → List Value → ra_H → Option (Int32 × ra_H) := (ra_k1 10 (fun L S h => match L, S with
  | [some (.int a0), some (.int a1)], [] => nX12_isMark_10 N a0 a1 h
  | _, _ => none) (ra_k1 34 (fun L S h => match L, S with
  | [_, _], [] => nX12_isMark_34 N h
  | _, _ => none) ra_k0))
theorem kX12_isMark_0_ok (N : Nat) : ra_kok 2 mX12_isMark ra_oI (kX12_isMark_0 N) := (ra_k1_ok (by
  intro L S h a e
  split at e
  · exact ra_Ru.weak (nX12_isMark_10_ok N _ _ _ _ e) ⟨rfl, ⟨rfl, trivial⟩⟩
  · cases e) (ra_k1_ok (by
  intro L S h a e
  split at e
  · exact ra_Ru.weak (nX12_isMark_34_ok N _ _ e) trivial
  · cases e) ra_k0_ok))
set_option maxRecDepth 100000 in
theorem nX12_isMark_0_ok (N : Nat) (a0 : Int32) (a1 : Int32) (h : ra_H) (r : (Int32 × ra_H)) (e : nX12_isMark_0 N a0 a1 h = some r) : ra_Ru 2 mX12_isMark 0 [some (.int a0), some (.int a1)] [] h (ra_oI r) :=
  ra_sound (by omega) rfl ra_rI_ok (kX12_isMark_0_ok N) (fun m av h h1 e => (ra_c0_ok (ro := ra_oV)) m av h h1 e) (fun m av h x h1 e => (tIX12_isMark_ok N) m av h (x, h1) e) (fun m av h x h1 e => (ra_c0_ok (ro := ra_oJ)) m av h (x, h1) e) (fun m av h x h1 e => (ra_c0_ok (ro := ra_oR)) m av h (x, h1) e) (fun m av h x h1 e => (ra_c0_ok (ro := ra_oN)) m av h (x, h1) e) (fun m av h x h1 e => (ra_c0_ok (ro := ra_oF)) m av h (x, h1) e) 7 lX12_isMark_0 _ _ _ _ lX12_isMark_0_ck (show ra_run ra_rI (kX12_isMark_0 N) ra_c0 (tIX12_isMark N) ra_c0 ra_c0 ra_c0 ra_c0 7 lX12_isMark_0 [some (.int a0), some (.int a1)] [] h = some r from e) _ _ rfl
def fX12_isMark (N : Nat) (p0 : Int32) (p1 : Int32) (h : ra_H) : Option (Int32 × ra_H) := (nX12_isMark_0 N p0 p1 h).bind (fun q => ra_rz q.1 q.2)
set_option maxRecDepth 100000 in
theorem mtX12_isMark : ra_MT[214]? = some (mX12_isMark, 0, 2, (1, 13), (7, 107), (0, 0)) := rfl
theorem fX12_isMark_co (N : Nat) (p0 : Int32) (p1 : Int32) (h : ra_H) (r : (Int32 × ra_H)) (e : fX12_isMark N p0 p1 h = some r) (D : Nat) (hD : 3 ≤ D) : ra_CO D 214 [.int p0, .int p1] h (ra_oI r).1 (ra_oI r).2 := by
  have hw : ra_nw2 [.int p0, .int p1] ≤ 2 := Nat.le_of_ble_eq_true rfl
  have hdb : ∀ v ∈ ([.int p0, .int p1] : List Value), ∀ x, v ≠ .double x := by
    intro v hv x hx
    simp [hx] at hv
  unfold fX12_isMark at e
  obtain ⟨q, e1, e2⟩ := Option.bind_eq_some_iff.mp e
  obtain ⟨rfl, hz⟩ := ra_rz_of e2
  exact ⟨2, _, mtX12_isMark, hD, ra_ev_of (by decide) hdb hw hz (ra_Ru.weak (nX12_isMark_0_ok N p0 p1 h _ e1) ⟨rfl, ⟨rfl, trivial⟩⟩), (fun h => absurd h (by decide)), (fun h => absurd h (by decide))⟩
/-! RedMarksModel.isNew(IIIII)Z -/
def mX12_isNew : ra_M := (yX12_isNew, cX12_isNew, 5, (some .boolean))
def tIX12_isNew (N : Nat) : Nat → List Value → ra_H → Option (Int32 × ra_H) := (ra_c1 214 (fun av h => match av with
  | [.int z0, .int z1] => fX12_isMark N z0 z1 h
  | _ => none) (ra_c1 215 (fun av h => match av with
  | [.int z0, .int z1] => fX12_fits N z0 z1 h
  | _ => none) ra_c0))
theorem tIX12_isNew_ok (N : Nat) : ra_cok 3 ra_oI (tIX12_isNew N) := (ra_c1_ok (by
  intro av h a e
  split at e
  · exact fX12_isMark_co N _ _ _ _ e 3 (by omega)
  · cases e) (ra_c1_ok (by
  intro av h a e
  split at e
  · exact fX12_fits_co N _ _ _ _ e 3 (by omega)
  · cases e) ra_c0_ok))
def lX12_isNew_38 : List ra_I := [(38, .ireturn, 1, 0, 0, 0, 0, 0, [])]
set_option maxRecDepth 100000 in
theorem lX12_isNew_38_ck : lX12_isNew_38.all (ra_ck mX12_isNew 12) = true := by decide +kernel
def nX12_isNew_38 (N : Nat) (b0 : Int32) (h : ra_H) : Option (Int32 × ra_H) :=
  some (b0, h)
def kX12_isNew_38 (N : Nat) : Nat → List (Option Value) → List Value → ra_H → Option (Int32 × ra_H) := ra_k0
theorem kX12_isNew_38_ok (N : Nat) : ra_kok 3 mX12_isNew ra_oI (kX12_isNew_38 N) := ra_k0_ok
set_option maxRecDepth 100000 in
theorem nX12_isNew_38_ok (N : Nat) (b0 : Int32) (h : ra_H) (r : (Int32 × ra_H)) (e : nX12_isNew_38 N b0 h = some r) : ra_Ru 3 mX12_isNew 38 [none, none, none, none, none] [.int b0] h (ra_oI r) :=
  ra_sound (by omega) rfl ra_rI_ok (kX12_isNew_38_ok N) (fun m av h h1 e => (ra_c0_ok (ro := ra_oV)) m av h h1 e) (fun m av h x h1 e => (tIX12_isNew_ok N) m av h (x, h1) e) (fun m av h x h1 e => (ra_c0_ok (ro := ra_oJ)) m av h (x, h1) e) (fun m av h x h1 e => (ra_c0_ok (ro := ra_oR)) m av h (x, h1) e) (fun m av h x h1 e => (ra_c0_ok (ro := ra_oN)) m av h (x, h1) e) (fun m av h x h1 e => (ra_c0_ok (ro := ra_oF)) m av h (x, h1) e) 2 lX12_isNew_38 _ _ _ _ lX12_isNew_38_ck (show ra_run ra_rI (kX12_isNew_38 N) ra_c0 (tIX12_isNew N) ra_c0 ra_c0 ra_c0 ra_c0 2 lX12_isNew_38 [none, none, none, none, none] [.int b0] h = some r from e) _ _ rfl
def lX12_isNew_37 : List ra_I := [(37, .iconst (0), 1, 0, 0, 0, (0), 0, [])]
set_option maxRecDepth 100000 in
theorem lX12_isNew_37_ck : lX12_isNew_37.all (ra_ck mX12_isNew 12) = true := by decide +kernel
def nX12_isNew_37 (N : Nat) (h : ra_H) : Option (Int32 × ra_H) :=
  nX12_isNew_38 N ((0 : Int32)) h
def kX12_isNew_37 (N : Nat) : Nat → List (Option Value) → List Value → ra_H → Option (Int32 × ra_H) := (ra_k1 38 (fun L S h => match L, S with
  | [_, _, _, _, _], [.int b0] => nX12_isNew_38 N b0 h
  | _, _ => none) ra_k0)
theorem kX12_isNew_37_ok (N : Nat) : ra_kok 3 mX12_isNew ra_oI (kX12_isNew_37 N) := (ra_k1_ok (by
  intro L S h a e
  split at e
  · exact ra_Ru.weak (nX12_isNew_38_ok N _ _ _ e) trivial
  · cases e) ra_k0_ok)
set_option maxRecDepth 100000 in
theorem nX12_isNew_37_ok (N : Nat) (h : ra_H) (r : (Int32 × ra_H)) (e : nX12_isNew_37 N h = some r) : ra_Ru 3 mX12_isNew 37 [none, none, none, none, none] [] h (ra_oI r) :=
  ra_sound (by omega) rfl ra_rI_ok (kX12_isNew_37_ok N) (fun m av h h1 e => (ra_c0_ok (ro := ra_oV)) m av h h1 e) (fun m av h x h1 e => (tIX12_isNew_ok N) m av h (x, h1) e) (fun m av h x h1 e => (ra_c0_ok (ro := ra_oJ)) m av h (x, h1) e) (fun m av h x h1 e => (ra_c0_ok (ro := ra_oR)) m av h (x, h1) e) (fun m av h x h1 e => (ra_c0_ok (ro := ra_oN)) m av h (x, h1) e) (fun m av h x h1 e => (ra_c0_ok (ro := ra_oF)) m av h (x, h1) e) 2 lX12_isNew_37 _ _ _ _ lX12_isNew_37_ck (show ra_run ra_rI (kX12_isNew_37 N) ra_c0 (tIX12_isNew N) ra_c0 ra_c0 ra_c0 ra_c0 2 lX12_isNew_37 [none, none, none, none, none] [] h = some r from e) _ _ rfl
def lX12_isNew_0 : List ra_I := [(0, .iload_n 0, 1, 0, 0, 0, 0, 0, []),
  (1, .iload_n 1, 1, 1, 0, 0, 0, 0, []),
  (2, .invokestatic 183, 3, 214, 2, 1, 0, 0, []),
  (5, .ifCond .eq (32), 3, 37, 0, 0, 0, 0, []),
  (8, .iconst (2), 1, 0, 0, 0, (2), 0, []),
  (9, .iload_n 2, 1, 2, 0, 0, 0, 0, []),
  (10, .invokestatic 187, 3, 215, 2, 1, 0, 0, []),
  (13, .ifCond .eq (24), 3, 37, 0, 0, 0, 0, []),
  (16, .iconst (3), 1, 0, 0, 0, (3), 0, []),
  (17, .iload_n 3, 1, 3, 0, 0, 0, 0, []),
  (18, .invokestatic 187, 3, 215, 2, 1, 0, 0, []),
  (21, .ifCond .eq (16), 3, 37, 0, 0, 0, 0, []),
  (24, .iconst (4), 1, 0, 0, 0, (4), 0, []),
  (25, .iload 4, 2, 4, 0, 0, 0, 0, []),
  (27, .invokestatic 187, 3, 215, 2, 1, 0, 0, []),
  (30, .ifCond .eq (7), 3, 37, 0, 0, 0, 0, []),
  (33, .iconst (1), 1, 0, 0, 0, (1), 0, []),
  (34, .goto (4), 3, 38, 0, 0, 0, 0, [])]
set_option maxRecDepth 100000 in
theorem lX12_isNew_0_ck : lX12_isNew_0.all (ra_ck mX12_isNew 12) = true := by decide +kernel
def nX12_isNew_0 (N : Nat) (a0 : Int32) (a1 : Int32) (a2 : Int32) (a3 : Int32) (a4 : Int32) (h : ra_H) : Option (Int32 × ra_H) :=
  (fX12_isMark N a0 a1 h).bind fun q1 =>
  if q1.1 = 0 then
    nX12_isNew_37 N q1.2
  else
    (fX12_fits N ((2 : Int32)) a2 q1.2).bind fun q2 =>
    if q2.1 = 0 then
      nX12_isNew_37 N q2.2
    else
      (fX12_fits N ((3 : Int32)) a3 q2.2).bind fun q3 =>
      if q3.1 = 0 then
        nX12_isNew_37 N q3.2
      else
        (fX12_fits N ((4 : Int32)) a4 q3.2).bind fun q4 =>
        if q4.1 = 0 then
          nX12_isNew_37 N q4.2
        else
          nX12_isNew_38 N ((1 : Int32)) q4.2
def kX12_isNew_0 (N : Nat) : Nat → List (Option Value) → List Value → ra_H → Option (Int32 × ra_H) := (ra_k1 37 (fun L S h => match L, S with
  | [_, _, _, _, _], [] => nX12_isNew_37 N h
  | _, _ => none) (ra_k1 38 (fun L S h => match L, S with
  | [_, _, _, _, _], [.int b0] => nX12_isNew_38 N b0 h
  | _, _ => none) ra_k0))
theorem kX12_isNew_0_ok (N : Nat) : ra_kok 3 mX12_isNew ra_oI (kX12_isNew_0 N) := (ra_k1_ok (by
  intro L S h a e
  split at e
  · exact ra_Ru.weak (nX12_isNew_37_ok N _ _ e) trivial
  · cases e) (ra_k1_ok (by
  intro L S h a e
  split at e
  · exact ra_Ru.weak (nX12_isNew_38_ok N _ _ _ e) trivial
  · cases e) ra_k0_ok))
set_option maxRecDepth 100000 in
theorem nX12_isNew_0_ok (N : Nat) (a0 : Int32) (a1 : Int32) (a2 : Int32) (a3 : Int32) (a4 : Int32) (h : ra_H) (r : (Int32 × ra_H)) (e : nX12_isNew_0 N a0 a1 a2 a3 a4 h = some r) : ra_Ru 3 mX12_isNew 0 [some (.int a0), some (.int a1), some (.int a2), some (.int a3), some (.int a4)] [] h (ra_oI r) :=
  ra_sound (by omega) rfl ra_rI_ok (kX12_isNew_0_ok N) (fun m av h h1 e => (ra_c0_ok (ro := ra_oV)) m av h h1 e) (fun m av h x h1 e => (tIX12_isNew_ok N) m av h (x, h1) e) (fun m av h x h1 e => (ra_c0_ok (ro := ra_oJ)) m av h (x, h1) e) (fun m av h x h1 e => (ra_c0_ok (ro := ra_oR)) m av h (x, h1) e) (fun m av h x h1 e => (ra_c0_ok (ro := ra_oN)) m av h (x, h1) e) (fun m av h x h1 e => (ra_c0_ok (ro := ra_oF)) m av h (x, h1) e) 19 lX12_isNew_0 _ _ _ _ lX12_isNew_0_ck (show ra_run ra_rI (kX12_isNew_0 N) ra_c0 (tIX12_isNew N) ra_c0 ra_c0 ra_c0 ra_c0 19 lX12_isNew_0 [some (.int a0), some (.int a1), some (.int a2), some (.int a3), some (.int a4)] [] h = some r from e) _ _ rfl
def fX12_isNew (N : Nat) (p0 : Int32) (p1 : Int32) (p2 : Int32) (p3 : Int32) (p4 : Int32) (h : ra_H) : Option (Int32 × ra_H) := (nX12_isNew_0 N p0 p1 p2 p3 p4 h).bind (fun q => ra_rz q.1 q.2)
set_option maxRecDepth 100000 in
theorem mtX12_isNew : ra_MT[213]? = some (mX12_isNew, 0, 5, (1, 13), (7, 104), (0, 0)) := rfl
theorem fX12_isNew_co (N : Nat) (p0 : Int32) (p1 : Int32) (p2 : Int32) (p3 : Int32) (p4 : Int32) (h : ra_H) (r : (Int32 × ra_H)) (e : fX12_isNew N p0 p1 p2 p3 p4 h = some r) (D : Nat) (hD : 4 ≤ D) : ra_CO D 213 [.int p0, .int p1, .int p2, .int p3, .int p4] h (ra_oI r).1 (ra_oI r).2 := by
  have hw : ra_nw2 [.int p0, .int p1, .int p2, .int p3, .int p4] ≤ 5 := Nat.le_of_ble_eq_true rfl
  have hdb : ∀ v ∈ ([.int p0, .int p1, .int p2, .int p3, .int p4] : List Value), ∀ x, v ≠ .double x := by
    intro v hv x hx
    simp [hx] at hv
  unfold fX12_isNew at e
  obtain ⟨q, e1, e2⟩ := Option.bind_eq_some_iff.mp e
  obtain ⟨rfl, hz⟩ := ra_rz_of e2
  exact ⟨3, _, mtX12_isNew, hD, ra_ev_of (by decide) hdb hw hz (ra_Ru.weak (nX12_isNew_0_ok N p0 p1 p2 p3 p4 h _ e1) ⟨rfl, ⟨rfl, ⟨rfl, ⟨rfl, ⟨rfl, trivial⟩⟩⟩⟩⟩), (fun h => absurd h (by decide)), (fun h => absurd h (by decide))⟩
/-! RedMarksModel.put(IIIII)V -/
def mX12_put : ra_M := (yX12_put, cX12_put, 8, none)
def lX12_put_16 : List ra_I := [(16, .iload 7, 2, 7, 0, 0, 0, 0, []),
  (18, .bipush (12), 2, 0, 0, 0, (12), 0, []),
  (20, .if_icmp .ge (20), 3, 40, 0, 0, 0, 0, []),
  (23, .aload_n 0, 1, 0, 0, 0, 0, 0, []),
  (24, .getfield 13, 3, 12, 3, 2, 0, 0, []),
  (27, .iload 6, 2, 6, 0, 0, 0, 0, []),
  (29, .iload 7, 2, 7, 0, 0, 0, 0, []),
  (31, .iadd, 1, 0, 0, 0, 0, 0, []),
  (32, .iconst (0), 1, 0, 0, 0, (0), 0, []),
  (33, .iastore, 1, 0, 0, 0, 0, 0, []),
  (34, .iinc 7 (1), 3, 7, 0, 0, (1), 0, []),
  (37, .goto (-21), 3, 16, 0, 0, 0, 0, []),
  (40, .aload_n 0, 1, 0, 0, 0, 0, 0, []),
  (41, .getfield 13, 3, 12, 3, 2, 0, 0, []),
  (44, .iload 6, 2, 6, 0, 0, 0, 0, []),
  (46, .iload_n 1, 1, 1, 0, 0, 0, 0, []),
  (47, .iastore, 1, 0, 0, 0, 0, 0, []),
  (48, .aload_n 0, 1, 0, 0, 0, 0, 0, []),
  (49, .getfield 13, 3, 12, 3, 2, 0, 0, []),
  (52, .iload 6, 2, 6, 0, 0, 0, 0, []),
  (54, .iconst (1), 1, 0, 0, 0, (1), 0, []),
  (55, .iadd, 1, 0, 0, 0, 0, 0, []),
  (56, .iload_n 2, 1, 2, 0, 0, 0, 0, []),
  (57, .iastore, 1, 0, 0, 0, 0, 0, []),
  (58, .aload_n 0, 1, 0, 0, 0, 0, 0, []),
  (59, .getfield 13, 3, 12, 3, 2, 0, 0, []),
  (62, .iload 6, 2, 6, 0, 0, 0, 0, []),
  (64, .iconst (2), 1, 0, 0, 0, (2), 0, []),
  (65, .iadd, 1, 0, 0, 0, 0, 0, []),
  (66, .iload_n 3, 1, 3, 0, 0, 0, 0, []),
  (67, .iastore, 1, 0, 0, 0, 0, 0, []),
  (68, .aload_n 0, 1, 0, 0, 0, 0, 0, []),
  (69, .getfield 13, 3, 12, 3, 2, 0, 0, []),
  (72, .iload 6, 2, 6, 0, 0, 0, 0, []),
  (74, .iconst (3), 1, 0, 0, 0, (3), 0, []),
  (75, .iadd, 1, 0, 0, 0, 0, 0, []),
  (76, .iload 4, 2, 4, 0, 0, 0, 0, []),
  (78, .iastore, 1, 0, 0, 0, 0, 0, []),
  (79, .aload_n 0, 1, 0, 0, 0, 0, 0, []),
  (80, .getfield 13, 3, 12, 3, 2, 0, 0, []),
  (83, .iload 6, 2, 6, 0, 0, 0, 0, []),
  (85, .iconst (4), 1, 0, 0, 0, (4), 0, []),
  (86, .iadd, 1, 0, 0, 0, 0, 0, []),
  (87, .iload 5, 2, 5, 0, 0, 0, 0, []),
  (89, .iastore, 1, 0, 0, 0, 0, 0, []),
  (90, .aload_n 0, 1, 0, 0, 0, 0, 0, []),
  (91, .getfield 13, 3, 12, 3, 2, 0, 0, []),
  (94, .sipush (480), 3, 0, 0, 0, (480), 0, []),
  (97, .dup2, 1, 0, 0, 0, 0, 0, []),
  (98, .iaload, 1, 0, 0, 0, 0, 0, []),
  (99, .iconst (1), 1, 0, 0, 0, (1), 0, []),
  (100, .iadd, 1, 0, 0, 0, 0, 0, []),
  (101, .iastore, 1, 0, 0, 0, 0, 0, []),
  (102, .return_, 1, 0, 0, 0, 0, 0, [])]
set_option maxRecDepth 100000 in
theorem lX12_put_16_ck : lX12_put_16.all (ra_ck mX12_put 12) = true := by decide +kernel
def nX12_put_16 (N : Nat) : Nat → Nat → Int32 → Int32 → Int32 → Int32 → Int32 → Int32 → Int32 → ra_H → Option ra_H
  | 0, _, _, _, _, _, _, _, _, _ => none
  | n + 1, a0, a1, a2, a3, a4, a5, a6, a7, h =>
  if a7 < ((12 : Int32)) then
    (ra_fR h 12 a0 3).bind fun x14 =>
    (ra_aW h 0 x14 (a6 + a7) ((0 : Int32))).bind fun h15 =>
    let y16 := a7 + (1 : Int32)
    nX12_put_16 N n a0 a1 a2 a3 a4 a5 a6 y16 h15
  else
    (ra_fR h 12 a0 3).bind fun x1 =>
    (ra_aW h 0 x1 a6 a1).bind fun h2 =>
    (ra_fR h2 12 a0 3).bind fun x3 =>
    (ra_aW h2 0 x3 (a6 + ((1 : Int32))) a2).bind fun h4 =>
    (ra_fR h4 12 a0 3).bind fun x5 =>
    (ra_aW h4 0 x5 (a6 + ((2 : Int32))) a3).bind fun h6 =>
    (ra_fR h6 12 a0 3).bind fun x7 =>
    (ra_aW h6 0 x7 (a6 + ((3 : Int32))) a4).bind fun h8 =>
    (ra_fR h8 12 a0 3).bind fun x9 =>
    (ra_aW h8 0 x9 (a6 + ((4 : Int32))) a5).bind fun h10 =>
    (ra_fR h10 12 a0 3).bind fun x11 =>
    (ra_aI h10 0 x11 ((480 : Int32))).bind fun x12 =>
    (ra_aW h10 0 x11 ((480 : Int32)) (x12 + ((1 : Int32)))).bind fun h13 =>
    some h13
def kX12_put_16 (N : Nat) (cs : Nat → Int32 → Int32 → Int32 → Int32 → Int32 → Int32 → Int32 → ra_H → Option ra_H) : Nat → List (Option Value) → List Value → ra_H → Option ra_H := (ra_k1 16 (fun L S h => match L, S with
  | [some (.ref a0), some (.int a1), some (.int a2), some (.int a3), some (.int a4), some (.int a5), some (.int a6), some (.int a7)], [] => cs a0 a1 a2 a3 a4 a5 a6 a7 h
  | _, _ => none) ra_k0)
theorem kX12_put_16_ok (N : Nat) (cs : Nat → Int32 → Int32 → Int32 → Int32 → Int32 → Int32 → Int32 → ra_H → Option ra_H) (hcs : ∀ a0 a1 a2 a3 a4 a5 a6 a7 h r, cs a0 a1 a2 a3 a4 a5 a6 a7 h = some r → ra_Ru 1 mX12_put 16 [some (.ref a0), some (.int a1), some (.int a2), some (.int a3), some (.int a4), some (.int a5), some (.int a6), some (.int a7)] [] h (ra_oV r)) : ra_kok 1 mX12_put ra_oV (kX12_put_16 N cs) := (ra_k1_ok (by
  intro L S h a e
  split at e
  · exact ra_Ru.weak (hcs _ _ _ _ _ _ _ _ _ _ e) ⟨rfl, ⟨rfl, ⟨rfl, ⟨rfl, ⟨rfl, ⟨rfl, ⟨rfl, ⟨rfl, trivial⟩⟩⟩⟩⟩⟩⟩⟩
  · cases e) ra_k0_ok)
set_option maxRecDepth 100000 in
theorem nX12_put_16_ok (N : Nat) : ∀ n a0 a1 a2 a3 a4 a5 a6 a7 h r, nX12_put_16 N n a0 a1 a2 a3 a4 a5 a6 a7 h = some r → ra_Ru 1 mX12_put 16 [some (.ref a0), some (.int a1), some (.int a2), some (.int a3), some (.int a4), some (.int a5), some (.int a6), some (.int a7)] [] h (ra_oV r) := by
  intro n
  induction n with
  | zero => intro a0 a1 a2 a3 a4 a5 a6 a7 h r e; cases e
  | succ n ih =>
    intro a0 a1 a2 a3 a4 a5 a6 a7 h r e
    exact ra_sound (by omega) rfl ra_rV_ok (kX12_put_16_ok N (nX12_put_16 N n) ih) (fun m av h h1 e => (ra_c0_ok (ro := ra_oV)) m av h h1 e) (fun m av h x h1 e => (ra_c0_ok (ro := ra_oI)) m av h (x, h1) e) (fun m av h x h1 e => (ra_c0_ok (ro := ra_oJ)) m av h (x, h1) e) (fun m av h x h1 e => (ra_c0_ok (ro := ra_oR)) m av h (x, h1) e) (fun m av h x h1 e => (ra_c0_ok (ro := ra_oN)) m av h (x, h1) e) (fun m av h x h1 e => (ra_c0_ok (ro := ra_oF)) m av h (x, h1) e) 55 lX12_put_16 _ _ _ _ lX12_put_16_ck (show ra_run ra_rV (kX12_put_16 N (nX12_put_16 N n)) ra_c0 ra_c0 ra_c0 ra_c0 ra_c0 ra_c0 55 lX12_put_16 [some (.ref a0), some (.int a1), some (.int a2), some (.int a3), some (.int a4), some (.int a5), some (.int a6), some (.int a7)] [] h = some r from e) _ _ rfl
def lX12_put_0 : List ra_I := [(0, .bipush (12), 2, 0, 0, 0, (12), 0, []),
  (2, .aload_n 0, 1, 0, 0, 0, 0, 0, []),
  (3, .getfield 13, 3, 12, 3, 2, 0, 0, []),
  (6, .sipush (480), 3, 0, 0, 0, (480), 0, []),
  (9, .iaload, 1, 0, 0, 0, 0, 0, []),
  (10, .imul, 1, 0, 0, 0, 0, 0, []),
  (11, .istore 6, 2, 6, 0, 0, 0, 0, []),
  (13, .iconst (0), 1, 0, 0, 0, (0), 0, []),
  (14, .istore 7, 2, 7, 0, 0, 0, 0, [])]
set_option maxRecDepth 100000 in
theorem lX12_put_0_ck : lX12_put_0.all (ra_ck mX12_put 12) = true := by decide +kernel
def nX12_put_0 (N : Nat) (a0 : Nat) (a1 : Int32) (a2 : Int32) (a3 : Int32) (a4 : Int32) (a5 : Int32) (h : ra_H) : Option ra_H :=
  (ra_fR h 12 a0 3).bind fun x1 =>
  (ra_aI h 0 x1 ((480 : Int32))).bind fun x2 =>
  let y3 := ((12 : Int32)) * x2
  nX12_put_16 N N a0 a1 a2 a3 a4 a5 y3 ((0 : Int32)) h
def kX12_put_0 (N : Nat) : Nat → List (Option Value) → List Value → ra_H → Option ra_H := (ra_k1 16 (fun L S h => match L, S with
  | [some (.ref a0), some (.int a1), some (.int a2), some (.int a3), some (.int a4), some (.int a5), some (.int a6), some (.int a7)], [] => nX12_put_16 N N a0 a1 a2 a3 a4 a5 a6 a7 h
  | _, _ => none) ra_k0)
theorem kX12_put_0_ok (N : Nat) : ra_kok 1 mX12_put ra_oV (kX12_put_0 N) := (ra_k1_ok (by
  intro L S h a e
  split at e
  · exact ra_Ru.weak (nX12_put_16_ok N N _ _ _ _ _ _ _ _ _ _ e) ⟨rfl, ⟨rfl, ⟨rfl, ⟨rfl, ⟨rfl, ⟨rfl, ⟨rfl, ⟨rfl, trivial⟩⟩⟩⟩⟩⟩⟩⟩
  · cases e) ra_k0_ok)
set_option maxRecDepth 100000 in
theorem nX12_put_0_ok (N : Nat) (a0 : Nat) (a1 : Int32) (a2 : Int32) (a3 : Int32) (a4 : Int32) (a5 : Int32) (h : ra_H) (r : ra_H) (e : nX12_put_0 N a0 a1 a2 a3 a4 a5 h = some r) : ra_Ru 1 mX12_put 0 [some (.ref a0), some (.int a1), some (.int a2), some (.int a3), some (.int a4), some (.int a5), none, none] [] h (ra_oV r) :=
  ra_sound (by omega) rfl ra_rV_ok (kX12_put_0_ok N) (fun m av h h1 e => (ra_c0_ok (ro := ra_oV)) m av h h1 e) (fun m av h x h1 e => (ra_c0_ok (ro := ra_oI)) m av h (x, h1) e) (fun m av h x h1 e => (ra_c0_ok (ro := ra_oJ)) m av h (x, h1) e) (fun m av h x h1 e => (ra_c0_ok (ro := ra_oR)) m av h (x, h1) e) (fun m av h x h1 e => (ra_c0_ok (ro := ra_oN)) m av h (x, h1) e) (fun m av h x h1 e => (ra_c0_ok (ro := ra_oF)) m av h (x, h1) e) 10 lX12_put_0 _ _ _ _ lX12_put_0_ck (show ra_run ra_rV (kX12_put_0 N) ra_c0 ra_c0 ra_c0 ra_c0 ra_c0 ra_c0 10 lX12_put_0 [some (.ref a0), some (.int a1), some (.int a2), some (.int a3), some (.int a4), some (.int a5), none, none] [] h = some r from e) _ _ rfl
def fX12_put (N : Nat) (p0 : Nat) (p1 : Int32) (p2 : Int32) (p3 : Int32) (p4 : Int32) (p5 : Int32) (h : ra_H) : Option ra_H := match ra_isOb h p0 12 with
  | true => nX12_put_0 N p0 p1 p2 p3 p4 p5 h
  | false => none
set_option maxRecDepth 100000 in
theorem mtX12_put : ra_MT[216]? = some (mX12_put, 1, 5, (1, 13), (7, 124), (0, 63)) := rfl
theorem fX12_put_co (N : Nat) (p0 : Nat) (p1 : Int32) (p2 : Int32) (p3 : Int32) (p4 : Int32) (p5 : Int32) (h : ra_H) (r : ra_H) (e : fX12_put N p0 p1 p2 p3 p4 p5 h = some r) (D : Nat) (hD : 2 ≤ D) : ra_CO D 216 [.ref p0, .int p1, .int p2, .int p3, .int p4, .int p5] h (ra_oV r).1 (ra_oV r).2 := by
  have hw : ra_nw2 [.ref p0, .int p1, .int p2, .int p3, .int p4, .int p5] ≤ 8 := Nat.le_of_ble_eq_true rfl
  have hdb : ∀ v ∈ ([.ref p0, .int p1, .int p2, .int p3, .int p4, .int p5] : List Value), ∀ x, v ≠ .double x := by
    intro v hv x hx
    simp [hx] at hv
  unfold fX12_put at e
  split at e
  · rename_i ho
    have e1 := e
    exact ⟨1, _, mtX12_put, hD, ra_ev_of (by decide) hdb hw trivial (ra_Ru.weak (nX12_put_0_ok N p0 p1 p2 p3 p4 p5 h _ e1) ⟨rfl, ⟨rfl, ⟨rfl, ⟨rfl, ⟨rfl, ⟨rfl, trivial⟩⟩⟩⟩⟩⟩), (fun _ => ⟨_, _, rfl, ra_rcv_of ho (by decide) rfl⟩), (fun h => absurd h (by decide))⟩
  · cases e
/-! RedMarksModel.book(IIIII)I -/
def mX12_book : ra_M := (yX12_book, cX12_book, 6, (some .int))
def tVX12_book (N : Nat) : Nat → List Value → ra_H → Option ra_H := (ra_c1 216 (fun av h => match av with
  | [.ref z0, .int z1, .int z2, .int z3, .int z4, .int z5] => fX12_put N z0 z1 z2 z3 z4 z5 h
  | _ => none) ra_c0)
theorem tVX12_book_ok (N : Nat) : ra_cok 4 ra_oV (tVX12_book N) := (ra_c1_ok (by
  intro av h a e
  split at e
  · exact fX12_put_co N _ _ _ _ _ _ _ _ e 4 (by omega)
  · cases e) ra_c0_ok)
def tIX12_book (N : Nat) : Nat → List Value → ra_H → Option (Int32 × ra_H) := (ra_c1 210 (fun av h => match av with
  | [.ref z0, .int z1] => fX12_tell N z0 z1 h
  | _ => none) (ra_c1 213 (fun av h => match av with
  | [.int z0, .int z1, .int z2, .int z3, .int z4] => fX12_isNew N z0 z1 z2 z3 z4 h
  | _ => none) ra_c0))
theorem tIX12_book_ok (N : Nat) : ra_cok 4 ra_oI (tIX12_book N) := (ra_c1_ok (by
  intro av h a e
  split at e
  · exact fX12_tell_co N _ _ _ _ e 4 (by omega)
  · cases e) (ra_c1_ok (by
  intro av h a e
  split at e
  · exact fX12_isNew_co N _ _ _ _ _ _ _ e 4 (by omega)
  · cases e) ra_c0_ok))
def lX12_book_0 : List ra_I := [(0, .aload_n 0, 1, 0, 0, 0, 0, 0, []),
  (1, .iconst (0), 1, 0, 0, 0, (0), 0, []),
  (2, .putfield 147, 3, 12, 0, 0, 0, 0, []),
  (5, .iload_n 1, 1, 1, 0, 0, 0, 0, []),
  (6, .iload_n 2, 1, 2, 0, 0, 0, 0, []),
  (7, .iload_n 3, 1, 3, 0, 0, 0, 0, []),
  (8, .iload 4, 2, 4, 0, 0, 0, 0, []),
  (10, .iload 5, 2, 5, 0, 0, 0, 0, []),
  (12, .invokestatic 190, 3, 213, 5, 1, 0, 0, []),
  (15, .ifCond .ne (9), 3, 24, 0, 0, 0, 0, []),
  (18, .aload_n 0, 1, 0, 0, 0, 0, 0, []),
  (19, .iconst (-1), 1, 0, 0, 0, (-1), 0, []),
  (20, .invokevirtual 157, 3, 210, 2, 1, 0, 0, []),
  (23, .ireturn, 1, 0, 0, 0, 0, 0, []),
  (24, .aload_n 0, 1, 0, 0, 0, 0, 0, []),
  (25, .getfield 13, 3, 12, 3, 2, 0, 0, []),
  (28, .sipush (480), 3, 0, 0, 0, (480), 0, []),
  (31, .iaload, 1, 0, 0, 0, 0, 0, []),
  (32, .bipush (40), 2, 0, 0, 0, (40), 0, []),
  (34, .if_icmp .ne (10), 3, 44, 0, 0, 0, 0, []),
  (37, .aload_n 0, 1, 0, 0, 0, 0, 0, []),
  (38, .bipush (-5), 2, 0, 0, 0, (-5), 0, []),
  (40, .invokevirtual 157, 3, 210, 2, 1, 0, 0, []),
  (43, .ireturn, 1, 0, 0, 0, 0, 0, []),
  (44, .aload_n 0, 1, 0, 0, 0, 0, 0, []),
  (45, .iload_n 1, 1, 1, 0, 0, 0, 0, []),
  (46, .iload_n 2, 1, 2, 0, 0, 0, 0, []),
  (47, .iload_n 3, 1, 3, 0, 0, 0, 0, []),
  (48, .iload 4, 2, 4, 0, 0, 0, 0, []),
  (50, .iload 5, 2, 5, 0, 0, 0, 0, []),
  (52, .invokevirtual 194, 3, 216, 6, 0, 0, 0, []),
  (55, .aload_n 0, 1, 0, 0, 0, 0, 0, []),
  (56, .aload_n 0, 1, 0, 0, 0, 0, 0, []),
  (57, .getfield 13, 3, 12, 3, 2, 0, 0, []),
  (60, .sipush (480), 3, 0, 0, 0, (480), 0, []),
  (63, .iaload, 1, 0, 0, 0, 0, 0, []),
  (64, .iconst (1), 1, 0, 0, 0, (1), 0, []),
  (65, .isub, 1, 0, 0, 0, 0, 0, []),
  (66, .invokevirtual 157, 3, 210, 2, 1, 0, 0, []),
  (69, .ireturn, 1, 0, 0, 0, 0, 0, [])]
set_option maxRecDepth 100000 in
theorem lX12_book_0_ck : lX12_book_0.all (ra_ck mX12_book 12) = true := by decide +kernel
def nX12_book_0 (N : Nat) (a0 : Nat) (a1 : Int32) (a2 : Int32) (a3 : Int32) (a4 : Int32) (a5 : Int32) (h : ra_H) : Option (Int32 × ra_H) :=
  (ra_fW h 12 a0 0 (.int ((0 : Int32)))).bind fun h1 =>
  (fX12_isNew N a1 a2 a3 a4 a5 h1).bind fun q2 =>
  if q2.1 = 0 then
    (fX12_tell N a0 ((-1 : Int32)) q2.2).bind fun q10 =>
    some (q10.1, q10.2)
  else
    (ra_fR q2.2 12 a0 3).bind fun x3 =>
    (ra_aI q2.2 0 x3 ((480 : Int32))).bind fun x4 =>
    if x4 = ((40 : Int32)) then
      (fX12_tell N a0 ((-5 : Int32)) q2.2).bind fun q9 =>
      some (q9.1, q9.2)
    else
      (fX12_put N a0 a1 a2 a3 a4 a5 q2.2).bind fun h5 =>
      (ra_fR h5 12 a0 3).bind fun x6 =>
      (ra_aI h5 0 x6 ((480 : Int32))).bind fun x7 =>
      (fX12_tell N a0 (x7 - ((1 : Int32))) h5).bind fun q8 =>
      some (q8.1, q8.2)
def kX12_book_0 (N : Nat) : Nat → List (Option Value) → List Value → ra_H → Option (Int32 × ra_H) := ra_k0
theorem kX12_book_0_ok (N : Nat) : ra_kok 4 mX12_book ra_oI (kX12_book_0 N) := ra_k0_ok
set_option maxRecDepth 100000 in
theorem nX12_book_0_ok (N : Nat) (a0 : Nat) (a1 : Int32) (a2 : Int32) (a3 : Int32) (a4 : Int32) (a5 : Int32) (h : ra_H) (r : (Int32 × ra_H)) (e : nX12_book_0 N a0 a1 a2 a3 a4 a5 h = some r) : ra_Ru 4 mX12_book 0 [some (.ref a0), some (.int a1), some (.int a2), some (.int a3), some (.int a4), some (.int a5)] [] h (ra_oI r) :=
  ra_sound (by omega) rfl ra_rI_ok (kX12_book_0_ok N) (fun m av h h1 e => (tVX12_book_ok N) m av h h1 e) (fun m av h x h1 e => (tIX12_book_ok N) m av h (x, h1) e) (fun m av h x h1 e => (ra_c0_ok (ro := ra_oJ)) m av h (x, h1) e) (fun m av h x h1 e => (ra_c0_ok (ro := ra_oR)) m av h (x, h1) e) (fun m av h x h1 e => (ra_c0_ok (ro := ra_oN)) m av h (x, h1) e) (fun m av h x h1 e => (ra_c0_ok (ro := ra_oF)) m av h (x, h1) e) 41 lX12_book_0 _ _ _ _ lX12_book_0_ck (show ra_run ra_rI (kX12_book_0 N) (tVX12_book N) (tIX12_book N) ra_c0 ra_c0 ra_c0 ra_c0 41 lX12_book_0 [some (.ref a0), some (.int a1), some (.int a2), some (.int a3), some (.int a4), some (.int a5)] [] h = some r from e) _ _ rfl
def fX12_book (N : Nat) (p0 : Nat) (p1 : Int32) (p2 : Int32) (p3 : Int32) (p4 : Int32) (p5 : Int32) (h : ra_H) : Option (Int32 × ra_H) := match ra_isOb h p0 12 with
  | true => nX12_book_0 N p0 p1 p2 p3 p4 p5 h
  | false => none
set_option maxRecDepth 100000 in
theorem mtX12_book : ra_MT[212]? = some (mX12_book, 1, 5, (1, 13), (7, 100), (7, 101)) := rfl
theorem fX12_book_co (N : Nat) (p0 : Nat) (p1 : Int32) (p2 : Int32) (p3 : Int32) (p4 : Int32) (p5 : Int32) (h : ra_H) (r : (Int32 × ra_H)) (e : fX12_book N p0 p1 p2 p3 p4 p5 h = some r) (D : Nat) (hD : 5 ≤ D) : ra_CO D 212 [.ref p0, .int p1, .int p2, .int p3, .int p4, .int p5] h (ra_oI r).1 (ra_oI r).2 := by
  have hw : ra_nw2 [.ref p0, .int p1, .int p2, .int p3, .int p4, .int p5] ≤ 6 := Nat.le_of_ble_eq_true rfl
  have hdb : ∀ v ∈ ([.ref p0, .int p1, .int p2, .int p3, .int p4, .int p5] : List Value), ∀ x, v ≠ .double x := by
    intro v hv x hx
    simp [hx] at hv
  unfold fX12_book at e
  split at e
  · rename_i ho
    have e1 := e
    exact ⟨4, _, mtX12_book, hD, ra_ev_of (by decide) hdb hw trivial (ra_Ru.weak (nX12_book_0_ok N p0 p1 p2 p3 p4 p5 h _ e1) ⟨rfl, ⟨rfl, ⟨rfl, ⟨rfl, ⟨rfl, ⟨rfl, trivial⟩⟩⟩⟩⟩⟩), (fun _ => ⟨_, _, rfl, ra_rcv_of ho (by decide) rfl⟩), (fun h => absurd h (by decide))⟩
  · cases e
/-! RedMarksModel.bookOf(I)I -/
def mX12_bookOf : ra_M := (yX12_bookOf, cX12_bookOf, 4, (some .int))
def lX12_bookOf_31 : List ra_I := [(31, .istore_n 2, 1, 2, 0, 0, 0, 0, []),
  (32, .iinc 3 (1), 3, 3, 0, 0, (1), 0, []),
  (35, .goto (-31), 3, 4, 0, 0, 0, 0, [])]
set_option maxRecDepth 100000 in
theorem lX12_bookOf_31_ck : lX12_bookOf_31.all (ra_ck mX12_bookOf 12) = true := by decide +kernel
def nX12_bookOf_31 (N : Nat) (c4 : Nat → Int32 → Int32 → Int32 → ra_H → Option (Int32 × ra_H)) (a0 : Nat) (a1 : Int32) (a3 : Int32) (b0 : Int32) (h : ra_H) : Option (Int32 × ra_H) :=
  let y1 := a3 + (1 : Int32)
  c4 a0 a1 b0 y1 h
def kX12_bookOf_31 (N : Nat) (c4 : Nat → Int32 → Int32 → Int32 → ra_H → Option (Int32 × ra_H)) : Nat → List (Option Value) → List Value → ra_H → Option (Int32 × ra_H) := (ra_k1 4 (fun L S h => match L, S with
  | [some (.ref a0), some (.int a1), some (.int a2), some (.int a3)], [] => c4 a0 a1 a2 a3 h
  | _, _ => none) ra_k0)
theorem kX12_bookOf_31_ok (N : Nat) (c4 : Nat → Int32 → Int32 → Int32 → ra_H → Option (Int32 × ra_H)) (hc4 : ∀ a0 a1 a2 a3 h r, c4 a0 a1 a2 a3 h = some r → ra_Ru 1 mX12_bookOf 4 [some (.ref a0), some (.int a1), some (.int a2), some (.int a3)] [] h (ra_oI r)) : ra_kok 1 mX12_bookOf ra_oI (kX12_bookOf_31 N c4) := (ra_k1_ok (by
  intro L S h a e
  split at e
  · exact ra_Ru.weak (hc4 _ _ _ _ _ _ e) ⟨rfl, ⟨rfl, ⟨rfl, ⟨rfl, trivial⟩⟩⟩⟩
  · cases e) ra_k0_ok)
set_option maxRecDepth 100000 in
theorem nX12_bookOf_31_ok (N : Nat) (c4 : Nat → Int32 → Int32 → Int32 → ra_H → Option (Int32 × ra_H)) (hc4 : ∀ a0 a1 a2 a3 h r, c4 a0 a1 a2 a3 h = some r → ra_Ru 1 mX12_bookOf 4 [some (.ref a0), some (.int a1), some (.int a2), some (.int a3)] [] h (ra_oI r)) (a0 : Nat) (a1 : Int32) (a3 : Int32) (b0 : Int32) (h : ra_H) (r : (Int32 × ra_H)) (e : nX12_bookOf_31 N c4 a0 a1 a3 b0 h = some r) : ra_Ru 1 mX12_bookOf 31 [some (.ref a0), some (.int a1), none, some (.int a3)] [.int b0] h (ra_oI r) :=
  ra_sound (by omega) rfl ra_rI_ok (kX12_bookOf_31_ok N c4 hc4) (fun m av h h1 e => (ra_c0_ok (ro := ra_oV)) m av h h1 e) (fun m av h x h1 e => (ra_c0_ok (ro := ra_oI)) m av h (x, h1) e) (fun m av h x h1 e => (ra_c0_ok (ro := ra_oJ)) m av h (x, h1) e) (fun m av h x h1 e => (ra_c0_ok (ro := ra_oR)) m av h (x, h1) e) (fun m av h x h1 e => (ra_c0_ok (ro := ra_oN)) m av h (x, h1) e) (fun m av h x h1 e => (ra_c0_ok (ro := ra_oF)) m av h (x, h1) e) 4 lX12_bookOf_31 _ _ _ _ lX12_bookOf_31_ck (show ra_run ra_rI (kX12_bookOf_31 N c4) ra_c0 ra_c0 ra_c0 ra_c0 ra_c0 ra_c0 4 lX12_bookOf_31 [some (.ref a0), some (.int a1), none, some (.int a3)] [.int b0] h = some r from e) _ _ rfl
def lX12_bookOf_4 : List ra_I := [(4, .iload_n 3, 1, 3, 0, 0, 0, 0, []),
  (5, .aload_n 0, 1, 0, 0, 0, 0, 0, []),
  (6, .getfield 13, 3, 12, 3, 2, 0, 0, []),
  (9, .sipush (480), 3, 0, 0, 0, (480), 0, []),
  (12, .iaload, 1, 0, 0, 0, 0, 0, []),
  (13, .if_icmp .ge (25), 3, 38, 0, 0, 0, 0, []),
  (16, .aload_n 0, 1, 0, 0, 0, 0, 0, []),
  (17, .getfield 126, 3, 12, 49, 2, 0, 0, []),
  (20, .iload_n 3, 1, 3, 0, 0, 0, 0, []),
  (21, .iaload, 1, 0, 0, 0, 0, 0, []),
  (22, .iload_n 1, 1, 1, 0, 0, 0, 0, []),
  (23, .if_icmp .ne (7), 3, 30, 0, 0, 0, 0, []),
  (26, .iload_n 3, 1, 3, 0, 0, 0, 0, []),
  (27, .goto (4), 3, 31, 0, 0, 0, 0, []),
  (30, .iload_n 2, 1, 2, 0, 0, 0, 0, []),
  (38, .iload_n 2, 1, 2, 0, 0, 0, 0, []),
  (39, .ireturn, 1, 0, 0, 0, 0, 0, [])]
set_option maxRecDepth 100000 in
theorem lX12_bookOf_4_ck : lX12_bookOf_4.all (ra_ck mX12_bookOf 12) = true := by decide +kernel
def nX12_bookOf_4 (N : Nat) : Nat → Nat → Int32 → Int32 → Int32 → ra_H → Option (Int32 × ra_H)
  | 0, _, _, _, _, _ => none
  | n + 1, a0, a1, a2, a3, h =>
  (ra_fR h 12 a0 3).bind fun x1 =>
  (ra_aI h 0 x1 ((480 : Int32))).bind fun x2 =>
  if a3 < x2 then
    (ra_fR h 12 a0 49).bind fun x3 =>
    (ra_aI h 0 x3 a3).bind fun x4 =>
    if x4 = a1 then
      nX12_bookOf_31 N (nX12_bookOf_4 N n) a0 a1 a3 a3 h
    else
      nX12_bookOf_31 N (nX12_bookOf_4 N n) a0 a1 a3 a2 h
  else
    some (a2, h)
def kX12_bookOf_4 (N : Nat) (cs : Nat → Int32 → Int32 → Int32 → ra_H → Option (Int32 × ra_H)) : Nat → List (Option Value) → List Value → ra_H → Option (Int32 × ra_H) := (ra_k1 31 (fun L S h => match L, S with
  | [some (.ref a0), some (.int a1), _, some (.int a3)], [.int b0] => nX12_bookOf_31 N cs a0 a1 a3 b0 h
  | _, _ => none) ra_k0)
theorem kX12_bookOf_4_ok (N : Nat) (cs : Nat → Int32 → Int32 → Int32 → ra_H → Option (Int32 × ra_H)) (hcs : ∀ a0 a1 a2 a3 h r, cs a0 a1 a2 a3 h = some r → ra_Ru 1 mX12_bookOf 4 [some (.ref a0), some (.int a1), some (.int a2), some (.int a3)] [] h (ra_oI r)) : ra_kok 1 mX12_bookOf ra_oI (kX12_bookOf_4 N cs) := (ra_k1_ok (by
  intro L S h a e
  split at e
  · exact ra_Ru.weak (nX12_bookOf_31_ok N cs hcs _ _ _ _ _ _ e) ⟨rfl, ⟨rfl, ⟨rfl, trivial⟩⟩⟩
  · cases e) ra_k0_ok)
set_option maxRecDepth 100000 in
theorem nX12_bookOf_4_ok (N : Nat) : ∀ n a0 a1 a2 a3 h r, nX12_bookOf_4 N n a0 a1 a2 a3 h = some r → ra_Ru 1 mX12_bookOf 4 [some (.ref a0), some (.int a1), some (.int a2), some (.int a3)] [] h (ra_oI r) := by
  intro n
  induction n with
  | zero => intro a0 a1 a2 a3 h r e; cases e
  | succ n ih =>
    intro a0 a1 a2 a3 h r e
    exact ra_sound (by omega) rfl ra_rI_ok (kX12_bookOf_4_ok N (nX12_bookOf_4 N n) ih) (fun m av h h1 e => (ra_c0_ok (ro := ra_oV)) m av h h1 e) (fun m av h x h1 e => (ra_c0_ok (ro := ra_oI)) m av h (x, h1) e) (fun m av h x h1 e => (ra_c0_ok (ro := ra_oJ)) m av h (x, h1) e) (fun m av h x h1 e => (ra_c0_ok (ro := ra_oR)) m av h (x, h1) e) (fun m av h x h1 e => (ra_c0_ok (ro := ra_oN)) m av h (x, h1) e) (fun m av h x h1 e => (ra_c0_ok (ro := ra_oF)) m av h (x, h1) e) 18 lX12_bookOf_4 _ _ _ _ lX12_bookOf_4_ck (show ra_run ra_rI (kX12_bookOf_4 N (nX12_bookOf_4 N n)) ra_c0 ra_c0 ra_c0 ra_c0 ra_c0 ra_c0 18 lX12_bookOf_4 [some (.ref a0), some (.int a1), some (.int a2), some (.int a3)] [] h = some r from e) _ _ rfl
def lX12_bookOf_0 : List ra_I := [(0, .iconst (-1), 1, 0, 0, 0, (-1), 0, []),
  (1, .istore_n 2, 1, 2, 0, 0, 0, 0, []),
  (2, .iconst (0), 1, 0, 0, 0, (0), 0, []),
  (3, .istore_n 3, 1, 3, 0, 0, 0, 0, [])]
set_option maxRecDepth 100000 in
theorem lX12_bookOf_0_ck : lX12_bookOf_0.all (ra_ck mX12_bookOf 12) = true := by decide +kernel
def nX12_bookOf_0 (N : Nat) (a0 : Nat) (a1 : Int32) (h : ra_H) : Option (Int32 × ra_H) :=
  nX12_bookOf_4 N N a0 a1 ((-1 : Int32)) ((0 : Int32)) h
def kX12_bookOf_0 (N : Nat) : Nat → List (Option Value) → List Value → ra_H → Option (Int32 × ra_H) := (ra_k1 4 (fun L S h => match L, S with
  | [some (.ref a0), some (.int a1), some (.int a2), some (.int a3)], [] => nX12_bookOf_4 N N a0 a1 a2 a3 h
  | _, _ => none) ra_k0)
theorem kX12_bookOf_0_ok (N : Nat) : ra_kok 1 mX12_bookOf ra_oI (kX12_bookOf_0 N) := (ra_k1_ok (by
  intro L S h a e
  split at e
  · exact ra_Ru.weak (nX12_bookOf_4_ok N N _ _ _ _ _ _ e) ⟨rfl, ⟨rfl, ⟨rfl, ⟨rfl, trivial⟩⟩⟩⟩
  · cases e) ra_k0_ok)
set_option maxRecDepth 100000 in
theorem nX12_bookOf_0_ok (N : Nat) (a0 : Nat) (a1 : Int32) (h : ra_H) (r : (Int32 × ra_H)) (e : nX12_bookOf_0 N a0 a1 h = some r) : ra_Ru 1 mX12_bookOf 0 [some (.ref a0), some (.int a1), none, none] [] h (ra_oI r) :=
  ra_sound (by omega) rfl ra_rI_ok (kX12_bookOf_0_ok N) (fun m av h h1 e => (ra_c0_ok (ro := ra_oV)) m av h h1 e) (fun m av h x h1 e => (ra_c0_ok (ro := ra_oI)) m av h (x, h1) e) (fun m av h x h1 e => (ra_c0_ok (ro := ra_oJ)) m av h (x, h1) e) (fun m av h x h1 e => (ra_c0_ok (ro := ra_oR)) m av h (x, h1) e) (fun m av h x h1 e => (ra_c0_ok (ro := ra_oN)) m av h (x, h1) e) (fun m av h x h1 e => (ra_c0_ok (ro := ra_oF)) m av h (x, h1) e) 5 lX12_bookOf_0 _ _ _ _ lX12_bookOf_0_ck (show ra_run ra_rI (kX12_bookOf_0 N) ra_c0 ra_c0 ra_c0 ra_c0 ra_c0 ra_c0 5 lX12_bookOf_0 [some (.ref a0), some (.int a1), none, none] [] h = some r from e) _ _ rfl
def fX12_bookOf (N : Nat) (p0 : Nat) (p1 : Int32) (h : ra_H) : Option (Int32 × ra_H) := match ra_isOb h p0 12 with
  | true => nX12_bookOf_0 N p0 p1 h
  | false => none
set_option maxRecDepth 100000 in
theorem mtX12_bookOf : ra_MT[292]? = some (mX12_bookOf, 1, 1, (1, 13), (8, 208), (0, 109)) := rfl
theorem fX12_bookOf_co (N : Nat) (p0 : Nat) (p1 : Int32) (h : ra_H) (r : (Int32 × ra_H)) (e : fX12_bookOf N p0 p1 h = some r) (D : Nat) (hD : 2 ≤ D) : ra_CO D 292 [.ref p0, .int p1] h (ra_oI r).1 (ra_oI r).2 := by
  have hw : ra_nw2 [.ref p0, .int p1] ≤ 4 := Nat.le_of_ble_eq_true rfl
  have hdb : ∀ v ∈ ([.ref p0, .int p1] : List Value), ∀ x, v ≠ .double x := by
    intro v hv x hx
    simp [hx] at hv
  unfold fX12_bookOf at e
  split at e
  · rename_i ho
    have e1 := e
    exact ⟨1, _, mtX12_bookOf, hD, ra_ev_of (by decide) hdb hw trivial (ra_Ru.weak (nX12_bookOf_0_ok N p0 p1 h _ e1) ⟨rfl, ⟨rfl, trivial⟩⟩), (fun _ => ⟨_, _, rfl, ra_rcv_of ho (by decide) rfl⟩), (fun h => absurd h (by decide))⟩
  · cases e
/-! RedMarksModel.bound(I)I -/
def mX12_bound : ra_M := (yX12_bound, cX12_bound, 2, (some .int))
def tIX12_bound (N : Nat) : Nat → List Value → ra_H → Option (Int32 × ra_H) := (ra_c1 218 (fun av h => match av with
  | [.ref z0, .int z1] => fX12_isBook N z0 z1 h
  | _ => none) (ra_c1 298 (fun av h => match av with
  | [.ref z0, .int z1] => fX12_boundOf N z0 z1 h
  | _ => none) ra_c0))
theorem tIX12_bound_ok (N : Nat) : ra_cok 3 ra_oI (tIX12_bound N) := (ra_c1_ok (by
  intro av h a e
  split at e
  · exact fX12_isBook_co N _ _ _ _ e 3 (by omega)
  · cases e) (ra_c1_ok (by
  intro av h a e
  split at e
  · exact fX12_boundOf_co N _ _ _ _ e 3 (by omega)
  · cases e) ra_c0_ok))
def lX12_bound_24 : List ra_I := [(24, .ireturn, 1, 0, 0, 0, 0, 0, [])]
set_option maxRecDepth 100000 in
theorem lX12_bound_24_ck : lX12_bound_24.all (ra_ck mX12_bound 12) = true := by decide +kernel
def nX12_bound_24 (N : Nat) (b0 : Int32) (h : ra_H) : Option (Int32 × ra_H) :=
  some (b0, h)
def kX12_bound_24 (N : Nat) : Nat → List (Option Value) → List Value → ra_H → Option (Int32 × ra_H) := ra_k0
theorem kX12_bound_24_ok (N : Nat) : ra_kok 3 mX12_bound ra_oI (kX12_bound_24 N) := ra_k0_ok
set_option maxRecDepth 100000 in
theorem nX12_bound_24_ok (N : Nat) (b0 : Int32) (h : ra_H) (r : (Int32 × ra_H)) (e : nX12_bound_24 N b0 h = some r) : ra_Ru 3 mX12_bound 24 [none, none] [.int b0] h (ra_oI r) :=
  ra_sound (by omega) rfl ra_rI_ok (kX12_bound_24_ok N) (fun m av h h1 e => (ra_c0_ok (ro := ra_oV)) m av h h1 e) (fun m av h x h1 e => (tIX12_bound_ok N) m av h (x, h1) e) (fun m av h x h1 e => (ra_c0_ok (ro := ra_oJ)) m av h (x, h1) e) (fun m av h x h1 e => (ra_c0_ok (ro := ra_oR)) m av h (x, h1) e) (fun m av h x h1 e => (ra_c0_ok (ro := ra_oN)) m av h (x, h1) e) (fun m av h x h1 e => (ra_c0_ok (ro := ra_oF)) m av h (x, h1) e) 2 lX12_bound_24 _ _ _ _ lX12_bound_24_ck (show ra_run ra_rI (kX12_bound_24 N) ra_c0 (tIX12_bound N) ra_c0 ra_c0 ra_c0 ra_c0 2 lX12_bound_24 [none, none] [.int b0] h = some r from e) _ _ rfl
def lX12_bound_0 : List ra_I := [(0, .aload_n 0, 1, 0, 0, 0, 0, 0, []),
  (1, .iconst (0), 1, 0, 0, 0, (0), 0, []),
  (2, .putfield 147, 3, 12, 0, 0, 0, 0, []),
  (5, .aload_n 0, 1, 0, 0, 0, 0, 0, []),
  (6, .iload_n 1, 1, 1, 0, 0, 0, 0, []),
  (7, .invokevirtual 198, 3, 218, 2, 1, 0, 0, []),
  (10, .ifCond .eq (11), 3, 21, 0, 0, 0, 0, []),
  (13, .aload_n 0, 1, 0, 0, 0, 0, 0, []),
  (14, .iload_n 1, 1, 1, 0, 0, 0, 0, []),
  (15, .invokevirtual 476, 3, 298, 2, 1, 0, 0, []),
  (18, .goto (6), 3, 24, 0, 0, 0, 0, []),
  (21, .sipush (-1000), 3, 0, 0, 0, (-1000), 0, [])]
set_option maxRecDepth 100000 in
theorem lX12_bound_0_ck : lX12_bound_0.all (ra_ck mX12_bound 12) = true := by decide +kernel
def nX12_bound_0 (N : Nat) (a0 : Nat) (a1 : Int32) (h : ra_H) : Option (Int32 × ra_H) :=
  (ra_fW h 12 a0 0 (.int ((0 : Int32)))).bind fun h1 =>
  (fX12_isBook N a0 a1 h1).bind fun q2 =>
  if q2.1 = 0 then
    nX12_bound_24 N ((-1000 : Int32)) q2.2
  else
    (fX12_boundOf N a0 a1 q2.2).bind fun q3 =>
    nX12_bound_24 N q3.1 q3.2
def kX12_bound_0 (N : Nat) : Nat → List (Option Value) → List Value → ra_H → Option (Int32 × ra_H) := (ra_k1 24 (fun L S h => match L, S with
  | [_, _], [.int b0] => nX12_bound_24 N b0 h
  | _, _ => none) ra_k0)
theorem kX12_bound_0_ok (N : Nat) : ra_kok 3 mX12_bound ra_oI (kX12_bound_0 N) := (ra_k1_ok (by
  intro L S h a e
  split at e
  · exact ra_Ru.weak (nX12_bound_24_ok N _ _ _ e) trivial
  · cases e) ra_k0_ok)
set_option maxRecDepth 100000 in
theorem nX12_bound_0_ok (N : Nat) (a0 : Nat) (a1 : Int32) (h : ra_H) (r : (Int32 × ra_H)) (e : nX12_bound_0 N a0 a1 h = some r) : ra_Ru 3 mX12_bound 0 [some (.ref a0), some (.int a1)] [] h (ra_oI r) :=
  ra_sound (by omega) rfl ra_rI_ok (kX12_bound_0_ok N) (fun m av h h1 e => (ra_c0_ok (ro := ra_oV)) m av h h1 e) (fun m av h x h1 e => (tIX12_bound_ok N) m av h (x, h1) e) (fun m av h x h1 e => (ra_c0_ok (ro := ra_oJ)) m av h (x, h1) e) (fun m av h x h1 e => (ra_c0_ok (ro := ra_oR)) m av h (x, h1) e) (fun m av h x h1 e => (ra_c0_ok (ro := ra_oN)) m av h (x, h1) e) (fun m av h x h1 e => (ra_c0_ok (ro := ra_oF)) m av h (x, h1) e) 13 lX12_bound_0 _ _ _ _ lX12_bound_0_ck (show ra_run ra_rI (kX12_bound_0 N) ra_c0 (tIX12_bound N) ra_c0 ra_c0 ra_c0 ra_c0 13 lX12_bound_0 [some (.ref a0), some (.int a1)] [] h = some r from e) _ _ rfl
def fX12_bound (N : Nat) (p0 : Nat) (p1 : Int32) (h : ra_H) : Option (Int32 × ra_H) := match ra_isOb h p0 12 with
  | true => nX12_bound_0 N p0 p1 h
  | false => none
set_option maxRecDepth 100000 in
theorem mtX12_bound : ra_MT[299]? = some (mX12_bound, 1, 1, (1, 13), (8, 235), (8, 236)) := rfl
theorem fX12_bound_co (N : Nat) (p0 : Nat) (p1 : Int32) (h : ra_H) (r : (Int32 × ra_H)) (e : fX12_bound N p0 p1 h = some r) (D : Nat) (hD : 4 ≤ D) : ra_CO D 299 [.ref p0, .int p1] h (ra_oI r).1 (ra_oI r).2 := by
  have hw : ra_nw2 [.ref p0, .int p1] ≤ 2 := Nat.le_of_ble_eq_true rfl
  have hdb : ∀ v ∈ ([.ref p0, .int p1] : List Value), ∀ x, v ≠ .double x := by
    intro v hv x hx
    simp [hx] at hv
  unfold fX12_bound at e
  split at e
  · rename_i ho
    have e1 := e
    exact ⟨3, _, mtX12_bound, hD, ra_ev_of (by decide) hdb hw trivial (ra_Ru.weak (nX12_bound_0_ok N p0 p1 h _ e1) ⟨rfl, ⟨rfl, trivial⟩⟩), (fun _ => ⟨_, _, rfl, ra_rcv_of ho (by decide) rfl⟩), (fun h => absurd h (by decide))⟩
  · cases e
/-! RedMarksModel.can(II)Z -/
def mX12_can : ra_M := (yX12_can, cX12_can, 3, (some .boolean))
def lX12_can_25 : List ra_I := [(25, .ireturn, 1, 0, 0, 0, 0, 0, [])]
set_option maxRecDepth 100000 in
theorem lX12_can_25_ck : lX12_can_25.all (ra_ck mX12_can 12) = true := by decide +kernel
def nX12_can_25 (N : Nat) (b0 : Int32) (h : ra_H) : Option (Int32 × ra_H) :=
  some (b0, h)
def kX12_can_25 (N : Nat) : Nat → List (Option Value) → List Value → ra_H → Option (Int32 × ra_H) := ra_k0
theorem kX12_can_25_ok (N : Nat) : ra_kok 1 mX12_can ra_oI (kX12_can_25 N) := ra_k0_ok
set_option maxRecDepth 100000 in
theorem nX12_can_25_ok (N : Nat) (b0 : Int32) (h : ra_H) (r : (Int32 × ra_H)) (e : nX12_can_25 N b0 h = some r) : ra_Ru 1 mX12_can 25 [none, none, none] [.int b0] h (ra_oI r) :=
  ra_sound (by omega) rfl ra_rI_ok (kX12_can_25_ok N) (fun m av h h1 e => (ra_c0_ok (ro := ra_oV)) m av h h1 e) (fun m av h x h1 e => (ra_c0_ok (ro := ra_oI)) m av h (x, h1) e) (fun m av h x h1 e => (ra_c0_ok (ro := ra_oJ)) m av h (x, h1) e) (fun m av h x h1 e => (ra_c0_ok (ro := ra_oR)) m av h (x, h1) e) (fun m av h x h1 e => (ra_c0_ok (ro := ra_oN)) m av h (x, h1) e) (fun m av h x h1 e => (ra_c0_ok (ro := ra_oF)) m av h (x, h1) e) 2 lX12_can_25 _ _ _ _ lX12_can_25_ck (show ra_run ra_rI (kX12_can_25 N) ra_c0 ra_c0 ra_c0 ra_c0 ra_c0 ra_c0 2 lX12_can_25 [none, none, none] [.int b0] h = some r from e) _ _ rfl
def lX12_can_20 : List ra_I := [(20, .iconst (1), 1, 0, 0, 0, (1), 0, []),
  (21, .goto (4), 3, 25, 0, 0, 0, 0, [])]
set_option maxRecDepth 100000 in
theorem lX12_can_20_ck : lX12_can_20.all (ra_ck mX12_can 12) = true := by decide +kernel
def nX12_can_20 (N : Nat) (h : ra_H) : Option (Int32 × ra_H) :=
  nX12_can_25 N ((1 : Int32)) h
def kX12_can_20 (N : Nat) : Nat → List (Option Value) → List Value → ra_H → Option (Int32 × ra_H) := (ra_k1 25 (fun L S h => match L, S with
  | [_, _, _], [.int b0] => nX12_can_25 N b0 h
  | _, _ => none) ra_k0)
theorem kX12_can_20_ok (N : Nat) : ra_kok 1 mX12_can ra_oI (kX12_can_20 N) := (ra_k1_ok (by
  intro L S h a e
  split at e
  · exact ra_Ru.weak (nX12_can_25_ok N _ _ _ e) trivial
  · cases e) ra_k0_ok)
set_option maxRecDepth 100000 in
theorem nX12_can_20_ok (N : Nat) (h : ra_H) (r : (Int32 × ra_H)) (e : nX12_can_20 N h = some r) : ra_Ru 1 mX12_can 20 [none, none, none] [] h (ra_oI r) :=
  ra_sound (by omega) rfl ra_rI_ok (kX12_can_20_ok N) (fun m av h h1 e => (ra_c0_ok (ro := ra_oV)) m av h h1 e) (fun m av h x h1 e => (ra_c0_ok (ro := ra_oI)) m av h (x, h1) e) (fun m av h x h1 e => (ra_c0_ok (ro := ra_oJ)) m av h (x, h1) e) (fun m av h x h1 e => (ra_c0_ok (ro := ra_oR)) m av h (x, h1) e) (fun m av h x h1 e => (ra_c0_ok (ro := ra_oN)) m av h (x, h1) e) (fun m av h x h1 e => (ra_c0_ok (ro := ra_oF)) m av h (x, h1) e) 3 lX12_can_20 _ _ _ _ lX12_can_20_ck (show ra_run ra_rI (kX12_can_20 N) ra_c0 ra_c0 ra_c0 ra_c0 ra_c0 ra_c0 3 lX12_can_20 [none, none, none] [] h = some r from e) _ _ rfl
def lX12_can_0 : List ra_I := [(0, .iload_n 2, 1, 2, 0, 0, 0, 0, []),
  (1, .aload_n 0, 1, 0, 0, 0, 0, 0, []),
  (2, .getfield 13, 3, 12, 3, 2, 0, 0, []),
  (5, .sipush (482), 3, 0, 0, 0, (482), 0, []),
  (8, .iaload, 1, 0, 0, 0, 0, 0, []),
  (9, .if_icmp .eq (11), 3, 20, 0, 0, 0, 0, []),
  (12, .iload_n 1, 1, 1, 0, 0, 0, 0, []),
  (13, .iload_n 2, 1, 2, 0, 0, 0, 0, []),
  (14, .ishr, 1, 0, 0, 0, 0, 0, []),
  (15, .iconst (1), 1, 0, 0, 0, (1), 0, []),
  (16, .iand, 1, 0, 0, 0, 0, 0, []),
  (17, .ifCond .ne (7), 3, 24, 0, 0, 0, 0, []),
  (24, .iconst (0), 1, 0, 0, 0, (0), 0, [])]
set_option maxRecDepth 100000 in
theorem lX12_can_0_ck : lX12_can_0.all (ra_ck mX12_can 12) = true := by decide +kernel
def nX12_can_0 (N : Nat) (a0 : Nat) (a1 : Int32) (a2 : Int32) (h : ra_H) : Option (Int32 × ra_H) :=
  (ra_fR h 12 a0 3).bind fun x1 =>
  (ra_aI h 0 x1 ((482 : Int32))).bind fun x2 =>
  if a2 = x2 then
    nX12_can_20 N h
  else
    if ((a1 >>> (a2 &&& 31)) &&& ((1 : Int32))) = 0 then
      nX12_can_20 N h
    else
      nX12_can_25 N ((0 : Int32)) h
def kX12_can_0 (N : Nat) : Nat → List (Option Value) → List Value → ra_H → Option (Int32 × ra_H) := (ra_k1 20 (fun L S h => match L, S with
  | [_, _, _], [] => nX12_can_20 N h
  | _, _ => none) (ra_k1 25 (fun L S h => match L, S with
  | [_, _, _], [.int b0] => nX12_can_25 N b0 h
  | _, _ => none) ra_k0))
theorem kX12_can_0_ok (N : Nat) : ra_kok 1 mX12_can ra_oI (kX12_can_0 N) := (ra_k1_ok (by
  intro L S h a e
  split at e
  · exact ra_Ru.weak (nX12_can_20_ok N _ _ e) trivial
  · cases e) (ra_k1_ok (by
  intro L S h a e
  split at e
  · exact ra_Ru.weak (nX12_can_25_ok N _ _ _ e) trivial
  · cases e) ra_k0_ok))
set_option maxRecDepth 100000 in
theorem nX12_can_0_ok (N : Nat) (a0 : Nat) (a1 : Int32) (a2 : Int32) (h : ra_H) (r : (Int32 × ra_H)) (e : nX12_can_0 N a0 a1 a2 h = some r) : ra_Ru 1 mX12_can 0 [some (.ref a0), some (.int a1), some (.int a2)] [] h (ra_oI r) :=
  ra_sound (by omega) rfl ra_rI_ok (kX12_can_0_ok N) (fun m av h h1 e => (ra_c0_ok (ro := ra_oV)) m av h h1 e) (fun m av h x h1 e => (ra_c0_ok (ro := ra_oI)) m av h (x, h1) e) (fun m av h x h1 e => (ra_c0_ok (ro := ra_oJ)) m av h (x, h1) e) (fun m av h x h1 e => (ra_c0_ok (ro := ra_oR)) m av h (x, h1) e) (fun m av h x h1 e => (ra_c0_ok (ro := ra_oN)) m av h (x, h1) e) (fun m av h x h1 e => (ra_c0_ok (ro := ra_oF)) m av h (x, h1) e) 14 lX12_can_0 _ _ _ _ lX12_can_0_ck (show ra_run ra_rI (kX12_can_0 N) ra_c0 ra_c0 ra_c0 ra_c0 ra_c0 ra_c0 14 lX12_can_0 [some (.ref a0), some (.int a1), some (.int a2)] [] h = some r from e) _ _ rfl
def fX12_can (N : Nat) (p0 : Nat) (p1 : Int32) (p2 : Int32) (h : ra_H) : Option (Int32 × ra_H) := match ra_isOb h p0 12 with
  | true => (nX12_can_0 N p0 p1 p2 h).bind (fun q => ra_rz q.1 q.2)
  | false => none
set_option maxRecDepth 100000 in
theorem mtX12_can : ra_MT[288]? = some (mX12_can, 1, 2, (1, 13), (8, 192), (0, 105)) := rfl
theorem fX12_can_co (N : Nat) (p0 : Nat) (p1 : Int32) (p2 : Int32) (h : ra_H) (r : (Int32 × ra_H)) (e : fX12_can N p0 p1 p2 h = some r) (D : Nat) (hD : 2 ≤ D) : ra_CO D 288 [.ref p0, .int p1, .int p2] h (ra_oI r).1 (ra_oI r).2 := by
  have hw : ra_nw2 [.ref p0, .int p1, .int p2] ≤ 3 := Nat.le_of_ble_eq_true rfl
  have hdb : ∀ v ∈ ([.ref p0, .int p1, .int p2] : List Value), ∀ x, v ≠ .double x := by
    intro v hv x hx
    simp [hx] at hv
  unfold fX12_can at e
  split at e
  · rename_i ho
    obtain ⟨q, e1, e2⟩ := Option.bind_eq_some_iff.mp e
    obtain ⟨rfl, hz⟩ := ra_rz_of e2
    exact ⟨1, _, mtX12_can, hD, ra_ev_of (by decide) hdb hw hz (ra_Ru.weak (nX12_can_0_ok N p0 p1 p2 h _ e1) ⟨rfl, ⟨rfl, ⟨rfl, trivial⟩⟩⟩), (fun _ => ⟨_, _, rfl, ra_rcv_of ho (by decide) rfl⟩), (fun h => absurd h (by decide))⟩
  · cases e
/-! RedMarksModel.clear()I -/
def mX12_clear : ra_M := (yX12_clear, cX12_clear, 2, (some .int))
def lX12_clear_0 : List ra_I := [(0, .aload_n 0, 1, 0, 0, 0, 0, 0, []),
  (1, .iconst (0), 1, 0, 0, 0, (0), 0, []),
  (2, .putfield 147, 3, 12, 0, 0, 0, 0, []),
  (5, .aload_n 0, 1, 0, 0, 0, 0, 0, []),
  (6, .getfield 13, 3, 12, 3, 2, 0, 0, []),
  (9, .sipush (483), 3, 0, 0, 0, (483), 0, []),
  (12, .iaload, 1, 0, 0, 0, 0, 0, []),
  (13, .istore_n 1, 1, 1, 0, 0, 0, 0, []),
  (14, .aload_n 0, 1, 0, 0, 0, 0, 0, []),
  (15, .getfield 13, 3, 12, 3, 2, 0, 0, []),
  (18, .sipush (483), 3, 0, 0, 0, (483), 0, []),
  (21, .iconst (0), 1, 0, 0, 0, (0), 0, []),
  (22, .iastore, 1, 0, 0, 0, 0, 0, []),
  (23, .iload_n 1, 1, 1, 0, 0, 0, 0, []),
  (24, .ireturn, 1, 0, 0, 0, 0, 0, [])]
set_option maxRecDepth 100000 in
theorem lX12_clear_0_ck : lX12_clear_0.all (ra_ck mX12_clear 12) = true := by decide +kernel
def nX12_clear_0 (N : Nat) (a0 : Nat) (h : ra_H) : Option (Int32 × ra_H) :=
  (ra_fW h 12 a0 0 (.int ((0 : Int32)))).bind fun h1 =>
  (ra_fR h1 12 a0 3).bind fun x2 =>
  (ra_aI h1 0 x2 ((483 : Int32))).bind fun x3 =>
  (ra_fR h1 12 a0 3).bind fun x4 =>
  (ra_aW h1 0 x4 ((483 : Int32)) ((0 : Int32))).bind fun h5 =>
  some (x3, h5)
def kX12_clear_0 (N : Nat) : Nat → List (Option Value) → List Value → ra_H → Option (Int32 × ra_H) := ra_k0
theorem kX12_clear_0_ok (N : Nat) : ra_kok 1 mX12_clear ra_oI (kX12_clear_0 N) := ra_k0_ok
set_option maxRecDepth 100000 in
theorem nX12_clear_0_ok (N : Nat) (a0 : Nat) (h : ra_H) (r : (Int32 × ra_H)) (e : nX12_clear_0 N a0 h = some r) : ra_Ru 1 mX12_clear 0 [some (.ref a0), none] [] h (ra_oI r) :=
  ra_sound (by omega) rfl ra_rI_ok (kX12_clear_0_ok N) (fun m av h h1 e => (ra_c0_ok (ro := ra_oV)) m av h h1 e) (fun m av h x h1 e => (ra_c0_ok (ro := ra_oI)) m av h (x, h1) e) (fun m av h x h1 e => (ra_c0_ok (ro := ra_oJ)) m av h (x, h1) e) (fun m av h x h1 e => (ra_c0_ok (ro := ra_oR)) m av h (x, h1) e) (fun m av h x h1 e => (ra_c0_ok (ro := ra_oN)) m av h (x, h1) e) (fun m av h x h1 e => (ra_c0_ok (ro := ra_oF)) m av h (x, h1) e) 16 lX12_clear_0 _ _ _ _ lX12_clear_0_ck (show ra_run ra_rI (kX12_clear_0 N) ra_c0 ra_c0 ra_c0 ra_c0 ra_c0 ra_c0 16 lX12_clear_0 [some (.ref a0), none] [] h = some r from e) _ _ rfl
def fX12_clear (N : Nat) (p0 : Nat) (h : ra_H) : Option (Int32 × ra_H) := match ra_isOb h p0 12 with
  | true => nX12_clear_0 N p0 h
  | false => none
set_option maxRecDepth 100000 in
theorem mtX12_clear : ra_MT[305]? = some (mX12_clear, 1, 0, (1, 13), (9, 19), (9, 20)) := rfl
theorem fX12_clear_co (N : Nat) (p0 : Nat) (h : ra_H) (r : (Int32 × ra_H)) (e : fX12_clear N p0 h = some r) (D : Nat) (hD : 2 ≤ D) : ra_CO D 305 [.ref p0] h (ra_oI r).1 (ra_oI r).2 := by
  have hw : ra_nw2 [.ref p0] ≤ 2 := Nat.le_of_ble_eq_true rfl
  have hdb : ∀ v ∈ ([.ref p0] : List Value), ∀ x, v ≠ .double x := by
    intro v hv x hx
    simp [hx] at hv
  unfold fX12_clear at e
  split at e
  · rename_i ho
    have e1 := e
    exact ⟨1, _, mtX12_clear, hD, ra_ev_of (by decide) hdb hw trivial (ra_Ru.weak (nX12_clear_0_ok N p0 h _ e1) ⟨rfl, trivial⟩), (fun _ => ⟨_, _, rfl, ra_rcv_of ho (by decide) rfl⟩), (fun h => absurd h (by decide))⟩
  · cases e
/-! RedMarksModel.lookAt(I)V -/
def mX12_lookAt : ra_M := (yX12_lookAt, cX12_lookAt, 4, none)
def lX12_lookAt_72 : List ra_I := [(72, .iinc 3 (1), 3, 3, 0, 0, (1), 0, []),
  (75, .goto (-60), 3, 15, 0, 0, 0, 0, [])]
set_option maxRecDepth 100000 in
theorem lX12_lookAt_72_ck : lX12_lookAt_72.all (ra_ck mX12_lookAt 12) = true := by decide +kernel
def nX12_lookAt_72 (N : Nat) (c7 : Nat → Int32 → Int32 → ra_H → Option ra_H) (c15 : Nat → Int32 → Int32 → Int32 → ra_H → Option ra_H) (a0 : Nat) (a1 : Int32) (a2 : Int32) (a3 : Int32) (h : ra_H) : Option ra_H :=
  let y1 := a3 + (1 : Int32)
  c15 a0 a1 a2 y1 h
def kX12_lookAt_72 (N : Nat) (c7 : Nat → Int32 → Int32 → ra_H → Option ra_H) (c15 : Nat → Int32 → Int32 → Int32 → ra_H → Option ra_H) : Nat → List (Option Value) → List Value → ra_H → Option ra_H := (ra_k1 15 (fun L S h => match L, S with
  | [some (.ref a0), some (.int a1), some (.int a2), some (.int a3)], [] => c15 a0 a1 a2 a3 h
  | _, _ => none) ra_k0)
theorem kX12_lookAt_72_ok (N : Nat) (c7 : Nat → Int32 → Int32 → ra_H → Option ra_H) (c15 : Nat → Int32 → Int32 → Int32 → ra_H → Option ra_H) (hc7 : ∀ a0 a1 a2 h r, c7 a0 a1 a2 h = some r → ra_Ru 1 mX12_lookAt 7 [some (.ref a0), some (.int a1), some (.int a2), none] [] h (ra_oV r)) (hc15 : ∀ a0 a1 a2 a3 h r, c15 a0 a1 a2 a3 h = some r → ra_Ru 1 mX12_lookAt 15 [some (.ref a0), some (.int a1), some (.int a2), some (.int a3)] [] h (ra_oV r)) : ra_kok 1 mX12_lookAt ra_oV (kX12_lookAt_72 N c7 c15) := (ra_k1_ok (by
  intro L S h a e
  split at e
  · exact ra_Ru.weak (hc15 _ _ _ _ _ _ e) ⟨rfl, ⟨rfl, ⟨rfl, ⟨rfl, trivial⟩⟩⟩⟩
  · cases e) ra_k0_ok)
set_option maxRecDepth 100000 in
theorem nX12_lookAt_72_ok (N : Nat) (c7 : Nat → Int32 → Int32 → ra_H → Option ra_H) (c15 : Nat → Int32 → Int32 → Int32 → ra_H → Option ra_H) (hc7 : ∀ a0 a1 a2 h r, c7 a0 a1 a2 h = some r → ra_Ru 1 mX12_lookAt 7 [some (.ref a0), some (.int a1), some (.int a2), none] [] h (ra_oV r)) (hc15 : ∀ a0 a1 a2 a3 h r, c15 a0 a1 a2 a3 h = some r → ra_Ru 1 mX12_lookAt 15 [some (.ref a0), some (.int a1), some (.int a2), some (.int a3)] [] h (ra_oV r)) (a0 : Nat) (a1 : Int32) (a2 : Int32) (a3 : Int32) (h : ra_H) (r : ra_H) (e : nX12_lookAt_72 N c7 c15 a0 a1 a2 a3 h = some r) : ra_Ru 1 mX12_lookAt 72 [some (.ref a0), some (.int a1), some (.int a2), some (.int a3)] [] h (ra_oV r) :=
  ra_sound (by omega) rfl ra_rV_ok (kX12_lookAt_72_ok N c7 c15 hc7 hc15) (fun m av h h1 e => (ra_c0_ok (ro := ra_oV)) m av h h1 e) (fun m av h x h1 e => (ra_c0_ok (ro := ra_oI)) m av h (x, h1) e) (fun m av h x h1 e => (ra_c0_ok (ro := ra_oJ)) m av h (x, h1) e) (fun m av h x h1 e => (ra_c0_ok (ro := ra_oR)) m av h (x, h1) e) (fun m av h x h1 e => (ra_c0_ok (ro := ra_oN)) m av h (x, h1) e) (fun m av h x h1 e => (ra_c0_ok (ro := ra_oF)) m av h (x, h1) e) 3 lX12_lookAt_72 _ _ _ _ lX12_lookAt_72_ck (show ra_run ra_rV (kX12_lookAt_72 N c7 c15) ra_c0 ra_c0 ra_c0 ra_c0 ra_c0 ra_c0 3 lX12_lookAt_72 [some (.ref a0), some (.int a1), some (.int a2), some (.int a3)] [] h = some r from e) _ _ rfl
def lX12_lookAt_15 : List ra_I := [(15, .iload_n 3, 1, 3, 0, 0, 0, 0, []),
  (16, .aload_n 0, 1, 0, 0, 0, 0, 0, []),
  (17, .getfield 13, 3, 12, 3, 2, 0, 0, []),
  (20, .sipush (480), 3, 0, 0, 0, (480), 0, []),
  (23, .iaload, 1, 0, 0, 0, 0, 0, []),
  (24, .if_icmp .ge (54), 3, 78, 0, 0, 0, 0, []),
  (27, .aload_n 0, 1, 0, 0, 0, 0, 0, []),
  (28, .getfield 101, 3, 12, 39, 2, 0, 0, []),
  (31, .iload_n 3, 1, 3, 0, 0, 0, 0, []),
  (32, .iaload, 1, 0, 0, 0, 0, 0, []),
  (33, .iconst (4), 1, 0, 0, 0, (4), 0, []),
  (34, .if_icmp .ne (38), 3, 72, 0, 0, 0, 0, []),
  (37, .aload_n 0, 1, 0, 0, 0, 0, 0, []),
  (38, .getfield 104, 3, 12, 40, 2, 0, 0, []),
  (41, .iload_n 3, 1, 3, 0, 0, 0, 0, []),
  (42, .iaload, 1, 0, 0, 0, 0, 0, []),
  (43, .bipush (100), 2, 0, 0, 0, (100), 0, []),
  (45, .iload_n 1, 1, 1, 0, 0, 0, 0, []),
  (46, .imul, 1, 0, 0, 0, 0, 0, []),
  (47, .iload_n 2, 1, 2, 0, 0, 0, 0, []),
  (48, .iadd, 1, 0, 0, 0, 0, 0, []),
  (49, .if_icmp .ne (23), 3, 72, 0, 0, 0, 0, []),
  (52, .aload_n 0, 1, 0, 0, 0, 0, 0, []),
  (53, .getfield 107, 3, 12, 42, 2, 0, 0, []),
  (56, .aload_n 0, 1, 0, 0, 0, 0, 0, []),
  (57, .getfield 428, 3, 12, 43, 0, 0, 0, []),
  (60, .iload_n 3, 1, 3, 0, 0, 0, 0, []),
  (61, .iastore, 1, 0, 0, 0, 0, 0, []),
  (62, .aload_n 0, 1, 0, 0, 0, 0, 0, []),
  (63, .dup, 1, 0, 0, 0, 0, 0, []),
  (64, .getfield 428, 3, 12, 43, 0, 0, 0, []),
  (67, .iconst (1), 1, 0, 0, 0, (1), 0, []),
  (68, .iadd, 1, 0, 0, 0, 0, 0, []),
  (69, .putfield 428, 3, 12, 43, 0, 0, 0, []),
  (78, .iinc 2 (1), 3, 2, 0, 0, (1), 0, []),
  (81, .goto (-74), 3, 7, 0, 0, 0, 0, [])]
set_option maxRecDepth 100000 in
theorem lX12_lookAt_15_ck : lX12_lookAt_15.all (ra_ck mX12_lookAt 12) = true := by decide +kernel
def nX12_lookAt_15 (N : Nat) (c7 : Nat → Int32 → Int32 → ra_H → Option ra_H) : Nat → Nat → Int32 → Int32 → Int32 → ra_H → Option ra_H
  | 0, _, _, _, _, _ => none
  | n + 1, a0, a1, a2, a3, h =>
  (ra_fR h 12 a0 3).bind fun x1 =>
  (ra_aI h 0 x1 ((480 : Int32))).bind fun x2 =>
  if a3 < x2 then
    (ra_fR h 12 a0 39).bind fun x4 =>
    (ra_aI h 0 x4 a3).bind fun x5 =>
    if x5 = ((4 : Int32)) then
      (ra_fR h 12 a0 40).bind fun x6 =>
      (ra_aI h 0 x6 a3).bind fun x7 =>
      if x7 = ((((100 : Int32)) * a1) + a2) then
        (ra_fR h 12 a0 42).bind fun x8 =>
        (ra_fI h 12 a0 43).bind fun x9 =>
        (ra_aW h 0 x8 x9 a3).bind fun h10 =>
        (ra_fI h10 12 a0 43).bind fun x11 =>
        (ra_fW h10 12 a0 43 (.int (x11 + ((1 : Int32))))).bind fun h12 =>
        nX12_lookAt_72 N c7 (nX12_lookAt_15 N c7 n) a0 a1 a2 a3 h12
      else
        nX12_lookAt_72 N c7 (nX12_lookAt_15 N c7 n) a0 a1 a2 a3 h
    else
      nX12_lookAt_72 N c7 (nX12_lookAt_15 N c7 n) a0 a1 a2 a3 h
  else
    let y3 := a2 + (1 : Int32)
    c7 a0 a1 y3 h
def kX12_lookAt_15 (N : Nat) (c7 : Nat → Int32 → Int32 → ra_H → Option ra_H) (cs : Nat → Int32 → Int32 → Int32 → ra_H → Option ra_H) : Nat → List (Option Value) → List Value → ra_H → Option ra_H := (ra_k1 7 (fun L S h => match L, S with
  | [some (.ref a0), some (.int a1), some (.int a2), _], [] => c7 a0 a1 a2 h
  | _, _ => none) (ra_k1 72 (fun L S h => match L, S with
  | [some (.ref a0), some (.int a1), some (.int a2), some (.int a3)], [] => nX12_lookAt_72 N c7 cs a0 a1 a2 a3 h
  | _, _ => none) ra_k0))
theorem kX12_lookAt_15_ok (N : Nat) (c7 : Nat → Int32 → Int32 → ra_H → Option ra_H) (hc7 : ∀ a0 a1 a2 h r, c7 a0 a1 a2 h = some r → ra_Ru 1 mX12_lookAt 7 [some (.ref a0), some (.int a1), some (.int a2), none] [] h (ra_oV r)) (cs : Nat → Int32 → Int32 → Int32 → ra_H → Option ra_H) (hcs : ∀ a0 a1 a2 a3 h r, cs a0 a1 a2 a3 h = some r → ra_Ru 1 mX12_lookAt 15 [some (.ref a0), some (.int a1), some (.int a2), some (.int a3)] [] h (ra_oV r)) : ra_kok 1 mX12_lookAt ra_oV (kX12_lookAt_15 N c7 cs) := (ra_k1_ok (by
  intro L S h a e
  split at e
  · exact ra_Ru.weak (hc7 _ _ _ _ _ e) ⟨rfl, ⟨rfl, ⟨rfl, trivial⟩⟩⟩
  · cases e) (ra_k1_ok (by
  intro L S h a e
  split at e
  · exact ra_Ru.weak (nX12_lookAt_72_ok N c7 cs hc7 hcs _ _ _ _ _ _ e) ⟨rfl, ⟨rfl, ⟨rfl, ⟨rfl, trivial⟩⟩⟩⟩
  · cases e) ra_k0_ok))
set_option maxRecDepth 100000 in
theorem nX12_lookAt_15_ok (N : Nat) (c7 : Nat → Int32 → Int32 → ra_H → Option ra_H) (hc7 : ∀ a0 a1 a2 h r, c7 a0 a1 a2 h = some r → ra_Ru 1 mX12_lookAt 7 [some (.ref a0), some (.int a1), some (.int a2), none] [] h (ra_oV r)) : ∀ n a0 a1 a2 a3 h r, nX12_lookAt_15 N c7 n a0 a1 a2 a3 h = some r → ra_Ru 1 mX12_lookAt 15 [some (.ref a0), some (.int a1), some (.int a2), some (.int a3)] [] h (ra_oV r) := by
  intro n
  induction n with
  | zero => intro a0 a1 a2 a3 h r e; cases e
  | succ n ih =>
    intro a0 a1 a2 a3 h r e
    exact ra_sound (by omega) rfl ra_rV_ok (kX12_lookAt_15_ok N c7 hc7 (nX12_lookAt_15 N c7 n) ih) (fun m av h h1 e => (ra_c0_ok (ro := ra_oV)) m av h h1 e) (fun m av h x h1 e => (ra_c0_ok (ro := ra_oI)) m av h (x, h1) e) (fun m av h x h1 e => (ra_c0_ok (ro := ra_oJ)) m av h (x, h1) e) (fun m av h x h1 e => (ra_c0_ok (ro := ra_oR)) m av h (x, h1) e) (fun m av h x h1 e => (ra_c0_ok (ro := ra_oN)) m av h (x, h1) e) (fun m av h x h1 e => (ra_c0_ok (ro := ra_oF)) m av h (x, h1) e) 37 lX12_lookAt_15 _ _ _ _ lX12_lookAt_15_ck (show ra_run ra_rV (kX12_lookAt_15 N c7 (nX12_lookAt_15 N c7 n)) ra_c0 ra_c0 ra_c0 ra_c0 ra_c0 ra_c0 37 lX12_lookAt_15 [some (.ref a0), some (.int a1), some (.int a2), some (.int a3)] [] h = some r from e) _ _ rfl
def lX12_lookAt_7 : List ra_I := [(7, .iload_n 2, 1, 2, 0, 0, 0, 0, []),
  (8, .bipush (100), 2, 0, 0, 0, (100), 0, []),
  (10, .if_icmp .ge (74), 3, 84, 0, 0, 0, 0, []),
  (13, .iconst (0), 1, 0, 0, 0, (0), 0, []),
  (14, .istore_n 3, 1, 3, 0, 0, 0, 0, []),
  (84, .return_, 1, 0, 0, 0, 0, 0, [])]
set_option maxRecDepth 100000 in
theorem lX12_lookAt_7_ck : lX12_lookAt_7.all (ra_ck mX12_lookAt 12) = true := by decide +kernel
def nX12_lookAt_7 (N : Nat) : Nat → Nat → Int32 → Int32 → ra_H → Option ra_H
  | 0, _, _, _, _ => none
  | n + 1, a0, a1, a2, h =>
  if a2 < ((100 : Int32)) then
    nX12_lookAt_15 N (nX12_lookAt_7 N n) N a0 a1 a2 ((0 : Int32)) h
  else
    some h
def kX12_lookAt_7 (N : Nat) (cs : Nat → Int32 → Int32 → ra_H → Option ra_H) : Nat → List (Option Value) → List Value → ra_H → Option ra_H := (ra_k1 15 (fun L S h => match L, S with
  | [some (.ref a0), some (.int a1), some (.int a2), some (.int a3)], [] => nX12_lookAt_15 N cs N a0 a1 a2 a3 h
  | _, _ => none) ra_k0)
theorem kX12_lookAt_7_ok (N : Nat) (cs : Nat → Int32 → Int32 → ra_H → Option ra_H) (hcs : ∀ a0 a1 a2 h r, cs a0 a1 a2 h = some r → ra_Ru 1 mX12_lookAt 7 [some (.ref a0), some (.int a1), some (.int a2), none] [] h (ra_oV r)) : ra_kok 1 mX12_lookAt ra_oV (kX12_lookAt_7 N cs) := (ra_k1_ok (by
  intro L S h a e
  split at e
  · exact ra_Ru.weak (nX12_lookAt_15_ok N cs hcs N _ _ _ _ _ _ e) ⟨rfl, ⟨rfl, ⟨rfl, ⟨rfl, trivial⟩⟩⟩⟩
  · cases e) ra_k0_ok)
set_option maxRecDepth 100000 in
theorem nX12_lookAt_7_ok (N : Nat) : ∀ n a0 a1 a2 h r, nX12_lookAt_7 N n a0 a1 a2 h = some r → ra_Ru 1 mX12_lookAt 7 [some (.ref a0), some (.int a1), some (.int a2), none] [] h (ra_oV r) := by
  intro n
  induction n with
  | zero => intro a0 a1 a2 h r e; cases e
  | succ n ih =>
    intro a0 a1 a2 h r e
    exact ra_sound (by omega) rfl ra_rV_ok (kX12_lookAt_7_ok N (nX12_lookAt_7 N n) ih) (fun m av h h1 e => (ra_c0_ok (ro := ra_oV)) m av h h1 e) (fun m av h x h1 e => (ra_c0_ok (ro := ra_oI)) m av h (x, h1) e) (fun m av h x h1 e => (ra_c0_ok (ro := ra_oJ)) m av h (x, h1) e) (fun m av h x h1 e => (ra_c0_ok (ro := ra_oR)) m av h (x, h1) e) (fun m av h x h1 e => (ra_c0_ok (ro := ra_oN)) m av h (x, h1) e) (fun m av h x h1 e => (ra_c0_ok (ro := ra_oF)) m av h (x, h1) e) 7 lX12_lookAt_7 _ _ _ _ lX12_lookAt_7_ck (show ra_run ra_rV (kX12_lookAt_7 N (nX12_lookAt_7 N n)) ra_c0 ra_c0 ra_c0 ra_c0 ra_c0 ra_c0 7 lX12_lookAt_7 [some (.ref a0), some (.int a1), some (.int a2), none] [] h = some r from e) _ _ rfl
def lX12_lookAt_0 : List ra_I := [(0, .aload_n 0, 1, 0, 0, 0, 0, 0, []),
  (1, .iconst (0), 1, 0, 0, 0, (0), 0, []),
  (2, .putfield 428, 3, 12, 43, 0, 0, 0, []),
  (5, .iconst (1), 1, 0, 0, 0, (1), 0, []),
  (6, .istore_n 2, 1, 2, 0, 0, 0, 0, [])]
set_option maxRecDepth 100000 in
theorem lX12_lookAt_0_ck : lX12_lookAt_0.all (ra_ck mX12_lookAt 12) = true := by decide +kernel
def nX12_lookAt_0 (N : Nat) (a0 : Nat) (a1 : Int32) (h : ra_H) : Option ra_H :=
  (ra_fW h 12 a0 43 (.int ((0 : Int32)))).bind fun h1 =>
  nX12_lookAt_7 N N a0 a1 ((1 : Int32)) h1
def kX12_lookAt_0 (N : Nat) : Nat → List (Option Value) → List Value → ra_H → Option ra_H := (ra_k1 7 (fun L S h => match L, S with
  | [some (.ref a0), some (.int a1), some (.int a2), _], [] => nX12_lookAt_7 N N a0 a1 a2 h
  | _, _ => none) ra_k0)
theorem kX12_lookAt_0_ok (N : Nat) : ra_kok 1 mX12_lookAt ra_oV (kX12_lookAt_0 N) := (ra_k1_ok (by
  intro L S h a e
  split at e
  · exact ra_Ru.weak (nX12_lookAt_7_ok N N _ _ _ _ _ e) ⟨rfl, ⟨rfl, ⟨rfl, trivial⟩⟩⟩
  · cases e) ra_k0_ok)
set_option maxRecDepth 100000 in
theorem nX12_lookAt_0_ok (N : Nat) (a0 : Nat) (a1 : Int32) (h : ra_H) (r : ra_H) (e : nX12_lookAt_0 N a0 a1 h = some r) : ra_Ru 1 mX12_lookAt 0 [some (.ref a0), some (.int a1), none, none] [] h (ra_oV r) :=
  ra_sound (by omega) rfl ra_rV_ok (kX12_lookAt_0_ok N) (fun m av h h1 e => (ra_c0_ok (ro := ra_oV)) m av h h1 e) (fun m av h x h1 e => (ra_c0_ok (ro := ra_oI)) m av h (x, h1) e) (fun m av h x h1 e => (ra_c0_ok (ro := ra_oJ)) m av h (x, h1) e) (fun m av h x h1 e => (ra_c0_ok (ro := ra_oR)) m av h (x, h1) e) (fun m av h x h1 e => (ra_c0_ok (ro := ra_oN)) m av h (x, h1) e) (fun m av h x h1 e => (ra_c0_ok (ro := ra_oF)) m av h (x, h1) e) 6 lX12_lookAt_0 _ _ _ _ lX12_lookAt_0_ck (show ra_run ra_rV (kX12_lookAt_0 N) ra_c0 ra_c0 ra_c0 ra_c0 ra_c0 ra_c0 6 lX12_lookAt_0 [some (.ref a0), some (.int a1), none, none] [] h = some r from e) _ _ rfl
def fX12_lookAt (N : Nat) (p0 : Nat) (p1 : Int32) (h : ra_H) : Option ra_H := match ra_isOb h p0 12 with
  | true => nX12_lookAt_0 N p0 p1 h
  | false => none
set_option maxRecDepth 100000 in
theorem mtX12_lookAt : ra_MT[271]? = some (mX12_lookAt, 1, 1, (1, 13), (8, 123), (0, 97)) := rfl
theorem fX12_lookAt_co (N : Nat) (p0 : Nat) (p1 : Int32) (h : ra_H) (r : ra_H) (e : fX12_lookAt N p0 p1 h = some r) (D : Nat) (hD : 2 ≤ D) : ra_CO D 271 [.ref p0, .int p1] h (ra_oV r).1 (ra_oV r).2 := by
  have hw : ra_nw2 [.ref p0, .int p1] ≤ 4 := Nat.le_of_ble_eq_true rfl
  have hdb : ∀ v ∈ ([.ref p0, .int p1] : List Value), ∀ x, v ≠ .double x := by
    intro v hv x hx
    simp [hx] at hv
  unfold fX12_lookAt at e
  split at e
  · rename_i ho
    have e1 := e
    exact ⟨1, _, mtX12_lookAt, hD, ra_ev_of (by decide) hdb hw trivial (ra_Ru.weak (nX12_lookAt_0_ok N p0 p1 h _ e1) ⟨rfl, ⟨rfl, trivial⟩⟩), (fun _ => ⟨_, _, rfl, ra_rcv_of ho (by decide) rfl⟩), (fun h => absurd h (by decide))⟩
  · cases e
/-! RedMarksModel.closeOn(I)I -/
def mX12_closeOn : ra_M := (yX12_closeOn, cX12_closeOn, 5, (some .int))
def tVX12_closeOn (N : Nat) : Nat → List Value → ra_H → Option ra_H := (ra_c1 271 (fun av h => match av with
  | [.ref z0, .int z1] => fX12_lookAt N z0 z1 h
  | _ => none) ra_c0)
theorem tVX12_closeOn_ok (N : Nat) : ra_cok 2 ra_oV (tVX12_closeOn N) := (ra_c1_ok (by
  intro av h a e
  split at e
  · exact fX12_lookAt_co N _ _ _ _ e 2 (by omega)
  · cases e) ra_c0_ok)
def tIX12_closeOn (N : Nat) : Nat → List Value → ra_H → Option (Int32 × ra_H) := (ra_c1 209 (fun av h => match av with
  | [.long z0, .long z1, .long z2] => fX12_in N z0 z1 z2 h
  | _ => none) ra_c0)
theorem tIX12_closeOn_ok (N : Nat) : ra_cok 2 ra_oI (tIX12_closeOn N) := (ra_c1_ok (by
  intro av h a e
  split at e
  · exact fX12_in_co N _ _ _ _ _ e 2 (by omega)
  · cases e) ra_c0_ok)
def lX12_closeOn_75 : List ra_I := [(75, .iadd, 1, 0, 0, 0, 0, 0, []),
  (76, .istore_n 2, 1, 2, 0, 0, 0, 0, []),
  (77, .iinc 3 (1), 3, 3, 0, 0, (1), 0, []),
  (80, .goto (-71), 3, 9, 0, 0, 0, 0, [])]
set_option maxRecDepth 100000 in
theorem lX12_closeOn_75_ck : lX12_closeOn_75.all (ra_ck mX12_closeOn 12) = true := by decide +kernel
def nX12_closeOn_75 (N : Nat) (c9 : Nat → Int32 → Int32 → ra_H → Option (Int32 × ra_H)) (a0 : Nat) (a3 : Int32) (b0 : Int32) (b1 : Int32) (h : ra_H) : Option (Int32 × ra_H) :=
  let y1 := b0 + b1
  let y2 := a3 + (1 : Int32)
  c9 a0 y1 y2 h
def kX12_closeOn_75 (N : Nat) (c9 : Nat → Int32 → Int32 → ra_H → Option (Int32 × ra_H)) : Nat → List (Option Value) → List Value → ra_H → Option (Int32 × ra_H) := (ra_k1 9 (fun L S h => match L, S with
  | [some (.ref a0), _, some (.int a2), some (.int a3), _], [] => c9 a0 a2 a3 h
  | _, _ => none) ra_k0)
theorem kX12_closeOn_75_ok (N : Nat) (c9 : Nat → Int32 → Int32 → ra_H → Option (Int32 × ra_H)) (hc9 : ∀ a0 a2 a3 h r, c9 a0 a2 a3 h = some r → ra_Ru 2 mX12_closeOn 9 [some (.ref a0), none, some (.int a2), some (.int a3), none] [] h (ra_oI r)) : ra_kok 2 mX12_closeOn ra_oI (kX12_closeOn_75 N c9) := (ra_k1_ok (by
  intro L S h a e
  split at e
  · exact ra_Ru.weak (hc9 _ _ _ _ _ e) ⟨rfl, ⟨rfl, ⟨rfl, trivial⟩⟩⟩
  · cases e) ra_k0_ok)
set_option maxRecDepth 100000 in
theorem nX12_closeOn_75_ok (N : Nat) (c9 : Nat → Int32 → Int32 → ra_H → Option (Int32 × ra_H)) (hc9 : ∀ a0 a2 a3 h r, c9 a0 a2 a3 h = some r → ra_Ru 2 mX12_closeOn 9 [some (.ref a0), none, some (.int a2), some (.int a3), none] [] h (ra_oI r)) (a0 : Nat) (a3 : Int32) (b0 : Int32) (b1 : Int32) (h : ra_H) (r : (Int32 × ra_H)) (e : nX12_closeOn_75 N c9 a0 a3 b0 b1 h = some r) : ra_Ru 2 mX12_closeOn 75 [some (.ref a0), none, none, some (.int a3), none] [.int b1, .int b0] h (ra_oI r) :=
  ra_sound (by omega) rfl ra_rI_ok (kX12_closeOn_75_ok N c9 hc9) (fun m av h h1 e => (tVX12_closeOn_ok N) m av h h1 e) (fun m av h x h1 e => (tIX12_closeOn_ok N) m av h (x, h1) e) (fun m av h x h1 e => (ra_c0_ok (ro := ra_oJ)) m av h (x, h1) e) (fun m av h x h1 e => (ra_c0_ok (ro := ra_oR)) m av h (x, h1) e) (fun m av h x h1 e => (ra_c0_ok (ro := ra_oN)) m av h (x, h1) e) (fun m av h x h1 e => (ra_c0_ok (ro := ra_oF)) m av h (x, h1) e) 5 lX12_closeOn_75 _ _ _ _ lX12_closeOn_75_ck (show ra_run ra_rI (kX12_closeOn_75 N c9) (tVX12_closeOn N) (tIX12_closeOn N) ra_c0 ra_c0 ra_c0 ra_c0 5 lX12_closeOn_75 [some (.ref a0), none, none, some (.int a3), none] [.int b1, .int b0] h = some r from e) _ _ rfl
def lX12_closeOn_9 : List ra_I := [(9, .iload_n 3, 1, 3, 0, 0, 0, 0, []),
  (10, .aload_n 0, 1, 0, 0, 0, 0, 0, []),
  (11, .getfield 428, 3, 12, 43, 0, 0, 0, []),
  (14, .if_icmp .ge (69), 3, 83, 0, 0, 0, 0, []),
  (17, .aload_n 0, 1, 0, 0, 0, 0, 0, []),
  (18, .getfield 13, 3, 12, 3, 2, 0, 0, []),
  (21, .bipush (12), 2, 0, 0, 0, (12), 0, []),
  (23, .aload_n 0, 1, 0, 0, 0, 0, 0, []),
  (24, .getfield 107, 3, 12, 42, 2, 0, 0, []),
  (27, .iload_n 3, 1, 3, 0, 0, 0, 0, []),
  (28, .iaload, 1, 0, 0, 0, 0, 0, []),
  (29, .imul, 1, 0, 0, 0, 0, 0, []),
  (30, .bipush (8), 2, 0, 0, 0, (8), 0, []),
  (32, .iadd, 1, 0, 0, 0, 0, 0, []),
  (33, .iaload, 1, 0, 0, 0, 0, 0, []),
  (34, .aload_n 0, 1, 0, 0, 0, 0, 0, []),
  (35, .getfield 13, 3, 12, 3, 2, 0, 0, []),
  (38, .bipush (12), 2, 0, 0, 0, (12), 0, []),
  (40, .aload_n 0, 1, 0, 0, 0, 0, 0, []),
  (41, .getfield 107, 3, 12, 42, 2, 0, 0, []),
  (44, .iload_n 3, 1, 3, 0, 0, 0, 0, []),
  (45, .iconst (1), 1, 0, 0, 0, (1), 0, []),
  (46, .isub, 1, 0, 0, 0, 0, 0, []),
  (47, .iaload, 1, 0, 0, 0, 0, 0, []),
  (48, .imul, 1, 0, 0, 0, 0, 0, []),
  (49, .bipush (8), 2, 0, 0, 0, (8), 0, []),
  (51, .iadd, 1, 0, 0, 0, 0, 0, []),
  (52, .iaload, 1, 0, 0, 0, 0, 0, []),
  (53, .isub, 1, 0, 0, 0, 0, 0, []),
  (54, .istore 4, 2, 4, 0, 0, 0, 0, []),
  (56, .iload_n 2, 1, 2, 0, 0, 0, 0, []),
  (57, .iload 4, 2, 4, 0, 0, 0, 0, []),
  (59, .i2l, 1, 0, 0, 0, 0, 0, []),
  (60, .ldc2_w 252, 3, 0, 0, 0, 0, (-1), []),
  (63, .lconst 1, 1, 0, 0, 0, 0, 1, []),
  (64, .invokestatic 153, 3, 209, 3, 1, 0, 0, []),
  (67, .ifCond .eq (7), 3, 74, 0, 0, 0, 0, []),
  (70, .iconst (1), 1, 0, 0, 0, (1), 0, []),
  (71, .goto (4), 3, 75, 0, 0, 0, 0, []),
  (74, .iconst (0), 1, 0, 0, 0, (0), 0, []),
  (83, .iload_n 2, 1, 2, 0, 0, 0, 0, []),
  (84, .ireturn, 1, 0, 0, 0, 0, 0, [])]
set_option maxRecDepth 100000 in
theorem lX12_closeOn_9_ck : lX12_closeOn_9.all (ra_ck mX12_closeOn 12) = true := by decide +kernel
def nX12_closeOn_9 (N : Nat) : Nat → Nat → Int32 → Int32 → ra_H → Option (Int32 × ra_H)
  | 0, _, _, _, _ => none
  | n + 1, a0, a2, a3, h =>
  (ra_fI h 12 a0 43).bind fun x1 =>
  if a3 < x1 then
    (ra_fR h 12 a0 3).bind fun x2 =>
    (ra_fR h 12 a0 42).bind fun x3 =>
    (ra_aI h 0 x3 a3).bind fun x4 =>
    (ra_aI h 0 x2 ((((12 : Int32)) * x4) + ((8 : Int32)))).bind fun x5 =>
    (ra_fR h 12 a0 3).bind fun x6 =>
    (ra_fR h 12 a0 42).bind fun x7 =>
    (ra_aI h 0 x7 (a3 - ((1 : Int32)))).bind fun x8 =>
    (ra_aI h 0 x6 ((((12 : Int32)) * x8) + ((8 : Int32)))).bind fun x9 =>
    let y10 := x5 - x9
    (fX12_in N (Int32.toInt64 y10) ((-1 : Int64)) ((1 : Int64)) h).bind fun q11 =>
    if q11.1 = 0 then
      nX12_closeOn_75 N (nX12_closeOn_9 N n) a0 a3 a2 ((0 : Int32)) q11.2
    else
      nX12_closeOn_75 N (nX12_closeOn_9 N n) a0 a3 a2 ((1 : Int32)) q11.2
  else
    some (a2, h)
def kX12_closeOn_9 (N : Nat) (cs : Nat → Int32 → Int32 → ra_H → Option (Int32 × ra_H)) : Nat → List (Option Value) → List Value → ra_H → Option (Int32 × ra_H) := (ra_k1 75 (fun L S h => match L, S with
  | [some (.ref a0), _, _, some (.int a3), _], [.int b1, .int b0] => nX12_closeOn_75 N cs a0 a3 b0 b1 h
  | _, _ => none) ra_k0)
theorem kX12_closeOn_9_ok (N : Nat) (cs : Nat → Int32 → Int32 → ra_H → Option (Int32 × ra_H)) (hcs : ∀ a0 a2 a3 h r, cs a0 a2 a3 h = some r → ra_Ru 2 mX12_closeOn 9 [some (.ref a0), none, some (.int a2), some (.int a3), none] [] h (ra_oI r)) : ra_kok 2 mX12_closeOn ra_oI (kX12_closeOn_9 N cs) := (ra_k1_ok (by
  intro L S h a e
  split at e
  · exact ra_Ru.weak (nX12_closeOn_75_ok N cs hcs _ _ _ _ _ _ e) ⟨rfl, ⟨rfl, trivial⟩⟩
  · cases e) ra_k0_ok)
set_option maxRecDepth 100000 in
theorem nX12_closeOn_9_ok (N : Nat) : ∀ n a0 a2 a3 h r, nX12_closeOn_9 N n a0 a2 a3 h = some r → ra_Ru 2 mX12_closeOn 9 [some (.ref a0), none, some (.int a2), some (.int a3), none] [] h (ra_oI r) := by
  intro n
  induction n with
  | zero => intro a0 a2 a3 h r e; cases e
  | succ n ih =>
    intro a0 a2 a3 h r e
    exact ra_sound (by omega) rfl ra_rI_ok (kX12_closeOn_9_ok N (nX12_closeOn_9 N n) ih) (fun m av h h1 e => (tVX12_closeOn_ok N) m av h h1 e) (fun m av h x h1 e => (tIX12_closeOn_ok N) m av h (x, h1) e) (fun m av h x h1 e => (ra_c0_ok (ro := ra_oJ)) m av h (x, h1) e) (fun m av h x h1 e => (ra_c0_ok (ro := ra_oR)) m av h (x, h1) e) (fun m av h x h1 e => (ra_c0_ok (ro := ra_oN)) m av h (x, h1) e) (fun m av h x h1 e => (ra_c0_ok (ro := ra_oF)) m av h (x, h1) e) 43 lX12_closeOn_9 _ _ _ _ lX12_closeOn_9_ck (show ra_run ra_rI (kX12_closeOn_9 N (nX12_closeOn_9 N n)) (tVX12_closeOn N) (tIX12_closeOn N) ra_c0 ra_c0 ra_c0 ra_c0 43 lX12_closeOn_9 [some (.ref a0), none, some (.int a2), some (.int a3), none] [] h = some r from e) _ _ rfl
def lX12_closeOn_0 : List ra_I := [(0, .aload_n 0, 1, 0, 0, 0, 0, 0, []),
  (1, .iload_n 1, 1, 1, 0, 0, 0, 0, []),
  (2, .invokevirtual 431, 3, 271, 2, 0, 0, 0, []),
  (5, .iconst (0), 1, 0, 0, 0, (0), 0, []),
  (6, .istore_n 2, 1, 2, 0, 0, 0, 0, []),
  (7, .iconst (1), 1, 0, 0, 0, (1), 0, []),
  (8, .istore_n 3, 1, 3, 0, 0, 0, 0, [])]
set_option maxRecDepth 100000 in
theorem lX12_closeOn_0_ck : lX12_closeOn_0.all (ra_ck mX12_closeOn 12) = true := by decide +kernel
def nX12_closeOn_0 (N : Nat) (a0 : Nat) (a1 : Int32) (h : ra_H) : Option (Int32 × ra_H) :=
  (fX12_lookAt N a0 a1 h).bind fun h1 =>
  nX12_closeOn_9 N N a0 ((0 : Int32)) ((1 : Int32)) h1
def kX12_closeOn_0 (N : Nat) : Nat → List (Option Value) → List Value → ra_H → Option (Int32 × ra_H) := (ra_k1 9 (fun L S h => match L, S with
  | [some (.ref a0), _, some (.int a2), some (.int a3), _], [] => nX12_closeOn_9 N N a0 a2 a3 h
  | _, _ => none) ra_k0)
theorem kX12_closeOn_0_ok (N : Nat) : ra_kok 2 mX12_closeOn ra_oI (kX12_closeOn_0 N) := (ra_k1_ok (by
  intro L S h a e
  split at e
  · exact ra_Ru.weak (nX12_closeOn_9_ok N N _ _ _ _ _ e) ⟨rfl, ⟨rfl, ⟨rfl, trivial⟩⟩⟩
  · cases e) ra_k0_ok)
set_option maxRecDepth 100000 in
theorem nX12_closeOn_0_ok (N : Nat) (a0 : Nat) (a1 : Int32) (h : ra_H) (r : (Int32 × ra_H)) (e : nX12_closeOn_0 N a0 a1 h = some r) : ra_Ru 2 mX12_closeOn 0 [some (.ref a0), some (.int a1), none, none, none] [] h (ra_oI r) :=
  ra_sound (by omega) rfl ra_rI_ok (kX12_closeOn_0_ok N) (fun m av h h1 e => (tVX12_closeOn_ok N) m av h h1 e) (fun m av h x h1 e => (tIX12_closeOn_ok N) m av h (x, h1) e) (fun m av h x h1 e => (ra_c0_ok (ro := ra_oJ)) m av h (x, h1) e) (fun m av h x h1 e => (ra_c0_ok (ro := ra_oR)) m av h (x, h1) e) (fun m av h x h1 e => (ra_c0_ok (ro := ra_oN)) m av h (x, h1) e) (fun m av h x h1 e => (ra_c0_ok (ro := ra_oF)) m av h (x, h1) e) 8 lX12_closeOn_0 _ _ _ _ lX12_closeOn_0_ck (show ra_run ra_rI (kX12_closeOn_0 N) (tVX12_closeOn N) (tIX12_closeOn N) ra_c0 ra_c0 ra_c0 ra_c0 8 lX12_closeOn_0 [some (.ref a0), some (.int a1), none, none, none] [] h = some r from e) _ _ rfl
def fX12_closeOn (N : Nat) (p0 : Nat) (p1 : Int32) (h : ra_H) : Option (Int32 × ra_H) := match ra_isOb h p0 12 with
  | true => nX12_closeOn_0 N p0 p1 h
  | false => none
set_option maxRecDepth 100000 in
theorem mtX12_closeOn : ra_MT[277]? = some (mX12_closeOn, 1, 1, (1, 13), (8, 147), (0, 99)) := rfl
theorem fX12_closeOn_co (N : Nat) (p0 : Nat) (p1 : Int32) (h : ra_H) (r : (Int32 × ra_H)) (e : fX12_closeOn N p0 p1 h = some r) (D : Nat) (hD : 3 ≤ D) : ra_CO D 277 [.ref p0, .int p1] h (ra_oI r).1 (ra_oI r).2 := by
  have hw : ra_nw2 [.ref p0, .int p1] ≤ 5 := Nat.le_of_ble_eq_true rfl
  have hdb : ∀ v ∈ ([.ref p0, .int p1] : List Value), ∀ x, v ≠ .double x := by
    intro v hv x hx
    simp [hx] at hv
  unfold fX12_closeOn at e
  split at e
  · rename_i ho
    have e1 := e
    exact ⟨2, _, mtX12_closeOn, hD, ra_ev_of (by decide) hdb hw trivial (ra_Ru.weak (nX12_closeOn_0_ok N p0 p1 h _ e1) ⟨rfl, ⟨rfl, trivial⟩⟩), (fun _ => ⟨_, _, rfl, ra_rcv_of ho (by decide) rfl⟩), (fun h => absurd h (by decide))⟩
  · cases e
/-! RedMarksModel.isShelf(II)Z -/
def mX12_isShelf : ra_M := (yX12_isShelf, cX12_isShelf, 2, (some .boolean))
def tIX12_isShelf (N : Nat) : Nat → List Value → ra_H → Option (Int32 × ra_H) := (ra_c1 209 (fun av h => match av with
  | [.long z0, .long z1, .long z2] => fX12_in N z0 z1 z2 h
  | _ => none) ra_c0)
theorem tIX12_isShelf_ok (N : Nat) : ra_cok 2 ra_oI (tIX12_isShelf N) := (ra_c1_ok (by
  intro av h a e
  split at e
  · exact fX12_in_co N _ _ _ _ _ e 2 (by omega)
  · cases e) ra_c0_ok)
def lX12_isShelf_29 : List ra_I := [(29, .ireturn, 1, 0, 0, 0, 0, 0, [])]
set_option maxRecDepth 100000 in
theorem lX12_isShelf_29_ck : lX12_isShelf_29.all (ra_ck mX12_isShelf 12) = true := by decide +kernel
def nX12_isShelf_29 (N : Nat) (b0 : Int32) (h : ra_H) : Option (Int32 × ra_H) :=
  some (b0, h)
def kX12_isShelf_29 (N : Nat) : Nat → List (Option Value) → List Value → ra_H → Option (Int32 × ra_H) := ra_k0
theorem kX12_isShelf_29_ok (N : Nat) : ra_kok 2 mX12_isShelf ra_oI (kX12_isShelf_29 N) := ra_k0_ok
set_option maxRecDepth 100000 in
theorem nX12_isShelf_29_ok (N : Nat) (b0 : Int32) (h : ra_H) (r : (Int32 × ra_H)) (e : nX12_isShelf_29 N b0 h = some r) : ra_Ru 2 mX12_isShelf 29 [none, none] [.int b0] h (ra_oI r) :=
  ra_sound (by omega) rfl ra_rI_ok (kX12_isShelf_29_ok N) (fun m av h h1 e => (ra_c0_ok (ro := ra_oV)) m av h h1 e) (fun m av h x h1 e => (tIX12_isShelf_ok N) m av h (x, h1) e) (fun m av h x h1 e => (ra_c0_ok (ro := ra_oJ)) m av h (x, h1) e) (fun m av h x h1 e => (ra_c0_ok (ro := ra_oR)) m av h (x, h1) e) (fun m av h x h1 e => (ra_c0_ok (ro := ra_oN)) m av h (x, h1) e) (fun m av h x h1 e => (ra_c0_ok (ro := ra_oF)) m av h (x, h1) e) 2 lX12_isShelf_29 _ _ _ _ lX12_isShelf_29_ck (show ra_run ra_rI (kX12_isShelf_29 N) ra_c0 (tIX12_isShelf N) ra_c0 ra_c0 ra_c0 ra_c0 2 lX12_isShelf_29 [none, none] [.int b0] h = some r from e) _ _ rfl
def lX12_isShelf_28 : List ra_I := [(28, .iconst (0), 1, 0, 0, 0, (0), 0, [])]
set_option maxRecDepth 100000 in
theorem lX12_isShelf_28_ck : lX12_isShelf_28.all (ra_ck mX12_isShelf 12) = true := by decide +kernel
def nX12_isShelf_28 (N : Nat) (h : ra_H) : Option (Int32 × ra_H) :=
  nX12_isShelf_29 N ((0 : Int32)) h
def kX12_isShelf_28 (N : Nat) : Nat → List (Option Value) → List Value → ra_H → Option (Int32 × ra_H) := (ra_k1 29 (fun L S h => match L, S with
  | [_, _], [.int b0] => nX12_isShelf_29 N b0 h
  | _, _ => none) ra_k0)
theorem kX12_isShelf_28_ok (N : Nat) : ra_kok 2 mX12_isShelf ra_oI (kX12_isShelf_28 N) := (ra_k1_ok (by
  intro L S h a e
  split at e
  · exact ra_Ru.weak (nX12_isShelf_29_ok N _ _ _ e) trivial
  · cases e) ra_k0_ok)
set_option maxRecDepth 100000 in
theorem nX12_isShelf_28_ok (N : Nat) (h : ra_H) (r : (Int32 × ra_H)) (e : nX12_isShelf_28 N h = some r) : ra_Ru 2 mX12_isShelf 28 [none, none] [] h (ra_oI r) :=
  ra_sound (by omega) rfl ra_rI_ok (kX12_isShelf_28_ok N) (fun m av h h1 e => (ra_c0_ok (ro := ra_oV)) m av h h1 e) (fun m av h x h1 e => (tIX12_isShelf_ok N) m av h (x, h1) e) (fun m av h x h1 e => (ra_c0_ok (ro := ra_oJ)) m av h (x, h1) e) (fun m av h x h1 e => (ra_c0_ok (ro := ra_oR)) m av h (x, h1) e) (fun m av h x h1 e => (ra_c0_ok (ro := ra_oN)) m av h (x, h1) e) (fun m av h x h1 e => (ra_c0_ok (ro := ra_oF)) m av h (x, h1) e) 2 lX12_isShelf_28 _ _ _ _ lX12_isShelf_28_ck (show ra_run ra_rI (kX12_isShelf_28 N) ra_c0 (tIX12_isShelf N) ra_c0 ra_c0 ra_c0 ra_c0 2 lX12_isShelf_28 [none, none] [] h = some r from e) _ _ rfl
def lX12_isShelf_0 : List ra_I := [(0, .iload_n 0, 1, 0, 0, 0, 0, 0, []),
  (1, .i2l, 1, 0, 0, 0, 0, 0, []),
  (2, .lconst 0, 1, 0, 0, 0, 0, 0, []),
  (3, .ldc2_w 161, 3, 0, 0, 0, 0, (8), []),
  (6, .invokestatic 153, 3, 209, 3, 1, 0, 0, []),
  (9, .ifCond .eq (19), 3, 28, 0, 0, 0, 0, []),
  (12, .iload_n 1, 1, 1, 0, 0, 0, 0, []),
  (13, .i2l, 1, 0, 0, 0, 0, 0, []),
  (14, .lconst 0, 1, 0, 0, 0, 0, 0, []),
  (15, .ldc2_w 165, 3, 0, 0, 0, 0, (5), []),
  (18, .invokestatic 153, 3, 209, 3, 1, 0, 0, []),
  (21, .ifCond .eq (7), 3, 28, 0, 0, 0, 0, []),
  (24, .iconst (1), 1, 0, 0, 0, (1), 0, []),
  (25, .goto (4), 3, 29, 0, 0, 0, 0, [])]
set_option maxRecDepth 100000 in
theorem lX12_isShelf_0_ck : lX12_isShelf_0.all (ra_ck mX12_isShelf 12) = true := by decide +kernel
def nX12_isShelf_0 (N : Nat) (a0 : Int32) (a1 : Int32) (h : ra_H) : Option (Int32 × ra_H) :=
  (fX12_in N (Int32.toInt64 a0) ((0 : Int64)) ((8 : Int64)) h).bind fun q1 =>
  if q1.1 = 0 then
    nX12_isShelf_28 N q1.2
  else
    (fX12_in N (Int32.toInt64 a1) ((0 : Int64)) ((5 : Int64)) q1.2).bind fun q2 =>
    if q2.1 = 0 then
      nX12_isShelf_28 N q2.2
    else
      nX12_isShelf_29 N ((1 : Int32)) q2.2
def kX12_isShelf_0 (N : Nat) : Nat → List (Option Value) → List Value → ra_H → Option (Int32 × ra_H) := (ra_k1 28 (fun L S h => match L, S with
  | [_, _], [] => nX12_isShelf_28 N h
  | _, _ => none) (ra_k1 29 (fun L S h => match L, S with
  | [_, _], [.int b0] => nX12_isShelf_29 N b0 h
  | _, _ => none) ra_k0))
theorem kX12_isShelf_0_ok (N : Nat) : ra_kok 2 mX12_isShelf ra_oI (kX12_isShelf_0 N) := (ra_k1_ok (by
  intro L S h a e
  split at e
  · exact ra_Ru.weak (nX12_isShelf_28_ok N _ _ e) trivial
  · cases e) (ra_k1_ok (by
  intro L S h a e
  split at e
  · exact ra_Ru.weak (nX12_isShelf_29_ok N _ _ _ e) trivial
  · cases e) ra_k0_ok))
set_option maxRecDepth 100000 in
theorem nX12_isShelf_0_ok (N : Nat) (a0 : Int32) (a1 : Int32) (h : ra_H) (r : (Int32 × ra_H)) (e : nX12_isShelf_0 N a0 a1 h = some r) : ra_Ru 2 mX12_isShelf 0 [some (.int a0), some (.int a1)] [] h (ra_oI r) :=
  ra_sound (by omega) rfl ra_rI_ok (kX12_isShelf_0_ok N) (fun m av h h1 e => (ra_c0_ok (ro := ra_oV)) m av h h1 e) (fun m av h x h1 e => (tIX12_isShelf_ok N) m av h (x, h1) e) (fun m av h x h1 e => (ra_c0_ok (ro := ra_oJ)) m av h (x, h1) e) (fun m av h x h1 e => (ra_c0_ok (ro := ra_oR)) m av h (x, h1) e) (fun m av h x h1 e => (ra_c0_ok (ro := ra_oN)) m av h (x, h1) e) (fun m av h x h1 e => (ra_c0_ok (ro := ra_oF)) m av h (x, h1) e) 15 lX12_isShelf_0 _ _ _ _ lX12_isShelf_0_ck (show ra_run ra_rI (kX12_isShelf_0 N) ra_c0 (tIX12_isShelf N) ra_c0 ra_c0 ra_c0 ra_c0 15 lX12_isShelf_0 [some (.int a0), some (.int a1)] [] h = some r from e) _ _ rfl
def fX12_isShelf (N : Nat) (p0 : Int32) (p1 : Int32) (h : ra_H) : Option (Int32 × ra_H) := (nX12_isShelf_0 N p0 p1 h).bind (fun q => ra_rz q.1 q.2)
set_option maxRecDepth 100000 in
theorem mtX12_isShelf : ra_MT[224]? = some (mX12_isShelf, 0, 2, (1, 13), (7, 155), (0, 0)) := rfl
theorem fX12_isShelf_co (N : Nat) (p0 : Int32) (p1 : Int32) (h : ra_H) (r : (Int32 × ra_H)) (e : fX12_isShelf N p0 p1 h = some r) (D : Nat) (hD : 3 ≤ D) : ra_CO D 224 [.int p0, .int p1] h (ra_oI r).1 (ra_oI r).2 := by
  have hw : ra_nw2 [.int p0, .int p1] ≤ 2 := Nat.le_of_ble_eq_true rfl
  have hdb : ∀ v ∈ ([.int p0, .int p1] : List Value), ∀ x, v ≠ .double x := by
    intro v hv x hx
    simp [hx] at hv
  unfold fX12_isShelf at e
  obtain ⟨q, e1, e2⟩ := Option.bind_eq_some_iff.mp e
  obtain ⟨rfl, hz⟩ := ra_rz_of e2
  exact ⟨2, _, mtX12_isShelf, hD, ra_ev_of (by decide) hdb hw hz (ra_Ru.weak (nX12_isShelf_0_ok N p0 p1 h _ e1) ⟨rfl, ⟨rfl, trivial⟩⟩), (fun h => absurd h (by decide)), (fun h => absurd h (by decide))⟩
/-! RedMarksModel.lookKept()Z -/
def mX12_lookKept : ra_M := (yX12_lookKept, cX12_lookKept, 1, (some .boolean))
def tVX12_lookKept (N : Nat) : Nat → List Value → ra_H → Option ra_H := (ra_c1 264 (fun av h => match av with
  | [.ref z0] => fX12_findSeats N z0 h
  | _ => none) ra_c0)
theorem tVX12_lookKept_ok (N : Nat) : ra_cok 7 ra_oV (tVX12_lookKept N) := (ra_c1_ok (by
  intro av h a e
  split at e
  · exact fX12_findSeats_co N _ _ _ e 7 (by omega)
  · cases e) ra_c0_ok)
def tIX12_lookKept (N : Nat) : Nat → List Value → ra_H → Option (Int32 × ra_H) := (ra_c1 265 (fun av h => match av with
  | [.ref z0, .int z1, .int z2, .int z3] => fX12_standing N z0 z1 z2 z3 h
  | _ => none) ra_c0)
theorem tIX12_lookKept_ok (N : Nat) : ra_cok 7 ra_oI (tIX12_lookKept N) := (ra_c1_ok (by
  intro av h a e
  split at e
  · exact fX12_standing_co N _ _ _ _ _ _ e 7 (by omega)
  · cases e) ra_c0_ok)
def lX12_lookKept_0 : List ra_I := [(0, .aload_n 0, 1, 0, 0, 0, 0, 0, []),
  (1, .getfield 13, 3, 12, 3, 2, 0, 0, []),
  (4, .sipush (484), 3, 0, 0, 0, (484), 0, []),
  (7, .iaload, 1, 0, 0, 0, 0, 0, []),
  (8, .iconst (-1), 1, 0, 0, 0, (-1), 0, []),
  (9, .if_icmp .ne (5), 3, 14, 0, 0, 0, 0, []),
  (12, .iconst (0), 1, 0, 0, 0, (0), 0, []),
  (13, .ireturn, 1, 0, 0, 0, 0, 0, []),
  (14, .aload_n 0, 1, 0, 0, 0, 0, 0, []),
  (15, .invokevirtual 413, 3, 264, 1, 0, 0, 0, []),
  (18, .aload_n 0, 1, 0, 0, 0, 0, 0, []),
  (19, .aload_n 0, 1, 0, 0, 0, 0, 0, []),
  (20, .aload_n 0, 1, 0, 0, 0, 0, 0, []),
  (21, .getfield 13, 3, 12, 3, 2, 0, 0, []),
  (24, .sipush (484), 3, 0, 0, 0, (484), 0, []),
  (27, .iaload, 1, 0, 0, 0, 0, 0, []),
  (28, .aload_n 0, 1, 0, 0, 0, 0, 0, []),
  (29, .getfield 13, 3, 12, 3, 2, 0, 0, []),
  (32, .sipush (485), 3, 0, 0, 0, (485), 0, []),
  (35, .iaload, 1, 0, 0, 0, 0, 0, []),
  (36, .aload_n 0, 1, 0, 0, 0, 0, 0, []),
  (37, .getfield 13, 3, 12, 3, 2, 0, 0, []),
  (40, .sipush (486), 3, 0, 0, 0, (486), 0, []),
  (43, .iaload, 1, 0, 0, 0, 0, 0, []),
  (44, .invokevirtual 416, 3, 265, 4, 1, 0, 0, []),
  (47, .putfield 422, 3, 12, 41, 0, 0, 0, []),
  (50, .iconst (1), 1, 0, 0, 0, (1), 0, []),
  (51, .ireturn, 1, 0, 0, 0, 0, 0, [])]
set_option maxRecDepth 100000 in
theorem lX12_lookKept_0_ck : lX12_lookKept_0.all (ra_ck mX12_lookKept 12) = true := by decide +kernel
def nX12_lookKept_0 (N : Nat) (a0 : Nat) (h : ra_H) : Option (Int32 × ra_H) :=
  (ra_fR h 12 a0 3).bind fun x1 =>
  (ra_aI h 0 x1 ((484 : Int32))).bind fun x2 =>
  if x2 = ((-1 : Int32)) then
    some ((0 : Int32), h)
  else
    (fX12_findSeats N a0 h).bind fun h3 =>
    (ra_fR h3 12 a0 3).bind fun x4 =>
    (ra_aI h3 0 x4 ((484 : Int32))).bind fun x5 =>
    (ra_fR h3 12 a0 3).bind fun x6 =>
    (ra_aI h3 0 x6 ((485 : Int32))).bind fun x7 =>
    (ra_fR h3 12 a0 3).bind fun x8 =>
    (ra_aI h3 0 x8 ((486 : Int32))).bind fun x9 =>
    (fX12_standing N a0 x5 x7 x9 h3).bind fun q10 =>
    (ra_fW q10.2 12 a0 41 (.int q10.1)).bind fun h11 =>
    some ((1 : Int32), h11)
def kX12_lookKept_0 (N : Nat) : Nat → List (Option Value) → List Value → ra_H → Option (Int32 × ra_H) := ra_k0
theorem kX12_lookKept_0_ok (N : Nat) : ra_kok 7 mX12_lookKept ra_oI (kX12_lookKept_0 N) := ra_k0_ok
set_option maxRecDepth 100000 in
theorem nX12_lookKept_0_ok (N : Nat) (a0 : Nat) (h : ra_H) (r : (Int32 × ra_H)) (e : nX12_lookKept_0 N a0 h = some r) : ra_Ru 7 mX12_lookKept 0 [some (.ref a0)] [] h (ra_oI r) :=
  ra_sound (by omega) rfl ra_rI_ok (kX12_lookKept_0_ok N) (fun m av h h1 e => (tVX12_lookKept_ok N) m av h h1 e) (fun m av h x h1 e => (tIX12_lookKept_ok N) m av h (x, h1) e) (fun m av h x h1 e => (ra_c0_ok (ro := ra_oJ)) m av h (x, h1) e) (fun m av h x h1 e => (ra_c0_ok (ro := ra_oR)) m av h (x, h1) e) (fun m av h x h1 e => (ra_c0_ok (ro := ra_oN)) m av h (x, h1) e) (fun m av h x h1 e => (ra_c0_ok (ro := ra_oF)) m av h (x, h1) e) 29 lX12_lookKept_0 _ _ _ _ lX12_lookKept_0_ck (show ra_run ra_rI (kX12_lookKept_0 N) (tVX12_lookKept N) (tIX12_lookKept N) ra_c0 ra_c0 ra_c0 ra_c0 29 lX12_lookKept_0 [some (.ref a0)] [] h = some r from e) _ _ rfl
def fX12_lookKept (N : Nat) (p0 : Nat) (h : ra_H) : Option (Int32 × ra_H) := match ra_isOb h p0 12 with
  | true => (nX12_lookKept_0 N p0 h).bind (fun q => ra_rz q.1 q.2)
  | false => none
set_option maxRecDepth 100000 in
theorem mtX12_lookKept : ra_MT[269]? = some (mX12_lookKept, 1, 0, (1, 13), (8, 115), (0, 96)) := rfl
theorem fX12_lookKept_co (N : Nat) (p0 : Nat) (h : ra_H) (r : (Int32 × ra_H)) (e : fX12_lookKept N p0 h = some r) (D : Nat) (hD : 8 ≤ D) : ra_CO D 269 [.ref p0] h (ra_oI r).1 (ra_oI r).2 := by
  have hw : ra_nw2 [.ref p0] ≤ 1 := Nat.le_of_ble_eq_true rfl
  have hdb : ∀ v ∈ ([.ref p0] : List Value), ∀ x, v ≠ .double x := by
    intro v hv x hx
    simp [hx] at hv
  unfold fX12_lookKept at e
  split at e
  · rename_i ho
    obtain ⟨q, e1, e2⟩ := Option.bind_eq_some_iff.mp e
    obtain ⟨rfl, hz⟩ := ra_rz_of e2
    exact ⟨7, _, mtX12_lookKept, hD, ra_ev_of (by decide) hdb hw hz (ra_Ru.weak (nX12_lookKept_0_ok N p0 h _ e1) ⟨rfl, trivial⟩), (fun _ => ⟨_, _, rfl, ra_rcv_of ho (by decide) rfl⟩), (fun h => absurd h (by decide))⟩
  · cases e
/-! RedMarksModel.close(II)I -/
def mX12_close : ra_M := (yX12_close, cX12_close, 6, (some .int))
def tIX12_close (N : Nat) : Nat → List Value → ra_H → Option (Int32 × ra_H) := (ra_c1 224 (fun av h => match av with
  | [.int z0, .int z1] => fX12_isShelf N z0 z1 h
  | _ => none) (ra_c1 269 (fun av h => match av with
  | [.ref z0] => fX12_lookKept N z0 h
  | _ => none) (ra_c1 277 (fun av h => match av with
  | [.ref z0, .int z1] => fX12_closeOn N z0 z1 h
  | _ => none) ra_c0)))
theorem tIX12_close_ok (N : Nat) : ra_cok 8 ra_oI (tIX12_close N) := (ra_c1_ok (by
  intro av h a e
  split at e
  · exact fX12_isShelf_co N _ _ _ _ e 8 (by omega)
  · cases e) (ra_c1_ok (by
  intro av h a e
  split at e
  · exact fX12_lookKept_co N _ _ _ e 8 (by omega)
  · cases e) (ra_c1_ok (by
  intro av h a e
  split at e
  · exact fX12_closeOn_co N _ _ _ _ e 8 (by omega)
  · cases e) ra_c0_ok)))
def lX12_close_40 : List ra_I := [(40, .iconst (-1), 1, 0, 0, 0, (-1), 0, []),
  (41, .ireturn, 1, 0, 0, 0, 0, 0, [])]
set_option maxRecDepth 100000 in
theorem lX12_close_40_ck : lX12_close_40.all (ra_ck mX12_close 12) = true := by decide +kernel
def nX12_close_40 (N : Nat) (h : ra_H) : Option (Int32 × ra_H) :=
  some ((-1 : Int32), h)
def kX12_close_40 (N : Nat) : Nat → List (Option Value) → List Value → ra_H → Option (Int32 × ra_H) := ra_k0
theorem kX12_close_40_ok (N : Nat) : ra_kok 8 mX12_close ra_oI (kX12_close_40 N) := ra_k0_ok
set_option maxRecDepth 100000 in
theorem nX12_close_40_ok (N : Nat) (h : ra_H) (r : (Int32 × ra_H)) (e : nX12_close_40 N h = some r) : ra_Ru 8 mX12_close 40 [none, none, none, none, none, none] [] h (ra_oI r) :=
  ra_sound (by omega) rfl ra_rI_ok (kX12_close_40_ok N) (fun m av h h1 e => (ra_c0_ok (ro := ra_oV)) m av h h1 e) (fun m av h x h1 e => (tIX12_close_ok N) m av h (x, h1) e) (fun m av h x h1 e => (ra_c0_ok (ro := ra_oJ)) m av h (x, h1) e) (fun m av h x h1 e => (ra_c0_ok (ro := ra_oR)) m av h (x, h1) e) (fun m av h x h1 e => (ra_c0_ok (ro := ra_oN)) m av h (x, h1) e) (fun m av h x h1 e => (ra_c0_ok (ro := ra_oF)) m av h (x, h1) e) 3 lX12_close_40 _ _ _ _ lX12_close_40_ck (show ra_run ra_rI (kX12_close_40 N) ra_c0 (tIX12_close N) ra_c0 ra_c0 ra_c0 ra_c0 3 lX12_close_40 [none, none, none, none, none, none] [] h = some r from e) _ _ rfl
def lX12_close_82 : List ra_I := [(82, .iadd, 1, 0, 0, 0, 0, 0, []),
  (83, .istore 4, 2, 4, 0, 0, 0, 0, []),
  (85, .iinc 5 (1), 3, 5, 0, 0, (1), 0, []),
  (88, .goto (-40), 3, 48, 0, 0, 0, 0, [])]
set_option maxRecDepth 100000 in
theorem lX12_close_82_ck : lX12_close_82.all (ra_ck mX12_close 12) = true := by decide +kernel
def nX12_close_82 (N : Nat) (c48 : Nat → Int32 → Int32 → Int32 → Int32 → Int32 → ra_H → Option (Int32 × ra_H)) (a0 : Nat) (a1 : Int32) (a2 : Int32) (a3 : Int32) (a5 : Int32) (b0 : Int32) (b1 : Int32) (h : ra_H) : Option (Int32 × ra_H) :=
  let y1 := b0 + b1
  let y2 := a5 + (1 : Int32)
  c48 a0 a1 a2 a3 y1 y2 h
def kX12_close_82 (N : Nat) (c48 : Nat → Int32 → Int32 → Int32 → Int32 → Int32 → ra_H → Option (Int32 × ra_H)) : Nat → List (Option Value) → List Value → ra_H → Option (Int32 × ra_H) := (ra_k1 48 (fun L S h => match L, S with
  | [some (.ref a0), some (.int a1), some (.int a2), some (.int a3), some (.int a4), some (.int a5)], [] => c48 a0 a1 a2 a3 a4 a5 h
  | _, _ => none) ra_k0)
theorem kX12_close_82_ok (N : Nat) (c48 : Nat → Int32 → Int32 → Int32 → Int32 → Int32 → ra_H → Option (Int32 × ra_H)) (hc48 : ∀ a0 a1 a2 a3 a4 a5 h r, c48 a0 a1 a2 a3 a4 a5 h = some r → ra_Ru 8 mX12_close 48 [some (.ref a0), some (.int a1), some (.int a2), some (.int a3), some (.int a4), some (.int a5)] [] h (ra_oI r)) : ra_kok 8 mX12_close ra_oI (kX12_close_82 N c48) := (ra_k1_ok (by
  intro L S h a e
  split at e
  · exact ra_Ru.weak (hc48 _ _ _ _ _ _ _ _ e) ⟨rfl, ⟨rfl, ⟨rfl, ⟨rfl, ⟨rfl, ⟨rfl, trivial⟩⟩⟩⟩⟩⟩
  · cases e) ra_k0_ok)
set_option maxRecDepth 100000 in
theorem nX12_close_82_ok (N : Nat) (c48 : Nat → Int32 → Int32 → Int32 → Int32 → Int32 → ra_H → Option (Int32 × ra_H)) (hc48 : ∀ a0 a1 a2 a3 a4 a5 h r, c48 a0 a1 a2 a3 a4 a5 h = some r → ra_Ru 8 mX12_close 48 [some (.ref a0), some (.int a1), some (.int a2), some (.int a3), some (.int a4), some (.int a5)] [] h (ra_oI r)) (a0 : Nat) (a1 : Int32) (a2 : Int32) (a3 : Int32) (a5 : Int32) (b0 : Int32) (b1 : Int32) (h : ra_H) (r : (Int32 × ra_H)) (e : nX12_close_82 N c48 a0 a1 a2 a3 a5 b0 b1 h = some r) : ra_Ru 8 mX12_close 82 [some (.ref a0), some (.int a1), some (.int a2), some (.int a3), none, some (.int a5)] [.int b1, .int b0] h (ra_oI r) :=
  ra_sound (by omega) rfl ra_rI_ok (kX12_close_82_ok N c48 hc48) (fun m av h h1 e => (ra_c0_ok (ro := ra_oV)) m av h h1 e) (fun m av h x h1 e => (tIX12_close_ok N) m av h (x, h1) e) (fun m av h x h1 e => (ra_c0_ok (ro := ra_oJ)) m av h (x, h1) e) (fun m av h x h1 e => (ra_c0_ok (ro := ra_oR)) m av h (x, h1) e) (fun m av h x h1 e => (ra_c0_ok (ro := ra_oN)) m av h (x, h1) e) (fun m av h x h1 e => (ra_c0_ok (ro := ra_oF)) m av h (x, h1) e) 5 lX12_close_82 _ _ _ _ lX12_close_82_ck (show ra_run ra_rI (kX12_close_82 N c48) ra_c0 (tIX12_close N) ra_c0 ra_c0 ra_c0 ra_c0 5 lX12_close_82 [some (.ref a0), some (.int a1), some (.int a2), some (.int a3), none, some (.int a5)] [.int b1, .int b0] h = some r from e) _ _ rfl
def lX12_close_72 : List ra_I := [(72, .aload_n 0, 1, 0, 0, 0, 0, 0, []),
  (73, .iload 5, 2, 5, 0, 0, 0, 0, []),
  (75, .invokevirtual 437, 3, 277, 2, 1, 0, 0, []),
  (78, .goto (4), 3, 82, 0, 0, 0, 0, [])]
set_option maxRecDepth 100000 in
theorem lX12_close_72_ck : lX12_close_72.all (ra_ck mX12_close 12) = true := by decide +kernel
def nX12_close_72 (N : Nat) (c48 : Nat → Int32 → Int32 → Int32 → Int32 → Int32 → ra_H → Option (Int32 × ra_H)) (a0 : Nat) (a1 : Int32) (a2 : Int32) (a3 : Int32) (a5 : Int32) (b0 : Int32) (h : ra_H) : Option (Int32 × ra_H) :=
  (fX12_closeOn N a0 a5 h).bind fun q1 =>
  nX12_close_82 N c48 a0 a1 a2 a3 a5 b0 q1.1 q1.2
def kX12_close_72 (N : Nat) (c48 : Nat → Int32 → Int32 → Int32 → Int32 → Int32 → ra_H → Option (Int32 × ra_H)) : Nat → List (Option Value) → List Value → ra_H → Option (Int32 × ra_H) := (ra_k1 82 (fun L S h => match L, S with
  | [some (.ref a0), some (.int a1), some (.int a2), some (.int a3), _, some (.int a5)], [.int b1, .int b0] => nX12_close_82 N c48 a0 a1 a2 a3 a5 b0 b1 h
  | _, _ => none) ra_k0)
theorem kX12_close_72_ok (N : Nat) (c48 : Nat → Int32 → Int32 → Int32 → Int32 → Int32 → ra_H → Option (Int32 × ra_H)) (hc48 : ∀ a0 a1 a2 a3 a4 a5 h r, c48 a0 a1 a2 a3 a4 a5 h = some r → ra_Ru 8 mX12_close 48 [some (.ref a0), some (.int a1), some (.int a2), some (.int a3), some (.int a4), some (.int a5)] [] h (ra_oI r)) : ra_kok 8 mX12_close ra_oI (kX12_close_72 N c48) := (ra_k1_ok (by
  intro L S h a e
  split at e
  · exact ra_Ru.weak (nX12_close_82_ok N c48 hc48 _ _ _ _ _ _ _ _ _ e) ⟨rfl, ⟨rfl, ⟨rfl, ⟨rfl, ⟨rfl, trivial⟩⟩⟩⟩⟩
  · cases e) ra_k0_ok)
set_option maxRecDepth 100000 in
theorem nX12_close_72_ok (N : Nat) (c48 : Nat → Int32 → Int32 → Int32 → Int32 → Int32 → ra_H → Option (Int32 × ra_H)) (hc48 : ∀ a0 a1 a2 a3 a4 a5 h r, c48 a0 a1 a2 a3 a4 a5 h = some r → ra_Ru 8 mX12_close 48 [some (.ref a0), some (.int a1), some (.int a2), some (.int a3), some (.int a4), some (.int a5)] [] h (ra_oI r)) (a0 : Nat) (a1 : Int32) (a2 : Int32) (a3 : Int32) (a5 : Int32) (b0 : Int32) (h : ra_H) (r : (Int32 × ra_H)) (e : nX12_close_72 N c48 a0 a1 a2 a3 a5 b0 h = some r) : ra_Ru 8 mX12_close 72 [some (.ref a0), some (.int a1), some (.int a2), some (.int a3), none, some (.int a5)] [.int b0] h (ra_oI r) :=
  ra_sound (by omega) rfl ra_rI_ok (kX12_close_72_ok N c48 hc48) (fun m av h h1 e => (ra_c0_ok (ro := ra_oV)) m av h h1 e) (fun m av h x h1 e => (tIX12_close_ok N) m av h (x, h1) e) (fun m av h x h1 e => (ra_c0_ok (ro := ra_oJ)) m av h (x, h1) e) (fun m av h x h1 e => (ra_c0_ok (ro := ra_oR)) m av h (x, h1) e) (fun m av h x h1 e => (ra_c0_ok (ro := ra_oN)) m av h (x, h1) e) (fun m av h x h1 e => (ra_c0_ok (ro := ra_oF)) m av h (x, h1) e) 5 lX12_close_72 _ _ _ _ lX12_close_72_ck (show ra_run ra_rI (kX12_close_72 N c48) ra_c0 (tIX12_close N) ra_c0 ra_c0 ra_c0 ra_c0 5 lX12_close_72 [some (.ref a0), some (.int a1), some (.int a2), some (.int a3), none, some (.int a5)] [.int b0] h = some r from e) _ _ rfl
def lX12_close_48 : List ra_I := [(48, .iload 5, 2, 5, 0, 0, 0, 0, []),
  (50, .bipush (54), 2, 0, 0, 0, (54), 0, []),
  (52, .if_icmp .ge (39), 3, 91, 0, 0, 0, 0, []),
  (55, .iload 4, 2, 4, 0, 0, 0, 0, []),
  (57, .iload_n 3, 1, 3, 0, 0, 0, 0, []),
  (58, .ifCond .ne (14), 3, 72, 0, 0, 0, 0, []),
  (61, .iload 5, 2, 5, 0, 0, 0, 0, []),
  (63, .bipush (6), 2, 0, 0, 0, (6), 0, []),
  (65, .iload_n 1, 1, 1, 0, 0, 0, 0, []),
  (66, .imul, 1, 0, 0, 0, 0, 0, []),
  (67, .iload_n 2, 1, 2, 0, 0, 0, 0, []),
  (68, .iadd, 1, 0, 0, 0, 0, 0, []),
  (69, .if_icmp .ne (12), 3, 81, 0, 0, 0, 0, []),
  (81, .iconst (0), 1, 0, 0, 0, (0), 0, []),
  (91, .iload 4, 2, 4, 0, 0, 0, 0, []),
  (93, .ireturn, 1, 0, 0, 0, 0, 0, [])]
set_option maxRecDepth 100000 in
theorem lX12_close_48_ck : lX12_close_48.all (ra_ck mX12_close 12) = true := by decide +kernel
def nX12_close_48 (N : Nat) : Nat → Nat → Int32 → Int32 → Int32 → Int32 → Int32 → ra_H → Option (Int32 × ra_H)
  | 0, _, _, _, _, _, _, _ => none
  | n + 1, a0, a1, a2, a3, a4, a5, h =>
  if a5 < ((54 : Int32)) then
    if a3 = 0 then
      if a5 = ((((6 : Int32)) * a1) + a2) then
        nX12_close_72 N (nX12_close_48 N n) a0 a1 a2 a3 a5 a4 h
      else
        nX12_close_82 N (nX12_close_48 N n) a0 a1 a2 a3 a5 a4 ((0 : Int32)) h
    else
      nX12_close_72 N (nX12_close_48 N n) a0 a1 a2 a3 a5 a4 h
  else
    some (a4, h)
def kX12_close_48 (N : Nat) (cs : Nat → Int32 → Int32 → Int32 → Int32 → Int32 → ra_H → Option (Int32 × ra_H)) : Nat → List (Option Value) → List Value → ra_H → Option (Int32 × ra_H) := (ra_k1 72 (fun L S h => match L, S with
  | [some (.ref a0), some (.int a1), some (.int a2), some (.int a3), _, some (.int a5)], [.int b0] => nX12_close_72 N cs a0 a1 a2 a3 a5 b0 h
  | _, _ => none) (ra_k1 82 (fun L S h => match L, S with
  | [some (.ref a0), some (.int a1), some (.int a2), some (.int a3), _, some (.int a5)], [.int b1, .int b0] => nX12_close_82 N cs a0 a1 a2 a3 a5 b0 b1 h
  | _, _ => none) ra_k0))
theorem kX12_close_48_ok (N : Nat) (cs : Nat → Int32 → Int32 → Int32 → Int32 → Int32 → ra_H → Option (Int32 × ra_H)) (hcs : ∀ a0 a1 a2 a3 a4 a5 h r, cs a0 a1 a2 a3 a4 a5 h = some r → ra_Ru 8 mX12_close 48 [some (.ref a0), some (.int a1), some (.int a2), some (.int a3), some (.int a4), some (.int a5)] [] h (ra_oI r)) : ra_kok 8 mX12_close ra_oI (kX12_close_48 N cs) := (ra_k1_ok (by
  intro L S h a e
  split at e
  · exact ra_Ru.weak (nX12_close_72_ok N cs hcs _ _ _ _ _ _ _ _ e) ⟨rfl, ⟨rfl, ⟨rfl, ⟨rfl, ⟨rfl, trivial⟩⟩⟩⟩⟩
  · cases e) (ra_k1_ok (by
  intro L S h a e
  split at e
  · exact ra_Ru.weak (nX12_close_82_ok N cs hcs _ _ _ _ _ _ _ _ _ e) ⟨rfl, ⟨rfl, ⟨rfl, ⟨rfl, ⟨rfl, trivial⟩⟩⟩⟩⟩
  · cases e) ra_k0_ok))
set_option maxRecDepth 100000 in
theorem nX12_close_48_ok (N : Nat) : ∀ n a0 a1 a2 a3 a4 a5 h r, nX12_close_48 N n a0 a1 a2 a3 a4 a5 h = some r → ra_Ru 8 mX12_close 48 [some (.ref a0), some (.int a1), some (.int a2), some (.int a3), some (.int a4), some (.int a5)] [] h (ra_oI r) := by
  intro n
  induction n with
  | zero => intro a0 a1 a2 a3 a4 a5 h r e; cases e
  | succ n ih =>
    intro a0 a1 a2 a3 a4 a5 h r e
    exact ra_sound (by omega) rfl ra_rI_ok (kX12_close_48_ok N (nX12_close_48 N n) ih) (fun m av h h1 e => (ra_c0_ok (ro := ra_oV)) m av h h1 e) (fun m av h x h1 e => (tIX12_close_ok N) m av h (x, h1) e) (fun m av h x h1 e => (ra_c0_ok (ro := ra_oJ)) m av h (x, h1) e) (fun m av h x h1 e => (ra_c0_ok (ro := ra_oR)) m av h (x, h1) e) (fun m av h x h1 e => (ra_c0_ok (ro := ra_oN)) m av h (x, h1) e) (fun m av h x h1 e => (ra_c0_ok (ro := ra_oF)) m av h (x, h1) e) 17 lX12_close_48 _ _ _ _ lX12_close_48_ck (show ra_run ra_rI (kX12_close_48 N (nX12_close_48 N n)) ra_c0 (tIX12_close N) ra_c0 ra_c0 ra_c0 ra_c0 17 lX12_close_48 [some (.ref a0), some (.int a1), some (.int a2), some (.int a3), some (.int a4), some (.int a5)] [] h = some r from e) _ _ rfl
def lX12_close_33 : List ra_I := [(33, .aload_n 0, 1, 0, 0, 0, 0, 0, []),
  (34, .invokevirtual 425, 3, 269, 1, 1, 0, 0, []),
  (37, .ifCond .ne (5), 3, 42, 0, 0, 0, 0, []),
  (42, .iconst (0), 1, 0, 0, 0, (0), 0, []),
  (43, .istore 4, 2, 4, 0, 0, 0, 0, []),
  (45, .iconst (0), 1, 0, 0, 0, (0), 0, []),
  (46, .istore 5, 2, 5, 0, 0, 0, 0, [])]
set_option maxRecDepth 100000 in
theorem lX12_close_33_ck : lX12_close_33.all (ra_ck mX12_close 12) = true := by decide +kernel
def nX12_close_33 (N : Nat) (a0 : Nat) (a1 : Int32) (a2 : Int32) (a3 : Int32) (h : ra_H) : Option (Int32 × ra_H) :=
  (fX12_lookKept N a0 h).bind fun q1 =>
  if q1.1 = 0 then
    nX12_close_40 N q1.2
  else
    nX12_close_48 N N a0 a1 a2 a3 ((0 : Int32)) ((0 : Int32)) q1.2
def kX12_close_33 (N : Nat) : Nat → List (Option Value) → List Value → ra_H → Option (Int32 × ra_H) := (ra_k1 40 (fun L S h => match L, S with
  | [_, _, _, _, _, _], [] => nX12_close_40 N h
  | _, _ => none) (ra_k1 48 (fun L S h => match L, S with
  | [some (.ref a0), some (.int a1), some (.int a2), some (.int a3), some (.int a4), some (.int a5)], [] => nX12_close_48 N N a0 a1 a2 a3 a4 a5 h
  | _, _ => none) ra_k0))
theorem kX12_close_33_ok (N : Nat) : ra_kok 8 mX12_close ra_oI (kX12_close_33 N) := (ra_k1_ok (by
  intro L S h a e
  split at e
  · exact ra_Ru.weak (nX12_close_40_ok N _ _ e) trivial
  · cases e) (ra_k1_ok (by
  intro L S h a e
  split at e
  · exact ra_Ru.weak (nX12_close_48_ok N N _ _ _ _ _ _ _ _ e) ⟨rfl, ⟨rfl, ⟨rfl, ⟨rfl, ⟨rfl, ⟨rfl, trivial⟩⟩⟩⟩⟩⟩
  · cases e) ra_k0_ok))
set_option maxRecDepth 100000 in
theorem nX12_close_33_ok (N : Nat) (a0 : Nat) (a1 : Int32) (a2 : Int32) (a3 : Int32) (h : ra_H) (r : (Int32 × ra_H)) (e : nX12_close_33 N a0 a1 a2 a3 h = some r) : ra_Ru 8 mX12_close 33 [some (.ref a0), some (.int a1), some (.int a2), some (.int a3), none, none] [] h (ra_oI r) :=
  ra_sound (by omega) rfl ra_rI_ok (kX12_close_33_ok N) (fun m av h h1 e => (ra_c0_ok (ro := ra_oV)) m av h h1 e) (fun m av h x h1 e => (tIX12_close_ok N) m av h (x, h1) e) (fun m av h x h1 e => (ra_c0_ok (ro := ra_oJ)) m av h (x, h1) e) (fun m av h x h1 e => (ra_c0_ok (ro := ra_oR)) m av h (x, h1) e) (fun m av h x h1 e => (ra_c0_ok (ro := ra_oN)) m av h (x, h1) e) (fun m av h x h1 e => (ra_c0_ok (ro := ra_oF)) m av h (x, h1) e) 8 lX12_close_33 _ _ _ _ lX12_close_33_ck (show ra_run ra_rI (kX12_close_33 N) ra_c0 (tIX12_close N) ra_c0 ra_c0 ra_c0 ra_c0 8 lX12_close_33 [some (.ref a0), some (.int a1), some (.int a2), some (.int a3), none, none] [] h = some r from e) _ _ rfl
def lX12_close_20 : List ra_I := [(20, .istore_n 3, 1, 3, 0, 0, 0, 0, []),
  (21, .iload_n 3, 1, 3, 0, 0, 0, 0, []),
  (22, .ifCond .ne (11), 3, 33, 0, 0, 0, 0, []),
  (25, .iload_n 1, 1, 1, 0, 0, 0, 0, []),
  (26, .iload_n 2, 1, 2, 0, 0, 0, 0, []),
  (27, .invokestatic 205, 3, 224, 2, 1, 0, 0, []),
  (30, .ifCond .eq (10), 3, 40, 0, 0, 0, 0, [])]
set_option maxRecDepth 100000 in
theorem lX12_close_20_ck : lX12_close_20.all (ra_ck mX12_close 12) = true := by decide +kernel
def nX12_close_20 (N : Nat) (a0 : Nat) (a1 : Int32) (a2 : Int32) (b0 : Int32) (h : ra_H) : Option (Int32 × ra_H) :=
  if b0 = 0 then
    (fX12_isShelf N a1 a2 h).bind fun q1 =>
    if q1.1 = 0 then
      nX12_close_40 N q1.2
    else
      nX12_close_33 N a0 a1 a2 b0 q1.2
  else
    nX12_close_33 N a0 a1 a2 b0 h
def kX12_close_20 (N : Nat) : Nat → List (Option Value) → List Value → ra_H → Option (Int32 × ra_H) := (ra_k1 33 (fun L S h => match L, S with
  | [some (.ref a0), some (.int a1), some (.int a2), some (.int a3), _, _], [] => nX12_close_33 N a0 a1 a2 a3 h
  | _, _ => none) (ra_k1 40 (fun L S h => match L, S with
  | [_, _, _, _, _, _], [] => nX12_close_40 N h
  | _, _ => none) ra_k0))
theorem kX12_close_20_ok (N : Nat) : ra_kok 8 mX12_close ra_oI (kX12_close_20 N) := (ra_k1_ok (by
  intro L S h a e
  split at e
  · exact ra_Ru.weak (nX12_close_33_ok N _ _ _ _ _ _ e) ⟨rfl, ⟨rfl, ⟨rfl, ⟨rfl, trivial⟩⟩⟩⟩
  · cases e) (ra_k1_ok (by
  intro L S h a e
  split at e
  · exact ra_Ru.weak (nX12_close_40_ok N _ _ e) trivial
  · cases e) ra_k0_ok))
set_option maxRecDepth 100000 in
theorem nX12_close_20_ok (N : Nat) (a0 : Nat) (a1 : Int32) (a2 : Int32) (b0 : Int32) (h : ra_H) (r : (Int32 × ra_H)) (e : nX12_close_20 N a0 a1 a2 b0 h = some r) : ra_Ru 8 mX12_close 20 [some (.ref a0), some (.int a1), some (.int a2), none, none, none] [.int b0] h (ra_oI r) :=
  ra_sound (by omega) rfl ra_rI_ok (kX12_close_20_ok N) (fun m av h h1 e => (ra_c0_ok (ro := ra_oV)) m av h h1 e) (fun m av h x h1 e => (tIX12_close_ok N) m av h (x, h1) e) (fun m av h x h1 e => (ra_c0_ok (ro := ra_oJ)) m av h (x, h1) e) (fun m av h x h1 e => (ra_c0_ok (ro := ra_oR)) m av h (x, h1) e) (fun m av h x h1 e => (ra_c0_ok (ro := ra_oN)) m av h (x, h1) e) (fun m av h x h1 e => (ra_c0_ok (ro := ra_oF)) m av h (x, h1) e) 8 lX12_close_20 _ _ _ _ lX12_close_20_ck (show ra_run ra_rI (kX12_close_20 N) ra_c0 (tIX12_close N) ra_c0 ra_c0 ra_c0 ra_c0 8 lX12_close_20 [some (.ref a0), some (.int a1), some (.int a2), none, none, none] [.int b0] h = some r from e) _ _ rfl
def lX12_close_19 : List ra_I := [(19, .iconst (0), 1, 0, 0, 0, (0), 0, [])]
set_option maxRecDepth 100000 in
theorem lX12_close_19_ck : lX12_close_19.all (ra_ck mX12_close 12) = true := by decide +kernel
def nX12_close_19 (N : Nat) (a0 : Nat) (a1 : Int32) (a2 : Int32) (h : ra_H) : Option (Int32 × ra_H) :=
  nX12_close_20 N a0 a1 a2 ((0 : Int32)) h
def kX12_close_19 (N : Nat) : Nat → List (Option Value) → List Value → ra_H → Option (Int32 × ra_H) := (ra_k1 20 (fun L S h => match L, S with
  | [some (.ref a0), some (.int a1), some (.int a2), _, _, _], [.int b0] => nX12_close_20 N a0 a1 a2 b0 h
  | _, _ => none) ra_k0)
theorem kX12_close_19_ok (N : Nat) : ra_kok 8 mX12_close ra_oI (kX12_close_19 N) := (ra_k1_ok (by
  intro L S h a e
  split at e
  · exact ra_Ru.weak (nX12_close_20_ok N _ _ _ _ _ _ e) ⟨rfl, ⟨rfl, ⟨rfl, trivial⟩⟩⟩
  · cases e) ra_k0_ok)
set_option maxRecDepth 100000 in
theorem nX12_close_19_ok (N : Nat) (a0 : Nat) (a1 : Int32) (a2 : Int32) (h : ra_H) (r : (Int32 × ra_H)) (e : nX12_close_19 N a0 a1 a2 h = some r) : ra_Ru 8 mX12_close 19 [some (.ref a0), some (.int a1), some (.int a2), none, none, none] [] h (ra_oI r) :=
  ra_sound (by omega) rfl ra_rI_ok (kX12_close_19_ok N) (fun m av h h1 e => (ra_c0_ok (ro := ra_oV)) m av h h1 e) (fun m av h x h1 e => (tIX12_close_ok N) m av h (x, h1) e) (fun m av h x h1 e => (ra_c0_ok (ro := ra_oJ)) m av h (x, h1) e) (fun m av h x h1 e => (ra_c0_ok (ro := ra_oR)) m av h (x, h1) e) (fun m av h x h1 e => (ra_c0_ok (ro := ra_oN)) m av h (x, h1) e) (fun m av h x h1 e => (ra_c0_ok (ro := ra_oF)) m av h (x, h1) e) 2 lX12_close_19 _ _ _ _ lX12_close_19_ck (show ra_run ra_rI (kX12_close_19 N) ra_c0 (tIX12_close N) ra_c0 ra_c0 ra_c0 ra_c0 2 lX12_close_19 [some (.ref a0), some (.int a1), some (.int a2), none, none, none] [] h = some r from e) _ _ rfl
def lX12_close_0 : List ra_I := [(0, .aload_n 0, 1, 0, 0, 0, 0, 0, []),
  (1, .iconst (0), 1, 0, 0, 0, (0), 0, []),
  (2, .putfield 147, 3, 12, 0, 0, 0, 0, []),
  (5, .iload_n 1, 1, 1, 0, 0, 0, 0, []),
  (6, .iconst (-1), 1, 0, 0, 0, (-1), 0, []),
  (7, .if_icmp .ne (12), 3, 19, 0, 0, 0, 0, []),
  (10, .iload_n 2, 1, 2, 0, 0, 0, 0, []),
  (11, .iconst (-1), 1, 0, 0, 0, (-1), 0, []),
  (12, .if_icmp .ne (7), 3, 19, 0, 0, 0, 0, []),
  (15, .iconst (1), 1, 0, 0, 0, (1), 0, []),
  (16, .goto (4), 3, 20, 0, 0, 0, 0, [])]
set_option maxRecDepth 100000 in
theorem lX12_close_0_ck : lX12_close_0.all (ra_ck mX12_close 12) = true := by decide +kernel
def nX12_close_0 (N : Nat) (a0 : Nat) (a1 : Int32) (a2 : Int32) (h : ra_H) : Option (Int32 × ra_H) :=
  (ra_fW h 12 a0 0 (.int ((0 : Int32)))).bind fun h1 =>
  if a1 = ((-1 : Int32)) then
    if a2 = ((-1 : Int32)) then
      nX12_close_20 N a0 a1 a2 ((1 : Int32)) h1
    else
      nX12_close_19 N a0 a1 a2 h1
  else
    nX12_close_19 N a0 a1 a2 h1
def kX12_close_0 (N : Nat) : Nat → List (Option Value) → List Value → ra_H → Option (Int32 × ra_H) := (ra_k1 19 (fun L S h => match L, S with
  | [some (.ref a0), some (.int a1), some (.int a2), _, _, _], [] => nX12_close_19 N a0 a1 a2 h
  | _, _ => none) (ra_k1 20 (fun L S h => match L, S with
  | [some (.ref a0), some (.int a1), some (.int a2), _, _, _], [.int b0] => nX12_close_20 N a0 a1 a2 b0 h
  | _, _ => none) ra_k0))
theorem kX12_close_0_ok (N : Nat) : ra_kok 8 mX12_close ra_oI (kX12_close_0 N) := (ra_k1_ok (by
  intro L S h a e
  split at e
  · exact ra_Ru.weak (nX12_close_19_ok N _ _ _ _ _ e) ⟨rfl, ⟨rfl, ⟨rfl, trivial⟩⟩⟩
  · cases e) (ra_k1_ok (by
  intro L S h a e
  split at e
  · exact ra_Ru.weak (nX12_close_20_ok N _ _ _ _ _ _ e) ⟨rfl, ⟨rfl, ⟨rfl, trivial⟩⟩⟩
  · cases e) ra_k0_ok))
set_option maxRecDepth 100000 in
theorem nX12_close_0_ok (N : Nat) (a0 : Nat) (a1 : Int32) (a2 : Int32) (h : ra_H) (r : (Int32 × ra_H)) (e : nX12_close_0 N a0 a1 a2 h = some r) : ra_Ru 8 mX12_close 0 [some (.ref a0), some (.int a1), some (.int a2), none, none, none] [] h (ra_oI r) :=
  ra_sound (by omega) rfl ra_rI_ok (kX12_close_0_ok N) (fun m av h h1 e => (ra_c0_ok (ro := ra_oV)) m av h h1 e) (fun m av h x h1 e => (tIX12_close_ok N) m av h (x, h1) e) (fun m av h x h1 e => (ra_c0_ok (ro := ra_oJ)) m av h (x, h1) e) (fun m av h x h1 e => (ra_c0_ok (ro := ra_oR)) m av h (x, h1) e) (fun m av h x h1 e => (ra_c0_ok (ro := ra_oN)) m av h (x, h1) e) (fun m av h x h1 e => (ra_c0_ok (ro := ra_oF)) m av h (x, h1) e) 12 lX12_close_0 _ _ _ _ lX12_close_0_ck (show ra_run ra_rI (kX12_close_0 N) ra_c0 (tIX12_close N) ra_c0 ra_c0 ra_c0 ra_c0 12 lX12_close_0 [some (.ref a0), some (.int a1), some (.int a2), none, none, none] [] h = some r from e) _ _ rfl
def fX12_close (N : Nat) (p0 : Nat) (p1 : Int32) (p2 : Int32) (h : ra_H) : Option (Int32 × ra_H) := match ra_isOb h p0 12 with
  | true => nX12_close_0 N p0 p1 p2 h
  | false => none
set_option maxRecDepth 100000 in
theorem mtX12_close : ra_MT[276]? = some (mX12_close, 1, 2, (1, 13), (8, 142), (8, 143)) := rfl
theorem fX12_close_co (N : Nat) (p0 : Nat) (p1 : Int32) (p2 : Int32) (h : ra_H) (r : (Int32 × ra_H)) (e : fX12_close N p0 p1 p2 h = some r) (D : Nat) (hD : 9 ≤ D) : ra_CO D 276 [.ref p0, .int p1, .int p2] h (ra_oI r).1 (ra_oI r).2 := by
  have hw : ra_nw2 [.ref p0, .int p1, .int p2] ≤ 6 := Nat.le_of_ble_eq_true rfl
  have hdb : ∀ v ∈ ([.ref p0, .int p1, .int p2] : List Value), ∀ x, v ≠ .double x := by
    intro v hv x hx
    simp [hx] at hv
  unfold fX12_close at e
  split at e
  · rename_i ho
    have e1 := e
    exact ⟨8, _, mtX12_close, hD, ra_ev_of (by decide) hdb hw trivial (ra_Ru.weak (nX12_close_0_ok N p0 p1 p2 h _ e1) ⟨rfl, ⟨rfl, ⟨rfl, trivial⟩⟩⟩), (fun _ => ⟨_, _, rfl, ra_rcv_of ho (by decide) rfl⟩), (fun h => absurd h (by decide))⟩
  · cases e
/-! RedMarksModel.freeOf(I)I -/
def mX12_freeOf : ra_M := (yX12_freeOf, cX12_freeOf, 4, (some .int))
def lX12_freeOf_66 : List ra_I := [(66, .isub, 1, 0, 0, 0, 0, 0, []),
  (67, .istore_n 2, 1, 2, 0, 0, 0, 0, []),
  (68, .iinc 3 (1), 3, 3, 0, 0, (1), 0, []),
  (71, .goto (-56), 3, 15, 0, 0, 0, 0, [])]
set_option maxRecDepth 100000 in
theorem lX12_freeOf_66_ck : lX12_freeOf_66.all (ra_ck mX12_freeOf 12) = true := by decide +kernel
def nX12_freeOf_66 (N : Nat) (c15 : Nat → Int32 → Int32 → Int32 → ra_H → Option (Int32 × ra_H)) (a0 : Nat) (a1 : Int32) (a3 : Int32) (b0 : Int32) (b1 : Int32) (h : ra_H) : Option (Int32 × ra_H) :=
  let y1 := b0 - b1
  let y2 := a3 + (1 : Int32)
  c15 a0 a1 y1 y2 h
def kX12_freeOf_66 (N : Nat) (c15 : Nat → Int32 → Int32 → Int32 → ra_H → Option (Int32 × ra_H)) : Nat → List (Option Value) → List Value → ra_H → Option (Int32 × ra_H) := (ra_k1 15 (fun L S h => match L, S with
  | [some (.ref a0), some (.int a1), some (.int a2), some (.int a3)], [] => c15 a0 a1 a2 a3 h
  | _, _ => none) ra_k0)
theorem kX12_freeOf_66_ok (N : Nat) (c15 : Nat → Int32 → Int32 → Int32 → ra_H → Option (Int32 × ra_H)) (hc15 : ∀ a0 a1 a2 a3 h r, c15 a0 a1 a2 a3 h = some r → ra_Ru 1 mX12_freeOf 15 [some (.ref a0), some (.int a1), some (.int a2), some (.int a3)] [] h (ra_oI r)) : ra_kok 1 mX12_freeOf ra_oI (kX12_freeOf_66 N c15) := (ra_k1_ok (by
  intro L S h a e
  split at e
  · exact ra_Ru.weak (hc15 _ _ _ _ _ _ e) ⟨rfl, ⟨rfl, ⟨rfl, ⟨rfl, trivial⟩⟩⟩⟩
  · cases e) ra_k0_ok)
set_option maxRecDepth 100000 in
theorem nX12_freeOf_66_ok (N : Nat) (c15 : Nat → Int32 → Int32 → Int32 → ra_H → Option (Int32 × ra_H)) (hc15 : ∀ a0 a1 a2 a3 h r, c15 a0 a1 a2 a3 h = some r → ra_Ru 1 mX12_freeOf 15 [some (.ref a0), some (.int a1), some (.int a2), some (.int a3)] [] h (ra_oI r)) (a0 : Nat) (a1 : Int32) (a3 : Int32) (b0 : Int32) (b1 : Int32) (h : ra_H) (r : (Int32 × ra_H)) (e : nX12_freeOf_66 N c15 a0 a1 a3 b0 b1 h = some r) : ra_Ru 1 mX12_freeOf 66 [some (.ref a0), some (.int a1), none, some (.int a3)] [.int b1, .int b0] h (ra_oI r) :=
  ra_sound (by omega) rfl ra_rI_ok (kX12_freeOf_66_ok N c15 hc15) (fun m av h h1 e => (ra_c0_ok (ro := ra_oV)) m av h h1 e) (fun m av h x h1 e => (ra_c0_ok (ro := ra_oI)) m av h (x, h1) e) (fun m av h x h1 e => (ra_c0_ok (ro := ra_oJ)) m av h (x, h1) e) (fun m av h x h1 e => (ra_c0_ok (ro := ra_oR)) m av h (x, h1) e) (fun m av h x h1 e => (ra_c0_ok (ro := ra_oN)) m av h (x, h1) e) (fun m av h x h1 e => (ra_c0_ok (ro := ra_oF)) m av h (x, h1) e) 5 lX12_freeOf_66 _ _ _ _ lX12_freeOf_66_ck (show ra_run ra_rI (kX12_freeOf_66 N c15) ra_c0 ra_c0 ra_c0 ra_c0 ra_c0 ra_c0 5 lX12_freeOf_66 [some (.ref a0), some (.int a1), none, some (.int a3)] [.int b1, .int b0] h = some r from e) _ _ rfl
def lX12_freeOf_65 : List ra_I := [(65, .iconst (0), 1, 0, 0, 0, (0), 0, [])]
set_option maxRecDepth 100000 in
theorem lX12_freeOf_65_ck : lX12_freeOf_65.all (ra_ck mX12_freeOf 12) = true := by decide +kernel
def nX12_freeOf_65 (N : Nat) (c15 : Nat → Int32 → Int32 → Int32 → ra_H → Option (Int32 × ra_H)) (a0 : Nat) (a1 : Int32) (a3 : Int32) (b0 : Int32) (h : ra_H) : Option (Int32 × ra_H) :=
  nX12_freeOf_66 N c15 a0 a1 a3 b0 ((0 : Int32)) h
def kX12_freeOf_65 (N : Nat) (c15 : Nat → Int32 → Int32 → Int32 → ra_H → Option (Int32 × ra_H)) : Nat → List (Option Value) → List Value → ra_H → Option (Int32 × ra_H) := (ra_k1 66 (fun L S h => match L, S with
  | [some (.ref a0), some (.int a1), _, some (.int a3)], [.int b1, .int b0] => nX12_freeOf_66 N c15 a0 a1 a3 b0 b1 h
  | _, _ => none) ra_k0)
theorem kX12_freeOf_65_ok (N : Nat) (c15 : Nat → Int32 → Int32 → Int32 → ra_H → Option (Int32 × ra_H)) (hc15 : ∀ a0 a1 a2 a3 h r, c15 a0 a1 a2 a3 h = some r → ra_Ru 1 mX12_freeOf 15 [some (.ref a0), some (.int a1), some (.int a2), some (.int a3)] [] h (ra_oI r)) : ra_kok 1 mX12_freeOf ra_oI (kX12_freeOf_65 N c15) := (ra_k1_ok (by
  intro L S h a e
  split at e
  · exact ra_Ru.weak (nX12_freeOf_66_ok N c15 hc15 _ _ _ _ _ _ _ e) ⟨rfl, ⟨rfl, ⟨rfl, trivial⟩⟩⟩
  · cases e) ra_k0_ok)
set_option maxRecDepth 100000 in
theorem nX12_freeOf_65_ok (N : Nat) (c15 : Nat → Int32 → Int32 → Int32 → ra_H → Option (Int32 × ra_H)) (hc15 : ∀ a0 a1 a2 a3 h r, c15 a0 a1 a2 a3 h = some r → ra_Ru 1 mX12_freeOf 15 [some (.ref a0), some (.int a1), some (.int a2), some (.int a3)] [] h (ra_oI r)) (a0 : Nat) (a1 : Int32) (a3 : Int32) (b0 : Int32) (h : ra_H) (r : (Int32 × ra_H)) (e : nX12_freeOf_65 N c15 a0 a1 a3 b0 h = some r) : ra_Ru 1 mX12_freeOf 65 [some (.ref a0), some (.int a1), none, some (.int a3)] [.int b0] h (ra_oI r) :=
  ra_sound (by omega) rfl ra_rI_ok (kX12_freeOf_65_ok N c15 hc15) (fun m av h h1 e => (ra_c0_ok (ro := ra_oV)) m av h h1 e) (fun m av h x h1 e => (ra_c0_ok (ro := ra_oI)) m av h (x, h1) e) (fun m av h x h1 e => (ra_c0_ok (ro := ra_oJ)) m av h (x, h1) e) (fun m av h x h1 e => (ra_c0_ok (ro := ra_oR)) m av h (x, h1) e) (fun m av h x h1 e => (ra_c0_ok (ro := ra_oN)) m av h (x, h1) e) (fun m av h x h1 e => (ra_c0_ok (ro := ra_oF)) m av h (x, h1) e) 2 lX12_freeOf_65 _ _ _ _ lX12_freeOf_65_ck (show ra_run ra_rI (kX12_freeOf_65 N c15) ra_c0 ra_c0 ra_c0 ra_c0 ra_c0 ra_c0 2 lX12_freeOf_65 [some (.ref a0), some (.int a1), none, some (.int a3)] [.int b0] h = some r from e) _ _ rfl
def lX12_freeOf_15 : List ra_I := [(15, .iload_n 3, 1, 3, 0, 0, 0, 0, []),
  (16, .aload_n 0, 1, 0, 0, 0, 0, 0, []),
  (17, .getfield 13, 3, 12, 3, 2, 0, 0, []),
  (20, .sipush (480), 3, 0, 0, 0, (480), 0, []),
  (23, .iaload, 1, 0, 0, 0, 0, 0, []),
  (24, .if_icmp .ge (50), 3, 74, 0, 0, 0, 0, []),
  (27, .iload_n 2, 1, 2, 0, 0, 0, 0, []),
  (28, .aload_n 0, 1, 0, 0, 0, 0, 0, []),
  (29, .getfield 101, 3, 12, 39, 2, 0, 0, []),
  (32, .iload_n 3, 1, 3, 0, 0, 0, 0, []),
  (33, .iaload, 1, 0, 0, 0, 0, 0, []),
  (34, .iconst (4), 1, 0, 0, 0, (4), 0, []),
  (35, .if_icmp .ne (30), 3, 65, 0, 0, 0, 0, []),
  (38, .aload_n 0, 1, 0, 0, 0, 0, 0, []),
  (39, .getfield 104, 3, 12, 40, 2, 0, 0, []),
  (42, .iload_n 3, 1, 3, 0, 0, 0, 0, []),
  (43, .iaload, 1, 0, 0, 0, 0, 0, []),
  (44, .bipush (100), 2, 0, 0, 0, (100), 0, []),
  (46, .idiv, 1, 0, 0, 0, 0, 0, []),
  (47, .iload_n 1, 1, 1, 0, 0, 0, 0, []),
  (48, .if_icmp .ne (17), 3, 65, 0, 0, 0, 0, []),
  (51, .aload_n 0, 1, 0, 0, 0, 0, 0, []),
  (52, .getfield 13, 3, 12, 3, 2, 0, 0, []),
  (55, .bipush (12), 2, 0, 0, 0, (12), 0, []),
  (57, .iload_n 3, 1, 3, 0, 0, 0, 0, []),
  (58, .imul, 1, 0, 0, 0, 0, 0, []),
  (59, .iconst (3), 1, 0, 0, 0, (3), 0, []),
  (60, .iadd, 1, 0, 0, 0, 0, 0, []),
  (61, .iaload, 1, 0, 0, 0, 0, 0, []),
  (62, .goto (4), 3, 66, 0, 0, 0, 0, []),
  (74, .iload_n 2, 1, 2, 0, 0, 0, 0, []),
  (75, .ireturn, 1, 0, 0, 0, 0, 0, [])]
set_option maxRecDepth 100000 in
theorem lX12_freeOf_15_ck : lX12_freeOf_15.all (ra_ck mX12_freeOf 12) = true := by decide +kernel
def nX12_freeOf_15 (N : Nat) : Nat → Nat → Int32 → Int32 → Int32 → ra_H → Option (Int32 × ra_H)
  | 0, _, _, _, _, _ => none
  | n + 1, a0, a1, a2, a3, h =>
  (ra_fR h 12 a0 3).bind fun x1 =>
  (ra_aI h 0 x1 ((480 : Int32))).bind fun x2 =>
  if a3 < x2 then
    (ra_fR h 12 a0 39).bind fun x3 =>
    (ra_aI h 0 x3 a3).bind fun x4 =>
    if x4 = ((4 : Int32)) then
      (ra_fR h 12 a0 40).bind fun x5 =>
      (ra_aI h 0 x5 a3).bind fun x6 =>
      if ((100 : Int32)) = 0 then none else
      if (x6 / ((100 : Int32))) = a1 then
        (ra_fR h 12 a0 3).bind fun x7 =>
        (ra_aI h 0 x7 ((((12 : Int32)) * a3) + ((3 : Int32)))).bind fun x8 =>
        nX12_freeOf_66 N (nX12_freeOf_15 N n) a0 a1 a3 a2 x8 h
      else
        nX12_freeOf_65 N (nX12_freeOf_15 N n) a0 a1 a3 a2 h
    else
      nX12_freeOf_65 N (nX12_freeOf_15 N n) a0 a1 a3 a2 h
  else
    some (a2, h)
def kX12_freeOf_15 (N : Nat) (cs : Nat → Int32 → Int32 → Int32 → ra_H → Option (Int32 × ra_H)) : Nat → List (Option Value) → List Value → ra_H → Option (Int32 × ra_H) := (ra_k1 65 (fun L S h => match L, S with
  | [some (.ref a0), some (.int a1), _, some (.int a3)], [.int b0] => nX12_freeOf_65 N cs a0 a1 a3 b0 h
  | _, _ => none) (ra_k1 66 (fun L S h => match L, S with
  | [some (.ref a0), some (.int a1), _, some (.int a3)], [.int b1, .int b0] => nX12_freeOf_66 N cs a0 a1 a3 b0 b1 h
  | _, _ => none) ra_k0))
theorem kX12_freeOf_15_ok (N : Nat) (cs : Nat → Int32 → Int32 → Int32 → ra_H → Option (Int32 × ra_H)) (hcs : ∀ a0 a1 a2 a3 h r, cs a0 a1 a2 a3 h = some r → ra_Ru 1 mX12_freeOf 15 [some (.ref a0), some (.int a1), some (.int a2), some (.int a3)] [] h (ra_oI r)) : ra_kok 1 mX12_freeOf ra_oI (kX12_freeOf_15 N cs) := (ra_k1_ok (by
  intro L S h a e
  split at e
  · exact ra_Ru.weak (nX12_freeOf_65_ok N cs hcs _ _ _ _ _ _ e) ⟨rfl, ⟨rfl, ⟨rfl, trivial⟩⟩⟩
  · cases e) (ra_k1_ok (by
  intro L S h a e
  split at e
  · exact ra_Ru.weak (nX12_freeOf_66_ok N cs hcs _ _ _ _ _ _ _ e) ⟨rfl, ⟨rfl, ⟨rfl, trivial⟩⟩⟩
  · cases e) ra_k0_ok))
set_option maxRecDepth 100000 in
theorem nX12_freeOf_15_ok (N : Nat) : ∀ n a0 a1 a2 a3 h r, nX12_freeOf_15 N n a0 a1 a2 a3 h = some r → ra_Ru 1 mX12_freeOf 15 [some (.ref a0), some (.int a1), some (.int a2), some (.int a3)] [] h (ra_oI r) := by
  intro n
  induction n with
  | zero => intro a0 a1 a2 a3 h r e; cases e
  | succ n ih =>
    intro a0 a1 a2 a3 h r e
    exact ra_sound (by omega) rfl ra_rI_ok (kX12_freeOf_15_ok N (nX12_freeOf_15 N n) ih) (fun m av h h1 e => (ra_c0_ok (ro := ra_oV)) m av h h1 e) (fun m av h x h1 e => (ra_c0_ok (ro := ra_oI)) m av h (x, h1) e) (fun m av h x h1 e => (ra_c0_ok (ro := ra_oJ)) m av h (x, h1) e) (fun m av h x h1 e => (ra_c0_ok (ro := ra_oR)) m av h (x, h1) e) (fun m av h x h1 e => (ra_c0_ok (ro := ra_oN)) m av h (x, h1) e) (fun m av h x h1 e => (ra_c0_ok (ro := ra_oF)) m av h (x, h1) e) 33 lX12_freeOf_15 _ _ _ _ lX12_freeOf_15_ck (show ra_run ra_rI (kX12_freeOf_15 N (nX12_freeOf_15 N n)) ra_c0 ra_c0 ra_c0 ra_c0 ra_c0 ra_c0 33 lX12_freeOf_15 [some (.ref a0), some (.int a1), some (.int a2), some (.int a3)] [] h = some r from e) _ _ rfl
def lX12_freeOf_0 : List ra_I := [(0, .aload_n 0, 1, 0, 0, 0, 0, 0, []),
  (1, .getfield 13, 3, 12, 3, 2, 0, 0, []),
  (4, .sipush (500), 3, 0, 0, 0, (500), 0, []),
  (7, .iconst (2), 1, 0, 0, 0, (2), 0, []),
  (8, .iload_n 1, 1, 1, 0, 0, 0, 0, []),
  (9, .imul, 1, 0, 0, 0, 0, 0, []),
  (10, .iadd, 1, 0, 0, 0, 0, 0, []),
  (11, .iaload, 1, 0, 0, 0, 0, 0, []),
  (12, .istore_n 2, 1, 2, 0, 0, 0, 0, []),
  (13, .iconst (0), 1, 0, 0, 0, (0), 0, []),
  (14, .istore_n 3, 1, 3, 0, 0, 0, 0, [])]
set_option maxRecDepth 100000 in
theorem lX12_freeOf_0_ck : lX12_freeOf_0.all (ra_ck mX12_freeOf 12) = true := by decide +kernel
def nX12_freeOf_0 (N : Nat) (a0 : Nat) (a1 : Int32) (h : ra_H) : Option (Int32 × ra_H) :=
  (ra_fR h 12 a0 3).bind fun x1 =>
  (ra_aI h 0 x1 (((500 : Int32)) + (((2 : Int32)) * a1))).bind fun x2 =>
  nX12_freeOf_15 N N a0 a1 x2 ((0 : Int32)) h
def kX12_freeOf_0 (N : Nat) : Nat → List (Option Value) → List Value → ra_H → Option (Int32 × ra_H) := (ra_k1 15 (fun L S h => match L, S with
  | [some (.ref a0), some (.int a1), some (.int a2), some (.int a3)], [] => nX12_freeOf_15 N N a0 a1 a2 a3 h
  | _, _ => none) ra_k0)
theorem kX12_freeOf_0_ok (N : Nat) : ra_kok 1 mX12_freeOf ra_oI (kX12_freeOf_0 N) := (ra_k1_ok (by
  intro L S h a e
  split at e
  · exact ra_Ru.weak (nX12_freeOf_15_ok N N _ _ _ _ _ _ e) ⟨rfl, ⟨rfl, ⟨rfl, ⟨rfl, trivial⟩⟩⟩⟩
  · cases e) ra_k0_ok)
set_option maxRecDepth 100000 in
theorem nX12_freeOf_0_ok (N : Nat) (a0 : Nat) (a1 : Int32) (h : ra_H) (r : (Int32 × ra_H)) (e : nX12_freeOf_0 N a0 a1 h = some r) : ra_Ru 1 mX12_freeOf 0 [some (.ref a0), some (.int a1), none, none] [] h (ra_oI r) :=
  ra_sound (by omega) rfl ra_rI_ok (kX12_freeOf_0_ok N) (fun m av h h1 e => (ra_c0_ok (ro := ra_oV)) m av h h1 e) (fun m av h x h1 e => (ra_c0_ok (ro := ra_oI)) m av h (x, h1) e) (fun m av h x h1 e => (ra_c0_ok (ro := ra_oJ)) m av h (x, h1) e) (fun m av h x h1 e => (ra_c0_ok (ro := ra_oR)) m av h (x, h1) e) (fun m av h x h1 e => (ra_c0_ok (ro := ra_oN)) m av h (x, h1) e) (fun m av h x h1 e => (ra_c0_ok (ro := ra_oF)) m av h (x, h1) e) 12 lX12_freeOf_0 _ _ _ _ lX12_freeOf_0_ck (show ra_run ra_rI (kX12_freeOf_0 N) ra_c0 ra_c0 ra_c0 ra_c0 ra_c0 ra_c0 12 lX12_freeOf_0 [some (.ref a0), some (.int a1), none, none] [] h = some r from e) _ _ rfl
def fX12_freeOf (N : Nat) (p0 : Nat) (p1 : Int32) (h : ra_H) : Option (Int32 × ra_H) := match ra_isOb h p0 12 with
  | true => nX12_freeOf_0 N p0 p1 h
  | false => none
set_option maxRecDepth 100000 in
theorem mtX12_freeOf : ra_MT[273]? = some (mX12_freeOf, 1, 1, (1, 13), (8, 131), (0, 98)) := rfl
theorem fX12_freeOf_co (N : Nat) (p0 : Nat) (p1 : Int32) (h : ra_H) (r : (Int32 × ra_H)) (e : fX12_freeOf N p0 p1 h = some r) (D : Nat) (hD : 2 ≤ D) : ra_CO D 273 [.ref p0, .int p1] h (ra_oI r).1 (ra_oI r).2 := by
  have hw : ra_nw2 [.ref p0, .int p1] ≤ 4 := Nat.le_of_ble_eq_true rfl
  have hdb : ∀ v ∈ ([.ref p0, .int p1] : List Value), ∀ x, v ≠ .double x := by
    intro v hv x hx
    simp [hx] at hv
  unfold fX12_freeOf at e
  split at e
  · rename_i ho
    have e1 := e
    exact ⟨1, _, mtX12_freeOf, hD, ra_ev_of (by decide) hdb hw trivial (ra_Ru.weak (nX12_freeOf_0_ok N p0 p1 h _ e1) ⟨rfl, ⟨rfl, trivial⟩⟩), (fun _ => ⟨_, _, rfl, ra_rcv_of ho (by decide) rfl⟩), (fun h => absurd h (by decide))⟩
  · cases e
/-! RedMarksModel.with(III)I -/
def mX12_with : ra_M := (yX12_with, cX12_with, 4, (some .int))
def tIX12_with (N : Nat) : Nat → List Value → ra_H → Option (Int32 × ra_H) := (ra_c1 284 (fun av h => match av with
  | [.ref z0, .int z1, .int z2] => fX12_agreeOf N z0 z1 z2 h
  | _ => none) ra_c0)
theorem tIX12_with_ok (N : Nat) : ra_cok 3 ra_oI (tIX12_with N) := (ra_c1_ok (by
  intro av h a e
  split at e
  · exact fX12_agreeOf_co N _ _ _ _ _ e 3 (by omega)
  · cases e) ra_c0_ok)
def lX12_with_54 : List ra_I := [(54, .ireturn, 1, 0, 0, 0, 0, 0, [])]
set_option maxRecDepth 100000 in
theorem lX12_with_54_ck : lX12_with_54.all (ra_ck mX12_with 12) = true := by decide +kernel
def nX12_with_54 (N : Nat) (b0 : Int32) (h : ra_H) : Option (Int32 × ra_H) :=
  some (b0, h)
def kX12_with_54 (N : Nat) : Nat → List (Option Value) → List Value → ra_H → Option (Int32 × ra_H) := ra_k0
theorem kX12_with_54_ok (N : Nat) : ra_kok 3 mX12_with ra_oI (kX12_with_54 N) := ra_k0_ok
set_option maxRecDepth 100000 in
theorem nX12_with_54_ok (N : Nat) (b0 : Int32) (h : ra_H) (r : (Int32 × ra_H)) (e : nX12_with_54 N b0 h = some r) : ra_Ru 3 mX12_with 54 [none, none, none, none] [.int b0] h (ra_oI r) :=
  ra_sound (by omega) rfl ra_rI_ok (kX12_with_54_ok N) (fun m av h h1 e => (ra_c0_ok (ro := ra_oV)) m av h h1 e) (fun m av h x h1 e => (tIX12_with_ok N) m av h (x, h1) e) (fun m av h x h1 e => (ra_c0_ok (ro := ra_oJ)) m av h (x, h1) e) (fun m av h x h1 e => (ra_c0_ok (ro := ra_oR)) m av h (x, h1) e) (fun m av h x h1 e => (ra_c0_ok (ro := ra_oN)) m av h (x, h1) e) (fun m av h x h1 e => (ra_c0_ok (ro := ra_oF)) m av h (x, h1) e) 2 lX12_with_54 _ _ _ _ lX12_with_54_ck (show ra_run ra_rI (kX12_with_54 N) ra_c0 (tIX12_with N) ra_c0 ra_c0 ra_c0 ra_c0 2 lX12_with_54 [none, none, none, none] [.int b0] h = some r from e) _ _ rfl
def lX12_with_0 : List ra_I := [(0, .iload_n 3, 1, 3, 0, 0, 0, 0, []),
  (1, .aload_n 0, 1, 0, 0, 0, 0, 0, []),
  (2, .getfield 13, 3, 12, 3, 2, 0, 0, []),
  (5, .sipush (482), 3, 0, 0, 0, (482), 0, []),
  (8, .iaload, 1, 0, 0, 0, 0, 0, []),
  (9, .if_icmp .ne (20), 3, 29, 0, 0, 0, 0, []),
  (12, .aload_n 0, 1, 0, 0, 0, 0, 0, []),
  (13, .getfield 111, 3, 12, 44, 2, 0, 0, []),
  (16, .sipush (4096), 3, 0, 0, 0, (4096), 0, []),
  (19, .iload_n 1, 1, 1, 0, 0, 0, 0, []),
  (20, .iconst (1), 1, 0, 0, 0, (1), 0, []),
  (21, .iadd, 1, 0, 0, 0, 0, 0, []),
  (22, .imul, 1, 0, 0, 0, 0, 0, []),
  (23, .iload_n 2, 1, 2, 0, 0, 0, 0, []),
  (24, .iadd, 1, 0, 0, 0, 0, 0, []),
  (25, .iaload, 1, 0, 0, 0, 0, 0, []),
  (26, .goto (28), 3, 54, 0, 0, 0, 0, []),
  (29, .aload_n 0, 1, 0, 0, 0, 0, 0, []),
  (30, .iload_n 3, 1, 3, 0, 0, 0, 0, []),
  (31, .iload_n 1, 1, 1, 0, 0, 0, 0, []),
  (32, .invokevirtual 448, 3, 284, 3, 1, 0, 0, []),
  (35, .aload_n 0, 1, 0, 0, 0, 0, 0, []),
  (36, .getfield 111, 3, 12, 44, 2, 0, 0, []),
  (39, .sipush (4096), 3, 0, 0, 0, (4096), 0, []),
  (42, .iload_n 1, 1, 1, 0, 0, 0, 0, []),
  (43, .iconst (1), 1, 0, 0, 0, (1), 0, []),
  (44, .iadd, 1, 0, 0, 0, 0, 0, []),
  (45, .imul, 1, 0, 0, 0, 0, 0, []),
  (46, .iload_n 2, 1, 2, 0, 0, 0, 0, []),
  (47, .iconst (1), 1, 0, 0, 0, (1), 0, []),
  (48, .iload_n 3, 1, 3, 0, 0, 0, 0, []),
  (49, .ishl, 1, 0, 0, 0, 0, 0, []),
  (50, .ior, 1, 0, 0, 0, 0, 0, []),
  (51, .iadd, 1, 0, 0, 0, 0, 0, []),
  (52, .iaload, 1, 0, 0, 0, 0, 0, []),
  (53, .iadd, 1, 0, 0, 0, 0, 0, [])]
set_option maxRecDepth 100000 in
theorem lX12_with_0_ck : lX12_with_0.all (ra_ck mX12_with 12) = true := by decide +kernel
def nX12_with_0 (N : Nat) (a0 : Nat) (a1 : Int32) (a2 : Int32) (a3 : Int32) (h : ra_H) : Option (Int32 × ra_H) :=
  (ra_fR h 12 a0 3).bind fun x1 =>
  (ra_aI h 0 x1 ((482 : Int32))).bind fun x2 =>
  if a3 = x2 then
    (ra_fR h 12 a0 44).bind fun x6 =>
    (ra_aI h 0 x6 ((((4096 : Int32)) * (a1 + ((1 : Int32)))) + a2)).bind fun x7 =>
    nX12_with_54 N x7 h
  else
    (fX12_agreeOf N a0 a3 a1 h).bind fun q3 =>
    (ra_fR q3.2 12 a0 44).bind fun x4 =>
    (ra_aI q3.2 0 x4 ((((4096 : Int32)) * (a1 + ((1 : Int32)))) + (a2 ||| (((1 : Int32)) <<< (a3 &&& 31))))).bind fun x5 =>
    nX12_with_54 N (q3.1 + x5) q3.2
def kX12_with_0 (N : Nat) : Nat → List (Option Value) → List Value → ra_H → Option (Int32 × ra_H) := (ra_k1 54 (fun L S h => match L, S with
  | [_, _, _, _], [.int b0] => nX12_with_54 N b0 h
  | _, _ => none) ra_k0)
theorem kX12_with_0_ok (N : Nat) : ra_kok 3 mX12_with ra_oI (kX12_with_0 N) := (ra_k1_ok (by
  intro L S h a e
  split at e
  · exact ra_Ru.weak (nX12_with_54_ok N _ _ _ e) trivial
  · cases e) ra_k0_ok)
set_option maxRecDepth 100000 in
theorem nX12_with_0_ok (N : Nat) (a0 : Nat) (a1 : Int32) (a2 : Int32) (a3 : Int32) (h : ra_H) (r : (Int32 × ra_H)) (e : nX12_with_0 N a0 a1 a2 a3 h = some r) : ra_Ru 3 mX12_with 0 [some (.ref a0), some (.int a1), some (.int a2), some (.int a3)] [] h (ra_oI r) :=
  ra_sound (by omega) rfl ra_rI_ok (kX12_with_0_ok N) (fun m av h h1 e => (ra_c0_ok (ro := ra_oV)) m av h h1 e) (fun m av h x h1 e => (tIX12_with_ok N) m av h (x, h1) e) (fun m av h x h1 e => (ra_c0_ok (ro := ra_oJ)) m av h (x, h1) e) (fun m av h x h1 e => (ra_c0_ok (ro := ra_oR)) m av h (x, h1) e) (fun m av h x h1 e => (ra_c0_ok (ro := ra_oN)) m av h (x, h1) e) (fun m av h x h1 e => (ra_c0_ok (ro := ra_oF)) m av h (x, h1) e) 37 lX12_with_0 _ _ _ _ lX12_with_0_ck (show ra_run ra_rI (kX12_with_0 N) ra_c0 (tIX12_with N) ra_c0 ra_c0 ra_c0 ra_c0 37 lX12_with_0 [some (.ref a0), some (.int a1), some (.int a2), some (.int a3)] [] h = some r from e) _ _ rfl
def fX12_with (N : Nat) (p0 : Nat) (p1 : Int32) (p2 : Int32) (p3 : Int32) (h : ra_H) : Option (Int32 × ra_H) := match ra_isOb h p0 12 with
  | true => nX12_with_0 N p0 p1 p2 p3 h
  | false => none
set_option maxRecDepth 100000 in
theorem mtX12_with : ra_MT[287]? = some (mX12_with, 1, 3, (1, 13), (8, 188), (0, 104)) := rfl
theorem fX12_with_co (N : Nat) (p0 : Nat) (p1 : Int32) (p2 : Int32) (p3 : Int32) (h : ra_H) (r : (Int32 × ra_H)) (e : fX12_with N p0 p1 p2 p3 h = some r) (D : Nat) (hD : 4 ≤ D) : ra_CO D 287 [.ref p0, .int p1, .int p2, .int p3] h (ra_oI r).1 (ra_oI r).2 := by
  have hw : ra_nw2 [.ref p0, .int p1, .int p2, .int p3] ≤ 4 := Nat.le_of_ble_eq_true rfl
  have hdb : ∀ v ∈ ([.ref p0, .int p1, .int p2, .int p3] : List Value), ∀ x, v ≠ .double x := by
    intro v hv x hx
    simp [hx] at hv
  unfold fX12_with at e
  split at e
  · rename_i ho
    have e1 := e
    exact ⟨3, _, mtX12_with, hD, ra_ev_of (by decide) hdb hw trivial (ra_Ru.weak (nX12_with_0_ok N p0 p1 p2 p3 h _ e1) ⟨rfl, ⟨rfl, ⟨rfl, ⟨rfl, trivial⟩⟩⟩⟩), (fun _ => ⟨_, _, rfl, ra_rcv_of ho (by decide) rfl⟩), (fun h => absurd h (by decide))⟩
  · cases e
/-! RedMarksModel.findFirst()V -/
def mX12_findFirst : ra_M := (yX12_findFirst, cX12_findFirst, 8, none)
def tIX12_findFirst (N : Nat) : Nat → List Value → ra_H → Option (Int32 × ra_H) := (ra_c1 287 (fun av h => match av with
  | [.ref z0, .int z1, .int z2, .int z3] => fX12_with N z0 z1 z2 z3 h
  | _ => none) (ra_c1 288 (fun av h => match av with
  | [.ref z0, .int z1, .int z2] => fX12_can N z0 z1 z2 h
  | _ => none) (ra_c1 290 (fun av h => match av with
  | [.ref z0, .int z1, .int z2] => fX12_after N z0 z1 z2 h
  | _ => none) ra_c0)))
theorem tIX12_findFirst_ok (N : Nat) : ra_cok 4 ra_oI (tIX12_findFirst N) := (ra_c1_ok (by
  intro av h a e
  split at e
  · exact fX12_with_co N _ _ _ _ _ _ e 4 (by omega)
  · cases e) (ra_c1_ok (by
  intro av h a e
  split at e
  · exact fX12_can_co N _ _ _ _ _ e 4 (by omega)
  · cases e) (ra_c1_ok (by
  intro av h a e
  split at e
  · exact fX12_after_co N _ _ _ _ _ e 4 (by omega)
  · cases e) ra_c0_ok)))
def lX12_findFirst_40 : List ra_I := [(40, .bastore, 1, 0, 0, 0, 0, 0, []),
  (41, .iinc 4 (1), 3, 4, 0, 0, (1), 0, []),
  (44, .goto (-26), 3, 18, 0, 0, 0, 0, [])]
set_option maxRecDepth 100000 in
theorem lX12_findFirst_40_ck : lX12_findFirst_40.all (ra_ck mX12_findFirst 12) = true := by decide +kernel
def nX12_findFirst_40 (N : Nat) (c18 : Nat → Int32 → Int32 → Int32 → Int32 → ra_H → Option ra_H) (a0 : Nat) (a1 : Int32) (a2 : Int32) (a3 : Int32) (a4 : Int32) (b0 : Nat) (b1 : Int32) (b2 : Int32) (h : ra_H) : Option ra_H :=
  (ra_aW h 2 b0 b1 (vp_nar .boolean b2)).bind fun h1 =>
  let y2 := a4 + (1 : Int32)
  c18 a0 a1 a2 a3 y2 h1
def kX12_findFirst_40 (N : Nat) (c18 : Nat → Int32 → Int32 → Int32 → Int32 → ra_H → Option ra_H) : Nat → List (Option Value) → List Value → ra_H → Option ra_H := (ra_k1 18 (fun L S h => match L, S with
  | [some (.ref a0), some (.int a1), some (.int a2), some (.int a3), some (.int a4), _, _, _], [] => c18 a0 a1 a2 a3 a4 h
  | _, _ => none) ra_k0)
theorem kX12_findFirst_40_ok (N : Nat) (c18 : Nat → Int32 → Int32 → Int32 → Int32 → ra_H → Option ra_H) (hc18 : ∀ a0 a1 a2 a3 a4 h r, c18 a0 a1 a2 a3 a4 h = some r → ra_Ru 4 mX12_findFirst 18 [some (.ref a0), some (.int a1), some (.int a2), some (.int a3), some (.int a4), none, none, none] [] h (ra_oV r)) : ra_kok 4 mX12_findFirst ra_oV (kX12_findFirst_40 N c18) := (ra_k1_ok (by
  intro L S h a e
  split at e
  · exact ra_Ru.weak (hc18 _ _ _ _ _ _ _ e) ⟨rfl, ⟨rfl, ⟨rfl, ⟨rfl, ⟨rfl, trivial⟩⟩⟩⟩⟩
  · cases e) ra_k0_ok)
set_option maxRecDepth 100000 in
theorem nX12_findFirst_40_ok (N : Nat) (c18 : Nat → Int32 → Int32 → Int32 → Int32 → ra_H → Option ra_H) (hc18 : ∀ a0 a1 a2 a3 a4 h r, c18 a0 a1 a2 a3 a4 h = some r → ra_Ru 4 mX12_findFirst 18 [some (.ref a0), some (.int a1), some (.int a2), some (.int a3), some (.int a4), none, none, none] [] h (ra_oV r)) (a0 : Nat) (a1 : Int32) (a2 : Int32) (a3 : Int32) (a4 : Int32) (b0 : Nat) (b1 : Int32) (b2 : Int32) (h : ra_H) (r : ra_H) (e : nX12_findFirst_40 N c18 a0 a1 a2 a3 a4 b0 b1 b2 h = some r) : ra_Ru 4 mX12_findFirst 40 [some (.ref a0), some (.int a1), some (.int a2), some (.int a3), some (.int a4), none, none, none] [.int b2, .int b1, .ref b0] h (ra_oV r) :=
  ra_sound (by omega) rfl ra_rV_ok (kX12_findFirst_40_ok N c18 hc18) (fun m av h h1 e => (ra_c0_ok (ro := ra_oV)) m av h h1 e) (fun m av h x h1 e => (tIX12_findFirst_ok N) m av h (x, h1) e) (fun m av h x h1 e => (ra_c0_ok (ro := ra_oJ)) m av h (x, h1) e) (fun m av h x h1 e => (ra_c0_ok (ro := ra_oR)) m av h (x, h1) e) (fun m av h x h1 e => (ra_c0_ok (ro := ra_oN)) m av h (x, h1) e) (fun m av h x h1 e => (ra_c0_ok (ro := ra_oF)) m av h (x, h1) e) 4 lX12_findFirst_40 _ _ _ _ lX12_findFirst_40_ck (show ra_run ra_rV (kX12_findFirst_40 N c18) ra_c0 (tIX12_findFirst N) ra_c0 ra_c0 ra_c0 ra_c0 4 lX12_findFirst_40 [some (.ref a0), some (.int a1), some (.int a2), some (.int a3), some (.int a4), none, none, none] [.int b2, .int b1, .ref b0] h = some r from e) _ _ rfl
def lX12_findFirst_118 : List ra_I := [(118, .istore 5, 2, 5, 0, 0, 0, 0, []),
  (120, .iinc 6 (-1), 3, 6, 0, 0, (-1), 0, []),
  (123, .goto (-52), 3, 71, 0, 0, 0, 0, [])]
set_option maxRecDepth 100000 in
theorem lX12_findFirst_118_ck : lX12_findFirst_118.all (ra_ck mX12_findFirst 12) = true := by decide +kernel
def nX12_findFirst_118 (N : Nat) (c50 : Nat → Int32 → Int32 → Int32 → Int32 → ra_H → Option ra_H) (c71 : Nat → Int32 → Int32 → Int32 → Int32 → Int32 → Int32 → ra_H → Option ra_H) (a0 : Nat) (a1 : Int32) (a2 : Int32) (a3 : Int32) (a4 : Int32) (a6 : Int32) (b0 : Int32) (h : ra_H) : Option ra_H :=
  let y1 := a6 + (-1 : Int32)
  c71 a0 a1 a2 a3 a4 b0 y1 h
def kX12_findFirst_118 (N : Nat) (c50 : Nat → Int32 → Int32 → Int32 → Int32 → ra_H → Option ra_H) (c71 : Nat → Int32 → Int32 → Int32 → Int32 → Int32 → Int32 → ra_H → Option ra_H) : Nat → List (Option Value) → List Value → ra_H → Option ra_H := (ra_k1 71 (fun L S h => match L, S with
  | [some (.ref a0), some (.int a1), some (.int a2), some (.int a3), some (.int a4), some (.int a5), some (.int a6), _], [] => c71 a0 a1 a2 a3 a4 a5 a6 h
  | _, _ => none) ra_k0)
theorem kX12_findFirst_118_ok (N : Nat) (c50 : Nat → Int32 → Int32 → Int32 → Int32 → ra_H → Option ra_H) (c71 : Nat → Int32 → Int32 → Int32 → Int32 → Int32 → Int32 → ra_H → Option ra_H) (hc50 : ∀ a0 a1 a2 a3 a4 h r, c50 a0 a1 a2 a3 a4 h = some r → ra_Ru 4 mX12_findFirst 50 [some (.ref a0), some (.int a1), some (.int a2), some (.int a3), some (.int a4), none, none, none] [] h (ra_oV r)) (hc71 : ∀ a0 a1 a2 a3 a4 a5 a6 h r, c71 a0 a1 a2 a3 a4 a5 a6 h = some r → ra_Ru 4 mX12_findFirst 71 [some (.ref a0), some (.int a1), some (.int a2), some (.int a3), some (.int a4), some (.int a5), some (.int a6), none] [] h (ra_oV r)) : ra_kok 4 mX12_findFirst ra_oV (kX12_findFirst_118 N c50 c71) := (ra_k1_ok (by
  intro L S h a e
  split at e
  · exact ra_Ru.weak (hc71 _ _ _ _ _ _ _ _ _ e) ⟨rfl, ⟨rfl, ⟨rfl, ⟨rfl, ⟨rfl, ⟨rfl, ⟨rfl, trivial⟩⟩⟩⟩⟩⟩⟩
  · cases e) ra_k0_ok)
set_option maxRecDepth 100000 in
theorem nX12_findFirst_118_ok (N : Nat) (c50 : Nat → Int32 → Int32 → Int32 → Int32 → ra_H → Option ra_H) (c71 : Nat → Int32 → Int32 → Int32 → Int32 → Int32 → Int32 → ra_H → Option ra_H) (hc50 : ∀ a0 a1 a2 a3 a4 h r, c50 a0 a1 a2 a3 a4 h = some r → ra_Ru 4 mX12_findFirst 50 [some (.ref a0), some (.int a1), some (.int a2), some (.int a3), some (.int a4), none, none, none] [] h (ra_oV r)) (hc71 : ∀ a0 a1 a2 a3 a4 a5 a6 h r, c71 a0 a1 a2 a3 a4 a5 a6 h = some r → ra_Ru 4 mX12_findFirst 71 [some (.ref a0), some (.int a1), some (.int a2), some (.int a3), some (.int a4), some (.int a5), some (.int a6), none] [] h (ra_oV r)) (a0 : Nat) (a1 : Int32) (a2 : Int32) (a3 : Int32) (a4 : Int32) (a6 : Int32) (b0 : Int32) (h : ra_H) (r : ra_H) (e : nX12_findFirst_118 N c50 c71 a0 a1 a2 a3 a4 a6 b0 h = some r) : ra_Ru 4 mX12_findFirst 118 [some (.ref a0), some (.int a1), some (.int a2), some (.int a3), some (.int a4), none, some (.int a6), none] [.int b0] h (ra_oV r) :=
  ra_sound (by omega) rfl ra_rV_ok (kX12_findFirst_118_ok N c50 c71 hc50 hc71) (fun m av h h1 e => (ra_c0_ok (ro := ra_oV)) m av h h1 e) (fun m av h x h1 e => (tIX12_findFirst_ok N) m av h (x, h1) e) (fun m av h x h1 e => (ra_c0_ok (ro := ra_oJ)) m av h (x, h1) e) (fun m av h x h1 e => (ra_c0_ok (ro := ra_oR)) m av h (x, h1) e) (fun m av h x h1 e => (ra_c0_ok (ro := ra_oN)) m av h (x, h1) e) (fun m av h x h1 e => (ra_c0_ok (ro := ra_oF)) m av h (x, h1) e) 4 lX12_findFirst_118 _ _ _ _ lX12_findFirst_118_ck (show ra_run ra_rV (kX12_findFirst_118 N c50 c71) ra_c0 (tIX12_findFirst N) ra_c0 ra_c0 ra_c0 ra_c0 4 lX12_findFirst_118 [some (.ref a0), some (.int a1), some (.int a2), some (.int a3), some (.int a4), none, some (.int a6), none] [.int b0] h = some r from e) _ _ rfl
def lX12_findFirst_116 : List ra_I := [(116, .iload 5, 2, 5, 0, 0, 0, 0, [])]
set_option maxRecDepth 100000 in
theorem lX12_findFirst_116_ck : lX12_findFirst_116.all (ra_ck mX12_findFirst 12) = true := by decide +kernel
def nX12_findFirst_116 (N : Nat) (c50 : Nat → Int32 → Int32 → Int32 → Int32 → ra_H → Option ra_H) (c71 : Nat → Int32 → Int32 → Int32 → Int32 → Int32 → Int32 → ra_H → Option ra_H) (a0 : Nat) (a1 : Int32) (a2 : Int32) (a3 : Int32) (a4 : Int32) (a5 : Int32) (a6 : Int32) (h : ra_H) : Option ra_H :=
  nX12_findFirst_118 N c50 c71 a0 a1 a2 a3 a4 a6 a5 h
def kX12_findFirst_116 (N : Nat) (c50 : Nat → Int32 → Int32 → Int32 → Int32 → ra_H → Option ra_H) (c71 : Nat → Int32 → Int32 → Int32 → Int32 → Int32 → Int32 → ra_H → Option ra_H) : Nat → List (Option Value) → List Value → ra_H → Option ra_H := (ra_k1 118 (fun L S h => match L, S with
  | [some (.ref a0), some (.int a1), some (.int a2), some (.int a3), some (.int a4), _, some (.int a6), _], [.int b0] => nX12_findFirst_118 N c50 c71 a0 a1 a2 a3 a4 a6 b0 h
  | _, _ => none) ra_k0)
theorem kX12_findFirst_116_ok (N : Nat) (c50 : Nat → Int32 → Int32 → Int32 → Int32 → ra_H → Option ra_H) (c71 : Nat → Int32 → Int32 → Int32 → Int32 → Int32 → Int32 → ra_H → Option ra_H) (hc50 : ∀ a0 a1 a2 a3 a4 h r, c50 a0 a1 a2 a3 a4 h = some r → ra_Ru 4 mX12_findFirst 50 [some (.ref a0), some (.int a1), some (.int a2), some (.int a3), some (.int a4), none, none, none] [] h (ra_oV r)) (hc71 : ∀ a0 a1 a2 a3 a4 a5 a6 h r, c71 a0 a1 a2 a3 a4 a5 a6 h = some r → ra_Ru 4 mX12_findFirst 71 [some (.ref a0), some (.int a1), some (.int a2), some (.int a3), some (.int a4), some (.int a5), some (.int a6), none] [] h (ra_oV r)) : ra_kok 4 mX12_findFirst ra_oV (kX12_findFirst_116 N c50 c71) := (ra_k1_ok (by
  intro L S h a e
  split at e
  · exact ra_Ru.weak (nX12_findFirst_118_ok N c50 c71 hc50 hc71 _ _ _ _ _ _ _ _ _ e) ⟨rfl, ⟨rfl, ⟨rfl, ⟨rfl, ⟨rfl, ⟨rfl, trivial⟩⟩⟩⟩⟩⟩
  · cases e) ra_k0_ok)
set_option maxRecDepth 100000 in
theorem nX12_findFirst_116_ok (N : Nat) (c50 : Nat → Int32 → Int32 → Int32 → Int32 → ra_H → Option ra_H) (c71 : Nat → Int32 → Int32 → Int32 → Int32 → Int32 → Int32 → ra_H → Option ra_H) (hc50 : ∀ a0 a1 a2 a3 a4 h r, c50 a0 a1 a2 a3 a4 h = some r → ra_Ru 4 mX12_findFirst 50 [some (.ref a0), some (.int a1), some (.int a2), some (.int a3), some (.int a4), none, none, none] [] h (ra_oV r)) (hc71 : ∀ a0 a1 a2 a3 a4 a5 a6 h r, c71 a0 a1 a2 a3 a4 a5 a6 h = some r → ra_Ru 4 mX12_findFirst 71 [some (.ref a0), some (.int a1), some (.int a2), some (.int a3), some (.int a4), some (.int a5), some (.int a6), none] [] h (ra_oV r)) (a0 : Nat) (a1 : Int32) (a2 : Int32) (a3 : Int32) (a4 : Int32) (a5 : Int32) (a6 : Int32) (h : ra_H) (r : ra_H) (e : nX12_findFirst_116 N c50 c71 a0 a1 a2 a3 a4 a5 a6 h = some r) : ra_Ru 4 mX12_findFirst 116 [some (.ref a0), some (.int a1), some (.int a2), some (.int a3), some (.int a4), some (.int a5), some (.int a6), none] [] h (ra_oV r) :=
  ra_sound (by omega) rfl ra_rV_ok (kX12_findFirst_116_ok N c50 c71 hc50 hc71) (fun m av h h1 e => (ra_c0_ok (ro := ra_oV)) m av h h1 e) (fun m av h x h1 e => (tIX12_findFirst_ok N) m av h (x, h1) e) (fun m av h x h1 e => (ra_c0_ok (ro := ra_oJ)) m av h (x, h1) e) (fun m av h x h1 e => (ra_c0_ok (ro := ra_oR)) m av h (x, h1) e) (fun m av h x h1 e => (ra_c0_ok (ro := ra_oN)) m av h (x, h1) e) (fun m av h x h1 e => (ra_c0_ok (ro := ra_oF)) m av h (x, h1) e) 2 lX12_findFirst_116 _ _ _ _ lX12_findFirst_116_ck (show ra_run ra_rV (kX12_findFirst_116 N c50 c71) ra_c0 (tIX12_findFirst N) ra_c0 ra_c0 ra_c0 ra_c0 2 lX12_findFirst_116 [some (.ref a0), some (.int a1), some (.int a2), some (.int a3), some (.int a4), some (.int a5), some (.int a6), none] [] h = some r from e) _ _ rfl
def lX12_findFirst_275 : List ra_I := [(275, .iinc 7 (1), 3, 7, 0, 0, (1), 0, []),
  (278, .goto (-100), 3, 178, 0, 0, 0, 0, [])]
set_option maxRecDepth 100000 in
theorem lX12_findFirst_275_ck : lX12_findFirst_275.all (ra_ck mX12_findFirst 12) = true := by decide +kernel
def nX12_findFirst_275 (N : Nat) (c50 : Nat → Int32 → Int32 → Int32 → Int32 → ra_H → Option ra_H) (c169 : Nat → Int32 → Int32 → Int32 → Int32 → Int32 → Int32 → ra_H → Option ra_H) (c178 : Nat → Int32 → Int32 → Int32 → Int32 → Int32 → Int32 → Int32 → ra_H → Option ra_H) (a0 : Nat) (a1 : Int32) (a2 : Int32) (a3 : Int32) (a4 : Int32) (a5 : Int32) (a6 : Int32) (a7 : Int32) (h : ra_H) : Option ra_H :=
  let y1 := a7 + (1 : Int32)
  c178 a0 a1 a2 a3 a4 a5 a6 y1 h
def kX12_findFirst_275 (N : Nat) (c50 : Nat → Int32 → Int32 → Int32 → Int32 → ra_H → Option ra_H) (c169 : Nat → Int32 → Int32 → Int32 → Int32 → Int32 → Int32 → ra_H → Option ra_H) (c178 : Nat → Int32 → Int32 → Int32 → Int32 → Int32 → Int32 → Int32 → ra_H → Option ra_H) : Nat → List (Option Value) → List Value → ra_H → Option ra_H := (ra_k1 178 (fun L S h => match L, S with
  | [some (.ref a0), some (.int a1), some (.int a2), some (.int a3), some (.int a4), some (.int a5), some (.int a6), some (.int a7)], [] => c178 a0 a1 a2 a3 a4 a5 a6 a7 h
  | _, _ => none) ra_k0)
theorem kX12_findFirst_275_ok (N : Nat) (c50 : Nat → Int32 → Int32 → Int32 → Int32 → ra_H → Option ra_H) (c169 : Nat → Int32 → Int32 → Int32 → Int32 → Int32 → Int32 → ra_H → Option ra_H) (c178 : Nat → Int32 → Int32 → Int32 → Int32 → Int32 → Int32 → Int32 → ra_H → Option ra_H) (hc50 : ∀ a0 a1 a2 a3 a4 h r, c50 a0 a1 a2 a3 a4 h = some r → ra_Ru 4 mX12_findFirst 50 [some (.ref a0), some (.int a1), some (.int a2), some (.int a3), some (.int a4), none, none, none] [] h (ra_oV r)) (hc169 : ∀ a0 a1 a2 a3 a4 a5 a6 h r, c169 a0 a1 a2 a3 a4 a5 a6 h = some r → ra_Ru 4 mX12_findFirst 169 [some (.ref a0), some (.int a1), some (.int a2), some (.int a3), some (.int a4), some (.int a5), some (.int a6), none] [] h (ra_oV r)) (hc178 : ∀ a0 a1 a2 a3 a4 a5 a6 a7 h r, c178 a0 a1 a2 a3 a4 a5 a6 a7 h = some r → ra_Ru 4 mX12_findFirst 178 [some (.ref a0), some (.int a1), some (.int a2), some (.int a3), some (.int a4), some (.int a5), some (.int a6), some (.int a7)] [] h (ra_oV r)) : ra_kok 4 mX12_findFirst ra_oV (kX12_findFirst_275 N c50 c169 c178) := (ra_k1_ok (by
  intro L S h a e
  split at e
  · exact ra_Ru.weak (hc178 _ _ _ _ _ _ _ _ _ _ e) ⟨rfl, ⟨rfl, ⟨rfl, ⟨rfl, ⟨rfl, ⟨rfl, ⟨rfl, ⟨rfl, trivial⟩⟩⟩⟩⟩⟩⟩⟩
  · cases e) ra_k0_ok)
set_option maxRecDepth 100000 in
theorem nX12_findFirst_275_ok (N : Nat) (c50 : Nat → Int32 → Int32 → Int32 → Int32 → ra_H → Option ra_H) (c169 : Nat → Int32 → Int32 → Int32 → Int32 → Int32 → Int32 → ra_H → Option ra_H) (c178 : Nat → Int32 → Int32 → Int32 → Int32 → Int32 → Int32 → Int32 → ra_H → Option ra_H) (hc50 : ∀ a0 a1 a2 a3 a4 h r, c50 a0 a1 a2 a3 a4 h = some r → ra_Ru 4 mX12_findFirst 50 [some (.ref a0), some (.int a1), some (.int a2), some (.int a3), some (.int a4), none, none, none] [] h (ra_oV r)) (hc169 : ∀ a0 a1 a2 a3 a4 a5 a6 h r, c169 a0 a1 a2 a3 a4 a5 a6 h = some r → ra_Ru 4 mX12_findFirst 169 [some (.ref a0), some (.int a1), some (.int a2), some (.int a3), some (.int a4), some (.int a5), some (.int a6), none] [] h (ra_oV r)) (hc178 : ∀ a0 a1 a2 a3 a4 a5 a6 a7 h r, c178 a0 a1 a2 a3 a4 a5 a6 a7 h = some r → ra_Ru 4 mX12_findFirst 178 [some (.ref a0), some (.int a1), some (.int a2), some (.int a3), some (.int a4), some (.int a5), some (.int a6), some (.int a7)] [] h (ra_oV r)) (a0 : Nat) (a1 : Int32) (a2 : Int32) (a3 : Int32) (a4 : Int32) (a5 : Int32) (a6 : Int32) (a7 : Int32) (h : ra_H) (r : ra_H) (e : nX12_findFirst_275 N c50 c169 c178 a0 a1 a2 a3 a4 a5 a6 a7 h = some r) : ra_Ru 4 mX12_findFirst 275 [some (.ref a0), some (.int a1), some (.int a2), some (.int a3), some (.int a4), some (.int a5), some (.int a6), some (.int a7)] [] h (ra_oV r) :=
  ra_sound (by omega) rfl ra_rV_ok (kX12_findFirst_275_ok N c50 c169 c178 hc50 hc169 hc178) (fun m av h h1 e => (ra_c0_ok (ro := ra_oV)) m av h h1 e) (fun m av h x h1 e => (tIX12_findFirst_ok N) m av h (x, h1) e) (fun m av h x h1 e => (ra_c0_ok (ro := ra_oJ)) m av h (x, h1) e) (fun m av h x h1 e => (ra_c0_ok (ro := ra_oR)) m av h (x, h1) e) (fun m av h x h1 e => (ra_c0_ok (ro := ra_oN)) m av h (x, h1) e) (fun m av h x h1 e => (ra_c0_ok (ro := ra_oF)) m av h (x, h1) e) 3 lX12_findFirst_275 _ _ _ _ lX12_findFirst_275_ck (show ra_run ra_rV (kX12_findFirst_275 N c50 c169 c178) ra_c0 (tIX12_findFirst N) ra_c0 ra_c0 ra_c0 ra_c0 3 lX12_findFirst_275 [some (.ref a0), some (.int a1), some (.int a2), some (.int a3), some (.int a4), some (.int a5), some (.int a6), some (.int a7)] [] h = some r from e) _ _ rfl
def lX12_findFirst_274 : List ra_I := [(274, .bastore, 1, 0, 0, 0, 0, 0, [])]
set_option maxRecDepth 100000 in
theorem lX12_findFirst_274_ck : lX12_findFirst_274.all (ra_ck mX12_findFirst 12) = true := by decide +kernel
def nX12_findFirst_274 (N : Nat) (c50 : Nat → Int32 → Int32 → Int32 → Int32 → ra_H → Option ra_H) (c169 : Nat → Int32 → Int32 → Int32 → Int32 → Int32 → Int32 → ra_H → Option ra_H) (c178 : Nat → Int32 → Int32 → Int32 → Int32 → Int32 → Int32 → Int32 → ra_H → Option ra_H) (a0 : Nat) (a1 : Int32) (a2 : Int32) (a3 : Int32) (a4 : Int32) (a5 : Int32) (a6 : Int32) (a7 : Int32) (b0 : Nat) (b1 : Int32) (b2 : Int32) (h : ra_H) : Option ra_H :=
  (ra_aW h 2 b0 b1 (vp_nar .boolean b2)).bind fun h1 =>
  nX12_findFirst_275 N c50 c169 c178 a0 a1 a2 a3 a4 a5 a6 a7 h1
def kX12_findFirst_274 (N : Nat) (c50 : Nat → Int32 → Int32 → Int32 → Int32 → ra_H → Option ra_H) (c169 : Nat → Int32 → Int32 → Int32 → Int32 → Int32 → Int32 → ra_H → Option ra_H) (c178 : Nat → Int32 → Int32 → Int32 → Int32 → Int32 → Int32 → Int32 → ra_H → Option ra_H) : Nat → List (Option Value) → List Value → ra_H → Option ra_H := (ra_k1 275 (fun L S h => match L, S with
  | [some (.ref a0), some (.int a1), some (.int a2), some (.int a3), some (.int a4), some (.int a5), some (.int a6), some (.int a7)], [] => nX12_findFirst_275 N c50 c169 c178 a0 a1 a2 a3 a4 a5 a6 a7 h
  | _, _ => none) ra_k0)
theorem kX12_findFirst_274_ok (N : Nat) (c50 : Nat → Int32 → Int32 → Int32 → Int32 → ra_H → Option ra_H) (c169 : Nat → Int32 → Int32 → Int32 → Int32 → Int32 → Int32 → ra_H → Option ra_H) (c178 : Nat → Int32 → Int32 → Int32 → Int32 → Int32 → Int32 → Int32 → ra_H → Option ra_H) (hc50 : ∀ a0 a1 a2 a3 a4 h r, c50 a0 a1 a2 a3 a4 h = some r → ra_Ru 4 mX12_findFirst 50 [some (.ref a0), some (.int a1), some (.int a2), some (.int a3), some (.int a4), none, none, none] [] h (ra_oV r)) (hc169 : ∀ a0 a1 a2 a3 a4 a5 a6 h r, c169 a0 a1 a2 a3 a4 a5 a6 h = some r → ra_Ru 4 mX12_findFirst 169 [some (.ref a0), some (.int a1), some (.int a2), some (.int a3), some (.int a4), some (.int a5), some (.int a6), none] [] h (ra_oV r)) (hc178 : ∀ a0 a1 a2 a3 a4 a5 a6 a7 h r, c178 a0 a1 a2 a3 a4 a5 a6 a7 h = some r → ra_Ru 4 mX12_findFirst 178 [some (.ref a0), some (.int a1), some (.int a2), some (.int a3), some (.int a4), some (.int a5), some (.int a6), some (.int a7)] [] h (ra_oV r)) : ra_kok 4 mX12_findFirst ra_oV (kX12_findFirst_274 N c50 c169 c178) := (ra_k1_ok (by
  intro L S h a e
  split at e
  · exact ra_Ru.weak (nX12_findFirst_275_ok N c50 c169 c178 hc50 hc169 hc178 _ _ _ _ _ _ _ _ _ _ e) ⟨rfl, ⟨rfl, ⟨rfl, ⟨rfl, ⟨rfl, ⟨rfl, ⟨rfl, ⟨rfl, trivial⟩⟩⟩⟩⟩⟩⟩⟩
  · cases e) ra_k0_ok)
set_option maxRecDepth 100000 in
theorem nX12_findFirst_274_ok (N : Nat) (c50 : Nat → Int32 → Int32 → Int32 → Int32 → ra_H → Option ra_H) (c169 : Nat → Int32 → Int32 → Int32 → Int32 → Int32 → Int32 → ra_H → Option ra_H) (c178 : Nat → Int32 → Int32 → Int32 → Int32 → Int32 → Int32 → Int32 → ra_H → Option ra_H) (hc50 : ∀ a0 a1 a2 a3 a4 h r, c50 a0 a1 a2 a3 a4 h = some r → ra_Ru 4 mX12_findFirst 50 [some (.ref a0), some (.int a1), some (.int a2), some (.int a3), some (.int a4), none, none, none] [] h (ra_oV r)) (hc169 : ∀ a0 a1 a2 a3 a4 a5 a6 h r, c169 a0 a1 a2 a3 a4 a5 a6 h = some r → ra_Ru 4 mX12_findFirst 169 [some (.ref a0), some (.int a1), some (.int a2), some (.int a3), some (.int a4), some (.int a5), some (.int a6), none] [] h (ra_oV r)) (hc178 : ∀ a0 a1 a2 a3 a4 a5 a6 a7 h r, c178 a0 a1 a2 a3 a4 a5 a6 a7 h = some r → ra_Ru 4 mX12_findFirst 178 [some (.ref a0), some (.int a1), some (.int a2), some (.int a3), some (.int a4), some (.int a5), some (.int a6), some (.int a7)] [] h (ra_oV r)) (a0 : Nat) (a1 : Int32) (a2 : Int32) (a3 : Int32) (a4 : Int32) (a5 : Int32) (a6 : Int32) (a7 : Int32) (b0 : Nat) (b1 : Int32) (b2 : Int32) (h : ra_H) (r : ra_H) (e : nX12_findFirst_274 N c50 c169 c178 a0 a1 a2 a3 a4 a5 a6 a7 b0 b1 b2 h = some r) : ra_Ru 4 mX12_findFirst 274 [some (.ref a0), some (.int a1), some (.int a2), some (.int a3), some (.int a4), some (.int a5), some (.int a6), some (.int a7)] [.int b2, .int b1, .ref b0] h (ra_oV r) :=
  ra_sound (by omega) rfl ra_rV_ok (kX12_findFirst_274_ok N c50 c169 c178 hc50 hc169 hc178) (fun m av h h1 e => (ra_c0_ok (ro := ra_oV)) m av h h1 e) (fun m av h x h1 e => (tIX12_findFirst_ok N) m av h (x, h1) e) (fun m av h x h1 e => (ra_c0_ok (ro := ra_oJ)) m av h (x, h1) e) (fun m av h x h1 e => (ra_c0_ok (ro := ra_oR)) m av h (x, h1) e) (fun m av h x h1 e => (ra_c0_ok (ro := ra_oN)) m av h (x, h1) e) (fun m av h x h1 e => (ra_c0_ok (ro := ra_oF)) m av h (x, h1) e) 2 lX12_findFirst_274 _ _ _ _ lX12_findFirst_274_ck (show ra_run ra_rV (kX12_findFirst_274 N c50 c169 c178) ra_c0 (tIX12_findFirst N) ra_c0 ra_c0 ra_c0 ra_c0 2 lX12_findFirst_274 [some (.ref a0), some (.int a1), some (.int a2), some (.int a3), some (.int a4), some (.int a5), some (.int a6), some (.int a7)] [.int b2, .int b1, .ref b0] h = some r from e) _ _ rfl
def lX12_findFirst_273 : List ra_I := [(273, .iconst (0), 1, 0, 0, 0, (0), 0, [])]
set_option maxRecDepth 100000 in
theorem lX12_findFirst_273_ck : lX12_findFirst_273.all (ra_ck mX12_findFirst 12) = true := by decide +kernel
def nX12_findFirst_273 (N : Nat) (c50 : Nat → Int32 → Int32 → Int32 → Int32 → ra_H → Option ra_H) (c169 : Nat → Int32 → Int32 → Int32 → Int32 → Int32 → Int32 → ra_H → Option ra_H) (c178 : Nat → Int32 → Int32 → Int32 → Int32 → Int32 → Int32 → Int32 → ra_H → Option ra_H) (a0 : Nat) (a1 : Int32) (a2 : Int32) (a3 : Int32) (a4 : Int32) (a5 : Int32) (a6 : Int32) (a7 : Int32) (b0 : Nat) (b1 : Int32) (h : ra_H) : Option ra_H :=
  nX12_findFirst_274 N c50 c169 c178 a0 a1 a2 a3 a4 a5 a6 a7 b0 b1 ((0 : Int32)) h
def kX12_findFirst_273 (N : Nat) (c50 : Nat → Int32 → Int32 → Int32 → Int32 → ra_H → Option ra_H) (c169 : Nat → Int32 → Int32 → Int32 → Int32 → Int32 → Int32 → ra_H → Option ra_H) (c178 : Nat → Int32 → Int32 → Int32 → Int32 → Int32 → Int32 → Int32 → ra_H → Option ra_H) : Nat → List (Option Value) → List Value → ra_H → Option ra_H := (ra_k1 274 (fun L S h => match L, S with
  | [some (.ref a0), some (.int a1), some (.int a2), some (.int a3), some (.int a4), some (.int a5), some (.int a6), some (.int a7)], [.int b2, .int b1, .ref b0] => nX12_findFirst_274 N c50 c169 c178 a0 a1 a2 a3 a4 a5 a6 a7 b0 b1 b2 h
  | _, _ => none) ra_k0)
theorem kX12_findFirst_273_ok (N : Nat) (c50 : Nat → Int32 → Int32 → Int32 → Int32 → ra_H → Option ra_H) (c169 : Nat → Int32 → Int32 → Int32 → Int32 → Int32 → Int32 → ra_H → Option ra_H) (c178 : Nat → Int32 → Int32 → Int32 → Int32 → Int32 → Int32 → Int32 → ra_H → Option ra_H) (hc50 : ∀ a0 a1 a2 a3 a4 h r, c50 a0 a1 a2 a3 a4 h = some r → ra_Ru 4 mX12_findFirst 50 [some (.ref a0), some (.int a1), some (.int a2), some (.int a3), some (.int a4), none, none, none] [] h (ra_oV r)) (hc169 : ∀ a0 a1 a2 a3 a4 a5 a6 h r, c169 a0 a1 a2 a3 a4 a5 a6 h = some r → ra_Ru 4 mX12_findFirst 169 [some (.ref a0), some (.int a1), some (.int a2), some (.int a3), some (.int a4), some (.int a5), some (.int a6), none] [] h (ra_oV r)) (hc178 : ∀ a0 a1 a2 a3 a4 a5 a6 a7 h r, c178 a0 a1 a2 a3 a4 a5 a6 a7 h = some r → ra_Ru 4 mX12_findFirst 178 [some (.ref a0), some (.int a1), some (.int a2), some (.int a3), some (.int a4), some (.int a5), some (.int a6), some (.int a7)] [] h (ra_oV r)) : ra_kok 4 mX12_findFirst ra_oV (kX12_findFirst_273 N c50 c169 c178) := (ra_k1_ok (by
  intro L S h a e
  split at e
  · exact ra_Ru.weak (nX12_findFirst_274_ok N c50 c169 c178 hc50 hc169 hc178 _ _ _ _ _ _ _ _ _ _ _ _ _ e) ⟨rfl, ⟨rfl, ⟨rfl, ⟨rfl, ⟨rfl, ⟨rfl, ⟨rfl, ⟨rfl, trivial⟩⟩⟩⟩⟩⟩⟩⟩
  · cases e) ra_k0_ok)
set_option maxRecDepth 100000 in
theorem nX12_findFirst_273_ok (N : Nat) (c50 : Nat → Int32 → Int32 → Int32 → Int32 → ra_H → Option ra_H) (c169 : Nat → Int32 → Int32 → Int32 → Int32 → Int32 → Int32 → ra_H → Option ra_H) (c178 : Nat → Int32 → Int32 → Int32 → Int32 → Int32 → Int32 → Int32 → ra_H → Option ra_H) (hc50 : ∀ a0 a1 a2 a3 a4 h r, c50 a0 a1 a2 a3 a4 h = some r → ra_Ru 4 mX12_findFirst 50 [some (.ref a0), some (.int a1), some (.int a2), some (.int a3), some (.int a4), none, none, none] [] h (ra_oV r)) (hc169 : ∀ a0 a1 a2 a3 a4 a5 a6 h r, c169 a0 a1 a2 a3 a4 a5 a6 h = some r → ra_Ru 4 mX12_findFirst 169 [some (.ref a0), some (.int a1), some (.int a2), some (.int a3), some (.int a4), some (.int a5), some (.int a6), none] [] h (ra_oV r)) (hc178 : ∀ a0 a1 a2 a3 a4 a5 a6 a7 h r, c178 a0 a1 a2 a3 a4 a5 a6 a7 h = some r → ra_Ru 4 mX12_findFirst 178 [some (.ref a0), some (.int a1), some (.int a2), some (.int a3), some (.int a4), some (.int a5), some (.int a6), some (.int a7)] [] h (ra_oV r)) (a0 : Nat) (a1 : Int32) (a2 : Int32) (a3 : Int32) (a4 : Int32) (a5 : Int32) (a6 : Int32) (a7 : Int32) (b0 : Nat) (b1 : Int32) (h : ra_H) (r : ra_H) (e : nX12_findFirst_273 N c50 c169 c178 a0 a1 a2 a3 a4 a5 a6 a7 b0 b1 h = some r) : ra_Ru 4 mX12_findFirst 273 [some (.ref a0), some (.int a1), some (.int a2), some (.int a3), some (.int a4), some (.int a5), some (.int a6), some (.int a7)] [.int b1, .ref b0] h (ra_oV r) :=
  ra_sound (by omega) rfl ra_rV_ok (kX12_findFirst_273_ok N c50 c169 c178 hc50 hc169 hc178) (fun m av h h1 e => (ra_c0_ok (ro := ra_oV)) m av h h1 e) (fun m av h x h1 e => (tIX12_findFirst_ok N) m av h (x, h1) e) (fun m av h x h1 e => (ra_c0_ok (ro := ra_oJ)) m av h (x, h1) e) (fun m av h x h1 e => (ra_c0_ok (ro := ra_oR)) m av h (x, h1) e) (fun m av h x h1 e => (ra_c0_ok (ro := ra_oN)) m av h (x, h1) e) (fun m av h x h1 e => (ra_c0_ok (ro := ra_oF)) m av h (x, h1) e) 2 lX12_findFirst_273 _ _ _ _ lX12_findFirst_273_ck (show ra_run ra_rV (kX12_findFirst_273 N c50 c169 c178) ra_c0 (tIX12_findFirst N) ra_c0 ra_c0 ra_c0 ra_c0 2 lX12_findFirst_273 [some (.ref a0), some (.int a1), some (.int a2), some (.int a3), some (.int a4), some (.int a5), some (.int a6), some (.int a7)] [.int b1, .ref b0] h = some r from e) _ _ rfl
def lX12_findFirst_281 : List ra_I := [(281, .iinc 6 (1), 3, 6, 0, 0, (1), 0, []),
  (284, .goto (-115), 3, 169, 0, 0, 0, 0, [])]
set_option maxRecDepth 100000 in
theorem lX12_findFirst_281_ck : lX12_findFirst_281.all (ra_ck mX12_findFirst 12) = true := by decide +kernel
def nX12_findFirst_281 (N : Nat) (c50 : Nat → Int32 → Int32 → Int32 → Int32 → ra_H → Option ra_H) (c169 : Nat → Int32 → Int32 → Int32 → Int32 → Int32 → Int32 → ra_H → Option ra_H) (a0 : Nat) (a1 : Int32) (a2 : Int32) (a3 : Int32) (a4 : Int32) (a5 : Int32) (a6 : Int32) (h : ra_H) : Option ra_H :=
  let y1 := a6 + (1 : Int32)
  c169 a0 a1 a2 a3 a4 a5 y1 h
def kX12_findFirst_281 (N : Nat) (c50 : Nat → Int32 → Int32 → Int32 → Int32 → ra_H → Option ra_H) (c169 : Nat → Int32 → Int32 → Int32 → Int32 → Int32 → Int32 → ra_H → Option ra_H) : Nat → List (Option Value) → List Value → ra_H → Option ra_H := (ra_k1 169 (fun L S h => match L, S with
  | [some (.ref a0), some (.int a1), some (.int a2), some (.int a3), some (.int a4), some (.int a5), some (.int a6), _], [] => c169 a0 a1 a2 a3 a4 a5 a6 h
  | _, _ => none) ra_k0)
theorem kX12_findFirst_281_ok (N : Nat) (c50 : Nat → Int32 → Int32 → Int32 → Int32 → ra_H → Option ra_H) (c169 : Nat → Int32 → Int32 → Int32 → Int32 → Int32 → Int32 → ra_H → Option ra_H) (hc50 : ∀ a0 a1 a2 a3 a4 h r, c50 a0 a1 a2 a3 a4 h = some r → ra_Ru 4 mX12_findFirst 50 [some (.ref a0), some (.int a1), some (.int a2), some (.int a3), some (.int a4), none, none, none] [] h (ra_oV r)) (hc169 : ∀ a0 a1 a2 a3 a4 a5 a6 h r, c169 a0 a1 a2 a3 a4 a5 a6 h = some r → ra_Ru 4 mX12_findFirst 169 [some (.ref a0), some (.int a1), some (.int a2), some (.int a3), some (.int a4), some (.int a5), some (.int a6), none] [] h (ra_oV r)) : ra_kok 4 mX12_findFirst ra_oV (kX12_findFirst_281 N c50 c169) := (ra_k1_ok (by
  intro L S h a e
  split at e
  · exact ra_Ru.weak (hc169 _ _ _ _ _ _ _ _ _ e) ⟨rfl, ⟨rfl, ⟨rfl, ⟨rfl, ⟨rfl, ⟨rfl, ⟨rfl, trivial⟩⟩⟩⟩⟩⟩⟩
  · cases e) ra_k0_ok)
set_option maxRecDepth 100000 in
theorem nX12_findFirst_281_ok (N : Nat) (c50 : Nat → Int32 → Int32 → Int32 → Int32 → ra_H → Option ra_H) (c169 : Nat → Int32 → Int32 → Int32 → Int32 → Int32 → Int32 → ra_H → Option ra_H) (hc50 : ∀ a0 a1 a2 a3 a4 h r, c50 a0 a1 a2 a3 a4 h = some r → ra_Ru 4 mX12_findFirst 50 [some (.ref a0), some (.int a1), some (.int a2), some (.int a3), some (.int a4), none, none, none] [] h (ra_oV r)) (hc169 : ∀ a0 a1 a2 a3 a4 a5 a6 h r, c169 a0 a1 a2 a3 a4 a5 a6 h = some r → ra_Ru 4 mX12_findFirst 169 [some (.ref a0), some (.int a1), some (.int a2), some (.int a3), some (.int a4), some (.int a5), some (.int a6), none] [] h (ra_oV r)) (a0 : Nat) (a1 : Int32) (a2 : Int32) (a3 : Int32) (a4 : Int32) (a5 : Int32) (a6 : Int32) (h : ra_H) (r : ra_H) (e : nX12_findFirst_281 N c50 c169 a0 a1 a2 a3 a4 a5 a6 h = some r) : ra_Ru 4 mX12_findFirst 281 [some (.ref a0), some (.int a1), some (.int a2), some (.int a3), some (.int a4), some (.int a5), some (.int a6), none] [] h (ra_oV r) :=
  ra_sound (by omega) rfl ra_rV_ok (kX12_findFirst_281_ok N c50 c169 hc50 hc169) (fun m av h h1 e => (ra_c0_ok (ro := ra_oV)) m av h h1 e) (fun m av h x h1 e => (tIX12_findFirst_ok N) m av h (x, h1) e) (fun m av h x h1 e => (ra_c0_ok (ro := ra_oJ)) m av h (x, h1) e) (fun m av h x h1 e => (ra_c0_ok (ro := ra_oR)) m av h (x, h1) e) (fun m av h x h1 e => (ra_c0_ok (ro := ra_oN)) m av h (x, h1) e) (fun m av h x h1 e => (ra_c0_ok (ro := ra_oF)) m av h (x, h1) e) 3 lX12_findFirst_281 _ _ _ _ lX12_findFirst_281_ck (show ra_run ra_rV (kX12_findFirst_281 N c50 c169) ra_c0 (tIX12_findFirst N) ra_c0 ra_c0 ra_c0 ra_c0 3 lX12_findFirst_281 [some (.ref a0), some (.int a1), some (.int a2), some (.int a3), some (.int a4), some (.int a5), some (.int a6), none] [] h = some r from e) _ _ rfl
def lX12_findFirst_178 : List ra_I := [(178, .iload 7, 2, 7, 0, 0, 0, 0, []),
  (180, .iload_n 1, 1, 1, 0, 0, 0, 0, []),
  (181, .if_icmp .gt (100), 3, 281, 0, 0, 0, 0, []),
  (184, .aload_n 0, 1, 0, 0, 0, 0, 0, []),
  (185, .getfield 120, 3, 12, 47, 2, 0, 0, []),
  (188, .iload 6, 2, 6, 0, 0, 0, 0, []),
  (190, .baload, 1, 0, 0, 0, 0, 0, []),
  (191, .ifCond .eq (90), 3, 281, 0, 0, 0, 0, []),
  (194, .aload_n 0, 1, 0, 0, 0, 0, 0, []),
  (195, .iload 6, 2, 6, 0, 0, 0, 0, []),
  (197, .iload 7, 2, 7, 0, 0, 0, 0, []),
  (199, .invokevirtual 455, 3, 288, 3, 1, 0, 0, []),
  (202, .ifCond .eq (73), 3, 275, 0, 0, 0, 0, []),
  (205, .aload_n 0, 1, 0, 0, 0, 0, 0, []),
  (206, .iload 4, 2, 4, 0, 0, 0, 0, []),
  (208, .iload 6, 2, 6, 0, 0, 0, 0, []),
  (210, .iload 7, 2, 7, 0, 0, 0, 0, []),
  (212, .invokevirtual 452, 3, 287, 4, 1, 0, 0, []),
  (215, .aload_n 0, 1, 0, 0, 0, 0, 0, []),
  (216, .getfield 111, 3, 12, 44, 2, 0, 0, []),
  (219, .sipush (4096), 3, 0, 0, 0, (4096), 0, []),
  (222, .iload 4, 2, 4, 0, 0, 0, 0, []),
  (224, .imul, 1, 0, 0, 0, 0, 0, []),
  (225, .iload 6, 2, 6, 0, 0, 0, 0, []),
  (227, .iadd, 1, 0, 0, 0, 0, 0, []),
  (228, .iaload, 1, 0, 0, 0, 0, 0, []),
  (229, .if_icmp .ne (46), 3, 275, 0, 0, 0, 0, []),
  (232, .aload_n 0, 1, 0, 0, 0, 0, 0, []),
  (233, .getfield 123, 3, 12, 48, 2, 0, 0, []),
  (236, .aload_n 0, 1, 0, 0, 0, 0, 0, []),
  (237, .iload 6, 2, 6, 0, 0, 0, 0, []),
  (239, .iload 7, 2, 7, 0, 0, 0, 0, []),
  (241, .invokevirtual 464, 3, 290, 3, 1, 0, 0, []),
  (244, .iconst (1), 1, 0, 0, 0, (1), 0, []),
  (245, .bastore, 1, 0, 0, 0, 0, 0, []),
  (246, .aload_n 0, 1, 0, 0, 0, 0, 0, []),
  (247, .getfield 129, 3, 12, 50, 2, 0, 0, []),
  (250, .iload 4, 2, 4, 0, 0, 0, 0, []),
  (252, .aload_n 0, 1, 0, 0, 0, 0, 0, []),
  (253, .getfield 129, 3, 12, 50, 2, 0, 0, []),
  (256, .iload 4, 2, 4, 0, 0, 0, 0, []),
  (258, .baload, 1, 0, 0, 0, 0, 0, []),
  (259, .ifCond .eq (14), 3, 273, 0, 0, 0, 0, []),
  (262, .iload 7, 2, 7, 0, 0, 0, 0, []),
  (264, .iload 5, 2, 5, 0, 0, 0, 0, []),
  (266, .if_icmp .ne (7), 3, 273, 0, 0, 0, 0, []),
  (269, .iconst (1), 1, 0, 0, 0, (1), 0, []),
  (270, .goto (4), 3, 274, 0, 0, 0, 0, [])]
set_option maxRecDepth 100000 in
theorem lX12_findFirst_178_ck : lX12_findFirst_178.all (ra_ck mX12_findFirst 12) = true := by decide +kernel
def nX12_findFirst_178 (N : Nat) (c50 : Nat → Int32 → Int32 → Int32 → Int32 → ra_H → Option ra_H) (c169 : Nat → Int32 → Int32 → Int32 → Int32 → Int32 → Int32 → ra_H → Option ra_H) : Nat → Nat → Int32 → Int32 → Int32 → Int32 → Int32 → Int32 → Int32 → ra_H → Option ra_H
  | 0, _, _, _, _, _, _, _, _, _ => none
  | n + 1, a0, a1, a2, a3, a4, a5, a6, a7, h =>
  if a7 ≤ a1 then
    (ra_fR h 12 a0 47).bind fun x1 =>
    (ra_aI h 2 x1 a6).bind fun x2 =>
    if x2 = 0 then
      nX12_findFirst_281 N c50 c169 a0 a1 a2 a3 a4 a5 a6 h
    else
      (fX12_can N a0 a6 a7 h).bind fun q3 =>
      if q3.1 = 0 then
        nX12_findFirst_275 N c50 c169 (nX12_findFirst_178 N c50 c169 n) a0 a1 a2 a3 a4 a5 a6 a7 q3.2
      else
        (fX12_with N a0 a4 a6 a7 q3.2).bind fun q4 =>
        (ra_fR q4.2 12 a0 44).bind fun x5 =>
        (ra_aI q4.2 0 x5 ((((4096 : Int32)) * a4) + a6)).bind fun x6 =>
        if q4.1 = x6 then
          (ra_fR q4.2 12 a0 48).bind fun x7 =>
          (fX12_after N a0 a6 a7 q4.2).bind fun q8 =>
          (ra_aW q8.2 2 x7 q8.1 (vp_nar .boolean ((1 : Int32)))).bind fun h9 =>
          (ra_fR h9 12 a0 50).bind fun x10 =>
          (ra_fR h9 12 a0 50).bind fun x11 =>
          (ra_aI h9 2 x11 a4).bind fun x12 =>
          if x12 = 0 then
            nX12_findFirst_273 N c50 c169 (nX12_findFirst_178 N c50 c169 n) a0 a1 a2 a3 a4 a5 a6 a7 x10 a4 h9
          else
            if a7 = a5 then
              nX12_findFirst_274 N c50 c169 (nX12_findFirst_178 N c50 c169 n) a0 a1 a2 a3 a4 a5 a6 a7 x10 a4 ((1 : Int32)) h9
            else
              nX12_findFirst_273 N c50 c169 (nX12_findFirst_178 N c50 c169 n) a0 a1 a2 a3 a4 a5 a6 a7 x10 a4 h9
        else
          nX12_findFirst_275 N c50 c169 (nX12_findFirst_178 N c50 c169 n) a0 a1 a2 a3 a4 a5 a6 a7 q4.2
  else
    nX12_findFirst_281 N c50 c169 a0 a1 a2 a3 a4 a5 a6 h
def kX12_findFirst_178 (N : Nat) (c50 : Nat → Int32 → Int32 → Int32 → Int32 → ra_H → Option ra_H) (c169 : Nat → Int32 → Int32 → Int32 → Int32 → Int32 → Int32 → ra_H → Option ra_H) (cs : Nat → Int32 → Int32 → Int32 → Int32 → Int32 → Int32 → Int32 → ra_H → Option ra_H) : Nat → List (Option Value) → List Value → ra_H → Option ra_H := (ra_k1 273 (fun L S h => match L, S with
  | [some (.ref a0), some (.int a1), some (.int a2), some (.int a3), some (.int a4), some (.int a5), some (.int a6), some (.int a7)], [.int b1, .ref b0] => nX12_findFirst_273 N c50 c169 cs a0 a1 a2 a3 a4 a5 a6 a7 b0 b1 h
  | _, _ => none) (ra_k1 274 (fun L S h => match L, S with
  | [some (.ref a0), some (.int a1), some (.int a2), some (.int a3), some (.int a4), some (.int a5), some (.int a6), some (.int a7)], [.int b2, .int b1, .ref b0] => nX12_findFirst_274 N c50 c169 cs a0 a1 a2 a3 a4 a5 a6 a7 b0 b1 b2 h
  | _, _ => none) (ra_k1 275 (fun L S h => match L, S with
  | [some (.ref a0), some (.int a1), some (.int a2), some (.int a3), some (.int a4), some (.int a5), some (.int a6), some (.int a7)], [] => nX12_findFirst_275 N c50 c169 cs a0 a1 a2 a3 a4 a5 a6 a7 h
  | _, _ => none) (ra_k1 281 (fun L S h => match L, S with
  | [some (.ref a0), some (.int a1), some (.int a2), some (.int a3), some (.int a4), some (.int a5), some (.int a6), _], [] => nX12_findFirst_281 N c50 c169 a0 a1 a2 a3 a4 a5 a6 h
  | _, _ => none) ra_k0))))
theorem kX12_findFirst_178_ok (N : Nat) (c50 : Nat → Int32 → Int32 → Int32 → Int32 → ra_H → Option ra_H) (c169 : Nat → Int32 → Int32 → Int32 → Int32 → Int32 → Int32 → ra_H → Option ra_H) (hc50 : ∀ a0 a1 a2 a3 a4 h r, c50 a0 a1 a2 a3 a4 h = some r → ra_Ru 4 mX12_findFirst 50 [some (.ref a0), some (.int a1), some (.int a2), some (.int a3), some (.int a4), none, none, none] [] h (ra_oV r)) (hc169 : ∀ a0 a1 a2 a3 a4 a5 a6 h r, c169 a0 a1 a2 a3 a4 a5 a6 h = some r → ra_Ru 4 mX12_findFirst 169 [some (.ref a0), some (.int a1), some (.int a2), some (.int a3), some (.int a4), some (.int a5), some (.int a6), none] [] h (ra_oV r)) (cs : Nat → Int32 → Int32 → Int32 → Int32 → Int32 → Int32 → Int32 → ra_H → Option ra_H) (hcs : ∀ a0 a1 a2 a3 a4 a5 a6 a7 h r, cs a0 a1 a2 a3 a4 a5 a6 a7 h = some r → ra_Ru 4 mX12_findFirst 178 [some (.ref a0), some (.int a1), some (.int a2), some (.int a3), some (.int a4), some (.int a5), some (.int a6), some (.int a7)] [] h (ra_oV r)) : ra_kok 4 mX12_findFirst ra_oV (kX12_findFirst_178 N c50 c169 cs) := (ra_k1_ok (by
  intro L S h a e
  split at e
  · exact ra_Ru.weak (nX12_findFirst_273_ok N c50 c169 cs hc50 hc169 hcs _ _ _ _ _ _ _ _ _ _ _ _ e) ⟨rfl, ⟨rfl, ⟨rfl, ⟨rfl, ⟨rfl, ⟨rfl, ⟨rfl, ⟨rfl, trivial⟩⟩⟩⟩⟩⟩⟩⟩
  · cases e) (ra_k1_ok (by
  intro L S h a e
  split at e
  · exact ra_Ru.weak (nX12_findFirst_274_ok N c50 c169 cs hc50 hc169 hcs _ _ _ _ _ _ _ _ _ _ _ _ _ e) ⟨rfl, ⟨rfl, ⟨rfl, ⟨rfl, ⟨rfl, ⟨rfl, ⟨rfl, ⟨rfl, trivial⟩⟩⟩⟩⟩⟩⟩⟩
  · cases e) (ra_k1_ok (by
  intro L S h a e
  split at e
  · exact ra_Ru.weak (nX12_findFirst_275_ok N c50 c169 cs hc50 hc169 hcs _ _ _ _ _ _ _ _ _ _ e) ⟨rfl, ⟨rfl, ⟨rfl, ⟨rfl, ⟨rfl, ⟨rfl, ⟨rfl, ⟨rfl, trivial⟩⟩⟩⟩⟩⟩⟩⟩
  · cases e) (ra_k1_ok (by
  intro L S h a e
  split at e
  · exact ra_Ru.weak (nX12_findFirst_281_ok N c50 c169 hc50 hc169 _ _ _ _ _ _ _ _ _ e) ⟨rfl, ⟨rfl, ⟨rfl, ⟨rfl, ⟨rfl, ⟨rfl, ⟨rfl, trivial⟩⟩⟩⟩⟩⟩⟩
  · cases e) ra_k0_ok))))
set_option maxRecDepth 100000 in
theorem nX12_findFirst_178_ok (N : Nat) (c50 : Nat → Int32 → Int32 → Int32 → Int32 → ra_H → Option ra_H) (c169 : Nat → Int32 → Int32 → Int32 → Int32 → Int32 → Int32 → ra_H → Option ra_H) (hc50 : ∀ a0 a1 a2 a3 a4 h r, c50 a0 a1 a2 a3 a4 h = some r → ra_Ru 4 mX12_findFirst 50 [some (.ref a0), some (.int a1), some (.int a2), some (.int a3), some (.int a4), none, none, none] [] h (ra_oV r)) (hc169 : ∀ a0 a1 a2 a3 a4 a5 a6 h r, c169 a0 a1 a2 a3 a4 a5 a6 h = some r → ra_Ru 4 mX12_findFirst 169 [some (.ref a0), some (.int a1), some (.int a2), some (.int a3), some (.int a4), some (.int a5), some (.int a6), none] [] h (ra_oV r)) : ∀ n a0 a1 a2 a3 a4 a5 a6 a7 h r, nX12_findFirst_178 N c50 c169 n a0 a1 a2 a3 a4 a5 a6 a7 h = some r → ra_Ru 4 mX12_findFirst 178 [some (.ref a0), some (.int a1), some (.int a2), some (.int a3), some (.int a4), some (.int a5), some (.int a6), some (.int a7)] [] h (ra_oV r) := by
  intro n
  induction n with
  | zero => intro a0 a1 a2 a3 a4 a5 a6 a7 h r e; cases e
  | succ n ih =>
    intro a0 a1 a2 a3 a4 a5 a6 a7 h r e
    exact ra_sound (by omega) rfl ra_rV_ok (kX12_findFirst_178_ok N c50 c169 hc50 hc169 (nX12_findFirst_178 N c50 c169 n) ih) (fun m av h h1 e => (ra_c0_ok (ro := ra_oV)) m av h h1 e) (fun m av h x h1 e => (tIX12_findFirst_ok N) m av h (x, h1) e) (fun m av h x h1 e => (ra_c0_ok (ro := ra_oJ)) m av h (x, h1) e) (fun m av h x h1 e => (ra_c0_ok (ro := ra_oR)) m av h (x, h1) e) (fun m av h x h1 e => (ra_c0_ok (ro := ra_oN)) m av h (x, h1) e) (fun m av h x h1 e => (ra_c0_ok (ro := ra_oF)) m av h (x, h1) e) 49 lX12_findFirst_178 _ _ _ _ lX12_findFirst_178_ck (show ra_run ra_rV (kX12_findFirst_178 N c50 c169 (nX12_findFirst_178 N c50 c169 n)) ra_c0 (tIX12_findFirst N) ra_c0 ra_c0 ra_c0 ra_c0 49 lX12_findFirst_178 [some (.ref a0), some (.int a1), some (.int a2), some (.int a3), some (.int a4), some (.int a5), some (.int a6), some (.int a7)] [] h = some r from e) _ _ rfl
def lX12_findFirst_290 : List ra_I := [(290, .iload 6, 2, 6, 0, 0, 0, 0, []),
  (292, .iload_n 2, 1, 2, 0, 0, 0, 0, []),
  (293, .if_icmp .ge (23), 3, 316, 0, 0, 0, 0, []),
  (296, .aload_n 0, 1, 0, 0, 0, 0, 0, []),
  (297, .getfield 120, 3, 12, 47, 2, 0, 0, []),
  (300, .iload 6, 2, 6, 0, 0, 0, 0, []),
  (302, .aload_n 0, 1, 0, 0, 0, 0, 0, []),
  (303, .getfield 123, 3, 12, 48, 2, 0, 0, []),
  (306, .iload 6, 2, 6, 0, 0, 0, 0, []),
  (308, .baload, 1, 0, 0, 0, 0, 0, []),
  (309, .bastore, 1, 0, 0, 0, 0, 0, []),
  (310, .iinc 6 (1), 3, 6, 0, 0, (1), 0, []),
  (313, .goto (-23), 3, 290, 0, 0, 0, 0, []),
  (316, .aload_n 0, 1, 0, 0, 0, 0, 0, []),
  (317, .iload_n 3, 1, 3, 0, 0, 0, 0, []),
  (318, .iload 5, 2, 5, 0, 0, 0, 0, []),
  (320, .invokevirtual 464, 3, 290, 3, 1, 0, 0, []),
  (323, .istore_n 3, 1, 3, 0, 0, 0, 0, []),
  (324, .iinc 4 (1), 3, 4, 0, 0, (1), 0, []),
  (327, .goto (-277), 3, 50, 0, 0, 0, 0, [])]
set_option maxRecDepth 100000 in
theorem lX12_findFirst_290_ck : lX12_findFirst_290.all (ra_ck mX12_findFirst 12) = true := by decide +kernel
def nX12_findFirst_290 (N : Nat) (c50 : Nat → Int32 → Int32 → Int32 → Int32 → ra_H → Option ra_H) : Nat → Nat → Int32 → Int32 → Int32 → Int32 → Int32 → Int32 → ra_H → Option ra_H
  | 0, _, _, _, _, _, _, _, _ => none
  | n + 1, a0, a1, a2, a3, a4, a5, a6, h =>
  if a6 < a2 then
    (ra_fR h 12 a0 47).bind fun x3 =>
    (ra_fR h 12 a0 48).bind fun x4 =>
    (ra_aI h 2 x4 a6).bind fun x5 =>
    (ra_aW h 2 x3 a6 (vp_nar .boolean x5)).bind fun h6 =>
    let y7 := a6 + (1 : Int32)
    nX12_findFirst_290 N c50 n a0 a1 a2 a3 a4 a5 y7 h6
  else
    (fX12_after N a0 a3 a5 h).bind fun q1 =>
    let y2 := a4 + (1 : Int32)
    c50 a0 a1 a2 q1.1 y2 q1.2
def kX12_findFirst_290 (N : Nat) (c50 : Nat → Int32 → Int32 → Int32 → Int32 → ra_H → Option ra_H) (cs : Nat → Int32 → Int32 → Int32 → Int32 → Int32 → Int32 → ra_H → Option ra_H) : Nat → List (Option Value) → List Value → ra_H → Option ra_H := (ra_k1 50 (fun L S h => match L, S with
  | [some (.ref a0), some (.int a1), some (.int a2), some (.int a3), some (.int a4), _, _, _], [] => c50 a0 a1 a2 a3 a4 h
  | _, _ => none) (ra_k1 290 (fun L S h => match L, S with
  | [some (.ref a0), some (.int a1), some (.int a2), some (.int a3), some (.int a4), some (.int a5), some (.int a6), _], [] => cs a0 a1 a2 a3 a4 a5 a6 h
  | _, _ => none) ra_k0))
theorem kX12_findFirst_290_ok (N : Nat) (c50 : Nat → Int32 → Int32 → Int32 → Int32 → ra_H → Option ra_H) (hc50 : ∀ a0 a1 a2 a3 a4 h r, c50 a0 a1 a2 a3 a4 h = some r → ra_Ru 4 mX12_findFirst 50 [some (.ref a0), some (.int a1), some (.int a2), some (.int a3), some (.int a4), none, none, none] [] h (ra_oV r)) (cs : Nat → Int32 → Int32 → Int32 → Int32 → Int32 → Int32 → ra_H → Option ra_H) (hcs : ∀ a0 a1 a2 a3 a4 a5 a6 h r, cs a0 a1 a2 a3 a4 a5 a6 h = some r → ra_Ru 4 mX12_findFirst 290 [some (.ref a0), some (.int a1), some (.int a2), some (.int a3), some (.int a4), some (.int a5), some (.int a6), none] [] h (ra_oV r)) : ra_kok 4 mX12_findFirst ra_oV (kX12_findFirst_290 N c50 cs) := (ra_k1_ok (by
  intro L S h a e
  split at e
  · exact ra_Ru.weak (hc50 _ _ _ _ _ _ _ e) ⟨rfl, ⟨rfl, ⟨rfl, ⟨rfl, ⟨rfl, trivial⟩⟩⟩⟩⟩
  · cases e) (ra_k1_ok (by
  intro L S h a e
  split at e
  · exact ra_Ru.weak (hcs _ _ _ _ _ _ _ _ _ e) ⟨rfl, ⟨rfl, ⟨rfl, ⟨rfl, ⟨rfl, ⟨rfl, ⟨rfl, trivial⟩⟩⟩⟩⟩⟩⟩
  · cases e) ra_k0_ok))
set_option maxRecDepth 100000 in
theorem nX12_findFirst_290_ok (N : Nat) (c50 : Nat → Int32 → Int32 → Int32 → Int32 → ra_H → Option ra_H) (hc50 : ∀ a0 a1 a2 a3 a4 h r, c50 a0 a1 a2 a3 a4 h = some r → ra_Ru 4 mX12_findFirst 50 [some (.ref a0), some (.int a1), some (.int a2), some (.int a3), some (.int a4), none, none, none] [] h (ra_oV r)) : ∀ n a0 a1 a2 a3 a4 a5 a6 h r, nX12_findFirst_290 N c50 n a0 a1 a2 a3 a4 a5 a6 h = some r → ra_Ru 4 mX12_findFirst 290 [some (.ref a0), some (.int a1), some (.int a2), some (.int a3), some (.int a4), some (.int a5), some (.int a6), none] [] h (ra_oV r) := by
  intro n
  induction n with
  | zero => intro a0 a1 a2 a3 a4 a5 a6 h r e; cases e
  | succ n ih =>
    intro a0 a1 a2 a3 a4 a5 a6 h r e
    exact ra_sound (by omega) rfl ra_rV_ok (kX12_findFirst_290_ok N c50 hc50 (nX12_findFirst_290 N c50 n) ih) (fun m av h h1 e => (ra_c0_ok (ro := ra_oV)) m av h h1 e) (fun m av h x h1 e => (tIX12_findFirst_ok N) m av h (x, h1) e) (fun m av h x h1 e => (ra_c0_ok (ro := ra_oJ)) m av h (x, h1) e) (fun m av h x h1 e => (ra_c0_ok (ro := ra_oR)) m av h (x, h1) e) (fun m av h x h1 e => (ra_c0_ok (ro := ra_oN)) m av h (x, h1) e) (fun m av h x h1 e => (ra_c0_ok (ro := ra_oF)) m av h (x, h1) e) 21 lX12_findFirst_290 _ _ _ _ lX12_findFirst_290_ck (show ra_run ra_rV (kX12_findFirst_290 N c50 (nX12_findFirst_290 N c50 n)) ra_c0 (tIX12_findFirst N) ra_c0 ra_c0 ra_c0 ra_c0 21 lX12_findFirst_290 [some (.ref a0), some (.int a1), some (.int a2), some (.int a3), some (.int a4), some (.int a5), some (.int a6), none] [] h = some r from e) _ _ rfl
def lX12_findFirst_169 : List ra_I := [(169, .iload 6, 2, 6, 0, 0, 0, 0, []),
  (171, .iload_n 2, 1, 2, 0, 0, 0, 0, []),
  (172, .if_icmp .ge (115), 3, 287, 0, 0, 0, 0, []),
  (175, .iconst (0), 1, 0, 0, 0, (0), 0, []),
  (176, .istore 7, 2, 7, 0, 0, 0, 0, []),
  (287, .iconst (0), 1, 0, 0, 0, (0), 0, []),
  (288, .istore 6, 2, 6, 0, 0, 0, 0, [])]
set_option maxRecDepth 100000 in
theorem lX12_findFirst_169_ck : lX12_findFirst_169.all (ra_ck mX12_findFirst 12) = true := by decide +kernel
def nX12_findFirst_169 (N : Nat) (c50 : Nat → Int32 → Int32 → Int32 → Int32 → ra_H → Option ra_H) : Nat → Nat → Int32 → Int32 → Int32 → Int32 → Int32 → Int32 → ra_H → Option ra_H
  | 0, _, _, _, _, _, _, _, _ => none
  | n + 1, a0, a1, a2, a3, a4, a5, a6, h =>
  if a6 < a2 then
    nX12_findFirst_178 N c50 (nX12_findFirst_169 N c50 n) N a0 a1 a2 a3 a4 a5 a6 ((0 : Int32)) h
  else
    nX12_findFirst_290 N c50 N a0 a1 a2 a3 a4 a5 ((0 : Int32)) h
def kX12_findFirst_169 (N : Nat) (c50 : Nat → Int32 → Int32 → Int32 → Int32 → ra_H → Option ra_H) (cs : Nat → Int32 → Int32 → Int32 → Int32 → Int32 → Int32 → ra_H → Option ra_H) : Nat → List (Option Value) → List Value → ra_H → Option ra_H := (ra_k1 178 (fun L S h => match L, S with
  | [some (.ref a0), some (.int a1), some (.int a2), some (.int a3), some (.int a4), some (.int a5), some (.int a6), some (.int a7)], [] => nX12_findFirst_178 N c50 cs N a0 a1 a2 a3 a4 a5 a6 a7 h
  | _, _ => none) (ra_k1 290 (fun L S h => match L, S with
  | [some (.ref a0), some (.int a1), some (.int a2), some (.int a3), some (.int a4), some (.int a5), some (.int a6), _], [] => nX12_findFirst_290 N c50 N a0 a1 a2 a3 a4 a5 a6 h
  | _, _ => none) ra_k0))
theorem kX12_findFirst_169_ok (N : Nat) (c50 : Nat → Int32 → Int32 → Int32 → Int32 → ra_H → Option ra_H) (hc50 : ∀ a0 a1 a2 a3 a4 h r, c50 a0 a1 a2 a3 a4 h = some r → ra_Ru 4 mX12_findFirst 50 [some (.ref a0), some (.int a1), some (.int a2), some (.int a3), some (.int a4), none, none, none] [] h (ra_oV r)) (cs : Nat → Int32 → Int32 → Int32 → Int32 → Int32 → Int32 → ra_H → Option ra_H) (hcs : ∀ a0 a1 a2 a3 a4 a5 a6 h r, cs a0 a1 a2 a3 a4 a5 a6 h = some r → ra_Ru 4 mX12_findFirst 169 [some (.ref a0), some (.int a1), some (.int a2), some (.int a3), some (.int a4), some (.int a5), some (.int a6), none] [] h (ra_oV r)) : ra_kok 4 mX12_findFirst ra_oV (kX12_findFirst_169 N c50 cs) := (ra_k1_ok (by
  intro L S h a e
  split at e
  · exact ra_Ru.weak (nX12_findFirst_178_ok N c50 cs hc50 hcs N _ _ _ _ _ _ _ _ _ _ e) ⟨rfl, ⟨rfl, ⟨rfl, ⟨rfl, ⟨rfl, ⟨rfl, ⟨rfl, ⟨rfl, trivial⟩⟩⟩⟩⟩⟩⟩⟩
  · cases e) (ra_k1_ok (by
  intro L S h a e
  split at e
  · exact ra_Ru.weak (nX12_findFirst_290_ok N c50 hc50 N _ _ _ _ _ _ _ _ _ e) ⟨rfl, ⟨rfl, ⟨rfl, ⟨rfl, ⟨rfl, ⟨rfl, ⟨rfl, trivial⟩⟩⟩⟩⟩⟩⟩
  · cases e) ra_k0_ok))
set_option maxRecDepth 100000 in
theorem nX12_findFirst_169_ok (N : Nat) (c50 : Nat → Int32 → Int32 → Int32 → Int32 → ra_H → Option ra_H) (hc50 : ∀ a0 a1 a2 a3 a4 h r, c50 a0 a1 a2 a3 a4 h = some r → ra_Ru 4 mX12_findFirst 50 [some (.ref a0), some (.int a1), some (.int a2), some (.int a3), some (.int a4), none, none, none] [] h (ra_oV r)) : ∀ n a0 a1 a2 a3 a4 a5 a6 h r, nX12_findFirst_169 N c50 n a0 a1 a2 a3 a4 a5 a6 h = some r → ra_Ru 4 mX12_findFirst 169 [some (.ref a0), some (.int a1), some (.int a2), some (.int a3), some (.int a4), some (.int a5), some (.int a6), none] [] h (ra_oV r) := by
  intro n
  induction n with
  | zero => intro a0 a1 a2 a3 a4 a5 a6 h r e; cases e
  | succ n ih =>
    intro a0 a1 a2 a3 a4 a5 a6 h r e
    exact ra_sound (by omega) rfl ra_rV_ok (kX12_findFirst_169_ok N c50 hc50 (nX12_findFirst_169 N c50 n) ih) (fun m av h h1 e => (ra_c0_ok (ro := ra_oV)) m av h h1 e) (fun m av h x h1 e => (tIX12_findFirst_ok N) m av h (x, h1) e) (fun m av h x h1 e => (ra_c0_ok (ro := ra_oJ)) m av h (x, h1) e) (fun m av h x h1 e => (ra_c0_ok (ro := ra_oR)) m av h (x, h1) e) (fun m av h x h1 e => (ra_c0_ok (ro := ra_oN)) m av h (x, h1) e) (fun m av h x h1 e => (ra_c0_ok (ro := ra_oF)) m av h (x, h1) e) 8 lX12_findFirst_169 _ _ _ _ lX12_findFirst_169_ck (show ra_run ra_rV (kX12_findFirst_169 N c50 (nX12_findFirst_169 N c50 n)) ra_c0 (tIX12_findFirst N) ra_c0 ra_c0 ra_c0 ra_c0 8 lX12_findFirst_169 [some (.ref a0), some (.int a1), some (.int a2), some (.int a3), some (.int a4), some (.int a5), some (.int a6), none] [] h = some r from e) _ _ rfl
def lX12_findFirst_146 : List ra_I := [(146, .iload 6, 2, 6, 0, 0, 0, 0, []),
  (148, .iload_n 2, 1, 2, 0, 0, 0, 0, []),
  (149, .if_icmp .ge (17), 3, 166, 0, 0, 0, 0, []),
  (152, .aload_n 0, 1, 0, 0, 0, 0, 0, []),
  (153, .getfield 123, 3, 12, 48, 2, 0, 0, []),
  (156, .iload 6, 2, 6, 0, 0, 0, 0, []),
  (158, .iconst (0), 1, 0, 0, 0, (0), 0, []),
  (159, .bastore, 1, 0, 0, 0, 0, 0, []),
  (160, .iinc 6 (1), 3, 6, 0, 0, (1), 0, []),
  (163, .goto (-17), 3, 146, 0, 0, 0, 0, []),
  (166, .iconst (0), 1, 0, 0, 0, (0), 0, []),
  (167, .istore 6, 2, 6, 0, 0, 0, 0, [])]
set_option maxRecDepth 100000 in
theorem lX12_findFirst_146_ck : lX12_findFirst_146.all (ra_ck mX12_findFirst 12) = true := by decide +kernel
def nX12_findFirst_146 (N : Nat) (c50 : Nat → Int32 → Int32 → Int32 → Int32 → ra_H → Option ra_H) : Nat → Nat → Int32 → Int32 → Int32 → Int32 → Int32 → Int32 → ra_H → Option ra_H
  | 0, _, _, _, _, _, _, _, _ => none
  | n + 1, a0, a1, a2, a3, a4, a5, a6, h =>
  if a6 < a2 then
    (ra_fR h 12 a0 48).bind fun x1 =>
    (ra_aW h 2 x1 a6 (vp_nar .boolean ((0 : Int32)))).bind fun h2 =>
    let y3 := a6 + (1 : Int32)
    nX12_findFirst_146 N c50 n a0 a1 a2 a3 a4 a5 y3 h2
  else
    nX12_findFirst_169 N c50 N a0 a1 a2 a3 a4 a5 ((0 : Int32)) h
def kX12_findFirst_146 (N : Nat) (c50 : Nat → Int32 → Int32 → Int32 → Int32 → ra_H → Option ra_H) (cs : Nat → Int32 → Int32 → Int32 → Int32 → Int32 → Int32 → ra_H → Option ra_H) : Nat → List (Option Value) → List Value → ra_H → Option ra_H := (ra_k1 146 (fun L S h => match L, S with
  | [some (.ref a0), some (.int a1), some (.int a2), some (.int a3), some (.int a4), some (.int a5), some (.int a6), _], [] => cs a0 a1 a2 a3 a4 a5 a6 h
  | _, _ => none) (ra_k1 169 (fun L S h => match L, S with
  | [some (.ref a0), some (.int a1), some (.int a2), some (.int a3), some (.int a4), some (.int a5), some (.int a6), _], [] => nX12_findFirst_169 N c50 N a0 a1 a2 a3 a4 a5 a6 h
  | _, _ => none) ra_k0))
theorem kX12_findFirst_146_ok (N : Nat) (c50 : Nat → Int32 → Int32 → Int32 → Int32 → ra_H → Option ra_H) (hc50 : ∀ a0 a1 a2 a3 a4 h r, c50 a0 a1 a2 a3 a4 h = some r → ra_Ru 4 mX12_findFirst 50 [some (.ref a0), some (.int a1), some (.int a2), some (.int a3), some (.int a4), none, none, none] [] h (ra_oV r)) (cs : Nat → Int32 → Int32 → Int32 → Int32 → Int32 → Int32 → ra_H → Option ra_H) (hcs : ∀ a0 a1 a2 a3 a4 a5 a6 h r, cs a0 a1 a2 a3 a4 a5 a6 h = some r → ra_Ru 4 mX12_findFirst 146 [some (.ref a0), some (.int a1), some (.int a2), some (.int a3), some (.int a4), some (.int a5), some (.int a6), none] [] h (ra_oV r)) : ra_kok 4 mX12_findFirst ra_oV (kX12_findFirst_146 N c50 cs) := (ra_k1_ok (by
  intro L S h a e
  split at e
  · exact ra_Ru.weak (hcs _ _ _ _ _ _ _ _ _ e) ⟨rfl, ⟨rfl, ⟨rfl, ⟨rfl, ⟨rfl, ⟨rfl, ⟨rfl, trivial⟩⟩⟩⟩⟩⟩⟩
  · cases e) (ra_k1_ok (by
  intro L S h a e
  split at e
  · exact ra_Ru.weak (nX12_findFirst_169_ok N c50 hc50 N _ _ _ _ _ _ _ _ _ e) ⟨rfl, ⟨rfl, ⟨rfl, ⟨rfl, ⟨rfl, ⟨rfl, ⟨rfl, trivial⟩⟩⟩⟩⟩⟩⟩
  · cases e) ra_k0_ok))
set_option maxRecDepth 100000 in
theorem nX12_findFirst_146_ok (N : Nat) (c50 : Nat → Int32 → Int32 → Int32 → Int32 → ra_H → Option ra_H) (hc50 : ∀ a0 a1 a2 a3 a4 h r, c50 a0 a1 a2 a3 a4 h = some r → ra_Ru 4 mX12_findFirst 50 [some (.ref a0), some (.int a1), some (.int a2), some (.int a3), some (.int a4), none, none, none] [] h (ra_oV r)) : ∀ n a0 a1 a2 a3 a4 a5 a6 h r, nX12_findFirst_146 N c50 n a0 a1 a2 a3 a4 a5 a6 h = some r → ra_Ru 4 mX12_findFirst 146 [some (.ref a0), some (.int a1), some (.int a2), some (.int a3), some (.int a4), some (.int a5), some (.int a6), none] [] h (ra_oV r) := by
  intro n
  induction n with
  | zero => intro a0 a1 a2 a3 a4 a5 a6 h r e; cases e
  | succ n ih =>
    intro a0 a1 a2 a3 a4 a5 a6 h r e
    exact ra_sound (by omega) rfl ra_rV_ok (kX12_findFirst_146_ok N c50 hc50 (nX12_findFirst_146 N c50 n) ih) (fun m av h h1 e => (ra_c0_ok (ro := ra_oV)) m av h h1 e) (fun m av h x h1 e => (tIX12_findFirst_ok N) m av h (x, h1) e) (fun m av h x h1 e => (ra_c0_ok (ro := ra_oJ)) m av h (x, h1) e) (fun m av h x h1 e => (ra_c0_ok (ro := ra_oR)) m av h (x, h1) e) (fun m av h x h1 e => (ra_c0_ok (ro := ra_oN)) m av h (x, h1) e) (fun m av h x h1 e => (ra_c0_ok (ro := ra_oF)) m av h (x, h1) e) 13 lX12_findFirst_146 _ _ _ _ lX12_findFirst_146_ck (show ra_run ra_rV (kX12_findFirst_146 N c50 (nX12_findFirst_146 N c50 n)) ra_c0 (tIX12_findFirst N) ra_c0 ra_c0 ra_c0 ra_c0 13 lX12_findFirst_146 [some (.ref a0), some (.int a1), some (.int a2), some (.int a3), some (.int a4), some (.int a5), some (.int a6), none] [] h = some r from e) _ _ rfl
def lX12_findFirst_71 : List ra_I := [(71, .iload 6, 2, 6, 0, 0, 0, 0, []),
  (73, .ifCond .lt (53), 3, 126, 0, 0, 0, 0, []),
  (76, .aload_n 0, 1, 0, 0, 0, 0, 0, []),
  (77, .iload_n 3, 1, 3, 0, 0, 0, 0, []),
  (78, .iload 6, 2, 6, 0, 0, 0, 0, []),
  (80, .invokevirtual 455, 3, 288, 3, 1, 0, 0, []),
  (83, .ifCond .eq (33), 3, 116, 0, 0, 0, 0, []),
  (86, .aload_n 0, 1, 0, 0, 0, 0, 0, []),
  (87, .iload 4, 2, 4, 0, 0, 0, 0, []),
  (89, .iload_n 3, 1, 3, 0, 0, 0, 0, []),
  (90, .iload 6, 2, 6, 0, 0, 0, 0, []),
  (92, .invokevirtual 452, 3, 287, 4, 1, 0, 0, []),
  (95, .aload_n 0, 1, 0, 0, 0, 0, 0, []),
  (96, .getfield 111, 3, 12, 44, 2, 0, 0, []),
  (99, .sipush (4096), 3, 0, 0, 0, (4096), 0, []),
  (102, .iload 4, 2, 4, 0, 0, 0, 0, []),
  (104, .imul, 1, 0, 0, 0, 0, 0, []),
  (105, .iload_n 3, 1, 3, 0, 0, 0, 0, []),
  (106, .iadd, 1, 0, 0, 0, 0, 0, []),
  (107, .iaload, 1, 0, 0, 0, 0, 0, []),
  (108, .if_icmp .ne (8), 3, 116, 0, 0, 0, 0, []),
  (111, .iload 6, 2, 6, 0, 0, 0, 0, []),
  (113, .goto (5), 3, 118, 0, 0, 0, 0, []),
  (126, .aload_n 0, 1, 0, 0, 0, 0, 0, []),
  (127, .getfield 126, 3, 12, 49, 2, 0, 0, []),
  (130, .iload 4, 2, 4, 0, 0, 0, 0, []),
  (132, .iload 5, 2, 5, 0, 0, 0, 0, []),
  (134, .iastore, 1, 0, 0, 0, 0, 0, []),
  (135, .aload_n 0, 1, 0, 0, 0, 0, 0, []),
  (136, .getfield 129, 3, 12, 50, 2, 0, 0, []),
  (139, .iload 4, 2, 4, 0, 0, 0, 0, []),
  (141, .iconst (1), 1, 0, 0, 0, (1), 0, []),
  (142, .bastore, 1, 0, 0, 0, 0, 0, []),
  (143, .iconst (0), 1, 0, 0, 0, (0), 0, []),
  (144, .istore 6, 2, 6, 0, 0, 0, 0, [])]
set_option maxRecDepth 100000 in
theorem lX12_findFirst_71_ck : lX12_findFirst_71.all (ra_ck mX12_findFirst 12) = true := by decide +kernel
def nX12_findFirst_71 (N : Nat) (c50 : Nat → Int32 → Int32 → Int32 → Int32 → ra_H → Option ra_H) : Nat → Nat → Int32 → Int32 → Int32 → Int32 → Int32 → Int32 → ra_H → Option ra_H
  | 0, _, _, _, _, _, _, _, _ => none
  | n + 1, a0, a1, a2, a3, a4, a5, a6, h =>
  if a6 < 0 then
    (ra_fR h 12 a0 49).bind fun x1 =>
    (ra_aW h 0 x1 a4 a5).bind fun h2 =>
    (ra_fR h2 12 a0 50).bind fun x3 =>
    (ra_aW h2 2 x3 a4 (vp_nar .boolean ((1 : Int32)))).bind fun h4 =>
    nX12_findFirst_146 N c50 N a0 a1 a2 a3 a4 a5 ((0 : Int32)) h4
  else
    (fX12_can N a0 a3 a6 h).bind fun q5 =>
    if q5.1 = 0 then
      nX12_findFirst_116 N c50 (nX12_findFirst_71 N c50 n) a0 a1 a2 a3 a4 a5 a6 q5.2
    else
      (fX12_with N a0 a4 a3 a6 q5.2).bind fun q6 =>
      (ra_fR q6.2 12 a0 44).bind fun x7 =>
      (ra_aI q6.2 0 x7 ((((4096 : Int32)) * a4) + a3)).bind fun x8 =>
      if q6.1 = x8 then
        nX12_findFirst_118 N c50 (nX12_findFirst_71 N c50 n) a0 a1 a2 a3 a4 a6 a6 q6.2
      else
        nX12_findFirst_116 N c50 (nX12_findFirst_71 N c50 n) a0 a1 a2 a3 a4 a5 a6 q6.2
def kX12_findFirst_71 (N : Nat) (c50 : Nat → Int32 → Int32 → Int32 → Int32 → ra_H → Option ra_H) (cs : Nat → Int32 → Int32 → Int32 → Int32 → Int32 → Int32 → ra_H → Option ra_H) : Nat → List (Option Value) → List Value → ra_H → Option ra_H := (ra_k1 116 (fun L S h => match L, S with
  | [some (.ref a0), some (.int a1), some (.int a2), some (.int a3), some (.int a4), some (.int a5), some (.int a6), _], [] => nX12_findFirst_116 N c50 cs a0 a1 a2 a3 a4 a5 a6 h
  | _, _ => none) (ra_k1 118 (fun L S h => match L, S with
  | [some (.ref a0), some (.int a1), some (.int a2), some (.int a3), some (.int a4), _, some (.int a6), _], [.int b0] => nX12_findFirst_118 N c50 cs a0 a1 a2 a3 a4 a6 b0 h
  | _, _ => none) (ra_k1 146 (fun L S h => match L, S with
  | [some (.ref a0), some (.int a1), some (.int a2), some (.int a3), some (.int a4), some (.int a5), some (.int a6), _], [] => nX12_findFirst_146 N c50 N a0 a1 a2 a3 a4 a5 a6 h
  | _, _ => none) ra_k0)))
theorem kX12_findFirst_71_ok (N : Nat) (c50 : Nat → Int32 → Int32 → Int32 → Int32 → ra_H → Option ra_H) (hc50 : ∀ a0 a1 a2 a3 a4 h r, c50 a0 a1 a2 a3 a4 h = some r → ra_Ru 4 mX12_findFirst 50 [some (.ref a0), some (.int a1), some (.int a2), some (.int a3), some (.int a4), none, none, none] [] h (ra_oV r)) (cs : Nat → Int32 → Int32 → Int32 → Int32 → Int32 → Int32 → ra_H → Option ra_H) (hcs : ∀ a0 a1 a2 a3 a4 a5 a6 h r, cs a0 a1 a2 a3 a4 a5 a6 h = some r → ra_Ru 4 mX12_findFirst 71 [some (.ref a0), some (.int a1), some (.int a2), some (.int a3), some (.int a4), some (.int a5), some (.int a6), none] [] h (ra_oV r)) : ra_kok 4 mX12_findFirst ra_oV (kX12_findFirst_71 N c50 cs) := (ra_k1_ok (by
  intro L S h a e
  split at e
  · exact ra_Ru.weak (nX12_findFirst_116_ok N c50 cs hc50 hcs _ _ _ _ _ _ _ _ _ e) ⟨rfl, ⟨rfl, ⟨rfl, ⟨rfl, ⟨rfl, ⟨rfl, ⟨rfl, trivial⟩⟩⟩⟩⟩⟩⟩
  · cases e) (ra_k1_ok (by
  intro L S h a e
  split at e
  · exact ra_Ru.weak (nX12_findFirst_118_ok N c50 cs hc50 hcs _ _ _ _ _ _ _ _ _ e) ⟨rfl, ⟨rfl, ⟨rfl, ⟨rfl, ⟨rfl, ⟨rfl, trivial⟩⟩⟩⟩⟩⟩
  · cases e) (ra_k1_ok (by
  intro L S h a e
  split at e
  · exact ra_Ru.weak (nX12_findFirst_146_ok N c50 hc50 N _ _ _ _ _ _ _ _ _ e) ⟨rfl, ⟨rfl, ⟨rfl, ⟨rfl, ⟨rfl, ⟨rfl, ⟨rfl, trivial⟩⟩⟩⟩⟩⟩⟩
  · cases e) ra_k0_ok)))
set_option maxRecDepth 100000 in
theorem nX12_findFirst_71_ok (N : Nat) (c50 : Nat → Int32 → Int32 → Int32 → Int32 → ra_H → Option ra_H) (hc50 : ∀ a0 a1 a2 a3 a4 h r, c50 a0 a1 a2 a3 a4 h = some r → ra_Ru 4 mX12_findFirst 50 [some (.ref a0), some (.int a1), some (.int a2), some (.int a3), some (.int a4), none, none, none] [] h (ra_oV r)) : ∀ n a0 a1 a2 a3 a4 a5 a6 h r, nX12_findFirst_71 N c50 n a0 a1 a2 a3 a4 a5 a6 h = some r → ra_Ru 4 mX12_findFirst 71 [some (.ref a0), some (.int a1), some (.int a2), some (.int a3), some (.int a4), some (.int a5), some (.int a6), none] [] h (ra_oV r) := by
  intro n
  induction n with
  | zero => intro a0 a1 a2 a3 a4 a5 a6 h r e; cases e
  | succ n ih =>
    intro a0 a1 a2 a3 a4 a5 a6 h r e
    exact ra_sound (by omega) rfl ra_rV_ok (kX12_findFirst_71_ok N c50 hc50 (nX12_findFirst_71 N c50 n) ih) (fun m av h h1 e => (ra_c0_ok (ro := ra_oV)) m av h h1 e) (fun m av h x h1 e => (tIX12_findFirst_ok N) m av h (x, h1) e) (fun m av h x h1 e => (ra_c0_ok (ro := ra_oJ)) m av h (x, h1) e) (fun m av h x h1 e => (ra_c0_ok (ro := ra_oR)) m av h (x, h1) e) (fun m av h x h1 e => (ra_c0_ok (ro := ra_oN)) m av h (x, h1) e) (fun m av h x h1 e => (ra_c0_ok (ro := ra_oF)) m av h (x, h1) e) 36 lX12_findFirst_71 _ _ _ _ lX12_findFirst_71_ck (show ra_run ra_rV (kX12_findFirst_71 N c50 (nX12_findFirst_71 N c50 n)) ra_c0 (tIX12_findFirst N) ra_c0 ra_c0 ra_c0 ra_c0 36 lX12_findFirst_71 [some (.ref a0), some (.int a1), some (.int a2), some (.int a3), some (.int a4), some (.int a5), some (.int a6), none] [] h = some r from e) _ _ rfl
def lX12_findFirst_50 : List ra_I := [(50, .iload 4, 2, 4, 0, 0, 0, 0, []),
  (52, .aload_n 0, 1, 0, 0, 0, 0, 0, []),
  (53, .getfield 13, 3, 12, 3, 2, 0, 0, []),
  (56, .sipush (480), 3, 0, 0, 0, (480), 0, []),
  (59, .iaload, 1, 0, 0, 0, 0, 0, []),
  (60, .if_icmp .ge (270), 3, 330, 0, 0, 0, 0, []),
  (63, .iload_n 1, 1, 1, 0, 0, 0, 0, []),
  (64, .istore 5, 2, 5, 0, 0, 0, 0, []),
  (66, .iload_n 1, 1, 1, 0, 0, 0, 0, []),
  (67, .iconst (1), 1, 0, 0, 0, (1), 0, []),
  (68, .isub, 1, 0, 0, 0, 0, 0, []),
  (69, .istore 6, 2, 6, 0, 0, 0, 0, []),
  (330, .return_, 1, 0, 0, 0, 0, 0, [])]
set_option maxRecDepth 100000 in
theorem lX12_findFirst_50_ck : lX12_findFirst_50.all (ra_ck mX12_findFirst 12) = true := by decide +kernel
def nX12_findFirst_50 (N : Nat) : Nat → Nat → Int32 → Int32 → Int32 → Int32 → ra_H → Option ra_H
  | 0, _, _, _, _, _, _ => none
  | n + 1, a0, a1, a2, a3, a4, h =>
  (ra_fR h 12 a0 3).bind fun x1 =>
  (ra_aI h 0 x1 ((480 : Int32))).bind fun x2 =>
  if a4 < x2 then
    let y3 := a1 - ((1 : Int32))
    nX12_findFirst_71 N (nX12_findFirst_50 N n) N a0 a1 a2 a3 a4 a1 y3 h
  else
    some h
def kX12_findFirst_50 (N : Nat) (cs : Nat → Int32 → Int32 → Int32 → Int32 → ra_H → Option ra_H) : Nat → List (Option Value) → List Value → ra_H → Option ra_H := (ra_k1 71 (fun L S h => match L, S with
  | [some (.ref a0), some (.int a1), some (.int a2), some (.int a3), some (.int a4), some (.int a5), some (.int a6), _], [] => nX12_findFirst_71 N cs N a0 a1 a2 a3 a4 a5 a6 h
  | _, _ => none) ra_k0)
theorem kX12_findFirst_50_ok (N : Nat) (cs : Nat → Int32 → Int32 → Int32 → Int32 → ra_H → Option ra_H) (hcs : ∀ a0 a1 a2 a3 a4 h r, cs a0 a1 a2 a3 a4 h = some r → ra_Ru 4 mX12_findFirst 50 [some (.ref a0), some (.int a1), some (.int a2), some (.int a3), some (.int a4), none, none, none] [] h (ra_oV r)) : ra_kok 4 mX12_findFirst ra_oV (kX12_findFirst_50 N cs) := (ra_k1_ok (by
  intro L S h a e
  split at e
  · exact ra_Ru.weak (nX12_findFirst_71_ok N cs hcs N _ _ _ _ _ _ _ _ _ e) ⟨rfl, ⟨rfl, ⟨rfl, ⟨rfl, ⟨rfl, ⟨rfl, ⟨rfl, trivial⟩⟩⟩⟩⟩⟩⟩
  · cases e) ra_k0_ok)
set_option maxRecDepth 100000 in
theorem nX12_findFirst_50_ok (N : Nat) : ∀ n a0 a1 a2 a3 a4 h r, nX12_findFirst_50 N n a0 a1 a2 a3 a4 h = some r → ra_Ru 4 mX12_findFirst 50 [some (.ref a0), some (.int a1), some (.int a2), some (.int a3), some (.int a4), none, none, none] [] h (ra_oV r) := by
  intro n
  induction n with
  | zero => intro a0 a1 a2 a3 a4 h r e; cases e
  | succ n ih =>
    intro a0 a1 a2 a3 a4 h r e
    exact ra_sound (by omega) rfl ra_rV_ok (kX12_findFirst_50_ok N (nX12_findFirst_50 N n) ih) (fun m av h h1 e => (ra_c0_ok (ro := ra_oV)) m av h h1 e) (fun m av h x h1 e => (tIX12_findFirst_ok N) m av h (x, h1) e) (fun m av h x h1 e => (ra_c0_ok (ro := ra_oJ)) m av h (x, h1) e) (fun m av h x h1 e => (ra_c0_ok (ro := ra_oR)) m av h (x, h1) e) (fun m av h x h1 e => (ra_c0_ok (ro := ra_oN)) m av h (x, h1) e) (fun m av h x h1 e => (ra_c0_ok (ro := ra_oF)) m av h (x, h1) e) 14 lX12_findFirst_50 _ _ _ _ lX12_findFirst_50_ck (show ra_run ra_rV (kX12_findFirst_50 N (nX12_findFirst_50 N n)) ra_c0 (tIX12_findFirst N) ra_c0 ra_c0 ra_c0 ra_c0 14 lX12_findFirst_50 [some (.ref a0), some (.int a1), some (.int a2), some (.int a3), some (.int a4), none, none, none] [] h = some r from e) _ _ rfl
def lX12_findFirst_18 : List ra_I := [(18, .iload 4, 2, 4, 0, 0, 0, 0, []),
  (20, .iload_n 2, 1, 2, 0, 0, 0, 0, []),
  (21, .if_icmp .ge (26), 3, 47, 0, 0, 0, 0, []),
  (24, .aload_n 0, 1, 0, 0, 0, 0, 0, []),
  (25, .getfield 120, 3, 12, 47, 2, 0, 0, []),
  (28, .iload 4, 2, 4, 0, 0, 0, 0, []),
  (30, .iload 4, 2, 4, 0, 0, 0, 0, []),
  (32, .ifCond .ne (7), 3, 39, 0, 0, 0, 0, []),
  (35, .iconst (1), 1, 0, 0, 0, (1), 0, []),
  (36, .goto (4), 3, 40, 0, 0, 0, 0, []),
  (39, .iconst (0), 1, 0, 0, 0, (0), 0, []),
  (47, .iconst (0), 1, 0, 0, 0, (0), 0, []),
  (48, .istore 4, 2, 4, 0, 0, 0, 0, [])]
set_option maxRecDepth 100000 in
theorem lX12_findFirst_18_ck : lX12_findFirst_18.all (ra_ck mX12_findFirst 12) = true := by decide +kernel
def nX12_findFirst_18 (N : Nat) : Nat → Nat → Int32 → Int32 → Int32 → Int32 → ra_H → Option ra_H
  | 0, _, _, _, _, _, _ => none
  | n + 1, a0, a1, a2, a3, a4, h =>
  if a4 < a2 then
    (ra_fR h 12 a0 47).bind fun x1 =>
    if a4 = 0 then
      nX12_findFirst_40 N (nX12_findFirst_18 N n) a0 a1 a2 a3 a4 x1 a4 ((1 : Int32)) h
    else
      nX12_findFirst_40 N (nX12_findFirst_18 N n) a0 a1 a2 a3 a4 x1 a4 ((0 : Int32)) h
  else
    nX12_findFirst_50 N N a0 a1 a2 a3 ((0 : Int32)) h
def kX12_findFirst_18 (N : Nat) (cs : Nat → Int32 → Int32 → Int32 → Int32 → ra_H → Option ra_H) : Nat → List (Option Value) → List Value → ra_H → Option ra_H := (ra_k1 40 (fun L S h => match L, S with
  | [some (.ref a0), some (.int a1), some (.int a2), some (.int a3), some (.int a4), _, _, _], [.int b2, .int b1, .ref b0] => nX12_findFirst_40 N cs a0 a1 a2 a3 a4 b0 b1 b2 h
  | _, _ => none) (ra_k1 50 (fun L S h => match L, S with
  | [some (.ref a0), some (.int a1), some (.int a2), some (.int a3), some (.int a4), _, _, _], [] => nX12_findFirst_50 N N a0 a1 a2 a3 a4 h
  | _, _ => none) ra_k0))
theorem kX12_findFirst_18_ok (N : Nat) (cs : Nat → Int32 → Int32 → Int32 → Int32 → ra_H → Option ra_H) (hcs : ∀ a0 a1 a2 a3 a4 h r, cs a0 a1 a2 a3 a4 h = some r → ra_Ru 4 mX12_findFirst 18 [some (.ref a0), some (.int a1), some (.int a2), some (.int a3), some (.int a4), none, none, none] [] h (ra_oV r)) : ra_kok 4 mX12_findFirst ra_oV (kX12_findFirst_18 N cs) := (ra_k1_ok (by
  intro L S h a e
  split at e
  · exact ra_Ru.weak (nX12_findFirst_40_ok N cs hcs _ _ _ _ _ _ _ _ _ _ e) ⟨rfl, ⟨rfl, ⟨rfl, ⟨rfl, ⟨rfl, trivial⟩⟩⟩⟩⟩
  · cases e) (ra_k1_ok (by
  intro L S h a e
  split at e
  · exact ra_Ru.weak (nX12_findFirst_50_ok N N _ _ _ _ _ _ _ e) ⟨rfl, ⟨rfl, ⟨rfl, ⟨rfl, ⟨rfl, trivial⟩⟩⟩⟩⟩
  · cases e) ra_k0_ok))
set_option maxRecDepth 100000 in
theorem nX12_findFirst_18_ok (N : Nat) : ∀ n a0 a1 a2 a3 a4 h r, nX12_findFirst_18 N n a0 a1 a2 a3 a4 h = some r → ra_Ru 4 mX12_findFirst 18 [some (.ref a0), some (.int a1), some (.int a2), some (.int a3), some (.int a4), none, none, none] [] h (ra_oV r) := by
  intro n
  induction n with
  | zero => intro a0 a1 a2 a3 a4 h r e; cases e
  | succ n ih =>
    intro a0 a1 a2 a3 a4 h r e
    exact ra_sound (by omega) rfl ra_rV_ok (kX12_findFirst_18_ok N (nX12_findFirst_18 N n) ih) (fun m av h h1 e => (ra_c0_ok (ro := ra_oV)) m av h h1 e) (fun m av h x h1 e => (tIX12_findFirst_ok N) m av h (x, h1) e) (fun m av h x h1 e => (ra_c0_ok (ro := ra_oJ)) m av h (x, h1) e) (fun m av h x h1 e => (ra_c0_ok (ro := ra_oR)) m av h (x, h1) e) (fun m av h x h1 e => (ra_c0_ok (ro := ra_oN)) m av h (x, h1) e) (fun m av h x h1 e => (ra_c0_ok (ro := ra_oF)) m av h (x, h1) e) 14 lX12_findFirst_18 _ _ _ _ lX12_findFirst_18_ck (show ra_run ra_rV (kX12_findFirst_18 N (nX12_findFirst_18 N n)) ra_c0 (tIX12_findFirst N) ra_c0 ra_c0 ra_c0 ra_c0 14 lX12_findFirst_18 [some (.ref a0), some (.int a1), some (.int a2), some (.int a3), some (.int a4), none, none, none] [] h = some r from e) _ _ rfl
def lX12_findFirst_0 : List ra_I := [(0, .aload_n 0, 1, 0, 0, 0, 0, 0, []),
  (1, .getfield 13, 3, 12, 3, 2, 0, 0, []),
  (4, .sipush (482), 3, 0, 0, 0, (482), 0, []),
  (7, .iaload, 1, 0, 0, 0, 0, 0, []),
  (8, .istore_n 1, 1, 1, 0, 0, 0, 0, []),
  (9, .iconst (1), 1, 0, 0, 0, (1), 0, []),
  (10, .iload_n 1, 1, 1, 0, 0, 0, 0, []),
  (11, .ishl, 1, 0, 0, 0, 0, 0, []),
  (12, .istore_n 2, 1, 2, 0, 0, 0, 0, []),
  (13, .iconst (0), 1, 0, 0, 0, (0), 0, []),
  (14, .istore_n 3, 1, 3, 0, 0, 0, 0, []),
  (15, .iconst (0), 1, 0, 0, 0, (0), 0, []),
  (16, .istore 4, 2, 4, 0, 0, 0, 0, [])]
set_option maxRecDepth 100000 in
theorem lX12_findFirst_0_ck : lX12_findFirst_0.all (ra_ck mX12_findFirst 12) = true := by decide +kernel
def nX12_findFirst_0 (N : Nat) (a0 : Nat) (h : ra_H) : Option ra_H :=
  (ra_fR h 12 a0 3).bind fun x1 =>
  (ra_aI h 0 x1 ((482 : Int32))).bind fun x2 =>
  let y3 := ((1 : Int32)) <<< (x2 &&& 31)
  nX12_findFirst_18 N N a0 x2 y3 ((0 : Int32)) ((0 : Int32)) h
def kX12_findFirst_0 (N : Nat) : Nat → List (Option Value) → List Value → ra_H → Option ra_H := (ra_k1 18 (fun L S h => match L, S with
  | [some (.ref a0), some (.int a1), some (.int a2), some (.int a3), some (.int a4), _, _, _], [] => nX12_findFirst_18 N N a0 a1 a2 a3 a4 h
  | _, _ => none) ra_k0)
theorem kX12_findFirst_0_ok (N : Nat) : ra_kok 4 mX12_findFirst ra_oV (kX12_findFirst_0 N) := (ra_k1_ok (by
  intro L S h a e
  split at e
  · exact ra_Ru.weak (nX12_findFirst_18_ok N N _ _ _ _ _ _ _ e) ⟨rfl, ⟨rfl, ⟨rfl, ⟨rfl, ⟨rfl, trivial⟩⟩⟩⟩⟩
  · cases e) ra_k0_ok)
set_option maxRecDepth 100000 in
theorem nX12_findFirst_0_ok (N : Nat) (a0 : Nat) (h : ra_H) (r : ra_H) (e : nX12_findFirst_0 N a0 h = some r) : ra_Ru 4 mX12_findFirst 0 [some (.ref a0), none, none, none, none, none, none, none] [] h (ra_oV r) :=
  ra_sound (by omega) rfl ra_rV_ok (kX12_findFirst_0_ok N) (fun m av h h1 e => (ra_c0_ok (ro := ra_oV)) m av h h1 e) (fun m av h x h1 e => (tIX12_findFirst_ok N) m av h (x, h1) e) (fun m av h x h1 e => (ra_c0_ok (ro := ra_oJ)) m av h (x, h1) e) (fun m av h x h1 e => (ra_c0_ok (ro := ra_oR)) m av h (x, h1) e) (fun m av h x h1 e => (ra_c0_ok (ro := ra_oN)) m av h (x, h1) e) (fun m av h x h1 e => (ra_c0_ok (ro := ra_oF)) m av h (x, h1) e) 14 lX12_findFirst_0 _ _ _ _ lX12_findFirst_0_ck (show ra_run ra_rV (kX12_findFirst_0 N) ra_c0 (tIX12_findFirst N) ra_c0 ra_c0 ra_c0 ra_c0 14 lX12_findFirst_0 [some (.ref a0), none, none, none, none, none, none, none] [] h = some r from e) _ _ rfl
def fX12_findFirst (N : Nat) (p0 : Nat) (h : ra_H) : Option ra_H := match ra_isOb h p0 12 with
  | true => nX12_findFirst_0 N p0 h
  | false => none
set_option maxRecDepth 100000 in
theorem mtX12_findFirst : ra_MT[289]? = some (mX12_findFirst, 1, 0, (1, 13), (8, 196), (0, 106)) := rfl
theorem fX12_findFirst_co (N : Nat) (p0 : Nat) (h : ra_H) (r : ra_H) (e : fX12_findFirst N p0 h = some r) (D : Nat) (hD : 5 ≤ D) : ra_CO D 289 [.ref p0] h (ra_oV r).1 (ra_oV r).2 := by
  have hw : ra_nw2 [.ref p0] ≤ 8 := Nat.le_of_ble_eq_true rfl
  have hdb : ∀ v ∈ ([.ref p0] : List Value), ∀ x, v ≠ .double x := by
    intro v hv x hx
    simp [hx] at hv
  unfold fX12_findFirst at e
  split at e
  · rename_i ho
    have e1 := e
    exact ⟨4, _, mtX12_findFirst, hD, ra_ev_of (by decide) hdb hw trivial (ra_Ru.weak (nX12_findFirst_0_ok N p0 h _ e1) ⟨rfl, trivial⟩), (fun _ => ⟨_, _, rfl, ra_rcv_of ho (by decide) rfl⟩), (fun h => absurd h (by decide))⟩
  · cases e
/-! RedMarksModel.matchAll()V -/
def mX12_matchAll : ra_M := (yX12_matchAll, cX12_matchAll, 11, none)
def tVX12_matchAll (N : Nat) : Nat → List Value → ra_H → Option ra_H := (ra_c1 289 (fun av h => match av with
  | [.ref z0] => fX12_findFirst N z0 h
  | _ => none) ra_c0)
theorem tVX12_matchAll_ok (N : Nat) : ra_cok 5 ra_oV (tVX12_matchAll N) := (ra_c1_ok (by
  intro av h a e
  split at e
  · exact fX12_findFirst_co N _ _ _ e 5 (by omega)
  · cases e) ra_c0_ok)
def tIX12_matchAll (N : Nat) : Nat → List Value → ra_H → Option (Int32 × ra_H) := (ra_c1 287 (fun av h => match av with
  | [.ref z0, .int z1, .int z2, .int z3] => fX12_with N z0 z1 z2 z3 h
  | _ => none) (ra_c1 288 (fun av h => match av with
  | [.ref z0, .int z1, .int z2] => fX12_can N z0 z1 z2 h
  | _ => none) ra_c0))
theorem tIX12_matchAll_ok (N : Nat) : ra_cok 5 ra_oI (tIX12_matchAll N) := (ra_c1_ok (by
  intro av h a e
  split at e
  · exact fX12_with_co N _ _ _ _ _ _ e 5 (by omega)
  · cases e) (ra_c1_ok (by
  intro av h a e
  split at e
  · exact fX12_can_co N _ _ _ _ _ e 5 (by omega)
  · cases e) ra_c0_ok))
def lX12_matchAll_189 : List ra_I := [(189, .iinc 9 (1), 3, 9, 0, 0, (1), 0, []),
  (192, .goto (-91), 3, 101, 0, 0, 0, 0, [])]
set_option maxRecDepth 100000 in
theorem lX12_matchAll_189_ck : lX12_matchAll_189.all (ra_ck mX12_matchAll 12) = true := by decide +kernel
def nX12_matchAll_189 (N : Nat) (c64 : Nat → Int32 → Int32 → Int32 → ra_H → Option ra_H) (c72 : Nat → Int32 → Int32 → Int32 → Int32 → ra_H → Option ra_H) (c101 : Nat → Int32 → Int32 → Int32 → Int32 → Int32 → Int64 → Int32 → ra_H → Option ra_H) (a0 : Nat) (a1 : Int32) (a2 : Int32) (a4 : Int32) (a5 : Int32) (a6 : Int32) (a7 : Int64) (a9 : Int32) (h : ra_H) : Option ra_H :=
  let y1 := a9 + (1 : Int32)
  c101 a0 a1 a2 a4 a5 a6 a7 y1 h
def kX12_matchAll_189 (N : Nat) (c64 : Nat → Int32 → Int32 → Int32 → ra_H → Option ra_H) (c72 : Nat → Int32 → Int32 → Int32 → Int32 → ra_H → Option ra_H) (c101 : Nat → Int32 → Int32 → Int32 → Int32 → Int32 → Int64 → Int32 → ra_H → Option ra_H) : Nat → List (Option Value) → List Value → ra_H → Option ra_H := (ra_k1 101 (fun L S h => match L, S with
  | [some (.ref a0), some (.int a1), some (.int a2), _, some (.int a4), some (.int a5), some (.int a6), some (.long a7), _, some (.int a9), _], [] => c101 a0 a1 a2 a4 a5 a6 a7 a9 h
  | _, _ => none) ra_k0)
theorem kX12_matchAll_189_ok (N : Nat) (c64 : Nat → Int32 → Int32 → Int32 → ra_H → Option ra_H) (c72 : Nat → Int32 → Int32 → Int32 → Int32 → ra_H → Option ra_H) (c101 : Nat → Int32 → Int32 → Int32 → Int32 → Int32 → Int64 → Int32 → ra_H → Option ra_H) (hc64 : ∀ a0 a1 a2 a4 h r, c64 a0 a1 a2 a4 h = some r → ra_Ru 5 mX12_matchAll 64 [some (.ref a0), some (.int a1), some (.int a2), none, some (.int a4), none, none, none, none, none, none] [] h (ra_oV r)) (hc72 : ∀ a0 a1 a2 a4 a5 h r, c72 a0 a1 a2 a4 a5 h = some r → ra_Ru 5 mX12_matchAll 72 [some (.ref a0), some (.int a1), some (.int a2), none, some (.int a4), some (.int a5), none, none, none, none, none] [] h (ra_oV r)) (hc101 : ∀ a0 a1 a2 a4 a5 a6 a7 a9 h r, c101 a0 a1 a2 a4 a5 a6 a7 a9 h = some r → ra_Ru 5 mX12_matchAll 101 [some (.ref a0), some (.int a1), some (.int a2), none, some (.int a4), some (.int a5), some (.int a6), some (.long a7), none, some (.int a9), none] [] h (ra_oV r)) : ra_kok 5 mX12_matchAll ra_oV (kX12_matchAll_189 N c64 c72 c101) := (ra_k1_ok (by
  intro L S h a e
  split at e
  · exact ra_Ru.weak (hc101 _ _ _ _ _ _ _ _ _ _ e) ⟨rfl, ⟨rfl, ⟨rfl, ⟨rfl, ⟨rfl, ⟨rfl, ⟨rfl, ⟨rfl, trivial⟩⟩⟩⟩⟩⟩⟩⟩
  · cases e) ra_k0_ok)
set_option maxRecDepth 100000 in
theorem nX12_matchAll_189_ok (N : Nat) (c64 : Nat → Int32 → Int32 → Int32 → ra_H → Option ra_H) (c72 : Nat → Int32 → Int32 → Int32 → Int32 → ra_H → Option ra_H) (c101 : Nat → Int32 → Int32 → Int32 → Int32 → Int32 → Int64 → Int32 → ra_H → Option ra_H) (hc64 : ∀ a0 a1 a2 a4 h r, c64 a0 a1 a2 a4 h = some r → ra_Ru 5 mX12_matchAll 64 [some (.ref a0), some (.int a1), some (.int a2), none, some (.int a4), none, none, none, none, none, none] [] h (ra_oV r)) (hc72 : ∀ a0 a1 a2 a4 a5 h r, c72 a0 a1 a2 a4 a5 h = some r → ra_Ru 5 mX12_matchAll 72 [some (.ref a0), some (.int a1), some (.int a2), none, some (.int a4), some (.int a5), none, none, none, none, none] [] h (ra_oV r)) (hc101 : ∀ a0 a1 a2 a4 a5 a6 a7 a9 h r, c101 a0 a1 a2 a4 a5 a6 a7 a9 h = some r → ra_Ru 5 mX12_matchAll 101 [some (.ref a0), some (.int a1), some (.int a2), none, some (.int a4), some (.int a5), some (.int a6), some (.long a7), none, some (.int a9), none] [] h (ra_oV r)) (a0 : Nat) (a1 : Int32) (a2 : Int32) (a4 : Int32) (a5 : Int32) (a6 : Int32) (a7 : Int64) (a9 : Int32) (h : ra_H) (r : ra_H) (e : nX12_matchAll_189 N c64 c72 c101 a0 a1 a2 a4 a5 a6 a7 a9 h = some r) : ra_Ru 5 mX12_matchAll 189 [some (.ref a0), some (.int a1), some (.int a2), none, some (.int a4), some (.int a5), some (.int a6), some (.long a7), none, some (.int a9), none] [] h (ra_oV r) :=
  ra_sound (by omega) rfl ra_rV_ok (kX12_matchAll_189_ok N c64 c72 c101 hc64 hc72 hc101) (fun m av h h1 e => (tVX12_matchAll_ok N) m av h h1 e) (fun m av h x h1 e => (tIX12_matchAll_ok N) m av h (x, h1) e) (fun m av h x h1 e => (ra_c0_ok (ro := ra_oJ)) m av h (x, h1) e) (fun m av h x h1 e => (ra_c0_ok (ro := ra_oR)) m av h (x, h1) e) (fun m av h x h1 e => (ra_c0_ok (ro := ra_oN)) m av h (x, h1) e) (fun m av h x h1 e => (ra_c0_ok (ro := ra_oF)) m av h (x, h1) e) 3 lX12_matchAll_189 _ _ _ _ lX12_matchAll_189_ck (show ra_run ra_rV (kX12_matchAll_189 N c64 c72 c101) (tVX12_matchAll N) (tIX12_matchAll N) ra_c0 ra_c0 ra_c0 ra_c0 3 lX12_matchAll_189 [some (.ref a0), some (.int a1), some (.int a2), none, some (.int a4), some (.int a5), some (.int a6), some (.long a7), none, some (.int a9), none] [] h = some r from e) _ _ rfl
def lX12_matchAll_187 : List ra_I := [(187, .istore 6, 2, 6, 0, 0, 0, 0, [])]
set_option maxRecDepth 100000 in
theorem lX12_matchAll_187_ck : lX12_matchAll_187.all (ra_ck mX12_matchAll 12) = true := by decide +kernel
def nX12_matchAll_187 (N : Nat) (c64 : Nat → Int32 → Int32 → Int32 → ra_H → Option ra_H) (c72 : Nat → Int32 → Int32 → Int32 → Int32 → ra_H → Option ra_H) (c101 : Nat → Int32 → Int32 → Int32 → Int32 → Int32 → Int64 → Int32 → ra_H → Option ra_H) (a0 : Nat) (a1 : Int32) (a2 : Int32) (a4 : Int32) (a5 : Int32) (a7 : Int64) (a9 : Int32) (b0 : Int32) (h : ra_H) : Option ra_H :=
  nX12_matchAll_189 N c64 c72 c101 a0 a1 a2 a4 a5 b0 a7 a9 h
def kX12_matchAll_187 (N : Nat) (c64 : Nat → Int32 → Int32 → Int32 → ra_H → Option ra_H) (c72 : Nat → Int32 → Int32 → Int32 → Int32 → ra_H → Option ra_H) (c101 : Nat → Int32 → Int32 → Int32 → Int32 → Int32 → Int64 → Int32 → ra_H → Option ra_H) : Nat → List (Option Value) → List Value → ra_H → Option ra_H := (ra_k1 189 (fun L S h => match L, S with
  | [some (.ref a0), some (.int a1), some (.int a2), _, some (.int a4), some (.int a5), some (.int a6), some (.long a7), _, some (.int a9), _], [] => nX12_matchAll_189 N c64 c72 c101 a0 a1 a2 a4 a5 a6 a7 a9 h
  | _, _ => none) ra_k0)
theorem kX12_matchAll_187_ok (N : Nat) (c64 : Nat → Int32 → Int32 → Int32 → ra_H → Option ra_H) (c72 : Nat → Int32 → Int32 → Int32 → Int32 → ra_H → Option ra_H) (c101 : Nat → Int32 → Int32 → Int32 → Int32 → Int32 → Int64 → Int32 → ra_H → Option ra_H) (hc64 : ∀ a0 a1 a2 a4 h r, c64 a0 a1 a2 a4 h = some r → ra_Ru 5 mX12_matchAll 64 [some (.ref a0), some (.int a1), some (.int a2), none, some (.int a4), none, none, none, none, none, none] [] h (ra_oV r)) (hc72 : ∀ a0 a1 a2 a4 a5 h r, c72 a0 a1 a2 a4 a5 h = some r → ra_Ru 5 mX12_matchAll 72 [some (.ref a0), some (.int a1), some (.int a2), none, some (.int a4), some (.int a5), none, none, none, none, none] [] h (ra_oV r)) (hc101 : ∀ a0 a1 a2 a4 a5 a6 a7 a9 h r, c101 a0 a1 a2 a4 a5 a6 a7 a9 h = some r → ra_Ru 5 mX12_matchAll 101 [some (.ref a0), some (.int a1), some (.int a2), none, some (.int a4), some (.int a5), some (.int a6), some (.long a7), none, some (.int a9), none] [] h (ra_oV r)) : ra_kok 5 mX12_matchAll ra_oV (kX12_matchAll_187 N c64 c72 c101) := (ra_k1_ok (by
  intro L S h a e
  split at e
  · exact ra_Ru.weak (nX12_matchAll_189_ok N c64 c72 c101 hc64 hc72 hc101 _ _ _ _ _ _ _ _ _ _ e) ⟨rfl, ⟨rfl, ⟨rfl, ⟨rfl, ⟨rfl, ⟨rfl, ⟨rfl, ⟨rfl, trivial⟩⟩⟩⟩⟩⟩⟩⟩
  · cases e) ra_k0_ok)
set_option maxRecDepth 100000 in
theorem nX12_matchAll_187_ok (N : Nat) (c64 : Nat → Int32 → Int32 → Int32 → ra_H → Option ra_H) (c72 : Nat → Int32 → Int32 → Int32 → Int32 → ra_H → Option ra_H) (c101 : Nat → Int32 → Int32 → Int32 → Int32 → Int32 → Int64 → Int32 → ra_H → Option ra_H) (hc64 : ∀ a0 a1 a2 a4 h r, c64 a0 a1 a2 a4 h = some r → ra_Ru 5 mX12_matchAll 64 [some (.ref a0), some (.int a1), some (.int a2), none, some (.int a4), none, none, none, none, none, none] [] h (ra_oV r)) (hc72 : ∀ a0 a1 a2 a4 a5 h r, c72 a0 a1 a2 a4 a5 h = some r → ra_Ru 5 mX12_matchAll 72 [some (.ref a0), some (.int a1), some (.int a2), none, some (.int a4), some (.int a5), none, none, none, none, none] [] h (ra_oV r)) (hc101 : ∀ a0 a1 a2 a4 a5 a6 a7 a9 h r, c101 a0 a1 a2 a4 a5 a6 a7 a9 h = some r → ra_Ru 5 mX12_matchAll 101 [some (.ref a0), some (.int a1), some (.int a2), none, some (.int a4), some (.int a5), some (.int a6), some (.long a7), none, some (.int a9), none] [] h (ra_oV r)) (a0 : Nat) (a1 : Int32) (a2 : Int32) (a4 : Int32) (a5 : Int32) (a7 : Int64) (a9 : Int32) (b0 : Int32) (h : ra_H) (r : ra_H) (e : nX12_matchAll_187 N c64 c72 c101 a0 a1 a2 a4 a5 a7 a9 b0 h = some r) : ra_Ru 5 mX12_matchAll 187 [some (.ref a0), some (.int a1), some (.int a2), none, some (.int a4), some (.int a5), none, some (.long a7), none, some (.int a9), none] [.int b0] h (ra_oV r) :=
  ra_sound (by omega) rfl ra_rV_ok (kX12_matchAll_187_ok N c64 c72 c101 hc64 hc72 hc101) (fun m av h h1 e => (tVX12_matchAll_ok N) m av h h1 e) (fun m av h x h1 e => (tIX12_matchAll_ok N) m av h (x, h1) e) (fun m av h x h1 e => (ra_c0_ok (ro := ra_oJ)) m av h (x, h1) e) (fun m av h x h1 e => (ra_c0_ok (ro := ra_oR)) m av h (x, h1) e) (fun m av h x h1 e => (ra_c0_ok (ro := ra_oN)) m av h (x, h1) e) (fun m av h x h1 e => (ra_c0_ok (ro := ra_oF)) m av h (x, h1) e) 2 lX12_matchAll_187 _ _ _ _ lX12_matchAll_187_ck (show ra_run ra_rV (kX12_matchAll_187 N c64 c72 c101) (tVX12_matchAll N) (tIX12_matchAll N) ra_c0 ra_c0 ra_c0 ra_c0 2 lX12_matchAll_187 [some (.ref a0), some (.int a1), some (.int a2), none, some (.int a4), some (.int a5), none, some (.long a7), none, some (.int a9), none] [.int b0] h = some r from e) _ _ rfl
def lX12_matchAll_170 : List ra_I := [(170, .ladd, 1, 0, 0, 0, 0, 0, []),
  (171, .lstore 7, 2, 7, 0, 0, 0, 0, []),
  (173, .iload 10, 2, 10, 0, 0, 0, 0, []),
  (175, .iload 6, 2, 6, 0, 0, 0, 0, []),
  (177, .if_icmp .le (8), 3, 185, 0, 0, 0, 0, []),
  (180, .iload 10, 2, 10, 0, 0, 0, 0, []),
  (182, .goto (5), 3, 187, 0, 0, 0, 0, []),
  (185, .iload 6, 2, 6, 0, 0, 0, 0, [])]
set_option maxRecDepth 100000 in
theorem lX12_matchAll_170_ck : lX12_matchAll_170.all (ra_ck mX12_matchAll 12) = true := by decide +kernel
def nX12_matchAll_170 (N : Nat) (c64 : Nat → Int32 → Int32 → Int32 → ra_H → Option ra_H) (c72 : Nat → Int32 → Int32 → Int32 → Int32 → ra_H → Option ra_H) (c101 : Nat → Int32 → Int32 → Int32 → Int32 → Int32 → Int64 → Int32 → ra_H → Option ra_H) (a0 : Nat) (a1 : Int32) (a2 : Int32) (a4 : Int32) (a5 : Int32) (a6 : Int32) (a9 : Int32) (a10 : Int32) (b0 : Int64) (b1 : Int64) (h : ra_H) : Option ra_H :=
  let y1 := b0 + b1
  if a10 ≤ a6 then
    nX12_matchAll_187 N c64 c72 c101 a0 a1 a2 a4 a5 y1 a9 a6 h
  else
    nX12_matchAll_187 N c64 c72 c101 a0 a1 a2 a4 a5 y1 a9 a10 h
def kX12_matchAll_170 (N : Nat) (c64 : Nat → Int32 → Int32 → Int32 → ra_H → Option ra_H) (c72 : Nat → Int32 → Int32 → Int32 → Int32 → ra_H → Option ra_H) (c101 : Nat → Int32 → Int32 → Int32 → Int32 → Int32 → Int64 → Int32 → ra_H → Option ra_H) : Nat → List (Option Value) → List Value → ra_H → Option ra_H := (ra_k1 187 (fun L S h => match L, S with
  | [some (.ref a0), some (.int a1), some (.int a2), _, some (.int a4), some (.int a5), _, some (.long a7), _, some (.int a9), _], [.int b0] => nX12_matchAll_187 N c64 c72 c101 a0 a1 a2 a4 a5 a7 a9 b0 h
  | _, _ => none) ra_k0)
theorem kX12_matchAll_170_ok (N : Nat) (c64 : Nat → Int32 → Int32 → Int32 → ra_H → Option ra_H) (c72 : Nat → Int32 → Int32 → Int32 → Int32 → ra_H → Option ra_H) (c101 : Nat → Int32 → Int32 → Int32 → Int32 → Int32 → Int64 → Int32 → ra_H → Option ra_H) (hc64 : ∀ a0 a1 a2 a4 h r, c64 a0 a1 a2 a4 h = some r → ra_Ru 5 mX12_matchAll 64 [some (.ref a0), some (.int a1), some (.int a2), none, some (.int a4), none, none, none, none, none, none] [] h (ra_oV r)) (hc72 : ∀ a0 a1 a2 a4 a5 h r, c72 a0 a1 a2 a4 a5 h = some r → ra_Ru 5 mX12_matchAll 72 [some (.ref a0), some (.int a1), some (.int a2), none, some (.int a4), some (.int a5), none, none, none, none, none] [] h (ra_oV r)) (hc101 : ∀ a0 a1 a2 a4 a5 a6 a7 a9 h r, c101 a0 a1 a2 a4 a5 a6 a7 a9 h = some r → ra_Ru 5 mX12_matchAll 101 [some (.ref a0), some (.int a1), some (.int a2), none, some (.int a4), some (.int a5), some (.int a6), some (.long a7), none, some (.int a9), none] [] h (ra_oV r)) : ra_kok 5 mX12_matchAll ra_oV (kX12_matchAll_170 N c64 c72 c101) := (ra_k1_ok (by
  intro L S h a e
  split at e
  · exact ra_Ru.weak (nX12_matchAll_187_ok N c64 c72 c101 hc64 hc72 hc101 _ _ _ _ _ _ _ _ _ _ e) ⟨rfl, ⟨rfl, ⟨rfl, ⟨rfl, ⟨rfl, ⟨rfl, ⟨rfl, trivial⟩⟩⟩⟩⟩⟩⟩
  · cases e) ra_k0_ok)
set_option maxRecDepth 100000 in
theorem nX12_matchAll_170_ok (N : Nat) (c64 : Nat → Int32 → Int32 → Int32 → ra_H → Option ra_H) (c72 : Nat → Int32 → Int32 → Int32 → Int32 → ra_H → Option ra_H) (c101 : Nat → Int32 → Int32 → Int32 → Int32 → Int32 → Int64 → Int32 → ra_H → Option ra_H) (hc64 : ∀ a0 a1 a2 a4 h r, c64 a0 a1 a2 a4 h = some r → ra_Ru 5 mX12_matchAll 64 [some (.ref a0), some (.int a1), some (.int a2), none, some (.int a4), none, none, none, none, none, none] [] h (ra_oV r)) (hc72 : ∀ a0 a1 a2 a4 a5 h r, c72 a0 a1 a2 a4 a5 h = some r → ra_Ru 5 mX12_matchAll 72 [some (.ref a0), some (.int a1), some (.int a2), none, some (.int a4), some (.int a5), none, none, none, none, none] [] h (ra_oV r)) (hc101 : ∀ a0 a1 a2 a4 a5 a6 a7 a9 h r, c101 a0 a1 a2 a4 a5 a6 a7 a9 h = some r → ra_Ru 5 mX12_matchAll 101 [some (.ref a0), some (.int a1), some (.int a2), none, some (.int a4), some (.int a5), some (.int a6), some (.long a7), none, some (.int a9), none] [] h (ra_oV r)) (a0 : Nat) (a1 : Int32) (a2 : Int32) (a4 : Int32) (a5 : Int32) (a6 : Int32) (a9 : Int32) (a10 : Int32) (b0 : Int64) (b1 : Int64) (h : ra_H) (r : ra_H) (e : nX12_matchAll_170 N c64 c72 c101 a0 a1 a2 a4 a5 a6 a9 a10 b0 b1 h = some r) : ra_Ru 5 mX12_matchAll 170 [some (.ref a0), some (.int a1), some (.int a2), none, some (.int a4), some (.int a5), some (.int a6), none, none, some (.int a9), some (.int a10)] [.long b1, .long b0] h (ra_oV r) :=
  ra_sound (by omega) rfl ra_rV_ok (kX12_matchAll_170_ok N c64 c72 c101 hc64 hc72 hc101) (fun m av h h1 e => (tVX12_matchAll_ok N) m av h h1 e) (fun m av h x h1 e => (tIX12_matchAll_ok N) m av h (x, h1) e) (fun m av h x h1 e => (ra_c0_ok (ro := ra_oJ)) m av h (x, h1) e) (fun m av h x h1 e => (ra_c0_ok (ro := ra_oR)) m av h (x, h1) e) (fun m av h x h1 e => (ra_c0_ok (ro := ra_oN)) m av h (x, h1) e) (fun m av h x h1 e => (ra_c0_ok (ro := ra_oF)) m av h (x, h1) e) 9 lX12_matchAll_170 _ _ _ _ lX12_matchAll_170_ck (show ra_run ra_rV (kX12_matchAll_170 N c64 c72 c101) (tVX12_matchAll N) (tIX12_matchAll N) ra_c0 ra_c0 ra_c0 ra_c0 9 lX12_matchAll_170 [some (.ref a0), some (.int a1), some (.int a2), none, some (.int a4), some (.int a5), some (.int a6), none, none, some (.int a9), some (.int a10)] [.long b1, .long b0] h = some r from e) _ _ rfl
def lX12_matchAll_143 : List ra_I := [(143, .lstore 7, 2, 7, 0, 0, 0, 0, []),
  (145, .lload 7, 2, 7, 0, 0, 0, 0, []),
  (147, .iload 10, 2, 10, 0, 0, 0, 0, []),
  (149, .iload 6, 2, 6, 0, 0, 0, 0, []),
  (151, .if_icmp .lt (18), 3, 169, 0, 0, 0, 0, []),
  (154, .aload_n 0, 1, 0, 0, 0, 0, 0, []),
  (155, .getfield 114, 3, 12, 45, 2, 0, 0, []),
  (158, .iload 5, 2, 5, 0, 0, 0, 0, []),
  (160, .iconst (1), 1, 0, 0, 0, (1), 0, []),
  (161, .iload 9, 2, 9, 0, 0, 0, 0, []),
  (163, .ishl, 1, 0, 0, 0, 0, 0, []),
  (164, .ior, 1, 0, 0, 0, 0, 0, []),
  (165, .laload, 1, 0, 0, 0, 0, 0, []),
  (166, .goto (4), 3, 170, 0, 0, 0, 0, []),
  (169, .lconst 0, 1, 0, 0, 0, 0, 0, [])]
set_option maxRecDepth 100000 in
theorem lX12_matchAll_143_ck : lX12_matchAll_143.all (ra_ck mX12_matchAll 12) = true := by decide +kernel
def nX12_matchAll_143 (N : Nat) (c64 : Nat → Int32 → Int32 → Int32 → ra_H → Option ra_H) (c72 : Nat → Int32 → Int32 → Int32 → Int32 → ra_H → Option ra_H) (c101 : Nat → Int32 → Int32 → Int32 → Int32 → Int32 → Int64 → Int32 → ra_H → Option ra_H) (a0 : Nat) (a1 : Int32) (a2 : Int32) (a4 : Int32) (a5 : Int32) (a6 : Int32) (a9 : Int32) (a10 : Int32) (b0 : Int64) (h : ra_H) : Option ra_H :=
  if a10 < a6 then
    nX12_matchAll_170 N c64 c72 c101 a0 a1 a2 a4 a5 a6 a9 a10 b0 ((0 : Int64)) h
  else
    (ra_fR h 12 a0 45).bind fun x1 =>
    (ra_aJ h x1 (a5 ||| (((1 : Int32)) <<< (a9 &&& 31)))).bind fun x2 =>
    nX12_matchAll_170 N c64 c72 c101 a0 a1 a2 a4 a5 a6 a9 a10 b0 x2 h
def kX12_matchAll_143 (N : Nat) (c64 : Nat → Int32 → Int32 → Int32 → ra_H → Option ra_H) (c72 : Nat → Int32 → Int32 → Int32 → Int32 → ra_H → Option ra_H) (c101 : Nat → Int32 → Int32 → Int32 → Int32 → Int32 → Int64 → Int32 → ra_H → Option ra_H) : Nat → List (Option Value) → List Value → ra_H → Option ra_H := (ra_k1 170 (fun L S h => match L, S with
  | [some (.ref a0), some (.int a1), some (.int a2), _, some (.int a4), some (.int a5), some (.int a6), _, _, some (.int a9), some (.int a10)], [.long b1, .long b0] => nX12_matchAll_170 N c64 c72 c101 a0 a1 a2 a4 a5 a6 a9 a10 b0 b1 h
  | _, _ => none) ra_k0)
theorem kX12_matchAll_143_ok (N : Nat) (c64 : Nat → Int32 → Int32 → Int32 → ra_H → Option ra_H) (c72 : Nat → Int32 → Int32 → Int32 → Int32 → ra_H → Option ra_H) (c101 : Nat → Int32 → Int32 → Int32 → Int32 → Int32 → Int64 → Int32 → ra_H → Option ra_H) (hc64 : ∀ a0 a1 a2 a4 h r, c64 a0 a1 a2 a4 h = some r → ra_Ru 5 mX12_matchAll 64 [some (.ref a0), some (.int a1), some (.int a2), none, some (.int a4), none, none, none, none, none, none] [] h (ra_oV r)) (hc72 : ∀ a0 a1 a2 a4 a5 h r, c72 a0 a1 a2 a4 a5 h = some r → ra_Ru 5 mX12_matchAll 72 [some (.ref a0), some (.int a1), some (.int a2), none, some (.int a4), some (.int a5), none, none, none, none, none] [] h (ra_oV r)) (hc101 : ∀ a0 a1 a2 a4 a5 a6 a7 a9 h r, c101 a0 a1 a2 a4 a5 a6 a7 a9 h = some r → ra_Ru 5 mX12_matchAll 101 [some (.ref a0), some (.int a1), some (.int a2), none, some (.int a4), some (.int a5), some (.int a6), some (.long a7), none, some (.int a9), none] [] h (ra_oV r)) : ra_kok 5 mX12_matchAll ra_oV (kX12_matchAll_143 N c64 c72 c101) := (ra_k1_ok (by
  intro L S h a e
  split at e
  · exact ra_Ru.weak (nX12_matchAll_170_ok N c64 c72 c101 hc64 hc72 hc101 _ _ _ _ _ _ _ _ _ _ _ _ e) ⟨rfl, ⟨rfl, ⟨rfl, ⟨rfl, ⟨rfl, ⟨rfl, ⟨rfl, ⟨rfl, trivial⟩⟩⟩⟩⟩⟩⟩⟩
  · cases e) ra_k0_ok)
set_option maxRecDepth 100000 in
theorem nX12_matchAll_143_ok (N : Nat) (c64 : Nat → Int32 → Int32 → Int32 → ra_H → Option ra_H) (c72 : Nat → Int32 → Int32 → Int32 → Int32 → ra_H → Option ra_H) (c101 : Nat → Int32 → Int32 → Int32 → Int32 → Int32 → Int64 → Int32 → ra_H → Option ra_H) (hc64 : ∀ a0 a1 a2 a4 h r, c64 a0 a1 a2 a4 h = some r → ra_Ru 5 mX12_matchAll 64 [some (.ref a0), some (.int a1), some (.int a2), none, some (.int a4), none, none, none, none, none, none] [] h (ra_oV r)) (hc72 : ∀ a0 a1 a2 a4 a5 h r, c72 a0 a1 a2 a4 a5 h = some r → ra_Ru 5 mX12_matchAll 72 [some (.ref a0), some (.int a1), some (.int a2), none, some (.int a4), some (.int a5), none, none, none, none, none] [] h (ra_oV r)) (hc101 : ∀ a0 a1 a2 a4 a5 a6 a7 a9 h r, c101 a0 a1 a2 a4 a5 a6 a7 a9 h = some r → ra_Ru 5 mX12_matchAll 101 [some (.ref a0), some (.int a1), some (.int a2), none, some (.int a4), some (.int a5), some (.int a6), some (.long a7), none, some (.int a9), none] [] h (ra_oV r)) (a0 : Nat) (a1 : Int32) (a2 : Int32) (a4 : Int32) (a5 : Int32) (a6 : Int32) (a9 : Int32) (a10 : Int32) (b0 : Int64) (h : ra_H) (r : ra_H) (e : nX12_matchAll_143 N c64 c72 c101 a0 a1 a2 a4 a5 a6 a9 a10 b0 h = some r) : ra_Ru 5 mX12_matchAll 143 [some (.ref a0), some (.int a1), some (.int a2), none, some (.int a4), some (.int a5), some (.int a6), none, none, some (.int a9), some (.int a10)] [.long b0] h (ra_oV r) :=
  ra_sound (by omega) rfl ra_rV_ok (kX12_matchAll_143_ok N c64 c72 c101 hc64 hc72 hc101) (fun m av h h1 e => (tVX12_matchAll_ok N) m av h h1 e) (fun m av h x h1 e => (tIX12_matchAll_ok N) m av h (x, h1) e) (fun m av h x h1 e => (ra_c0_ok (ro := ra_oJ)) m av h (x, h1) e) (fun m av h x h1 e => (ra_c0_ok (ro := ra_oR)) m av h (x, h1) e) (fun m av h x h1 e => (ra_c0_ok (ro := ra_oN)) m av h (x, h1) e) (fun m av h x h1 e => (ra_c0_ok (ro := ra_oF)) m av h (x, h1) e) 16 lX12_matchAll_143 _ _ _ _ lX12_matchAll_143_ck (show ra_run ra_rV (kX12_matchAll_143 N c64 c72 c101) (tVX12_matchAll N) (tIX12_matchAll N) ra_c0 ra_c0 ra_c0 ra_c0 16 lX12_matchAll_143 [some (.ref a0), some (.int a1), some (.int a2), none, some (.int a4), some (.int a5), some (.int a6), none, none, some (.int a9), some (.int a10)] [.long b0] h = some r from e) _ _ rfl
def lX12_matchAll_234 : List ra_I := [(234, .lastore, 1, 0, 0, 0, 0, 0, []),
  (235, .iinc 5 (1), 3, 5, 0, 0, (1), 0, []),
  (238, .goto (-166), 3, 72, 0, 0, 0, 0, [])]
set_option maxRecDepth 100000 in
theorem lX12_matchAll_234_ck : lX12_matchAll_234.all (ra_ck mX12_matchAll 12) = true := by decide +kernel
def nX12_matchAll_234 (N : Nat) (c64 : Nat → Int32 → Int32 → Int32 → ra_H → Option ra_H) (c72 : Nat → Int32 → Int32 → Int32 → Int32 → ra_H → Option ra_H) (a0 : Nat) (a1 : Int32) (a2 : Int32) (a4 : Int32) (a5 : Int32) (b0 : Nat) (b1 : Int32) (b2 : Int64) (h : ra_H) : Option ra_H :=
  (ra_aWJ h b0 b1 b2).bind fun h1 =>
  let y2 := a5 + (1 : Int32)
  c72 a0 a1 a2 a4 y2 h1
def kX12_matchAll_234 (N : Nat) (c64 : Nat → Int32 → Int32 → Int32 → ra_H → Option ra_H) (c72 : Nat → Int32 → Int32 → Int32 → Int32 → ra_H → Option ra_H) : Nat → List (Option Value) → List Value → ra_H → Option ra_H := (ra_k1 72 (fun L S h => match L, S with
  | [some (.ref a0), some (.int a1), some (.int a2), _, some (.int a4), some (.int a5), _, _, _, _, _], [] => c72 a0 a1 a2 a4 a5 h
  | _, _ => none) ra_k0)
theorem kX12_matchAll_234_ok (N : Nat) (c64 : Nat → Int32 → Int32 → Int32 → ra_H → Option ra_H) (c72 : Nat → Int32 → Int32 → Int32 → Int32 → ra_H → Option ra_H) (hc64 : ∀ a0 a1 a2 a4 h r, c64 a0 a1 a2 a4 h = some r → ra_Ru 5 mX12_matchAll 64 [some (.ref a0), some (.int a1), some (.int a2), none, some (.int a4), none, none, none, none, none, none] [] h (ra_oV r)) (hc72 : ∀ a0 a1 a2 a4 a5 h r, c72 a0 a1 a2 a4 a5 h = some r → ra_Ru 5 mX12_matchAll 72 [some (.ref a0), some (.int a1), some (.int a2), none, some (.int a4), some (.int a5), none, none, none, none, none] [] h (ra_oV r)) : ra_kok 5 mX12_matchAll ra_oV (kX12_matchAll_234 N c64 c72) := (ra_k1_ok (by
  intro L S h a e
  split at e
  · exact ra_Ru.weak (hc72 _ _ _ _ _ _ _ e) ⟨rfl, ⟨rfl, ⟨rfl, ⟨rfl, ⟨rfl, trivial⟩⟩⟩⟩⟩
  · cases e) ra_k0_ok)
set_option maxRecDepth 100000 in
theorem nX12_matchAll_234_ok (N : Nat) (c64 : Nat → Int32 → Int32 → Int32 → ra_H → Option ra_H) (c72 : Nat → Int32 → Int32 → Int32 → Int32 → ra_H → Option ra_H) (hc64 : ∀ a0 a1 a2 a4 h r, c64 a0 a1 a2 a4 h = some r → ra_Ru 5 mX12_matchAll 64 [some (.ref a0), some (.int a1), some (.int a2), none, some (.int a4), none, none, none, none, none, none] [] h (ra_oV r)) (hc72 : ∀ a0 a1 a2 a4 a5 h r, c72 a0 a1 a2 a4 a5 h = some r → ra_Ru 5 mX12_matchAll 72 [some (.ref a0), some (.int a1), some (.int a2), none, some (.int a4), some (.int a5), none, none, none, none, none] [] h (ra_oV r)) (a0 : Nat) (a1 : Int32) (a2 : Int32) (a4 : Int32) (a5 : Int32) (b0 : Nat) (b1 : Int32) (b2 : Int64) (h : ra_H) (r : ra_H) (e : nX12_matchAll_234 N c64 c72 a0 a1 a2 a4 a5 b0 b1 b2 h = some r) : ra_Ru 5 mX12_matchAll 234 [some (.ref a0), some (.int a1), some (.int a2), none, some (.int a4), some (.int a5), none, none, none, none, none] [.long b2, .int b1, .ref b0] h (ra_oV r) :=
  ra_sound (by omega) rfl ra_rV_ok (kX12_matchAll_234_ok N c64 c72 hc64 hc72) (fun m av h h1 e => (tVX12_matchAll_ok N) m av h h1 e) (fun m av h x h1 e => (tIX12_matchAll_ok N) m av h (x, h1) e) (fun m av h x h1 e => (ra_c0_ok (ro := ra_oJ)) m av h (x, h1) e) (fun m av h x h1 e => (ra_c0_ok (ro := ra_oR)) m av h (x, h1) e) (fun m av h x h1 e => (ra_c0_ok (ro := ra_oN)) m av h (x, h1) e) (fun m av h x h1 e => (ra_c0_ok (ro := ra_oF)) m av h (x, h1) e) 4 lX12_matchAll_234 _ _ _ _ lX12_matchAll_234_ck (show ra_run ra_rV (kX12_matchAll_234 N c64 c72) (tVX12_matchAll N) (tIX12_matchAll N) ra_c0 ra_c0 ra_c0 ra_c0 4 lX12_matchAll_234 [some (.ref a0), some (.int a1), some (.int a2), none, some (.int a4), some (.int a5), none, none, none, none, none] [.long b2, .int b1, .ref b0] h = some r from e) _ _ rfl
def lX12_matchAll_101 : List ra_I := [(101, .iload 9, 2, 9, 0, 0, 0, 0, []),
  (103, .iload_n 1, 1, 1, 0, 0, 0, 0, []),
  (104, .if_icmp .ge (91), 3, 195, 0, 0, 0, 0, []),
  (107, .aload_n 0, 1, 0, 0, 0, 0, 0, []),
  (108, .iload 5, 2, 5, 0, 0, 0, 0, []),
  (110, .iload 9, 2, 9, 0, 0, 0, 0, []),
  (112, .invokevirtual 455, 3, 288, 3, 1, 0, 0, []),
  (115, .ifCond .eq (74), 3, 189, 0, 0, 0, 0, []),
  (118, .aload_n 0, 1, 0, 0, 0, 0, 0, []),
  (119, .iload 4, 2, 4, 0, 0, 0, 0, []),
  (121, .iload 5, 2, 5, 0, 0, 0, 0, []),
  (123, .iload 9, 2, 9, 0, 0, 0, 0, []),
  (125, .invokevirtual 452, 3, 287, 4, 1, 0, 0, []),
  (128, .istore 10, 2, 10, 0, 0, 0, 0, []),
  (130, .iload 10, 2, 10, 0, 0, 0, 0, []),
  (132, .iload 6, 2, 6, 0, 0, 0, 0, []),
  (134, .if_icmp .le (7), 3, 141, 0, 0, 0, 0, []),
  (137, .lconst 0, 1, 0, 0, 0, 0, 0, []),
  (138, .goto (5), 3, 143, 0, 0, 0, 0, []),
  (141, .lload 7, 2, 7, 0, 0, 0, 0, []),
  (195, .aload_n 0, 1, 0, 0, 0, 0, 0, []),
  (196, .getfield 111, 3, 12, 44, 2, 0, 0, []),
  (199, .sipush (4096), 3, 0, 0, 0, (4096), 0, []),
  (202, .iload 4, 2, 4, 0, 0, 0, 0, []),
  (204, .imul, 1, 0, 0, 0, 0, 0, []),
  (205, .iload 5, 2, 5, 0, 0, 0, 0, []),
  (207, .iadd, 1, 0, 0, 0, 0, 0, []),
  (208, .iload 6, 2, 6, 0, 0, 0, 0, []),
  (210, .iastore, 1, 0, 0, 0, 0, 0, []),
  (211, .aload_n 0, 1, 0, 0, 0, 0, 0, []),
  (212, .getfield 117, 3, 12, 46, 2, 0, 0, []),
  (215, .iload 5, 2, 5, 0, 0, 0, 0, []),
  (217, .lload 7, 2, 7, 0, 0, 0, 0, []),
  (219, .ldc2_w 373, 3, 0, 0, 0, 0, (1000000000), []),
  (222, .lcmp, 1, 0, 0, 0, 0, 0, []),
  (223, .ifCond .ge (8), 3, 231, 0, 0, 0, 0, []),
  (226, .lload 7, 2, 7, 0, 0, 0, 0, []),
  (228, .goto (6), 3, 234, 0, 0, 0, 0, []),
  (231, .ldc2_w 373, 3, 0, 0, 0, 0, (1000000000), [])]
set_option maxRecDepth 100000 in
theorem lX12_matchAll_101_ck : lX12_matchAll_101.all (ra_ck mX12_matchAll 12) = true := by decide +kernel
def nX12_matchAll_101 (N : Nat) (c64 : Nat → Int32 → Int32 → Int32 → ra_H → Option ra_H) (c72 : Nat → Int32 → Int32 → Int32 → Int32 → ra_H → Option ra_H) : Nat → Nat → Int32 → Int32 → Int32 → Int32 → Int32 → Int64 → Int32 → ra_H → Option ra_H
  | 0, _, _, _, _, _, _, _, _, _ => none
  | n + 1, a0, a1, a2, a4, a5, a6, a7, a9, h =>
  if a9 < a1 then
    (fX12_can N a0 a5 a9 h).bind fun q4 =>
    if q4.1 = 0 then
      nX12_matchAll_189 N c64 c72 (nX12_matchAll_101 N c64 c72 n) a0 a1 a2 a4 a5 a6 a7 a9 q4.2
    else
      (fX12_with N a0 a4 a5 a9 q4.2).bind fun q5 =>
      if q5.1 ≤ a6 then
        nX12_matchAll_143 N c64 c72 (nX12_matchAll_101 N c64 c72 n) a0 a1 a2 a4 a5 a6 a9 q5.1 a7 q5.2
      else
        nX12_matchAll_143 N c64 c72 (nX12_matchAll_101 N c64 c72 n) a0 a1 a2 a4 a5 a6 a9 q5.1 ((0 : Int64)) q5.2
  else
    (ra_fR h 12 a0 44).bind fun x1 =>
    (ra_aW h 0 x1 ((((4096 : Int32)) * a4) + a5) a6).bind fun h2 =>
    (ra_fR h2 12 a0 46).bind fun x3 =>
    if (lg_cmp a7 ((1000000000 : Int64))) < 0 then
      nX12_matchAll_234 N c64 c72 a0 a1 a2 a4 a5 x3 a5 a7 h2
    else
      nX12_matchAll_234 N c64 c72 a0 a1 a2 a4 a5 x3 a5 ((1000000000 : Int64)) h2
def kX12_matchAll_101 (N : Nat) (c64 : Nat → Int32 → Int32 → Int32 → ra_H → Option ra_H) (c72 : Nat → Int32 → Int32 → Int32 → Int32 → ra_H → Option ra_H) (cs : Nat → Int32 → Int32 → Int32 → Int32 → Int32 → Int64 → Int32 → ra_H → Option ra_H) : Nat → List (Option Value) → List Value → ra_H → Option ra_H := (ra_k1 143 (fun L S h => match L, S with
  | [some (.ref a0), some (.int a1), some (.int a2), _, some (.int a4), some (.int a5), some (.int a6), _, _, some (.int a9), some (.int a10)], [.long b0] => nX12_matchAll_143 N c64 c72 cs a0 a1 a2 a4 a5 a6 a9 a10 b0 h
  | _, _ => none) (ra_k1 189 (fun L S h => match L, S with
  | [some (.ref a0), some (.int a1), some (.int a2), _, some (.int a4), some (.int a5), some (.int a6), some (.long a7), _, some (.int a9), _], [] => nX12_matchAll_189 N c64 c72 cs a0 a1 a2 a4 a5 a6 a7 a9 h
  | _, _ => none) (ra_k1 234 (fun L S h => match L, S with
  | [some (.ref a0), some (.int a1), some (.int a2), _, some (.int a4), some (.int a5), _, _, _, _, _], [.long b2, .int b1, .ref b0] => nX12_matchAll_234 N c64 c72 a0 a1 a2 a4 a5 b0 b1 b2 h
  | _, _ => none) ra_k0)))
theorem kX12_matchAll_101_ok (N : Nat) (c64 : Nat → Int32 → Int32 → Int32 → ra_H → Option ra_H) (c72 : Nat → Int32 → Int32 → Int32 → Int32 → ra_H → Option ra_H) (hc64 : ∀ a0 a1 a2 a4 h r, c64 a0 a1 a2 a4 h = some r → ra_Ru 5 mX12_matchAll 64 [some (.ref a0), some (.int a1), some (.int a2), none, some (.int a4), none, none, none, none, none, none] [] h (ra_oV r)) (hc72 : ∀ a0 a1 a2 a4 a5 h r, c72 a0 a1 a2 a4 a5 h = some r → ra_Ru 5 mX12_matchAll 72 [some (.ref a0), some (.int a1), some (.int a2), none, some (.int a4), some (.int a5), none, none, none, none, none] [] h (ra_oV r)) (cs : Nat → Int32 → Int32 → Int32 → Int32 → Int32 → Int64 → Int32 → ra_H → Option ra_H) (hcs : ∀ a0 a1 a2 a4 a5 a6 a7 a9 h r, cs a0 a1 a2 a4 a5 a6 a7 a9 h = some r → ra_Ru 5 mX12_matchAll 101 [some (.ref a0), some (.int a1), some (.int a2), none, some (.int a4), some (.int a5), some (.int a6), some (.long a7), none, some (.int a9), none] [] h (ra_oV r)) : ra_kok 5 mX12_matchAll ra_oV (kX12_matchAll_101 N c64 c72 cs) := (ra_k1_ok (by
  intro L S h a e
  split at e
  · exact ra_Ru.weak (nX12_matchAll_143_ok N c64 c72 cs hc64 hc72 hcs _ _ _ _ _ _ _ _ _ _ _ e) ⟨rfl, ⟨rfl, ⟨rfl, ⟨rfl, ⟨rfl, ⟨rfl, ⟨rfl, ⟨rfl, trivial⟩⟩⟩⟩⟩⟩⟩⟩
  · cases e) (ra_k1_ok (by
  intro L S h a e
  split at e
  · exact ra_Ru.weak (nX12_matchAll_189_ok N c64 c72 cs hc64 hc72 hcs _ _ _ _ _ _ _ _ _ _ e) ⟨rfl, ⟨rfl, ⟨rfl, ⟨rfl, ⟨rfl, ⟨rfl, ⟨rfl, ⟨rfl, trivial⟩⟩⟩⟩⟩⟩⟩⟩
  · cases e) (ra_k1_ok (by
  intro L S h a e
  split at e
  · exact ra_Ru.weak (nX12_matchAll_234_ok N c64 c72 hc64 hc72 _ _ _ _ _ _ _ _ _ _ e) ⟨rfl, ⟨rfl, ⟨rfl, ⟨rfl, ⟨rfl, trivial⟩⟩⟩⟩⟩
  · cases e) ra_k0_ok)))
set_option maxRecDepth 100000 in
theorem nX12_matchAll_101_ok (N : Nat) (c64 : Nat → Int32 → Int32 → Int32 → ra_H → Option ra_H) (c72 : Nat → Int32 → Int32 → Int32 → Int32 → ra_H → Option ra_H) (hc64 : ∀ a0 a1 a2 a4 h r, c64 a0 a1 a2 a4 h = some r → ra_Ru 5 mX12_matchAll 64 [some (.ref a0), some (.int a1), some (.int a2), none, some (.int a4), none, none, none, none, none, none] [] h (ra_oV r)) (hc72 : ∀ a0 a1 a2 a4 a5 h r, c72 a0 a1 a2 a4 a5 h = some r → ra_Ru 5 mX12_matchAll 72 [some (.ref a0), some (.int a1), some (.int a2), none, some (.int a4), some (.int a5), none, none, none, none, none] [] h (ra_oV r)) : ∀ n a0 a1 a2 a4 a5 a6 a7 a9 h r, nX12_matchAll_101 N c64 c72 n a0 a1 a2 a4 a5 a6 a7 a9 h = some r → ra_Ru 5 mX12_matchAll 101 [some (.ref a0), some (.int a1), some (.int a2), none, some (.int a4), some (.int a5), some (.int a6), some (.long a7), none, some (.int a9), none] [] h (ra_oV r) := by
  intro n
  induction n with
  | zero => intro a0 a1 a2 a4 a5 a6 a7 a9 h r e; cases e
  | succ n ih =>
    intro a0 a1 a2 a4 a5 a6 a7 a9 h r e
    exact ra_sound (by omega) rfl ra_rV_ok (kX12_matchAll_101_ok N c64 c72 hc64 hc72 (nX12_matchAll_101 N c64 c72 n) ih) (fun m av h h1 e => (tVX12_matchAll_ok N) m av h h1 e) (fun m av h x h1 e => (tIX12_matchAll_ok N) m av h (x, h1) e) (fun m av h x h1 e => (ra_c0_ok (ro := ra_oJ)) m av h (x, h1) e) (fun m av h x h1 e => (ra_c0_ok (ro := ra_oR)) m av h (x, h1) e) (fun m av h x h1 e => (ra_c0_ok (ro := ra_oN)) m av h (x, h1) e) (fun m av h x h1 e => (ra_c0_ok (ro := ra_oF)) m av h (x, h1) e) 40 lX12_matchAll_101 _ _ _ _ lX12_matchAll_101_ck (show ra_run ra_rV (kX12_matchAll_101 N c64 c72 (nX12_matchAll_101 N c64 c72 n)) (tVX12_matchAll N) (tIX12_matchAll N) ra_c0 ra_c0 ra_c0 ra_c0 40 lX12_matchAll_101 [some (.ref a0), some (.int a1), some (.int a2), none, some (.int a4), some (.int a5), some (.int a6), some (.long a7), none, some (.int a9), none] [] h = some r from e) _ _ rfl
def lX12_matchAll_244 : List ra_I := [(244, .iload 5, 2, 5, 0, 0, 0, 0, []),
  (246, .iload_n 2, 1, 2, 0, 0, 0, 0, []),
  (247, .if_icmp .ge (23), 3, 270, 0, 0, 0, 0, []),
  (250, .aload_n 0, 1, 0, 0, 0, 0, 0, []),
  (251, .getfield 114, 3, 12, 45, 2, 0, 0, []),
  (254, .iload 5, 2, 5, 0, 0, 0, 0, []),
  (256, .aload_n 0, 1, 0, 0, 0, 0, 0, []),
  (257, .getfield 117, 3, 12, 46, 2, 0, 0, []),
  (260, .iload 5, 2, 5, 0, 0, 0, 0, []),
  (262, .laload, 1, 0, 0, 0, 0, 0, []),
  (263, .lastore, 1, 0, 0, 0, 0, 0, []),
  (264, .iinc 5 (1), 3, 5, 0, 0, (1), 0, []),
  (267, .goto (-23), 3, 244, 0, 0, 0, 0, []),
  (270, .iinc 4 (-1), 3, 4, 0, 0, (-1), 0, []),
  (273, .goto (-209), 3, 64, 0, 0, 0, 0, [])]
set_option maxRecDepth 100000 in
theorem lX12_matchAll_244_ck : lX12_matchAll_244.all (ra_ck mX12_matchAll 12) = true := by decide +kernel
def nX12_matchAll_244 (N : Nat) (c64 : Nat → Int32 → Int32 → Int32 → ra_H → Option ra_H) : Nat → Nat → Int32 → Int32 → Int32 → Int32 → ra_H → Option ra_H
  | 0, _, _, _, _, _, _ => none
  | n + 1, a0, a1, a2, a4, a5, h =>
  if a5 < a2 then
    (ra_fR h 12 a0 45).bind fun x2 =>
    (ra_fR h 12 a0 46).bind fun x3 =>
    (ra_aJ h x3 a5).bind fun x4 =>
    (ra_aWJ h x2 a5 x4).bind fun h5 =>
    let y6 := a5 + (1 : Int32)
    nX12_matchAll_244 N c64 n a0 a1 a2 a4 y6 h5
  else
    let y1 := a4 + (-1 : Int32)
    c64 a0 a1 a2 y1 h
def kX12_matchAll_244 (N : Nat) (c64 : Nat → Int32 → Int32 → Int32 → ra_H → Option ra_H) (cs : Nat → Int32 → Int32 → Int32 → Int32 → ra_H → Option ra_H) : Nat → List (Option Value) → List Value → ra_H → Option ra_H := (ra_k1 64 (fun L S h => match L, S with
  | [some (.ref a0), some (.int a1), some (.int a2), _, some (.int a4), _, _, _, _, _, _], [] => c64 a0 a1 a2 a4 h
  | _, _ => none) (ra_k1 244 (fun L S h => match L, S with
  | [some (.ref a0), some (.int a1), some (.int a2), _, some (.int a4), some (.int a5), _, _, _, _, _], [] => cs a0 a1 a2 a4 a5 h
  | _, _ => none) ra_k0))
theorem kX12_matchAll_244_ok (N : Nat) (c64 : Nat → Int32 → Int32 → Int32 → ra_H → Option ra_H) (hc64 : ∀ a0 a1 a2 a4 h r, c64 a0 a1 a2 a4 h = some r → ra_Ru 5 mX12_matchAll 64 [some (.ref a0), some (.int a1), some (.int a2), none, some (.int a4), none, none, none, none, none, none] [] h (ra_oV r)) (cs : Nat → Int32 → Int32 → Int32 → Int32 → ra_H → Option ra_H) (hcs : ∀ a0 a1 a2 a4 a5 h r, cs a0 a1 a2 a4 a5 h = some r → ra_Ru 5 mX12_matchAll 244 [some (.ref a0), some (.int a1), some (.int a2), none, some (.int a4), some (.int a5), none, none, none, none, none] [] h (ra_oV r)) : ra_kok 5 mX12_matchAll ra_oV (kX12_matchAll_244 N c64 cs) := (ra_k1_ok (by
  intro L S h a e
  split at e
  · exact ra_Ru.weak (hc64 _ _ _ _ _ _ e) ⟨rfl, ⟨rfl, ⟨rfl, ⟨rfl, trivial⟩⟩⟩⟩
  · cases e) (ra_k1_ok (by
  intro L S h a e
  split at e
  · exact ra_Ru.weak (hcs _ _ _ _ _ _ _ e) ⟨rfl, ⟨rfl, ⟨rfl, ⟨rfl, ⟨rfl, trivial⟩⟩⟩⟩⟩
  · cases e) ra_k0_ok))
set_option maxRecDepth 100000 in
theorem nX12_matchAll_244_ok (N : Nat) (c64 : Nat → Int32 → Int32 → Int32 → ra_H → Option ra_H) (hc64 : ∀ a0 a1 a2 a4 h r, c64 a0 a1 a2 a4 h = some r → ra_Ru 5 mX12_matchAll 64 [some (.ref a0), some (.int a1), some (.int a2), none, some (.int a4), none, none, none, none, none, none] [] h (ra_oV r)) : ∀ n a0 a1 a2 a4 a5 h r, nX12_matchAll_244 N c64 n a0 a1 a2 a4 a5 h = some r → ra_Ru 5 mX12_matchAll 244 [some (.ref a0), some (.int a1), some (.int a2), none, some (.int a4), some (.int a5), none, none, none, none, none] [] h (ra_oV r) := by
  intro n
  induction n with
  | zero => intro a0 a1 a2 a4 a5 h r e; cases e
  | succ n ih =>
    intro a0 a1 a2 a4 a5 h r e
    exact ra_sound (by omega) rfl ra_rV_ok (kX12_matchAll_244_ok N c64 hc64 (nX12_matchAll_244 N c64 n) ih) (fun m av h h1 e => (tVX12_matchAll_ok N) m av h h1 e) (fun m av h x h1 e => (tIX12_matchAll_ok N) m av h (x, h1) e) (fun m av h x h1 e => (ra_c0_ok (ro := ra_oJ)) m av h (x, h1) e) (fun m av h x h1 e => (ra_c0_ok (ro := ra_oR)) m av h (x, h1) e) (fun m av h x h1 e => (ra_c0_ok (ro := ra_oN)) m av h (x, h1) e) (fun m av h x h1 e => (ra_c0_ok (ro := ra_oF)) m av h (x, h1) e) 16 lX12_matchAll_244 _ _ _ _ lX12_matchAll_244_ck (show ra_run ra_rV (kX12_matchAll_244 N c64 (nX12_matchAll_244 N c64 n)) (tVX12_matchAll N) (tIX12_matchAll N) ra_c0 ra_c0 ra_c0 ra_c0 16 lX12_matchAll_244 [some (.ref a0), some (.int a1), some (.int a2), none, some (.int a4), some (.int a5), none, none, none, none, none] [] h = some r from e) _ _ rfl
def lX12_matchAll_72 : List ra_I := [(72, .iload 5, 2, 5, 0, 0, 0, 0, []),
  (74, .iload_n 2, 1, 2, 0, 0, 0, 0, []),
  (75, .if_icmp .ge (166), 3, 241, 0, 0, 0, 0, []),
  (78, .aload_n 0, 1, 0, 0, 0, 0, 0, []),
  (79, .iload 4, 2, 4, 0, 0, 0, 0, []),
  (81, .iload 5, 2, 5, 0, 0, 0, 0, []),
  (83, .iload_n 1, 1, 1, 0, 0, 0, 0, []),
  (84, .invokevirtual 452, 3, 287, 4, 1, 0, 0, []),
  (87, .istore 6, 2, 6, 0, 0, 0, 0, []),
  (89, .aload_n 0, 1, 0, 0, 0, 0, 0, []),
  (90, .getfield 114, 3, 12, 45, 2, 0, 0, []),
  (93, .iload 5, 2, 5, 0, 0, 0, 0, []),
  (95, .laload, 1, 0, 0, 0, 0, 0, []),
  (96, .lstore 7, 2, 7, 0, 0, 0, 0, []),
  (98, .iconst (0), 1, 0, 0, 0, (0), 0, []),
  (99, .istore 9, 2, 9, 0, 0, 0, 0, []),
  (241, .iconst (0), 1, 0, 0, 0, (0), 0, []),
  (242, .istore 5, 2, 5, 0, 0, 0, 0, [])]
set_option maxRecDepth 100000 in
theorem lX12_matchAll_72_ck : lX12_matchAll_72.all (ra_ck mX12_matchAll 12) = true := by decide +kernel
def nX12_matchAll_72 (N : Nat) (c64 : Nat → Int32 → Int32 → Int32 → ra_H → Option ra_H) : Nat → Nat → Int32 → Int32 → Int32 → Int32 → ra_H → Option ra_H
  | 0, _, _, _, _, _, _ => none
  | n + 1, a0, a1, a2, a4, a5, h =>
  if a5 < a2 then
    (fX12_with N a0 a4 a5 a1 h).bind fun q1 =>
    (ra_fR q1.2 12 a0 45).bind fun x2 =>
    (ra_aJ q1.2 x2 a5).bind fun x3 =>
    nX12_matchAll_101 N c64 (nX12_matchAll_72 N c64 n) N a0 a1 a2 a4 a5 q1.1 x3 ((0 : Int32)) q1.2
  else
    nX12_matchAll_244 N c64 N a0 a1 a2 a4 ((0 : Int32)) h
def kX12_matchAll_72 (N : Nat) (c64 : Nat → Int32 → Int32 → Int32 → ra_H → Option ra_H) (cs : Nat → Int32 → Int32 → Int32 → Int32 → ra_H → Option ra_H) : Nat → List (Option Value) → List Value → ra_H → Option ra_H := (ra_k1 101 (fun L S h => match L, S with
  | [some (.ref a0), some (.int a1), some (.int a2), _, some (.int a4), some (.int a5), some (.int a6), some (.long a7), _, some (.int a9), _], [] => nX12_matchAll_101 N c64 cs N a0 a1 a2 a4 a5 a6 a7 a9 h
  | _, _ => none) (ra_k1 244 (fun L S h => match L, S with
  | [some (.ref a0), some (.int a1), some (.int a2), _, some (.int a4), some (.int a5), _, _, _, _, _], [] => nX12_matchAll_244 N c64 N a0 a1 a2 a4 a5 h
  | _, _ => none) ra_k0))
theorem kX12_matchAll_72_ok (N : Nat) (c64 : Nat → Int32 → Int32 → Int32 → ra_H → Option ra_H) (hc64 : ∀ a0 a1 a2 a4 h r, c64 a0 a1 a2 a4 h = some r → ra_Ru 5 mX12_matchAll 64 [some (.ref a0), some (.int a1), some (.int a2), none, some (.int a4), none, none, none, none, none, none] [] h (ra_oV r)) (cs : Nat → Int32 → Int32 → Int32 → Int32 → ra_H → Option ra_H) (hcs : ∀ a0 a1 a2 a4 a5 h r, cs a0 a1 a2 a4 a5 h = some r → ra_Ru 5 mX12_matchAll 72 [some (.ref a0), some (.int a1), some (.int a2), none, some (.int a4), some (.int a5), none, none, none, none, none] [] h (ra_oV r)) : ra_kok 5 mX12_matchAll ra_oV (kX12_matchAll_72 N c64 cs) := (ra_k1_ok (by
  intro L S h a e
  split at e
  · exact ra_Ru.weak (nX12_matchAll_101_ok N c64 cs hc64 hcs N _ _ _ _ _ _ _ _ _ _ e) ⟨rfl, ⟨rfl, ⟨rfl, ⟨rfl, ⟨rfl, ⟨rfl, ⟨rfl, ⟨rfl, trivial⟩⟩⟩⟩⟩⟩⟩⟩
  · cases e) (ra_k1_ok (by
  intro L S h a e
  split at e
  · exact ra_Ru.weak (nX12_matchAll_244_ok N c64 hc64 N _ _ _ _ _ _ _ e) ⟨rfl, ⟨rfl, ⟨rfl, ⟨rfl, ⟨rfl, trivial⟩⟩⟩⟩⟩
  · cases e) ra_k0_ok))
set_option maxRecDepth 100000 in
theorem nX12_matchAll_72_ok (N : Nat) (c64 : Nat → Int32 → Int32 → Int32 → ra_H → Option ra_H) (hc64 : ∀ a0 a1 a2 a4 h r, c64 a0 a1 a2 a4 h = some r → ra_Ru 5 mX12_matchAll 64 [some (.ref a0), some (.int a1), some (.int a2), none, some (.int a4), none, none, none, none, none, none] [] h (ra_oV r)) : ∀ n a0 a1 a2 a4 a5 h r, nX12_matchAll_72 N c64 n a0 a1 a2 a4 a5 h = some r → ra_Ru 5 mX12_matchAll 72 [some (.ref a0), some (.int a1), some (.int a2), none, some (.int a4), some (.int a5), none, none, none, none, none] [] h (ra_oV r) := by
  intro n
  induction n with
  | zero => intro a0 a1 a2 a4 a5 h r e; cases e
  | succ n ih =>
    intro a0 a1 a2 a4 a5 h r e
    exact ra_sound (by omega) rfl ra_rV_ok (kX12_matchAll_72_ok N c64 hc64 (nX12_matchAll_72 N c64 n) ih) (fun m av h h1 e => (tVX12_matchAll_ok N) m av h h1 e) (fun m av h x h1 e => (tIX12_matchAll_ok N) m av h (x, h1) e) (fun m av h x h1 e => (ra_c0_ok (ro := ra_oJ)) m av h (x, h1) e) (fun m av h x h1 e => (ra_c0_ok (ro := ra_oR)) m av h (x, h1) e) (fun m av h x h1 e => (ra_c0_ok (ro := ra_oN)) m av h (x, h1) e) (fun m av h x h1 e => (ra_c0_ok (ro := ra_oF)) m av h (x, h1) e) 19 lX12_matchAll_72 _ _ _ _ lX12_matchAll_72_ck (show ra_run ra_rV (kX12_matchAll_72 N c64 (nX12_matchAll_72 N c64 n)) (tVX12_matchAll N) (tIX12_matchAll N) ra_c0 ra_c0 ra_c0 ra_c0 19 lX12_matchAll_72 [some (.ref a0), some (.int a1), some (.int a2), none, some (.int a4), some (.int a5), none, none, none, none, none] [] h = some r from e) _ _ rfl
def lX12_matchAll_64 : List ra_I := [(64, .iload 4, 2, 4, 0, 0, 0, 0, []),
  (66, .ifCond .lt (210), 3, 276, 0, 0, 0, 0, []),
  (69, .iconst (0), 1, 0, 0, 0, (0), 0, []),
  (70, .istore 5, 2, 5, 0, 0, 0, 0, []),
  (276, .aload_n 0, 1, 0, 0, 0, 0, 0, []),
  (277, .aload_n 0, 1, 0, 0, 0, 0, 0, []),
  (278, .getfield 114, 3, 12, 45, 2, 0, 0, []),
  (281, .iconst (0), 1, 0, 0, 0, (0), 0, []),
  (282, .laload, 1, 0, 0, 0, 0, 0, []),
  (283, .putfield 458, 3, 12, 51, 1, 0, 0, []),
  (286, .aload_n 0, 1, 0, 0, 0, 0, 0, []),
  (287, .invokevirtual 461, 3, 289, 1, 0, 0, 0, []),
  (290, .return_, 1, 0, 0, 0, 0, 0, [])]
set_option maxRecDepth 100000 in
theorem lX12_matchAll_64_ck : lX12_matchAll_64.all (ra_ck mX12_matchAll 12) = true := by decide +kernel
def nX12_matchAll_64 (N : Nat) : Nat → Nat → Int32 → Int32 → Int32 → ra_H → Option ra_H
  | 0, _, _, _, _, _ => none
  | n + 1, a0, a1, a2, a4, h =>
  if a4 < 0 then
    (ra_fR h 12 a0 45).bind fun x1 =>
    (ra_aJ h x1 ((0 : Int32))).bind fun x2 =>
    (ra_fW h 12 a0 51 (.long x2)).bind fun h3 =>
    (fX12_findFirst N a0 h3).bind fun h4 =>
    some h4
  else
    nX12_matchAll_72 N (nX12_matchAll_64 N n) N a0 a1 a2 a4 ((0 : Int32)) h
def kX12_matchAll_64 (N : Nat) (cs : Nat → Int32 → Int32 → Int32 → ra_H → Option ra_H) : Nat → List (Option Value) → List Value → ra_H → Option ra_H := (ra_k1 72 (fun L S h => match L, S with
  | [some (.ref a0), some (.int a1), some (.int a2), _, some (.int a4), some (.int a5), _, _, _, _, _], [] => nX12_matchAll_72 N cs N a0 a1 a2 a4 a5 h
  | _, _ => none) ra_k0)
theorem kX12_matchAll_64_ok (N : Nat) (cs : Nat → Int32 → Int32 → Int32 → ra_H → Option ra_H) (hcs : ∀ a0 a1 a2 a4 h r, cs a0 a1 a2 a4 h = some r → ra_Ru 5 mX12_matchAll 64 [some (.ref a0), some (.int a1), some (.int a2), none, some (.int a4), none, none, none, none, none, none] [] h (ra_oV r)) : ra_kok 5 mX12_matchAll ra_oV (kX12_matchAll_64 N cs) := (ra_k1_ok (by
  intro L S h a e
  split at e
  · exact ra_Ru.weak (nX12_matchAll_72_ok N cs hcs N _ _ _ _ _ _ _ e) ⟨rfl, ⟨rfl, ⟨rfl, ⟨rfl, ⟨rfl, trivial⟩⟩⟩⟩⟩
  · cases e) ra_k0_ok)
set_option maxRecDepth 100000 in
theorem nX12_matchAll_64_ok (N : Nat) : ∀ n a0 a1 a2 a4 h r, nX12_matchAll_64 N n a0 a1 a2 a4 h = some r → ra_Ru 5 mX12_matchAll 64 [some (.ref a0), some (.int a1), some (.int a2), none, some (.int a4), none, none, none, none, none, none] [] h (ra_oV r) := by
  intro n
  induction n with
  | zero => intro a0 a1 a2 a4 h r e; cases e
  | succ n ih =>
    intro a0 a1 a2 a4 h r e
    exact ra_sound (by omega) rfl ra_rV_ok (kX12_matchAll_64_ok N (nX12_matchAll_64 N n) ih) (fun m av h h1 e => (tVX12_matchAll_ok N) m av h h1 e) (fun m av h x h1 e => (tIX12_matchAll_ok N) m av h (x, h1) e) (fun m av h x h1 e => (ra_c0_ok (ro := ra_oJ)) m av h (x, h1) e) (fun m av h x h1 e => (ra_c0_ok (ro := ra_oR)) m av h (x, h1) e) (fun m av h x h1 e => (ra_c0_ok (ro := ra_oN)) m av h (x, h1) e) (fun m av h x h1 e => (ra_c0_ok (ro := ra_oF)) m av h (x, h1) e) 14 lX12_matchAll_64 _ _ _ _ lX12_matchAll_64_ck (show ra_run ra_rV (kX12_matchAll_64 N (nX12_matchAll_64 N n)) (tVX12_matchAll N) (tIX12_matchAll N) ra_c0 ra_c0 ra_c0 ra_c0 14 lX12_matchAll_64 [some (.ref a0), some (.int a1), some (.int a2), none, some (.int a4), none, none, none, none, none, none] [] h = some r from e) _ _ rfl
def lX12_matchAll_25 : List ra_I := [(25, .iload 4, 2, 4, 0, 0, 0, 0, []),
  (27, .iload_n 2, 1, 2, 0, 0, 0, 0, []),
  (28, .if_icmp .ge (31), 3, 59, 0, 0, 0, 0, []),
  (31, .aload_n 0, 1, 0, 0, 0, 0, 0, []),
  (32, .getfield 111, 3, 12, 44, 2, 0, 0, []),
  (35, .sipush (4096), 3, 0, 0, 0, (4096), 0, []),
  (38, .iload_n 3, 1, 3, 0, 0, 0, 0, []),
  (39, .imul, 1, 0, 0, 0, 0, 0, []),
  (40, .iload 4, 2, 4, 0, 0, 0, 0, []),
  (42, .iadd, 1, 0, 0, 0, 0, 0, []),
  (43, .iconst (0), 1, 0, 0, 0, (0), 0, []),
  (44, .iastore, 1, 0, 0, 0, 0, 0, []),
  (45, .aload_n 0, 1, 0, 0, 0, 0, 0, []),
  (46, .getfield 114, 3, 12, 45, 2, 0, 0, []),
  (49, .iload 4, 2, 4, 0, 0, 0, 0, []),
  (51, .lconst 1, 1, 0, 0, 0, 0, 1, []),
  (52, .lastore, 1, 0, 0, 0, 0, 0, []),
  (53, .iinc 4 (1), 3, 4, 0, 0, (1), 0, []),
  (56, .goto (-31), 3, 25, 0, 0, 0, 0, []),
  (59, .iload_n 3, 1, 3, 0, 0, 0, 0, []),
  (60, .iconst (1), 1, 0, 0, 0, (1), 0, []),
  (61, .isub, 1, 0, 0, 0, 0, 0, []),
  (62, .istore 4, 2, 4, 0, 0, 0, 0, [])]
set_option maxRecDepth 100000 in
theorem lX12_matchAll_25_ck : lX12_matchAll_25.all (ra_ck mX12_matchAll 12) = true := by decide +kernel
def nX12_matchAll_25 (N : Nat) : Nat → Nat → Int32 → Int32 → Int32 → Int32 → ra_H → Option ra_H
  | 0, _, _, _, _, _, _ => none
  | n + 1, a0, a1, a2, a3, a4, h =>
  if a4 < a2 then
    (ra_fR h 12 a0 44).bind fun x2 =>
    (ra_aW h 0 x2 ((((4096 : Int32)) * a3) + a4) ((0 : Int32))).bind fun h3 =>
    (ra_fR h3 12 a0 45).bind fun x4 =>
    (ra_aWJ h3 x4 a4 ((1 : Int64))).bind fun h5 =>
    let y6 := a4 + (1 : Int32)
    nX12_matchAll_25 N n a0 a1 a2 a3 y6 h5
  else
    let y1 := a3 - ((1 : Int32))
    nX12_matchAll_64 N N a0 a1 a2 y1 h
def kX12_matchAll_25 (N : Nat) (cs : Nat → Int32 → Int32 → Int32 → Int32 → ra_H → Option ra_H) : Nat → List (Option Value) → List Value → ra_H → Option ra_H := (ra_k1 25 (fun L S h => match L, S with
  | [some (.ref a0), some (.int a1), some (.int a2), some (.int a3), some (.int a4), _, _, _, _, _, _], [] => cs a0 a1 a2 a3 a4 h
  | _, _ => none) (ra_k1 64 (fun L S h => match L, S with
  | [some (.ref a0), some (.int a1), some (.int a2), _, some (.int a4), _, _, _, _, _, _], [] => nX12_matchAll_64 N N a0 a1 a2 a4 h
  | _, _ => none) ra_k0))
theorem kX12_matchAll_25_ok (N : Nat) (cs : Nat → Int32 → Int32 → Int32 → Int32 → ra_H → Option ra_H) (hcs : ∀ a0 a1 a2 a3 a4 h r, cs a0 a1 a2 a3 a4 h = some r → ra_Ru 5 mX12_matchAll 25 [some (.ref a0), some (.int a1), some (.int a2), some (.int a3), some (.int a4), none, none, none, none, none, none] [] h (ra_oV r)) : ra_kok 5 mX12_matchAll ra_oV (kX12_matchAll_25 N cs) := (ra_k1_ok (by
  intro L S h a e
  split at e
  · exact ra_Ru.weak (hcs _ _ _ _ _ _ _ e) ⟨rfl, ⟨rfl, ⟨rfl, ⟨rfl, ⟨rfl, trivial⟩⟩⟩⟩⟩
  · cases e) (ra_k1_ok (by
  intro L S h a e
  split at e
  · exact ra_Ru.weak (nX12_matchAll_64_ok N N _ _ _ _ _ _ e) ⟨rfl, ⟨rfl, ⟨rfl, ⟨rfl, trivial⟩⟩⟩⟩
  · cases e) ra_k0_ok))
set_option maxRecDepth 100000 in
theorem nX12_matchAll_25_ok (N : Nat) : ∀ n a0 a1 a2 a3 a4 h r, nX12_matchAll_25 N n a0 a1 a2 a3 a4 h = some r → ra_Ru 5 mX12_matchAll 25 [some (.ref a0), some (.int a1), some (.int a2), some (.int a3), some (.int a4), none, none, none, none, none, none] [] h (ra_oV r) := by
  intro n
  induction n with
  | zero => intro a0 a1 a2 a3 a4 h r e; cases e
  | succ n ih =>
    intro a0 a1 a2 a3 a4 h r e
    exact ra_sound (by omega) rfl ra_rV_ok (kX12_matchAll_25_ok N (nX12_matchAll_25 N n) ih) (fun m av h h1 e => (tVX12_matchAll_ok N) m av h h1 e) (fun m av h x h1 e => (tIX12_matchAll_ok N) m av h (x, h1) e) (fun m av h x h1 e => (ra_c0_ok (ro := ra_oJ)) m av h (x, h1) e) (fun m av h x h1 e => (ra_c0_ok (ro := ra_oR)) m av h (x, h1) e) (fun m av h x h1 e => (ra_c0_ok (ro := ra_oN)) m av h (x, h1) e) (fun m av h x h1 e => (ra_c0_ok (ro := ra_oF)) m av h (x, h1) e) 24 lX12_matchAll_25 _ _ _ _ lX12_matchAll_25_ck (show ra_run ra_rV (kX12_matchAll_25 N (nX12_matchAll_25 N n)) (tVX12_matchAll N) (tIX12_matchAll N) ra_c0 ra_c0 ra_c0 ra_c0 24 lX12_matchAll_25 [some (.ref a0), some (.int a1), some (.int a2), some (.int a3), some (.int a4), none, none, none, none, none, none] [] h = some r from e) _ _ rfl
def lX12_matchAll_0 : List ra_I := [(0, .aload_n 0, 1, 0, 0, 0, 0, 0, []),
  (1, .getfield 13, 3, 12, 3, 2, 0, 0, []),
  (4, .sipush (482), 3, 0, 0, 0, (482), 0, []),
  (7, .iaload, 1, 0, 0, 0, 0, 0, []),
  (8, .istore_n 1, 1, 1, 0, 0, 0, 0, []),
  (9, .iconst (1), 1, 0, 0, 0, (1), 0, []),
  (10, .iload_n 1, 1, 1, 0, 0, 0, 0, []),
  (11, .ishl, 1, 0, 0, 0, 0, 0, []),
  (12, .istore_n 2, 1, 2, 0, 0, 0, 0, []),
  (13, .aload_n 0, 1, 0, 0, 0, 0, 0, []),
  (14, .getfield 13, 3, 12, 3, 2, 0, 0, []),
  (17, .sipush (480), 3, 0, 0, 0, (480), 0, []),
  (20, .iaload, 1, 0, 0, 0, 0, 0, []),
  (21, .istore_n 3, 1, 3, 0, 0, 0, 0, []),
  (22, .iconst (0), 1, 0, 0, 0, (0), 0, []),
  (23, .istore 4, 2, 4, 0, 0, 0, 0, [])]
set_option maxRecDepth 100000 in
theorem lX12_matchAll_0_ck : lX12_matchAll_0.all (ra_ck mX12_matchAll 12) = true := by decide +kernel
def nX12_matchAll_0 (N : Nat) (a0 : Nat) (h : ra_H) : Option ra_H :=
  (ra_fR h 12 a0 3).bind fun x1 =>
  (ra_aI h 0 x1 ((482 : Int32))).bind fun x2 =>
  let y3 := ((1 : Int32)) <<< (x2 &&& 31)
  (ra_fR h 12 a0 3).bind fun x4 =>
  (ra_aI h 0 x4 ((480 : Int32))).bind fun x5 =>
  nX12_matchAll_25 N N a0 x2 y3 x5 ((0 : Int32)) h
def kX12_matchAll_0 (N : Nat) : Nat → List (Option Value) → List Value → ra_H → Option ra_H := (ra_k1 25 (fun L S h => match L, S with
  | [some (.ref a0), some (.int a1), some (.int a2), some (.int a3), some (.int a4), _, _, _, _, _, _], [] => nX12_matchAll_25 N N a0 a1 a2 a3 a4 h
  | _, _ => none) ra_k0)
theorem kX12_matchAll_0_ok (N : Nat) : ra_kok 5 mX12_matchAll ra_oV (kX12_matchAll_0 N) := (ra_k1_ok (by
  intro L S h a e
  split at e
  · exact ra_Ru.weak (nX12_matchAll_25_ok N N _ _ _ _ _ _ _ e) ⟨rfl, ⟨rfl, ⟨rfl, ⟨rfl, ⟨rfl, trivial⟩⟩⟩⟩⟩
  · cases e) ra_k0_ok)
set_option maxRecDepth 100000 in
theorem nX12_matchAll_0_ok (N : Nat) (a0 : Nat) (h : ra_H) (r : ra_H) (e : nX12_matchAll_0 N a0 h = some r) : ra_Ru 5 mX12_matchAll 0 [some (.ref a0), none, none, none, none, none, none, none, none, none, none] [] h (ra_oV r) :=
  ra_sound (by omega) rfl ra_rV_ok (kX12_matchAll_0_ok N) (fun m av h h1 e => (tVX12_matchAll_ok N) m av h h1 e) (fun m av h x h1 e => (tIX12_matchAll_ok N) m av h (x, h1) e) (fun m av h x h1 e => (ra_c0_ok (ro := ra_oJ)) m av h (x, h1) e) (fun m av h x h1 e => (ra_c0_ok (ro := ra_oR)) m av h (x, h1) e) (fun m av h x h1 e => (ra_c0_ok (ro := ra_oN)) m av h (x, h1) e) (fun m av h x h1 e => (ra_c0_ok (ro := ra_oF)) m av h (x, h1) e) 17 lX12_matchAll_0 _ _ _ _ lX12_matchAll_0_ck (show ra_run ra_rV (kX12_matchAll_0 N) (tVX12_matchAll N) (tIX12_matchAll N) ra_c0 ra_c0 ra_c0 ra_c0 17 lX12_matchAll_0 [some (.ref a0), none, none, none, none, none, none, none, none, none, none] [] h = some r from e) _ _ rfl
def fX12_matchAll (N : Nat) (p0 : Nat) (h : ra_H) : Option ra_H := match ra_isOb h p0 12 with
  | true => nX12_matchAll_0 N p0 h
  | false => none
set_option maxRecDepth 100000 in
theorem mtX12_matchAll : ra_MT[286]? = some (mX12_matchAll, 1, 0, (1, 13), (8, 184), (0, 103)) := rfl
theorem fX12_matchAll_co (N : Nat) (p0 : Nat) (h : ra_H) (r : ra_H) (e : fX12_matchAll N p0 h = some r) (D : Nat) (hD : 6 ≤ D) : ra_CO D 286 [.ref p0] h (ra_oV r).1 (ra_oV r).2 := by
  have hw : ra_nw2 [.ref p0] ≤ 11 := Nat.le_of_ble_eq_true rfl
  have hdb : ∀ v ∈ ([.ref p0] : List Value), ∀ x, v ≠ .double x := by
    intro v hv x hx
    simp [hx] at hv
  unfold fX12_matchAll at e
  split at e
  · rename_i ho
    have e1 := e
    exact ⟨5, _, mtX12_matchAll, hD, ra_ev_of (by decide) hdb hw trivial (ra_Ru.weak (nX12_matchAll_0_ok N p0 h _ e1) ⟨rfl, trivial⟩), (fun _ => ⟨_, _, rfl, ra_rcv_of ho (by decide) rfl⟩), (fun h => absurd h (by decide))⟩
  · cases e
