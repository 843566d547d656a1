/-! RedMarks$Tape.readBracketed(I)Z -/
def mX8_readBracketed : ra_M := (yX8_readBracketed, cX8_readBracketed, 2, (some .boolean))
def tVX8_readBracketed (N : Nat) (rt : Nat → Int32 → ra_H → Option (Int32 × ra_H)) : Nat → List Value → ra_H → Option ra_H := (ra_c1 43 (fun av h => match av with
  | [.ref z0] => fX8_advance N z0 h
  | _ => none) ra_c0)
theorem tVX8_readBracketed_ok (N d : Nat) (hd : 50 ≤ d) (rt : Nat → Int32 → ra_H → Option (Int32 × ra_H)) (hrt : ∀ z0 z1 h r, rt z0 z1 h = some r → ∀ D, d + 1 ≤ D → ra_CO D 70 [.ref z0, .int z1] h (ra_oI r).1 (ra_oI r).2) : ra_cok (d + 1) ra_oV (tVX8_readBracketed N rt) := (ra_c1_ok (by
  intro av h a e
  split at e
  · exact fX8_advance_co N _ _ _ e (d + 1) (by omega)
  · cases e) ra_c0_ok)
def tIX8_readBracketed (N : Nat) (rt : Nat → Int32 → ra_H → Option (Int32 × ra_H)) : Nat → List Value → ra_H → Option (Int32 × ra_H) := (ra_c1 65 (fun av h => match av with
  | [.ref z0, .int z1] => fX8_isSign N z0 z1 h
  | _ => none) (ra_c1 70 (fun av h => match av with
  | [.ref z0, .int z1] => rt z0 z1 h
  | _ => none) ra_c0))
theorem tIX8_readBracketed_ok (N d : Nat) (hd : 50 ≤ d) (rt : Nat → Int32 → ra_H → Option (Int32 × ra_H)) (hrt : ∀ z0 z1 h r, rt z0 z1 h = some r → ∀ D, d + 1 ≤ D → ra_CO D 70 [.ref z0, .int z1] h (ra_oI r).1 (ra_oI r).2) : ra_cok (d + 1) ra_oI (tIX8_readBracketed N rt) := (ra_c1_ok (by
  intro av h a e
  split at e
  · exact fX8_isSign_co N _ _ _ _ e (d + 1) (by omega)
  · cases e) (ra_c1_ok (by
  intro av h a e
  split at e
  · exact hrt _ _ _ _ e (d + 1) (by omega)
  · cases e) ra_c0_ok))
def lX8_readBracketed_31 : List ra_I := [(31, .iconst (0), 1, 0, 0, 0, (0), 0, []),
  (32, .ireturn, 1, 0, 0, 0, 0, 0, [])]
set_option maxRecDepth 100000 in
theorem lX8_readBracketed_31_ck : lX8_readBracketed_31.all (ra_ck mX8_readBracketed 8) = true := by decide +kernel
def nX8_readBracketed_31 (N : Nat) (rt : Nat → Int32 → ra_H → Option (Int32 × ra_H)) (h : ra_H) : Option (Int32 × ra_H) :=
  some ((0 : Int32), h)
def kX8_readBracketed_31 (N : Nat) (rt : Nat → Int32 → ra_H → Option (Int32 × ra_H)) : Nat → List (Option Value) → List Value → ra_H → Option (Int32 × ra_H) := ra_k0
theorem kX8_readBracketed_31_ok (N d : Nat) (hd : 50 ≤ d) (rt : Nat → Int32 → ra_H → Option (Int32 × ra_H)) (hrt : ∀ z0 z1 h r, rt z0 z1 h = some r → ∀ D, d + 1 ≤ D → ra_CO D 70 [.ref z0, .int z1] h (ra_oI r).1 (ra_oI r).2) : ra_kok (d + 1) mX8_readBracketed ra_oI (kX8_readBracketed_31 N rt) := ra_k0_ok
set_option maxRecDepth 100000 in
theorem nX8_readBracketed_31_ok (N d : Nat) (hd : 50 ≤ d) (rt : Nat → Int32 → ra_H → Option (Int32 × ra_H)) (hrt : ∀ z0 z1 h r, rt z0 z1 h = some r → ∀ D, d + 1 ≤ D → ra_CO D 70 [.ref z0, .int z1] h (ra_oI r).1 (ra_oI r).2) (h : ra_H) (r : (Int32 × ra_H)) (e : nX8_readBracketed_31 N rt h = some r) : ra_Ru (d + 1) mX8_readBracketed 31 [none, none] [] h (ra_oI r) :=
  ra_sound (by omega) rfl ra_rI_ok (kX8_readBracketed_31_ok N d hd rt hrt) (fun m av h h1 e => (tVX8_readBracketed_ok N d hd rt hrt) m av h h1 e) (fun m av h x h1 e => (tIX8_readBracketed_ok N d hd rt hrt) m av h (x, h1) e) (fun m av h x h1 e => (ra_c0_ok (ro := ra_oJ)) m av h (x, h1) e) (fun m av h x h1 e => (ra_c0_ok (ro := ra_oR)) m av h (x, h1) e) (fun m av h x h1 e => (ra_c0_ok (ro := ra_oN)) m av h (x, h1) e) (fun m av h x h1 e => (ra_c0_ok (ro := ra_oF)) m av h (x, h1) e) 3 lX8_readBracketed_31 _ _ _ _ lX8_readBracketed_31_ck (show ra_run ra_rI (kX8_readBracketed_31 N rt) (tVX8_readBracketed N rt) (tIX8_readBracketed N rt) ra_c0 ra_c0 ra_c0 ra_c0 3 lX8_readBracketed_31 [none, none] [] h = some r from e) _ _ rfl
def lX8_readBracketed_0 : List ra_I := [(0, .iload_n 1, 1, 1, 0, 0, 0, 0, []),
  (1, .bipush (8), 2, 0, 0, 0, (8), 0, []),
  (3, .if_icmp .lt (5), 3, 8, 0, 0, 0, 0, []),
  (6, .iconst (0), 1, 0, 0, 0, (0), 0, []),
  (7, .ireturn, 1, 0, 0, 0, 0, 0, []),
  (8, .aload_n 0, 1, 0, 0, 0, 0, 0, []),
  (9, .invokevirtual 42, 3, 43, 1, 0, 0, 0, []),
  (12, .aload_n 0, 1, 0, 0, 0, 0, 0, []),
  (13, .iload_n 1, 1, 1, 0, 0, 0, 0, []),
  (14, .iconst (1), 1, 0, 0, 0, (1), 0, []),
  (15, .iadd, 1, 0, 0, 0, 0, 0, []),
  (16, .invokevirtual 109, 3, 70, 2, 1, 0, 0, []),
  (19, .ifCond .eq (12), 3, 31, 0, 0, 0, 0, []),
  (22, .aload_n 0, 1, 0, 0, 0, 0, 0, []),
  (23, .bipush (41), 2, 0, 0, 0, (41), 0, []),
  (25, .invokevirtual 56, 3, 65, 2, 1, 0, 0, []),
  (28, .ifCond .ne (5), 3, 33, 0, 0, 0, 0, []),
  (33, .aload_n 0, 1, 0, 0, 0, 0, 0, []),
  (34, .invokevirtual 42, 3, 43, 1, 0, 0, 0, []),
  (37, .iconst (1), 1, 0, 0, 0, (1), 0, []),
  (38, .ireturn, 1, 0, 0, 0, 0, 0, [])]
set_option maxRecDepth 100000 in
theorem lX8_readBracketed_0_ck : lX8_readBracketed_0.all (ra_ck mX8_readBracketed 8) = true := by decide +kernel
def nX8_readBracketed_0 (N : Nat) (rt : Nat → Int32 → ra_H → Option (Int32 × ra_H)) (a0 : Nat) (a1 : Int32) (h : ra_H) : Option (Int32 × ra_H) :=
  if a1 < ((8 : Int32)) then
    (fX8_advance N a0 h).bind fun h1 =>
    (rt a0 (a1 + ((1 : Int32))) h1).bind fun q2 =>
    if q2.1 = 0 then
      nX8_readBracketed_31 N rt q2.2
    else
      (fX8_isSign N a0 ((41 : Int32)) q2.2).bind fun q3 =>
      if q3.1 = 0 then
        nX8_readBracketed_31 N rt q3.2
      else
        (fX8_advance N a0 q3.2).bind fun h4 =>
        some ((1 : Int32), h4)
  else
    some ((0 : Int32), h)
def kX8_readBracketed_0 (N : Nat) (rt : Nat → Int32 → ra_H → Option (Int32 × ra_H)) : Nat → List (Option Value) → List Value → ra_H → Option (Int32 × ra_H) := (ra_k1 31 (fun L S h => match L, S with
  | [_, _], [] => nX8_readBracketed_31 N rt h
  | _, _ => none) ra_k0)
theorem kX8_readBracketed_0_ok (N d : Nat) (hd : 50 ≤ d) (rt : Nat → Int32 → ra_H → Option (Int32 × ra_H)) (hrt : ∀ z0 z1 h r, rt z0 z1 h = some r → ∀ D, d + 1 ≤ D → ra_CO D 70 [.ref z0, .int z1] h (ra_oI r).1 (ra_oI r).2) : ra_kok (d + 1) mX8_readBracketed ra_oI (kX8_readBracketed_0 N rt) := (ra_k1_ok (by
  intro L S h a e
  split at e
  · exact ra_Ru.weak (nX8_readBracketed_31_ok N d hd rt hrt _ _ e) trivial
  · cases e) ra_k0_ok)
set_option maxRecDepth 100000 in
theorem nX8_readBracketed_0_ok (N d : Nat) (hd : 50 ≤ d) (rt : Nat → Int32 → ra_H → Option (Int32 × ra_H)) (hrt : ∀ z0 z1 h r, rt z0 z1 h = some r → ∀ D, d + 1 ≤ D → ra_CO D 70 [.ref z0, .int z1] h (ra_oI r).1 (ra_oI r).2) (a0 : Nat) (a1 : Int32) (h : ra_H) (r : (Int32 × ra_H)) (e : nX8_readBracketed_0 N rt a0 a1 h = some r) : ra_Ru (d + 1) mX8_readBracketed 0 [some (.ref a0), some (.int a1)] [] h (ra_oI r) :=
  ra_sound (by omega) rfl ra_rI_ok (kX8_readBracketed_0_ok N d hd rt hrt) (fun m av h h1 e => (tVX8_readBracketed_ok N d hd rt hrt) m av h h1 e) (fun m av h x h1 e => (tIX8_readBracketed_ok N d hd rt hrt) m av h (x, h1) e) (fun m av h x h1 e => (ra_c0_ok (ro := ra_oJ)) m av h (x, h1) e) (fun m av h x h1 e => (ra_c0_ok (ro := ra_oR)) m av h (x, h1) e) (fun m av h x h1 e => (ra_c0_ok (ro := ra_oN)) m av h (x, h1) e) (fun m av h x h1 e => (ra_c0_ok (ro := ra_oF)) m av h (x, h1) e) 22 lX8_readBracketed_0 _ _ _ _ lX8_readBracketed_0_ck (show ra_run ra_rI (kX8_readBracketed_0 N rt) (tVX8_readBracketed N rt) (tIX8_readBracketed N rt) ra_c0 ra_c0 ra_c0 ra_c0 22 lX8_readBracketed_0 [some (.ref a0), some (.int a1)] [] h = some r from e) _ _ rfl
def fX8_readBracketed (N : Nat) (rt : Nat → Int32 → ra_H → Option (Int32 × ra_H)) (p0 : Nat) (p1 : Int32) (h : ra_H) : Option (Int32 × ra_H) := match ra_isOb h p0 8 with
  | true => (nX8_readBracketed_0 N rt p0 p1 h).bind (fun q => ra_rz q.1 q.2)
  | false => none
set_option maxRecDepth 100000 in
theorem mtX8_readBracketed : ra_MT[73]? = some (mX8_readBracketed, 1, 1, (1, 4), (4, 12), (0, 20)) := rfl
theorem fX8_readBracketed_co (N d : Nat) (hd : 50 ≤ d) (rt : Nat → Int32 → ra_H → Option (Int32 × ra_H)) (hrt : ∀ z0 z1 h r, rt z0 z1 h = some r → ∀ D, d + 1 ≤ D → ra_CO D 70 [.ref z0, .int z1] h (ra_oI r).1 (ra_oI r).2) (p0 : Nat) (p1 : Int32) (h : ra_H) (r : (Int32 × ra_H)) (e : fX8_readBracketed N rt p0 p1 h = some r) (D : Nat) (hD : (d + 1) + 1 ≤ D) : ra_CO D 73 [.ref p0, .int p1] h (ra_oI r).1 (ra_oI r).2 := by
  have hw : ra_nw2 [.ref p0, .int p1] ≤ 2 := Nat.le_of_ble_eq_true rfl
  have hdb : ∀ v ∈ ([.ref p0, .int p1] : List Value), ∀ x, v ≠ .double x := by
    intro v hv x hx
    simp [hx] at hv
  unfold fX8_readBracketed at e
  split at e
  · rename_i ho
    obtain ⟨q, e1, e2⟩ := Option.bind_eq_some_iff.mp e
    obtain ⟨rfl, hz⟩ := ra_rz_of e2
    exact ⟨(d + 1), _, mtX8_readBracketed, hD, ra_ev_of (by decide) hdb hw hz (ra_Ru.weak (nX8_readBracketed_0_ok N d hd rt hrt p0 p1 h _ e1) ⟨rfl, ⟨rfl, trivial⟩⟩), (fun _ => ⟨_, _, rfl, ra_rcv_of ho (by decide) rfl⟩), (fun h => absurd h (by decide))⟩
  · cases e
/-! RedMarks$Tape.readPlain(I)Z -/
def mX8_readPlain : ra_M := (yX8_readPlain, cX8_readPlain, 4, (some .boolean))
def tVX8_readPlain (N : Nat) (rt : Nat → Int32 → ra_H → Option (Int32 × ra_H)) : Nat → List Value → ra_H → Option ra_H := (ra_c1 43 (fun av h => match av with
  | [.ref z0] => fX8_advance N z0 h
  | _ => none) (ra_c1 69 (fun av h => match av with
  | [.ref z0, .int z1, .int z2] => fX8_emit N z0 z1 z2 h
  | _ => none) ra_c0))
theorem tVX8_readPlain_ok (N d : Nat) (hd : 50 ≤ d) (rt : Nat → Int32 → ra_H → Option (Int32 × ra_H)) (hrt : ∀ z0 z1 h r, rt z0 z1 h = some r → ∀ D, d + 1 ≤ D → ra_CO D 70 [.ref z0, .int z1] h (ra_oI r).1 (ra_oI r).2) : ra_cok (d + 2) ra_oV (tVX8_readPlain N rt) := (ra_c1_ok (by
  intro av h a e
  split at e
  · exact fX8_advance_co N _ _ _ e (d + 2) (by omega)
  · cases e) (ra_c1_ok (by
  intro av h a e
  split at e
  · exact fX8_emit_co N _ _ _ _ _ e (d + 2) (by omega)
  · cases e) ra_c0_ok))
def tIX8_readPlain (N : Nat) (rt : Nat → Int32 → ra_H → Option (Int32 × ra_H)) : Nat → List Value → ra_H → Option (Int32 × ra_H) := (ra_c1 50 (fun av h => match av with
  | [.ref z0, .float z1] => fX8_isWord N z0 z1 h
  | _ => none) (ra_c1 62 (fun av h => match av with
  | [.ref z0, .int z1] => fX8_readSum N z0 z1 h
  | _ => none) (ra_c1 65 (fun av h => match av with
  | [.ref z0, .int z1] => fX8_isSign N z0 z1 h
  | _ => none) (ra_c1 73 (fun av h => match av with
  | [.ref z0, .int z1] => fX8_readBracketed N rt z0 z1 h
  | _ => none) (ra_c1 74 (fun av h => match av with
  | [.ref z0] => fX8_comparisonHere N z0 h
  | _ => none) ra_c0)))))
theorem tIX8_readPlain_ok (N d : Nat) (hd : 50 ≤ d) (rt : Nat → Int32 → ra_H → Option (Int32 × ra_H)) (hrt : ∀ z0 z1 h r, rt z0 z1 h = some r → ∀ D, d + 1 ≤ D → ra_CO D 70 [.ref z0, .int z1] h (ra_oI r).1 (ra_oI r).2) : ra_cok (d + 2) ra_oI (tIX8_readPlain N rt) := (ra_c1_ok (by
  intro av h a e
  split at e
  · exact fX8_isWord_co N _ _ _ _ e (d + 2) (by omega)
  · cases e) (ra_c1_ok (by
  intro av h a e
  split at e
  · exact fX8_readSum_co N _ _ _ _ e (d + 2) (by omega)
  · cases e) (ra_c1_ok (by
  intro av h a e
  split at e
  · exact fX8_isSign_co N _ _ _ _ e (d + 2) (by omega)
  · cases e) (ra_c1_ok (by
  intro av h a e
  split at e
  · exact fX8_readBracketed_co N d hd rt hrt _ _ _ _ e (d + 2) (by omega)
  · cases e) (ra_c1_ok (by
  intro av h a e
  split at e
  · exact fX8_comparisonHere_co N _ _ _ e (d + 2) (by omega)
  · cases e) ra_c0_ok)))))
def lX8_readPlain_29 : List ra_I := [(29, .istore_n 2, 1, 2, 0, 0, 0, 0, []),
  (30, .aload_n 0, 1, 0, 0, 0, 0, 0, []),
  (31, .invokevirtual 42, 3, 43, 1, 0, 0, 0, []),
  (34, .iinc 3 (1), 3, 3, 0, 0, (1), 0, []),
  (37, .goto (-33), 3, 4, 0, 0, 0, 0, [])]
set_option maxRecDepth 100000 in
theorem lX8_readPlain_29_ck : lX8_readPlain_29.all (ra_ck mX8_readPlain 8) = true := by decide +kernel
def nX8_readPlain_29 (N : Nat) (rt : Nat → Int32 → ra_H → Option (Int32 × ra_H)) (c4 : Nat → Int32 → Int32 → Int32 → ra_H → Option (Int32 × ra_H)) (a0 : Nat) (a1 : Int32) (a3 : Int32) (b0 : Int32) (h : ra_H) : Option (Int32 × ra_H) :=
  (fX8_advance N a0 h).bind fun h1 =>
  let y2 := a3 + (1 : Int32)
  c4 a0 a1 b0 y2 h1
def kX8_readPlain_29 (N : Nat) (rt : Nat → Int32 → ra_H → Option (Int32 × ra_H)) (c4 : Nat → Int32 → Int32 → Int32 → ra_H → Option (Int32 × ra_H)) : Nat → List (Option Value) → List Value → ra_H → Option (Int32 × ra_H) := (ra_k1 4 (fun L S h => match L, S with
  | [some (.ref a0), some (.int a1), some (.int a2), some (.int a3)], [] => c4 a0 a1 a2 a3 h
  | _, _ => none) ra_k0)
theorem kX8_readPlain_29_ok (N d : Nat) (hd : 50 ≤ d) (rt : Nat → Int32 → ra_H → Option (Int32 × ra_H)) (hrt : ∀ z0 z1 h r, rt z0 z1 h = some r → ∀ D, d + 1 ≤ D → ra_CO D 70 [.ref z0, .int z1] h (ra_oI r).1 (ra_oI r).2) (c4 : Nat → Int32 → Int32 → Int32 → ra_H → Option (Int32 × ra_H)) (hc4 : ∀ a0 a1 a2 a3 h r, c4 a0 a1 a2 a3 h = some r → ra_Ru (d + 2) mX8_readPlain 4 [some (.ref a0), some (.int a1), some (.int a2), some (.int a3)] [] h (ra_oI r)) : ra_kok (d + 2) mX8_readPlain ra_oI (kX8_readPlain_29 N rt c4) := (ra_k1_ok (by
  intro L S h a e
  split at e
  · exact ra_Ru.weak (hc4 _ _ _ _ _ _ e) ⟨rfl, ⟨rfl, ⟨rfl, ⟨rfl, trivial⟩⟩⟩⟩
  · cases e) ra_k0_ok)
set_option maxRecDepth 100000 in
theorem nX8_readPlain_29_ok (N d : Nat) (hd : 50 ≤ d) (rt : Nat → Int32 → ra_H → Option (Int32 × ra_H)) (hrt : ∀ z0 z1 h r, rt z0 z1 h = some r → ∀ D, d + 1 ≤ D → ra_CO D 70 [.ref z0, .int z1] h (ra_oI r).1 (ra_oI r).2) (c4 : Nat → Int32 → Int32 → Int32 → ra_H → Option (Int32 × ra_H)) (hc4 : ∀ a0 a1 a2 a3 h r, c4 a0 a1 a2 a3 h = some r → ra_Ru (d + 2) mX8_readPlain 4 [some (.ref a0), some (.int a1), some (.int a2), some (.int a3)] [] h (ra_oI r)) (a0 : Nat) (a1 : Int32) (a3 : Int32) (b0 : Int32) (h : ra_H) (r : (Int32 × ra_H)) (e : nX8_readPlain_29 N rt c4 a0 a1 a3 b0 h = some r) : ra_Ru (d + 2) mX8_readPlain 29 [some (.ref a0), some (.int a1), none, some (.int a3)] [.int b0] h (ra_oI r) :=
  ra_sound (by omega) rfl ra_rI_ok (kX8_readPlain_29_ok N d hd rt hrt c4 hc4) (fun m av h h1 e => (tVX8_readPlain_ok N d hd rt hrt) m av h h1 e) (fun m av h x h1 e => (tIX8_readPlain_ok N d hd rt hrt) m av h (x, h1) e) (fun m av h x h1 e => (ra_c0_ok (ro := ra_oJ)) m av h (x, h1) e) (fun m av h x h1 e => (ra_c0_ok (ro := ra_oR)) m av h (x, h1) e) (fun m av h x h1 e => (ra_c0_ok (ro := ra_oN)) m av h (x, h1) e) (fun m av h x h1 e => (ra_c0_ok (ro := ra_oF)) m av h (x, h1) e) 6 lX8_readPlain_29 _ _ _ _ lX8_readPlain_29_ck (show ra_run ra_rI (kX8_readPlain_29 N rt c4) (tVX8_readPlain N rt) (tIX8_readPlain N rt) ra_c0 ra_c0 ra_c0 ra_c0 6 lX8_readPlain_29 [some (.ref a0), some (.int a1), none, some (.int a3)] [.int b0] h = some r from e) _ _ rfl
def lX8_readPlain_112 : List ra_I := [(112, .iconst (1), 1, 0, 0, 0, (1), 0, []),
  (113, .ireturn, 1, 0, 0, 0, 0, 0, [])]
set_option maxRecDepth 100000 in
theorem lX8_readPlain_112_ck : lX8_readPlain_112.all (ra_ck mX8_readPlain 8) = true := by decide +kernel
def nX8_readPlain_112 (N : Nat) (rt : Nat → Int32 → ra_H → Option (Int32 × ra_H)) (h : ra_H) : Option (Int32 × ra_H) :=
  some ((1 : Int32), h)
def kX8_readPlain_112 (N : Nat) (rt : Nat → Int32 → ra_H → Option (Int32 × ra_H)) : Nat → List (Option Value) → List Value → ra_H → Option (Int32 × ra_H) := ra_k0
theorem kX8_readPlain_112_ok (N d : Nat) (hd : 50 ≤ d) (rt : Nat → Int32 → ra_H → Option (Int32 × ra_H)) (hrt : ∀ z0 z1 h r, rt z0 z1 h = some r → ∀ D, d + 1 ≤ D → ra_CO D 70 [.ref z0, .int z1] h (ra_oI r).1 (ra_oI r).2) : ra_kok (d + 2) mX8_readPlain ra_oI (kX8_readPlain_112 N rt) := ra_k0_ok
set_option maxRecDepth 100000 in
theorem nX8_readPlain_112_ok (N d : Nat) (hd : 50 ≤ d) (rt : Nat → Int32 → ra_H → Option (Int32 × ra_H)) (hrt : ∀ z0 z1 h r, rt z0 z1 h = some r → ∀ D, d + 1 ≤ D → ra_CO D 70 [.ref z0, .int z1] h (ra_oI r).1 (ra_oI r).2) (h : ra_H) (r : (Int32 × ra_H)) (e : nX8_readPlain_112 N rt h = some r) : ra_Ru (d + 2) mX8_readPlain 112 [none, none, none, none] [] h (ra_oI r) :=
  ra_sound (by omega) rfl ra_rI_ok (kX8_readPlain_112_ok N d hd rt hrt) (fun m av h h1 e => (tVX8_readPlain_ok N d hd rt hrt) m av h h1 e) (fun m av h x h1 e => (tIX8_readPlain_ok N d hd rt hrt) m av h (x, h1) e) (fun m av h x h1 e => (ra_c0_ok (ro := ra_oJ)) m av h (x, h1) e) (fun m av h x h1 e => (ra_c0_ok (ro := ra_oR)) m av h (x, h1) e) (fun m av h x h1 e => (ra_c0_ok (ro := ra_oN)) m av h (x, h1) e) (fun m av h x h1 e => (ra_c0_ok (ro := ra_oF)) m av h (x, h1) e) 3 lX8_readPlain_112 _ _ _ _ lX8_readPlain_112_ck (show ra_run ra_rI (kX8_readPlain_112 N rt) (tVX8_readPlain N rt) (tIX8_readPlain N rt) ra_c0 ra_c0 ra_c0 ra_c0 3 lX8_readPlain_112 [none, none, none, none] [] h = some r from e) _ _ rfl
def lX8_readPlain_101 : List ra_I := [(101, .iload_n 2, 1, 2, 0, 0, 0, 0, []),
  (102, .ifCond .eq (10), 3, 112, 0, 0, 0, 0, []),
  (105, .aload_n 0, 1, 0, 0, 0, 0, 0, []),
  (106, .bipush (9), 2, 0, 0, 0, (9), 0, []),
  (108, .iconst (0), 1, 0, 0, 0, (0), 0, []),
  (109, .invokevirtual 158, 3, 69, 3, 0, 0, 0, [])]
set_option maxRecDepth 100000 in
theorem lX8_readPlain_101_ck : lX8_readPlain_101.all (ra_ck mX8_readPlain 8) = true := by decide +kernel
def nX8_readPlain_101 (N : Nat) (rt : Nat → Int32 → ra_H → Option (Int32 × ra_H)) (a0 : Nat) (a2 : Int32) (h : ra_H) : Option (Int32 × ra_H) :=
  if a2 = 0 then
    nX8_readPlain_112 N rt h
  else
    (fX8_emit N a0 ((9 : Int32)) ((0 : Int32)) h).bind fun h1 =>
    nX8_readPlain_112 N rt h1
def kX8_readPlain_101 (N : Nat) (rt : Nat → Int32 → ra_H → Option (Int32 × ra_H)) : Nat → List (Option Value) → List Value → ra_H → Option (Int32 × ra_H) := (ra_k1 112 (fun L S h => match L, S with
  | [_, _, _, _], [] => nX8_readPlain_112 N rt h
  | _, _ => none) ra_k0)
theorem kX8_readPlain_101_ok (N d : Nat) (hd : 50 ≤ d) (rt : Nat → Int32 → ra_H → Option (Int32 × ra_H)) (hrt : ∀ z0 z1 h r, rt z0 z1 h = some r → ∀ D, d + 1 ≤ D → ra_CO D 70 [.ref z0, .int z1] h (ra_oI r).1 (ra_oI r).2) : ra_kok (d + 2) mX8_readPlain ra_oI (kX8_readPlain_101 N rt) := (ra_k1_ok (by
  intro L S h a e
  split at e
  · exact ra_Ru.weak (nX8_readPlain_112_ok N d hd rt hrt _ _ e) trivial
  · cases e) ra_k0_ok)
set_option maxRecDepth 100000 in
theorem nX8_readPlain_101_ok (N d : Nat) (hd : 50 ≤ d) (rt : Nat → Int32 → ra_H → Option (Int32 × ra_H)) (hrt : ∀ z0 z1 h r, rt z0 z1 h = some r → ∀ D, d + 1 ≤ D → ra_CO D 70 [.ref z0, .int z1] h (ra_oI r).1 (ra_oI r).2) (a0 : Nat) (a2 : Int32) (h : ra_H) (r : (Int32 × ra_H)) (e : nX8_readPlain_101 N rt a0 a2 h = some r) : ra_Ru (d + 2) mX8_readPlain 101 [some (.ref a0), none, some (.int a2), none] [] h (ra_oI r) :=
  ra_sound (by omega) rfl ra_rI_ok (kX8_readPlain_101_ok N d hd rt hrt) (fun m av h h1 e => (tVX8_readPlain_ok N d hd rt hrt) m av h h1 e) (fun m av h x h1 e => (tIX8_readPlain_ok N d hd rt hrt) m av h (x, h1) e) (fun m av h x h1 e => (ra_c0_ok (ro := ra_oJ)) m av h (x, h1) e) (fun m av h x h1 e => (ra_c0_ok (ro := ra_oR)) m av h (x, h1) e) (fun m av h x h1 e => (ra_c0_ok (ro := ra_oN)) m av h (x, h1) e) (fun m av h x h1 e => (ra_c0_ok (ro := ra_oF)) m av h (x, h1) e) 7 lX8_readPlain_101 _ _ _ _ lX8_readPlain_101_ck (show ra_run ra_rI (kX8_readPlain_101 N rt) (tVX8_readPlain N rt) (tIX8_readPlain N rt) ra_c0 ra_c0 ra_c0 ra_c0 7 lX8_readPlain_101 [some (.ref a0), none, some (.int a2), none] [] h = some r from e) _ _ rfl
def lX8_readPlain_40 : List ra_I := [(40, .aload_n 0, 1, 0, 0, 0, 0, 0, []),
  (41, .bipush (40), 2, 0, 0, 0, (40), 0, []),
  (43, .invokevirtual 56, 3, 65, 2, 1, 0, 0, []),
  (46, .ifCond .eq (13), 3, 59, 0, 0, 0, 0, []),
  (49, .aload_n 0, 1, 0, 0, 0, 0, 0, []),
  (50, .iload_n 1, 1, 1, 0, 0, 0, 0, []),
  (51, .invokevirtual 172, 3, 73, 2, 1, 0, 0, []),
  (54, .ifCond .ne (47), 3, 101, 0, 0, 0, 0, []),
  (57, .iconst (0), 1, 0, 0, 0, (0), 0, []),
  (58, .ireturn, 1, 0, 0, 0, 0, 0, []),
  (59, .aload_n 0, 1, 0, 0, 0, 0, 0, []),
  (60, .iload_n 1, 1, 1, 0, 0, 0, 0, []),
  (61, .invokevirtual 100, 3, 62, 2, 1, 0, 0, []),
  (64, .ifCond .ne (5), 3, 69, 0, 0, 0, 0, []),
  (67, .iconst (0), 1, 0, 0, 0, (0), 0, []),
  (68, .ireturn, 1, 0, 0, 0, 0, 0, []),
  (69, .aload_n 0, 1, 0, 0, 0, 0, 0, []),
  (70, .invokevirtual 175, 3, 74, 1, 1, 0, 0, []),
  (73, .istore_n 3, 1, 3, 0, 0, 0, 0, []),
  (74, .iload_n 3, 1, 3, 0, 0, 0, 0, []),
  (75, .iconst (-1), 1, 0, 0, 0, (-1), 0, []),
  (76, .if_icmp .ne (5), 3, 81, 0, 0, 0, 0, []),
  (79, .iconst (0), 1, 0, 0, 0, (0), 0, []),
  (80, .ireturn, 1, 0, 0, 0, 0, 0, []),
  (81, .aload_n 0, 1, 0, 0, 0, 0, 0, []),
  (82, .invokevirtual 42, 3, 43, 1, 0, 0, 0, []),
  (85, .aload_n 0, 1, 0, 0, 0, 0, 0, []),
  (86, .iload_n 1, 1, 1, 0, 0, 0, 0, []),
  (87, .invokevirtual 100, 3, 62, 2, 1, 0, 0, []),
  (90, .ifCond .ne (5), 3, 95, 0, 0, 0, 0, []),
  (93, .iconst (0), 1, 0, 0, 0, (0), 0, []),
  (94, .ireturn, 1, 0, 0, 0, 0, 0, []),
  (95, .aload_n 0, 1, 0, 0, 0, 0, 0, []),
  (96, .iload_n 3, 1, 3, 0, 0, 0, 0, []),
  (97, .iconst (0), 1, 0, 0, 0, (0), 0, []),
  (98, .invokevirtual 158, 3, 69, 3, 0, 0, 0, [])]
set_option maxRecDepth 100000 in
theorem lX8_readPlain_40_ck : lX8_readPlain_40.all (ra_ck mX8_readPlain 8) = true := by decide +kernel
def nX8_readPlain_40 (N : Nat) (rt : Nat → Int32 → ra_H → Option (Int32 × ra_H)) (a0 : Nat) (a1 : Int32) (a2 : Int32) (h : ra_H) : Option (Int32 × ra_H) :=
  (fX8_isSign N a0 ((40 : Int32)) h).bind fun q1 =>
  if q1.1 = 0 then
    (fX8_readSum N a0 a1 q1.2).bind fun q2 =>
    if q2.1 = 0 then
      some ((0 : Int32), q2.2)
    else
      (fX8_comparisonHere N a0 q2.2).bind fun q3 =>
      if q3.1 = ((-1 : Int32)) then
        some ((0 : Int32), q3.2)
      else
        (fX8_advance N a0 q3.2).bind fun h4 =>
        (fX8_readSum N a0 a1 h4).bind fun q5 =>
        if q5.1 = 0 then
          some ((0 : Int32), q5.2)
        else
          (fX8_emit N a0 q3.1 ((0 : Int32)) q5.2).bind fun h6 =>
          nX8_readPlain_101 N rt a0 a2 h6
  else
    (fX8_readBracketed N rt a0 a1 q1.2).bind fun q7 =>
    if q7.1 = 0 then
      some ((0 : Int32), q7.2)
    else
      nX8_readPlain_101 N rt a0 a2 q7.2
def kX8_readPlain_40 (N : Nat) (rt : Nat → Int32 → ra_H → Option (Int32 × ra_H)) : Nat → List (Option Value) → List Value → ra_H → Option (Int32 × ra_H) := (ra_k1 101 (fun L S h => match L, S with
  | [some (.ref a0), _, some (.int a2), _], [] => nX8_readPlain_101 N rt a0 a2 h
  | _, _ => none) ra_k0)
theorem kX8_readPlain_40_ok (N d : Nat) (hd : 50 ≤ d) (rt : Nat → Int32 → ra_H → Option (Int32 × ra_H)) (hrt : ∀ z0 z1 h r, rt z0 z1 h = some r → ∀ D, d + 1 ≤ D → ra_CO D 70 [.ref z0, .int z1] h (ra_oI r).1 (ra_oI r).2) : ra_kok (d + 2) mX8_readPlain ra_oI (kX8_readPlain_40 N rt) := (ra_k1_ok (by
  intro L S h a e
  split at e
  · exact ra_Ru.weak (nX8_readPlain_101_ok N d hd rt hrt _ _ _ _ e) ⟨rfl, ⟨rfl, trivial⟩⟩
  · cases e) ra_k0_ok)
set_option maxRecDepth 100000 in
theorem nX8_readPlain_40_ok (N d : Nat) (hd : 50 ≤ d) (rt : Nat → Int32 → ra_H → Option (Int32 × ra_H)) (hrt : ∀ z0 z1 h r, rt z0 z1 h = some r → ∀ D, d + 1 ≤ D → ra_CO D 70 [.ref z0, .int z1] h (ra_oI r).1 (ra_oI r).2) (a0 : Nat) (a1 : Int32) (a2 : Int32) (h : ra_H) (r : (Int32 × ra_H)) (e : nX8_readPlain_40 N rt a0 a1 a2 h = some r) : ra_Ru (d + 2) mX8_readPlain 40 [some (.ref a0), some (.int a1), some (.int a2), none] [] h (ra_oI r) :=
  ra_sound (by omega) rfl ra_rI_ok (kX8_readPlain_40_ok N d hd rt hrt) (fun m av h h1 e => (tVX8_readPlain_ok N d hd rt hrt) m av h h1 e) (fun m av h x h1 e => (tIX8_readPlain_ok N d hd rt hrt) m av h (x, h1) e) (fun m av h x h1 e => (ra_c0_ok (ro := ra_oJ)) m av h (x, h1) e) (fun m av h x h1 e => (ra_c0_ok (ro := ra_oR)) m av h (x, h1) e) (fun m av h x h1 e => (ra_c0_ok (ro := ra_oN)) m av h (x, h1) e) (fun m av h x h1 e => (ra_c0_ok (ro := ra_oF)) m av h (x, h1) e) 37 lX8_readPlain_40 _ _ _ _ lX8_readPlain_40_ck (show ra_run ra_rI (kX8_readPlain_40 N rt) (tVX8_readPlain N rt) (tIX8_readPlain N rt) ra_c0 ra_c0 ra_c0 ra_c0 37 lX8_readPlain_40 [some (.ref a0), some (.int a1), some (.int a2), none] [] h = some r from e) _ _ rfl
def lX8_readPlain_4 : List ra_I := [(4, .iload_n 3, 1, 3, 0, 0, 0, 0, []),
  (5, .sipush (400), 3, 0, 0, 0, (400), 0, []),
  (8, .if_icmp .ge (32), 3, 40, 0, 0, 0, 0, []),
  (11, .aload_n 0, 1, 0, 0, 0, 0, 0, []),
  (12, .ldc 170, 2, 21, 0, 1, 0, 0, []),
  (14, .invokevirtual 105, 3, 50, 2, 1, 0, 0, []),
  (17, .ifCond .eq (23), 3, 40, 0, 0, 0, 0, []),
  (20, .iload_n 2, 1, 2, 0, 0, 0, 0, []),
  (21, .ifCond .ne (7), 3, 28, 0, 0, 0, 0, []),
  (24, .iconst (1), 1, 0, 0, 0, (1), 0, []),
  (25, .goto (4), 3, 29, 0, 0, 0, 0, []),
  (28, .iconst (0), 1, 0, 0, 0, (0), 0, [])]
set_option maxRecDepth 100000 in
theorem lX8_readPlain_4_ck : lX8_readPlain_4.all (ra_ck mX8_readPlain 8) = true := by decide +kernel
def nX8_readPlain_4 (N : Nat) (rt : Nat → Int32 → ra_H → Option (Int32 × ra_H)) : Nat → Nat → Int32 → Int32 → Int32 → ra_H → Option (Int32 × ra_H)
  | 0, _, _, _, _, _ => none
  | n + 1, a0, a1, a2, a3, h =>
  if a3 < ((400 : Int32)) then
    (fX8_isWord N a0 ((21 : UInt32)) h).bind fun q1 =>
    if q1.1 = 0 then
      nX8_readPlain_40 N rt a0 a1 a2 q1.2
    else
      if a2 = 0 then
        nX8_readPlain_29 N rt (nX8_readPlain_4 N rt n) a0 a1 a3 ((1 : Int32)) q1.2
      else
        nX8_readPlain_29 N rt (nX8_readPlain_4 N rt n) a0 a1 a3 ((0 : Int32)) q1.2
  else
    nX8_readPlain_40 N rt a0 a1 a2 h
def kX8_readPlain_4 (N : Nat) (rt : Nat → Int32 → ra_H → Option (Int32 × ra_H)) (cs : Nat → Int32 → Int32 → Int32 → ra_H → Option (Int32 × ra_H)) : Nat → List (Option Value) → List Value → ra_H → Option (Int32 × ra_H) := (ra_k1 29 (fun L S h => match L, S with
  | [some (.ref a0), some (.int a1), _, some (.int a3)], [.int b0] => nX8_readPlain_29 N rt cs a0 a1 a3 b0 h
  | _, _ => none) (ra_k1 40 (fun L S h => match L, S with
  | [some (.ref a0), some (.int a1), some (.int a2), _], [] => nX8_readPlain_40 N rt a0 a1 a2 h
  | _, _ => none) ra_k0))
theorem kX8_readPlain_4_ok (N d : Nat) (hd : 50 ≤ d) (rt : Nat → Int32 → ra_H → Option (Int32 × ra_H)) (hrt : ∀ z0 z1 h r, rt z0 z1 h = some r → ∀ D, d + 1 ≤ D → ra_CO D 70 [.ref z0, .int z1] h (ra_oI r).1 (ra_oI r).2) (cs : Nat → Int32 → Int32 → Int32 → ra_H → Option (Int32 × ra_H)) (hcs : ∀ a0 a1 a2 a3 h r, cs a0 a1 a2 a3 h = some r → ra_Ru (d + 2) mX8_readPlain 4 [some (.ref a0), some (.int a1), some (.int a2), some (.int a3)] [] h (ra_oI r)) : ra_kok (d + 2) mX8_readPlain ra_oI (kX8_readPlain_4 N rt cs) := (ra_k1_ok (by
  intro L S h a e
  split at e
  · exact ra_Ru.weak (nX8_readPlain_29_ok N d hd rt hrt cs hcs _ _ _ _ _ _ e) ⟨rfl, ⟨rfl, ⟨rfl, trivial⟩⟩⟩
  · cases e) (ra_k1_ok (by
  intro L S h a e
  split at e
  · exact ra_Ru.weak (nX8_readPlain_40_ok N d hd rt hrt _ _ _ _ _ e) ⟨rfl, ⟨rfl, ⟨rfl, trivial⟩⟩⟩
  · cases e) ra_k0_ok))
set_option maxRecDepth 100000 in
theorem nX8_readPlain_4_ok (N d : Nat) (hd : 50 ≤ d) (rt : Nat → Int32 → ra_H → Option (Int32 × ra_H)) (hrt : ∀ z0 z1 h r, rt z0 z1 h = some r → ∀ D, d + 1 ≤ D → ra_CO D 70 [.ref z0, .int z1] h (ra_oI r).1 (ra_oI r).2) : ∀ n a0 a1 a2 a3 h r, nX8_readPlain_4 N rt n a0 a1 a2 a3 h = some r → ra_Ru (d + 2) mX8_readPlain 4 [some (.ref a0), some (.int a1), some (.int a2), some (.int a3)] [] h (ra_oI r) := by
  intro n
  induction n with
  | zero => intro a0 a1 a2 a3 h r e; cases e
  | succ n ih =>
    intro a0 a1 a2 a3 h r e
    exact ra_sound (by omega) rfl ra_rI_ok (kX8_readPlain_4_ok N d hd rt hrt (nX8_readPlain_4 N rt n) ih) (fun m av h h1 e => (tVX8_readPlain_ok N d hd rt hrt) m av h h1 e) (fun m av h x h1 e => (tIX8_readPlain_ok N d hd rt hrt) m av h (x, h1) e) (fun m av h x h1 e => (ra_c0_ok (ro := ra_oJ)) m av h (x, h1) e) (fun m av h x h1 e => (ra_c0_ok (ro := ra_oR)) m av h (x, h1) e) (fun m av h x h1 e => (ra_c0_ok (ro := ra_oN)) m av h (x, h1) e) (fun m av h x h1 e => (ra_c0_ok (ro := ra_oF)) m av h (x, h1) e) 13 lX8_readPlain_4 _ _ _ _ lX8_readPlain_4_ck (show ra_run ra_rI (kX8_readPlain_4 N rt (nX8_readPlain_4 N rt n)) (tVX8_readPlain N rt) (tIX8_readPlain N rt) ra_c0 ra_c0 ra_c0 ra_c0 13 lX8_readPlain_4 [some (.ref a0), some (.int a1), some (.int a2), some (.int a3)] [] h = some r from e) _ _ rfl
def lX8_readPlain_0 : List ra_I := [(0, .iconst (0), 1, 0, 0, 0, (0), 0, []),
  (1, .istore_n 2, 1, 2, 0, 0, 0, 0, []),
  (2, .iconst (0), 1, 0, 0, 0, (0), 0, []),
  (3, .istore_n 3, 1, 3, 0, 0, 0, 0, [])]
set_option maxRecDepth 100000 in
theorem lX8_readPlain_0_ck : lX8_readPlain_0.all (ra_ck mX8_readPlain 8) = true := by decide +kernel
def nX8_readPlain_0 (N : Nat) (rt : Nat → Int32 → ra_H → Option (Int32 × ra_H)) (a0 : Nat) (a1 : Int32) (h : ra_H) : Option (Int32 × ra_H) :=
  nX8_readPlain_4 N rt N a0 a1 ((0 : Int32)) ((0 : Int32)) h
def kX8_readPlain_0 (N : Nat) (rt : Nat → Int32 → ra_H → Option (Int32 × ra_H)) : Nat → List (Option Value) → List Value → ra_H → Option (Int32 × ra_H) := (ra_k1 4 (fun L S h => match L, S with
  | [some (.ref a0), some (.int a1), some (.int a2), some (.int a3)], [] => nX8_readPlain_4 N rt N a0 a1 a2 a3 h
  | _, _ => none) ra_k0)
theorem kX8_readPlain_0_ok (N d : Nat) (hd : 50 ≤ d) (rt : Nat → Int32 → ra_H → Option (Int32 × ra_H)) (hrt : ∀ z0 z1 h r, rt z0 z1 h = some r → ∀ D, d + 1 ≤ D → ra_CO D 70 [.ref z0, .int z1] h (ra_oI r).1 (ra_oI r).2) : ra_kok (d + 2) mX8_readPlain ra_oI (kX8_readPlain_0 N rt) := (ra_k1_ok (by
  intro L S h a e
  split at e
  · exact ra_Ru.weak (nX8_readPlain_4_ok N d hd rt hrt N _ _ _ _ _ _ e) ⟨rfl, ⟨rfl, ⟨rfl, ⟨rfl, trivial⟩⟩⟩⟩
  · cases e) ra_k0_ok)
set_option maxRecDepth 100000 in
theorem nX8_readPlain_0_ok (N d : Nat) (hd : 50 ≤ d) (rt : Nat → Int32 → ra_H → Option (Int32 × ra_H)) (hrt : ∀ z0 z1 h r, rt z0 z1 h = some r → ∀ D, d + 1 ≤ D → ra_CO D 70 [.ref z0, .int z1] h (ra_oI r).1 (ra_oI r).2) (a0 : Nat) (a1 : Int32) (h : ra_H) (r : (Int32 × ra_H)) (e : nX8_readPlain_0 N rt a0 a1 h = some r) : ra_Ru (d + 2) mX8_readPlain 0 [some (.ref a0), some (.int a1), none, none] [] h (ra_oI r) :=
  ra_sound (by omega) rfl ra_rI_ok (kX8_readPlain_0_ok N d hd rt hrt) (fun m av h h1 e => (tVX8_readPlain_ok N d hd rt hrt) m av h h1 e) (fun m av h x h1 e => (tIX8_readPlain_ok N d hd rt hrt) m av h (x, h1) e) (fun m av h x h1 e => (ra_c0_ok (ro := ra_oJ)) m av h (x, h1) e) (fun m av h x h1 e => (ra_c0_ok (ro := ra_oR)) m av h (x, h1) e) (fun m av h x h1 e => (ra_c0_ok (ro := ra_oN)) m av h (x, h1) e) (fun m av h x h1 e => (ra_c0_ok (ro := ra_oF)) m av h (x, h1) e) 5 lX8_readPlain_0 _ _ _ _ lX8_readPlain_0_ck (show ra_run ra_rI (kX8_readPlain_0 N rt) (tVX8_readPlain N rt) (tIX8_readPlain N rt) ra_c0 ra_c0 ra_c0 ra_c0 5 lX8_readPlain_0 [some (.ref a0), some (.int a1), none, none] [] h = some r from e) _ _ rfl
def fX8_readPlain (N : Nat) (rt : Nat → Int32 → ra_H → Option (Int32 × ra_H)) (p0 : Nat) (p1 : Int32) (h : ra_H) : Option (Int32 × ra_H) := match ra_isOb h p0 8 with
  | true => (nX8_readPlain_0 N rt p0 p1 h).bind (fun q => ra_rz q.1 q.2)
  | false => none
set_option maxRecDepth 100000 in
theorem mtX8_readPlain : ra_MT[72]? = some (mX8_readPlain, 1, 1, (1, 4), (4, 7), (0, 19)) := rfl
theorem fX8_readPlain_co (N d : Nat) (hd : 50 ≤ d) (rt : Nat → Int32 → ra_H → Option (Int32 × ra_H)) (hrt : ∀ z0 z1 h r, rt z0 z1 h = some r → ∀ D, d + 1 ≤ D → ra_CO D 70 [.ref z0, .int z1] h (ra_oI r).1 (ra_oI r).2) (p0 : Nat) (p1 : Int32) (h : ra_H) (r : (Int32 × ra_H)) (e : fX8_readPlain N rt p0 p1 h = some r) (D : Nat) (hD : (d + 2) + 1 ≤ D) : ra_CO D 72 [.ref p0, .int p1] h (ra_oI r).1 (ra_oI r).2 := by
  have hw : ra_nw2 [.ref p0, .int p1] ≤ 4 := Nat.le_of_ble_eq_true rfl
  have hdb : ∀ v ∈ ([.ref p0, .int p1] : List Value), ∀ x, v ≠ .double x := by
    intro v hv x hx
    simp [hx] at hv
  unfold fX8_readPlain at e
  split at e
  · rename_i ho
    obtain ⟨q, e1, e2⟩ := Option.bind_eq_some_iff.mp e
    obtain ⟨rfl, hz⟩ := ra_rz_of e2
    exact ⟨(d + 2), _, mtX8_readPlain, hD, ra_ev_of (by decide) hdb hw hz (ra_Ru.weak (nX8_readPlain_0_ok N d hd rt hrt p0 p1 h _ e1) ⟨rfl, ⟨rfl, trivial⟩⟩), (fun _ => ⟨_, _, rfl, ra_rcv_of ho (by decide) rfl⟩), (fun h => absurd h (by decide))⟩
  · cases e
/-! RedMarks$Tape.readBoth(I)Z -/
def mX8_readBoth : ra_M := (yX8_readBoth, cX8_readBoth, 4, (some .boolean))
def tVX8_readBoth (N : Nat) (rt : Nat → Int32 → ra_H → Option (Int32 × ra_H)) : Nat → List Value → ra_H → Option ra_H := (ra_c1 43 (fun av h => match av with
  | [.ref z0] => fX8_advance N z0 h
  | _ => none) (ra_c1 69 (fun av h => match av with
  | [.ref z0, .int z1, .int z2] => fX8_emit N z0 z1 z2 h
  | _ => none) (ra_c1 75 (fun av h => match av with
  | [.ref z0, .int z1, .int z2] => fX8_patch N z0 z1 z2 h
  | _ => none) ra_c0)))
theorem tVX8_readBoth_ok (N d : Nat) (hd : 50 ≤ d) (rt : Nat → Int32 → ra_H → Option (Int32 × ra_H)) (hrt : ∀ z0 z1 h r, rt z0 z1 h = some r → ∀ D, d + 1 ≤ D → ra_CO D 70 [.ref z0, .int z1] h (ra_oI r).1 (ra_oI r).2) : ra_cok (d + 3) ra_oV (tVX8_readBoth N rt) := (ra_c1_ok (by
  intro av h a e
  split at e
  · exact fX8_advance_co N _ _ _ e (d + 3) (by omega)
  · cases e) (ra_c1_ok (by
  intro av h a e
  split at e
  · exact fX8_emit_co N _ _ _ _ _ e (d + 3) (by omega)
  · cases e) (ra_c1_ok (by
  intro av h a e
  split at e
  · exact fX8_patch_co N _ _ _ _ _ e (d + 3) (by omega)
  · cases e) ra_c0_ok)))
def tIX8_readBoth (N : Nat) (rt : Nat → Int32 → ra_H → Option (Int32 × ra_H)) : Nat → List Value → ra_H → Option (Int32 × ra_H) := (ra_c1 50 (fun av h => match av with
  | [.ref z0, .float z1] => fX8_isWord N z0 z1 h
  | _ => none) (ra_c1 72 (fun av h => match av with
  | [.ref z0, .int z1] => fX8_readPlain N rt z0 z1 h
  | _ => none) ra_c0))
theorem tIX8_readBoth_ok (N d : Nat) (hd : 50 ≤ d) (rt : Nat → Int32 → ra_H → Option (Int32 × ra_H)) (hrt : ∀ z0 z1 h r, rt z0 z1 h = some r → ∀ D, d + 1 ≤ D → ra_CO D 70 [.ref z0, .int z1] h (ra_oI r).1 (ra_oI r).2) : ra_cok (d + 3) ra_oI (tIX8_readBoth N rt) := (ra_c1_ok (by
  intro av h a e
  split at e
  · exact fX8_isWord_co N _ _ _ _ e (d + 3) (by omega)
  · cases e) (ra_c1_ok (by
  intro av h a e
  split at e
  · exact fX8_readPlain_co N d hd rt hrt _ _ _ _ e (d + 3) (by omega)
  · cases e) ra_c0_ok))
def lX8_readBoth_67 : List ra_I := [(67, .iconst (1), 1, 0, 0, 0, (1), 0, []),
  (68, .ireturn, 1, 0, 0, 0, 0, 0, [])]
set_option maxRecDepth 100000 in
theorem lX8_readBoth_67_ck : lX8_readBoth_67.all (ra_ck mX8_readBoth 8) = true := by decide +kernel
def nX8_readBoth_67 (N : Nat) (rt : Nat → Int32 → ra_H → Option (Int32 × ra_H)) (h : ra_H) : Option (Int32 × ra_H) :=
  some ((1 : Int32), h)
def kX8_readBoth_67 (N : Nat) (rt : Nat → Int32 → ra_H → Option (Int32 × ra_H)) : Nat → List (Option Value) → List Value → ra_H → Option (Int32 × ra_H) := ra_k0
theorem kX8_readBoth_67_ok (N d : Nat) (hd : 50 ≤ d) (rt : Nat → Int32 → ra_H → Option (Int32 × ra_H)) (hrt : ∀ z0 z1 h r, rt z0 z1 h = some r → ∀ D, d + 1 ≤ D → ra_CO D 70 [.ref z0, .int z1] h (ra_oI r).1 (ra_oI r).2) : ra_kok (d + 3) mX8_readBoth ra_oI (kX8_readBoth_67 N rt) := ra_k0_ok
set_option maxRecDepth 100000 in
theorem nX8_readBoth_67_ok (N d : Nat) (hd : 50 ≤ d) (rt : Nat → Int32 → ra_H → Option (Int32 × ra_H)) (hrt : ∀ z0 z1 h r, rt z0 z1 h = some r → ∀ D, d + 1 ≤ D → ra_CO D 70 [.ref z0, .int z1] h (ra_oI r).1 (ra_oI r).2) (h : ra_H) (r : (Int32 × ra_H)) (e : nX8_readBoth_67 N rt h = some r) : ra_Ru (d + 3) mX8_readBoth 67 [none, none, none, none] [] h (ra_oI r) :=
  ra_sound (by omega) rfl ra_rI_ok (kX8_readBoth_67_ok N d hd rt hrt) (fun m av h h1 e => (tVX8_readBoth_ok N d hd rt hrt) m av h h1 e) (fun m av h x h1 e => (tIX8_readBoth_ok N d hd rt hrt) m av h (x, h1) e) (fun m av h x h1 e => (ra_c0_ok (ro := ra_oJ)) m av h (x, h1) e) (fun m av h x h1 e => (ra_c0_ok (ro := ra_oR)) m av h (x, h1) e) (fun m av h x h1 e => (ra_c0_ok (ro := ra_oN)) m av h (x, h1) e) (fun m av h x h1 e => (ra_c0_ok (ro := ra_oF)) m av h (x, h1) e) 3 lX8_readBoth_67 _ _ _ _ lX8_readBoth_67_ck (show ra_run ra_rI (kX8_readBoth_67 N rt) (tVX8_readBoth N rt) (tIX8_readBoth N rt) ra_c0 ra_c0 ra_c0 ra_c0 3 lX8_readBoth_67 [none, none, none, none] [] h = some r from e) _ _ rfl
def lX8_readBoth_12 : List ra_I := [(12, .iload_n 2, 1, 2, 0, 0, 0, 0, []),
  (13, .sipush (400), 3, 0, 0, 0, (400), 0, []),
  (16, .if_icmp .ge (51), 3, 67, 0, 0, 0, 0, []),
  (19, .aload_n 0, 1, 0, 0, 0, 0, 0, []),
  (20, .ldc 168, 2, 22, 0, 1, 0, 0, []),
  (22, .invokevirtual 105, 3, 50, 2, 1, 0, 0, []),
  (25, .ifCond .eq (42), 3, 67, 0, 0, 0, 0, []),
  (28, .aload_n 0, 1, 0, 0, 0, 0, 0, []),
  (29, .getfield 30, 3, 8, 6, 0, 0, 0, []),
  (32, .istore_n 3, 1, 3, 0, 0, 0, 0, []),
  (33, .aload_n 0, 1, 0, 0, 0, 0, 0, []),
  (34, .bipush (11), 2, 0, 0, 0, (11), 0, []),
  (36, .iconst (0), 1, 0, 0, 0, (0), 0, []),
  (37, .invokevirtual 158, 3, 69, 3, 0, 0, 0, []),
  (40, .aload_n 0, 1, 0, 0, 0, 0, 0, []),
  (41, .invokevirtual 42, 3, 43, 1, 0, 0, 0, []),
  (44, .aload_n 0, 1, 0, 0, 0, 0, 0, []),
  (45, .iload_n 1, 1, 1, 0, 0, 0, 0, []),
  (46, .invokevirtual 165, 3, 72, 2, 1, 0, 0, []),
  (49, .ifCond .ne (5), 3, 54, 0, 0, 0, 0, []),
  (52, .iconst (0), 1, 0, 0, 0, (0), 0, []),
  (53, .ireturn, 1, 0, 0, 0, 0, 0, []),
  (54, .aload_n 0, 1, 0, 0, 0, 0, 0, []),
  (55, .bipush (11), 2, 0, 0, 0, (11), 0, []),
  (57, .iload_n 3, 1, 3, 0, 0, 0, 0, []),
  (58, .invokevirtual 162, 3, 75, 3, 0, 0, 0, []),
  (61, .iinc 2 (1), 3, 2, 0, 0, (1), 0, []),
  (64, .goto (-52), 3, 12, 0, 0, 0, 0, [])]
set_option maxRecDepth 100000 in
theorem lX8_readBoth_12_ck : lX8_readBoth_12.all (ra_ck mX8_readBoth 8) = true := by decide +kernel
def nX8_readBoth_12 (N : Nat) (rt : Nat → Int32 → ra_H → Option (Int32 × ra_H)) : Nat → Nat → Int32 → Int32 → ra_H → Option (Int32 × ra_H)
  | 0, _, _, _, _ => none
  | n + 1, a0, a1, a2, h =>
  if a2 < ((400 : Int32)) then
    (fX8_isWord N a0 ((22 : UInt32)) h).bind fun q1 =>
    if q1.1 = 0 then
      nX8_readBoth_67 N rt q1.2
    else
      (ra_fI q1.2 8 a0 6).bind fun x2 =>
      (fX8_emit N a0 ((11 : Int32)) ((0 : Int32)) q1.2).bind fun h3 =>
      (fX8_advance N a0 h3).bind fun h4 =>
      (fX8_readPlain N rt a0 a1 h4).bind fun q5 =>
      if q5.1 = 0 then
        some ((0 : Int32), q5.2)
      else
        (fX8_patch N a0 ((11 : Int32)) x2 q5.2).bind fun h6 =>
        let y7 := a2 + (1 : Int32)
        nX8_readBoth_12 N rt n a0 a1 y7 h6
  else
    nX8_readBoth_67 N rt h
def kX8_readBoth_12 (N : Nat) (rt : Nat → Int32 → ra_H → Option (Int32 × ra_H)) (cs : Nat → Int32 → Int32 → ra_H → Option (Int32 × ra_H)) : Nat → List (Option Value) → List Value → ra_H → Option (Int32 × ra_H) := (ra_k1 12 (fun L S h => match L, S with
  | [some (.ref a0), some (.int a1), some (.int a2), _], [] => cs a0 a1 a2 h
  | _, _ => none) (ra_k1 67 (fun L S h => match L, S with
  | [_, _, _, _], [] => nX8_readBoth_67 N rt h
  | _, _ => none) ra_k0))
theorem kX8_readBoth_12_ok (N d : Nat) (hd : 50 ≤ d) (rt : Nat → Int32 → ra_H → Option (Int32 × ra_H)) (hrt : ∀ z0 z1 h r, rt z0 z1 h = some r → ∀ D, d + 1 ≤ D → ra_CO D 70 [.ref z0, .int z1] h (ra_oI r).1 (ra_oI r).2) (cs : Nat → Int32 → Int32 → ra_H → Option (Int32 × ra_H)) (hcs : ∀ a0 a1 a2 h r, cs a0 a1 a2 h = some r → ra_Ru (d + 3) mX8_readBoth 12 [some (.ref a0), some (.int a1), some (.int a2), none] [] h (ra_oI r)) : ra_kok (d + 3) mX8_readBoth ra_oI (kX8_readBoth_12 N rt cs) := (ra_k1_ok (by
  intro L S h a e
  split at e
  · exact ra_Ru.weak (hcs _ _ _ _ _ e) ⟨rfl, ⟨rfl, ⟨rfl, trivial⟩⟩⟩
  · cases e) (ra_k1_ok (by
  intro L S h a e
  split at e
  · exact ra_Ru.weak (nX8_readBoth_67_ok N d hd rt hrt _ _ e) trivial
  · cases e) ra_k0_ok))
set_option maxRecDepth 100000 in
theorem nX8_readBoth_12_ok (N d : Nat) (hd : 50 ≤ d) (rt : Nat → Int32 → ra_H → Option (Int32 × ra_H)) (hrt : ∀ z0 z1 h r, rt z0 z1 h = some r → ∀ D, d + 1 ≤ D → ra_CO D 70 [.ref z0, .int z1] h (ra_oI r).1 (ra_oI r).2) : ∀ n a0 a1 a2 h r, nX8_readBoth_12 N rt n a0 a1 a2 h = some r → ra_Ru (d + 3) mX8_readBoth 12 [some (.ref a0), some (.int a1), some (.int a2), none] [] h (ra_oI r) := by
  intro n
  induction n with
  | zero => intro a0 a1 a2 h r e; cases e
  | succ n ih =>
    intro a0 a1 a2 h r e
    exact ra_sound (by omega) rfl ra_rI_ok (kX8_readBoth_12_ok N d hd rt hrt (nX8_readBoth_12 N rt n) ih) (fun m av h h1 e => (tVX8_readBoth_ok N d hd rt hrt) m av h h1 e) (fun m av h x h1 e => (tIX8_readBoth_ok N d hd rt hrt) m av h (x, h1) e) (fun m av h x h1 e => (ra_c0_ok (ro := ra_oJ)) m av h (x, h1) e) (fun m av h x h1 e => (ra_c0_ok (ro := ra_oR)) m av h (x, h1) e) (fun m av h x h1 e => (ra_c0_ok (ro := ra_oN)) m av h (x, h1) e) (fun m av h x h1 e => (ra_c0_ok (ro := ra_oF)) m av h (x, h1) e) 29 lX8_readBoth_12 _ _ _ _ lX8_readBoth_12_ck (show ra_run ra_rI (kX8_readBoth_12 N rt (nX8_readBoth_12 N rt n)) (tVX8_readBoth N rt) (tIX8_readBoth N rt) ra_c0 ra_c0 ra_c0 ra_c0 29 lX8_readBoth_12 [some (.ref a0), some (.int a1), some (.int a2), none] [] h = some r from e) _ _ rfl
def lX8_readBoth_0 : List ra_I := [(0, .aload_n 0, 1, 0, 0, 0, 0, 0, []),
  (1, .iload_n 1, 1, 1, 0, 0, 0, 0, []),
  (2, .invokevirtual 165, 3, 72, 2, 1, 0, 0, []),
  (5, .ifCond .ne (5), 3, 10, 0, 0, 0, 0, []),
  (8, .iconst (0), 1, 0, 0, 0, (0), 0, []),
  (9, .ireturn, 1, 0, 0, 0, 0, 0, []),
  (10, .iconst (0), 1, 0, 0, 0, (0), 0, []),
  (11, .istore_n 2, 1, 2, 0, 0, 0, 0, [])]
set_option maxRecDepth 100000 in
theorem lX8_readBoth_0_ck : lX8_readBoth_0.all (ra_ck mX8_readBoth 8) = true := by decide +kernel
def nX8_readBoth_0 (N : Nat) (rt : Nat → Int32 → ra_H → Option (Int32 × ra_H)) (a0 : Nat) (a1 : Int32) (h : ra_H) : Option (Int32 × ra_H) :=
  (fX8_readPlain N rt a0 a1 h).bind fun q1 =>
  if q1.1 = 0 then
    some ((0 : Int32), q1.2)
  else
    nX8_readBoth_12 N rt N a0 a1 ((0 : Int32)) q1.2
def kX8_readBoth_0 (N : Nat) (rt : Nat → Int32 → ra_H → Option (Int32 × ra_H)) : Nat → List (Option Value) → List Value → ra_H → Option (Int32 × ra_H) := (ra_k1 12 (fun L S h => match L, S with
  | [some (.ref a0), some (.int a1), some (.int a2), _], [] => nX8_readBoth_12 N rt N a0 a1 a2 h
  | _, _ => none) ra_k0)
theorem kX8_readBoth_0_ok (N d : Nat) (hd : 50 ≤ d) (rt : Nat → Int32 → ra_H → Option (Int32 × ra_H)) (hrt : ∀ z0 z1 h r, rt z0 z1 h = some r → ∀ D, d + 1 ≤ D → ra_CO D 70 [.ref z0, .int z1] h (ra_oI r).1 (ra_oI r).2) : ra_kok (d + 3) mX8_readBoth ra_oI (kX8_readBoth_0 N rt) := (ra_k1_ok (by
  intro L S h a e
  split at e
  · exact ra_Ru.weak (nX8_readBoth_12_ok N d hd rt hrt N _ _ _ _ _ e) ⟨rfl, ⟨rfl, ⟨rfl, trivial⟩⟩⟩
  · cases e) ra_k0_ok)
set_option maxRecDepth 100000 in
theorem nX8_readBoth_0_ok (N d : Nat) (hd : 50 ≤ d) (rt : Nat → Int32 → ra_H → Option (Int32 × ra_H)) (hrt : ∀ z0 z1 h r, rt z0 z1 h = some r → ∀ D, d + 1 ≤ D → ra_CO D 70 [.ref z0, .int z1] h (ra_oI r).1 (ra_oI r).2) (a0 : Nat) (a1 : Int32) (h : ra_H) (r : (Int32 × ra_H)) (e : nX8_readBoth_0 N rt a0 a1 h = some r) : ra_Ru (d + 3) mX8_readBoth 0 [some (.ref a0), some (.int a1), none, none] [] h (ra_oI r) :=
  ra_sound (by omega) rfl ra_rI_ok (kX8_readBoth_0_ok N d hd rt hrt) (fun m av h h1 e => (tVX8_readBoth_ok N d hd rt hrt) m av h h1 e) (fun m av h x h1 e => (tIX8_readBoth_ok N d hd rt hrt) m av h (x, h1) e) (fun m av h x h1 e => (ra_c0_ok (ro := ra_oJ)) m av h (x, h1) e) (fun m av h x h1 e => (ra_c0_ok (ro := ra_oR)) m av h (x, h1) e) (fun m av h x h1 e => (ra_c0_ok (ro := ra_oN)) m av h (x, h1) e) (fun m av h x h1 e => (ra_c0_ok (ro := ra_oF)) m av h (x, h1) e) 9 lX8_readBoth_0 _ _ _ _ lX8_readBoth_0_ck (show ra_run ra_rI (kX8_readBoth_0 N rt) (tVX8_readBoth N rt) (tIX8_readBoth N rt) ra_c0 ra_c0 ra_c0 ra_c0 9 lX8_readBoth_0 [some (.ref a0), some (.int a1), none, none] [] h = some r from e) _ _ rfl
def fX8_readBoth (N : Nat) (rt : Nat → Int32 → ra_H → Option (Int32 × ra_H)) (p0 : Nat) (p1 : Int32) (h : ra_H) : Option (Int32 × ra_H) := match ra_isOb h p0 8 with
  | true => (nX8_readBoth_0 N rt p0 p1 h).bind (fun q => ra_rz q.1 q.2)
  | false => none
set_option maxRecDepth 100000 in
theorem mtX8_readBoth : ra_MT[71]? = some (mX8_readBoth, 1, 1, (1, 4), (4, 3), (0, 18)) := rfl
theorem fX8_readBoth_co (N d : Nat) (hd : 50 ≤ d) (rt : Nat → Int32 → ra_H → Option (Int32 × ra_H)) (hrt : ∀ z0 z1 h r, rt z0 z1 h = some r → ∀ D, d + 1 ≤ D → ra_CO D 70 [.ref z0, .int z1] h (ra_oI r).1 (ra_oI r).2) (p0 : Nat) (p1 : Int32) (h : ra_H) (r : (Int32 × ra_H)) (e : fX8_readBoth N rt p0 p1 h = some r) (D : Nat) (hD : (d + 3) + 1 ≤ D) : ra_CO D 71 [.ref p0, .int p1] h (ra_oI r).1 (ra_oI r).2 := by
  have hw : ra_nw2 [.ref p0, .int p1] ≤ 4 := Nat.le_of_ble_eq_true rfl
  have hdb : ∀ v ∈ ([.ref p0, .int p1] : List Value), ∀ x, v ≠ .double x := by
    intro v hv x hx
    simp [hx] at hv
  unfold fX8_readBoth at e
  split at e
  · rename_i ho
    obtain ⟨q, e1, e2⟩ := Option.bind_eq_some_iff.mp e
    obtain ⟨rfl, hz⟩ := ra_rz_of e2
    exact ⟨(d + 3), _, mtX8_readBoth, hD, ra_ev_of (by decide) hdb hw hz (ra_Ru.weak (nX8_readBoth_0_ok N d hd rt hrt p0 p1 h _ e1) ⟨rfl, ⟨rfl, trivial⟩⟩), (fun _ => ⟨_, _, rfl, ra_rcv_of ho (by decide) rfl⟩), (fun h => absurd h (by decide))⟩
  · cases e
/-! RedMarks$Tape.readTest(I)Z -/
def mX8_readTesto : ra_M := (yX8_readTest, cX8_readTest, 4, (some .boolean))
def tVX8_readTesto (N : Nat) (rt : Nat → Int32 → ra_H → Option (Int32 × ra_H)) : Nat → List Value → ra_H → Option ra_H := (ra_c1 43 (fun av h => match av with
  | [.ref z0] => fX8_advance N z0 h
  | _ => none) (ra_c1 69 (fun av h => match av with
  | [.ref z0, .int z1, .int z2] => fX8_emit N z0 z1 z2 h
  | _ => none) (ra_c1 75 (fun av h => match av with
  | [.ref z0, .int z1, .int z2] => fX8_patch N z0 z1 z2 h
  | _ => none) ra_c0)))
theorem tVX8_readTesto_ok (N d : Nat) (hd : 50 ≤ d) (rt : Nat → Int32 → ra_H → Option (Int32 × ra_H)) (hrt : ∀ z0 z1 h r, rt z0 z1 h = some r → ∀ D, d + 1 ≤ D → ra_CO D 70 [.ref z0, .int z1] h (ra_oI r).1 (ra_oI r).2) : ra_cok (d + 4) ra_oV (tVX8_readTesto N rt) := (ra_c1_ok (by
  intro av h a e
  split at e
  · exact fX8_advance_co N _ _ _ e (d + 4) (by omega)
  · cases e) (ra_c1_ok (by
  intro av h a e
  split at e
  · exact fX8_emit_co N _ _ _ _ _ e (d + 4) (by omega)
  · cases e) (ra_c1_ok (by
  intro av h a e
  split at e
  · exact fX8_patch_co N _ _ _ _ _ e (d + 4) (by omega)
  · cases e) ra_c0_ok)))
def tIX8_readTesto (N : Nat) (rt : Nat → Int32 → ra_H → Option (Int32 × ra_H)) : Nat → List Value → ra_H → Option (Int32 × ra_H) := (ra_c1 50 (fun av h => match av with
  | [.ref z0, .float z1] => fX8_isWord N z0 z1 h
  | _ => none) (ra_c1 71 (fun av h => match av with
  | [.ref z0, .int z1] => fX8_readBoth N rt z0 z1 h
  | _ => none) ra_c0))
theorem tIX8_readTesto_ok (N d : Nat) (hd : 50 ≤ d) (rt : Nat → Int32 → ra_H → Option (Int32 × ra_H)) (hrt : ∀ z0 z1 h r, rt z0 z1 h = some r → ∀ D, d + 1 ≤ D → ra_CO D 70 [.ref z0, .int z1] h (ra_oI r).1 (ra_oI r).2) : ra_cok (d + 4) ra_oI (tIX8_readTesto N rt) := (ra_c1_ok (by
  intro av h a e
  split at e
  · exact fX8_isWord_co N _ _ _ _ e (d + 4) (by omega)
  · cases e) (ra_c1_ok (by
  intro av h a e
  split at e
  · exact fX8_readBoth_co N d hd rt hrt _ _ _ _ e (d + 4) (by omega)
  · cases e) ra_c0_ok))
def lX8_readTesto_67 : List ra_I := [(67, .iconst (1), 1, 0, 0, 0, (1), 0, []),
  (68, .ireturn, 1, 0, 0, 0, 0, 0, [])]
set_option maxRecDepth 100000 in
theorem lX8_readTesto_67_ck : lX8_readTesto_67.all (ra_ck mX8_readTesto 8) = true := by decide +kernel
def nX8_readTesto_67 (N : Nat) (rt : Nat → Int32 → ra_H → Option (Int32 × ra_H)) (h : ra_H) : Option (Int32 × ra_H) :=
  some ((1 : Int32), h)
def kX8_readTesto_67 (N : Nat) (rt : Nat → Int32 → ra_H → Option (Int32 × ra_H)) : Nat → List (Option Value) → List Value → ra_H → Option (Int32 × ra_H) := ra_k0
theorem kX8_readTesto_67_ok (N d : Nat) (hd : 50 ≤ d) (rt : Nat → Int32 → ra_H → Option (Int32 × ra_H)) (hrt : ∀ z0 z1 h r, rt z0 z1 h = some r → ∀ D, d + 1 ≤ D → ra_CO D 70 [.ref z0, .int z1] h (ra_oI r).1 (ra_oI r).2) : ra_kok (d + 4) mX8_readTesto ra_oI (kX8_readTesto_67 N rt) := ra_k0_ok
set_option maxRecDepth 100000 in
theorem nX8_readTesto_67_ok (N d : Nat) (hd : 50 ≤ d) (rt : Nat → Int32 → ra_H → Option (Int32 × ra_H)) (hrt : ∀ z0 z1 h r, rt z0 z1 h = some r → ∀ D, d + 1 ≤ D → ra_CO D 70 [.ref z0, .int z1] h (ra_oI r).1 (ra_oI r).2) (h : ra_H) (r : (Int32 × ra_H)) (e : nX8_readTesto_67 N rt h = some r) : ra_Ru (d + 4) mX8_readTesto 67 [none, none, none, none] [] h (ra_oI r) :=
  ra_sound (by omega) rfl ra_rI_ok (kX8_readTesto_67_ok N d hd rt hrt) (fun m av h h1 e => (tVX8_readTesto_ok N d hd rt hrt) m av h h1 e) (fun m av h x h1 e => (tIX8_readTesto_ok N d hd rt hrt) m av h (x, h1) e) (fun m av h x h1 e => (ra_c0_ok (ro := ra_oJ)) m av h (x, h1) e) (fun m av h x h1 e => (ra_c0_ok (ro := ra_oR)) m av h (x, h1) e) (fun m av h x h1 e => (ra_c0_ok (ro := ra_oN)) m av h (x, h1) e) (fun m av h x h1 e => (ra_c0_ok (ro := ra_oF)) m av h (x, h1) e) 3 lX8_readTesto_67 _ _ _ _ lX8_readTesto_67_ck (show ra_run ra_rI (kX8_readTesto_67 N rt) (tVX8_readTesto N rt) (tIX8_readTesto N rt) ra_c0 ra_c0 ra_c0 ra_c0 3 lX8_readTesto_67 [none, none, none, none] [] h = some r from e) _ _ rfl
def lX8_readTesto_12 : List ra_I := [(12, .iload_n 2, 1, 2, 0, 0, 0, 0, []),
  (13, .sipush (400), 3, 0, 0, 0, (400), 0, []),
  (16, .if_icmp .ge (51), 3, 67, 0, 0, 0, 0, []),
  (19, .aload_n 0, 1, 0, 0, 0, 0, 0, []),
  (20, .ldc 156, 2, 23, 0, 1, 0, 0, []),
  (22, .invokevirtual 105, 3, 50, 2, 1, 0, 0, []),
  (25, .ifCond .eq (42), 3, 67, 0, 0, 0, 0, []),
  (28, .aload_n 0, 1, 0, 0, 0, 0, 0, []),
  (29, .getfield 30, 3, 8, 6, 0, 0, 0, []),
  (32, .istore_n 3, 1, 3, 0, 0, 0, 0, []),
  (33, .aload_n 0, 1, 0, 0, 0, 0, 0, []),
  (34, .bipush (10), 2, 0, 0, 0, (10), 0, []),
  (36, .iconst (0), 1, 0, 0, 0, (0), 0, []),
  (37, .invokevirtual 158, 3, 69, 3, 0, 0, 0, []),
  (40, .aload_n 0, 1, 0, 0, 0, 0, 0, []),
  (41, .invokevirtual 42, 3, 43, 1, 0, 0, 0, []),
  (44, .aload_n 0, 1, 0, 0, 0, 0, 0, []),
  (45, .iload_n 1, 1, 1, 0, 0, 0, 0, []),
  (46, .invokevirtual 153, 3, 71, 2, 1, 0, 0, []),
  (49, .ifCond .ne (5), 3, 54, 0, 0, 0, 0, []),
  (52, .iconst (0), 1, 0, 0, 0, (0), 0, []),
  (53, .ireturn, 1, 0, 0, 0, 0, 0, []),
  (54, .aload_n 0, 1, 0, 0, 0, 0, 0, []),
  (55, .bipush (10), 2, 0, 0, 0, (10), 0, []),
  (57, .iload_n 3, 1, 3, 0, 0, 0, 0, []),
  (58, .invokevirtual 162, 3, 75, 3, 0, 0, 0, []),
  (61, .iinc 2 (1), 3, 2, 0, 0, (1), 0, []),
  (64, .goto (-52), 3, 12, 0, 0, 0, 0, [])]
set_option maxRecDepth 100000 in
theorem lX8_readTesto_12_ck : lX8_readTesto_12.all (ra_ck mX8_readTesto 8) = true := by decide +kernel
def nX8_readTesto_12 (N : Nat) (rt : Nat → Int32 → ra_H → Option (Int32 × ra_H)) : Nat → Nat → Int32 → Int32 → ra_H → Option (Int32 × ra_H)
  | 0, _, _, _, _ => none
  | n + 1, a0, a1, a2, h =>
  if a2 < ((400 : Int32)) then
    (fX8_isWord N a0 ((23 : UInt32)) h).bind fun q1 =>
    if q1.1 = 0 then
      nX8_readTesto_67 N rt q1.2
    else
      (ra_fI q1.2 8 a0 6).bind fun x2 =>
      (fX8_emit N a0 ((10 : Int32)) ((0 : Int32)) q1.2).bind fun h3 =>
      (fX8_advance N a0 h3).bind fun h4 =>
      (fX8_readBoth N rt a0 a1 h4).bind fun q5 =>
      if q5.1 = 0 then
        some ((0 : Int32), q5.2)
      else
        (fX8_patch N a0 ((10 : Int32)) x2 q5.2).bind fun h6 =>
        let y7 := a2 + (1 : Int32)
        nX8_readTesto_12 N rt n a0 a1 y7 h6
  else
    nX8_readTesto_67 N rt h
def kX8_readTesto_12 (N : Nat) (rt : Nat → Int32 → ra_H → Option (Int32 × ra_H)) (cs : Nat → Int32 → Int32 → ra_H → Option (Int32 × ra_H)) : Nat → List (Option Value) → List Value → ra_H → Option (Int32 × ra_H) := (ra_k1 12 (fun L S h => match L, S with
  | [some (.ref a0), some (.int a1), some (.int a2), _], [] => cs a0 a1 a2 h
  | _, _ => none) (ra_k1 67 (fun L S h => match L, S with
  | [_, _, _, _], [] => nX8_readTesto_67 N rt h
  | _, _ => none) ra_k0))
theorem kX8_readTesto_12_ok (N d : Nat) (hd : 50 ≤ d) (rt : Nat → Int32 → ra_H → Option (Int32 × ra_H)) (hrt : ∀ z0 z1 h r, rt z0 z1 h = some r → ∀ D, d + 1 ≤ D → ra_CO D 70 [.ref z0, .int z1] h (ra_oI r).1 (ra_oI r).2) (cs : Nat → Int32 → Int32 → ra_H → Option (Int32 × ra_H)) (hcs : ∀ a0 a1 a2 h r, cs a0 a1 a2 h = some r → ra_Ru (d + 4) mX8_readTesto 12 [some (.ref a0), some (.int a1), some (.int a2), none] [] h (ra_oI r)) : ra_kok (d + 4) mX8_readTesto ra_oI (kX8_readTesto_12 N rt cs) := (ra_k1_ok (by
  intro L S h a e
  split at e
  · exact ra_Ru.weak (hcs _ _ _ _ _ e) ⟨rfl, ⟨rfl, ⟨rfl, trivial⟩⟩⟩
  · cases e) (ra_k1_ok (by
  intro L S h a e
  split at e
  · exact ra_Ru.weak (nX8_readTesto_67_ok N d hd rt hrt _ _ e) trivial
  · cases e) ra_k0_ok))
set_option maxRecDepth 100000 in
theorem nX8_readTesto_12_ok (N d : Nat) (hd : 50 ≤ d) (rt : Nat → Int32 → ra_H → Option (Int32 × ra_H)) (hrt : ∀ z0 z1 h r, rt z0 z1 h = some r → ∀ D, d + 1 ≤ D → ra_CO D 70 [.ref z0, .int z1] h (ra_oI r).1 (ra_oI r).2) : ∀ n a0 a1 a2 h r, nX8_readTesto_12 N rt n a0 a1 a2 h = some r → ra_Ru (d + 4) mX8_readTesto 12 [some (.ref a0), some (.int a1), some (.int a2), none] [] h (ra_oI r) := by
  intro n
  induction n with
  | zero => intro a0 a1 a2 h r e; cases e
  | succ n ih =>
    intro a0 a1 a2 h r e
    exact ra_sound (by omega) rfl ra_rI_ok (kX8_readTesto_12_ok N d hd rt hrt (nX8_readTesto_12 N rt n) ih) (fun m av h h1 e => (tVX8_readTesto_ok N d hd rt hrt) m av h h1 e) (fun m av h x h1 e => (tIX8_readTesto_ok N d hd rt hrt) m av h (x, h1) e) (fun m av h x h1 e => (ra_c0_ok (ro := ra_oJ)) m av h (x, h1) e) (fun m av h x h1 e => (ra_c0_ok (ro := ra_oR)) m av h (x, h1) e) (fun m av h x h1 e => (ra_c0_ok (ro := ra_oN)) m av h (x, h1) e) (fun m av h x h1 e => (ra_c0_ok (ro := ra_oF)) m av h (x, h1) e) 29 lX8_readTesto_12 _ _ _ _ lX8_readTesto_12_ck (show ra_run ra_rI (kX8_readTesto_12 N rt (nX8_readTesto_12 N rt n)) (tVX8_readTesto N rt) (tIX8_readTesto N rt) ra_c0 ra_c0 ra_c0 ra_c0 29 lX8_readTesto_12 [some (.ref a0), some (.int a1), some (.int a2), none] [] h = some r from e) _ _ rfl
def lX8_readTesto_0 : List ra_I := [(0, .aload_n 0, 1, 0, 0, 0, 0, 0, []),
  (1, .iload_n 1, 1, 1, 0, 0, 0, 0, []),
  (2, .invokevirtual 153, 3, 71, 2, 1, 0, 0, []),
  (5, .ifCond .ne (5), 3, 10, 0, 0, 0, 0, []),
  (8, .iconst (0), 1, 0, 0, 0, (0), 0, []),
  (9, .ireturn, 1, 0, 0, 0, 0, 0, []),
  (10, .iconst (0), 1, 0, 0, 0, (0), 0, []),
  (11, .istore_n 2, 1, 2, 0, 0, 0, 0, [])]
set_option maxRecDepth 100000 in
theorem lX8_readTesto_0_ck : lX8_readTesto_0.all (ra_ck mX8_readTesto 8) = true := by decide +kernel
def nX8_readTesto_0 (N : Nat) (rt : Nat → Int32 → ra_H → Option (Int32 × ra_H)) (a0 : Nat) (a1 : Int32) (h : ra_H) : Option (Int32 × ra_H) :=
  (fX8_readBoth N rt a0 a1 h).bind fun q1 =>
  if q1.1 = 0 then
    some ((0 : Int32), q1.2)
  else
    nX8_readTesto_12 N rt N a0 a1 ((0 : Int32)) q1.2
def kX8_readTesto_0 (N : Nat) (rt : Nat → Int32 → ra_H → Option (Int32 × ra_H)) : Nat → List (Option Value) → List Value → ra_H → Option (Int32 × ra_H) := (ra_k1 12 (fun L S h => match L, S with
  | [some (.ref a0), some (.int a1), some (.int a2), _], [] => nX8_readTesto_12 N rt N a0 a1 a2 h
  | _, _ => none) ra_k0)
theorem kX8_readTesto_0_ok (N d : Nat) (hd : 50 ≤ d) (rt : Nat → Int32 → ra_H → Option (Int32 × ra_H)) (hrt : ∀ z0 z1 h r, rt z0 z1 h = some r → ∀ D, d + 1 ≤ D → ra_CO D 70 [.ref z0, .int z1] h (ra_oI r).1 (ra_oI r).2) : ra_kok (d + 4) mX8_readTesto ra_oI (kX8_readTesto_0 N rt) := (ra_k1_ok (by
  intro L S h a e
  split at e
  · exact ra_Ru.weak (nX8_readTesto_12_ok N d hd rt hrt N _ _ _ _ _ e) ⟨rfl, ⟨rfl, ⟨rfl, trivial⟩⟩⟩
  · cases e) ra_k0_ok)
set_option maxRecDepth 100000 in
theorem nX8_readTesto_0_ok (N d : Nat) (hd : 50 ≤ d) (rt : Nat → Int32 → ra_H → Option (Int32 × ra_H)) (hrt : ∀ z0 z1 h r, rt z0 z1 h = some r → ∀ D, d + 1 ≤ D → ra_CO D 70 [.ref z0, .int z1] h (ra_oI r).1 (ra_oI r).2) (a0 : Nat) (a1 : Int32) (h : ra_H) (r : (Int32 × ra_H)) (e : nX8_readTesto_0 N rt a0 a1 h = some r) : ra_Ru (d + 4) mX8_readTesto 0 [some (.ref a0), some (.int a1), none, none] [] h (ra_oI r) :=
  ra_sound (by omega) rfl ra_rI_ok (kX8_readTesto_0_ok N d hd rt hrt) (fun m av h h1 e => (tVX8_readTesto_ok N d hd rt hrt) m av h h1 e) (fun m av h x h1 e => (tIX8_readTesto_ok N d hd rt hrt) m av h (x, h1) e) (fun m av h x h1 e => (ra_c0_ok (ro := ra_oJ)) m av h (x, h1) e) (fun m av h x h1 e => (ra_c0_ok (ro := ra_oR)) m av h (x, h1) e) (fun m av h x h1 e => (ra_c0_ok (ro := ra_oN)) m av h (x, h1) e) (fun m av h x h1 e => (ra_c0_ok (ro := ra_oF)) m av h (x, h1) e) 9 lX8_readTesto_0 _ _ _ _ lX8_readTesto_0_ck (show ra_run ra_rI (kX8_readTesto_0 N rt) (tVX8_readTesto N rt) (tIX8_readTesto N rt) ra_c0 ra_c0 ra_c0 ra_c0 9 lX8_readTesto_0 [some (.ref a0), some (.int a1), none, none] [] h = some r from e) _ _ rfl
def fX8_readTesto (N : Nat) (rt : Nat → Int32 → ra_H → Option (Int32 × ra_H)) (p0 : Nat) (p1 : Int32) (h : ra_H) : Option (Int32 × ra_H) := match ra_isOb h p0 8 with
  | true => (nX8_readTesto_0 N rt p0 p1 h).bind (fun q => ra_rz q.1 q.2)
  | false => none
set_option maxRecDepth 100000 in
theorem mtX8_readTesto : ra_MT[70]? = some (mX8_readTesto, 1, 1, (1, 4), (3, 239), (0, 17)) := rfl
theorem fX8_readTesto_co (N d : Nat) (hd : 50 ≤ d) (rt : Nat → Int32 → ra_H → Option (Int32 × ra_H)) (hrt : ∀ z0 z1 h r, rt z0 z1 h = some r → ∀ D, d + 1 ≤ D → ra_CO D 70 [.ref z0, .int z1] h (ra_oI r).1 (ra_oI r).2) (p0 : Nat) (p1 : Int32) (h : ra_H) (r : (Int32 × ra_H)) (e : fX8_readTesto N rt p0 p1 h = some r) (D : Nat) (hD : (d + 4) + 1 ≤ D) : ra_CO D 70 [.ref p0, .int p1] h (ra_oI r).1 (ra_oI r).2 := by
  have hw : ra_nw2 [.ref p0, .int p1] ≤ 4 := Nat.le_of_ble_eq_true rfl
  have hdb : ∀ v ∈ ([.ref p0, .int p1] : List Value), ∀ x, v ≠ .double x := by
    intro v hv x hx
    simp [hx] at hv
  unfold fX8_readTesto at e
  split at e
  · rename_i ho
    obtain ⟨q, e1, e2⟩ := Option.bind_eq_some_iff.mp e
    obtain ⟨rfl, hz⟩ := ra_rz_of e2
    exact ⟨(d + 4), _, mtX8_readTesto, hD, ra_ev_of (by decide) hdb hw hz (ra_Ru.weak (nX8_readTesto_0_ok N d hd rt hrt p0 p1 h _ e1) ⟨rfl, ⟨rfl, trivial⟩⟩), (fun _ => ⟨_, _, rfl, ra_rcv_of ho (by decide) rfl⟩), (fun h => absurd h (by decide))⟩
  · cases e
def rX8_readTest (N : Nat) : Nat → Nat → Int32 → ra_H → Option (Int32 × ra_H)
  | 0, _, _, _ => none
  | k + 1, p0, p1, h => fX8_readTesto N (rX8_readTest N k) p0 p1 h
theorem rX8_readTest_co (N : Nat) : ∀ k z0 z1 h r, rX8_readTest N k z0 z1 h = some r → ∀ D, 50 + 4 * k + 1 ≤ D → ra_CO D 70 [.ref z0, .int z1] h (ra_oI r).1 (ra_oI r).2 := by
  intro k
  induction k with
  | zero => intro z0 z1 h r e; cases e
  | succ k ih =>
    intro z0 z1 h r e D hD
    exact fX8_readTesto_co N (50 + 4 * k) (by omega) (rX8_readTest N k) ih z0 z1 h r e D (by omega)
def fX8_readTest (N : Nat) (p0 : Nat) (p1 : Int32) (h : ra_H) : Option (Int32 × ra_H) := rX8_readTest N 9 p0 p1 h
theorem fX8_readTest_co (N : Nat) (p0 : Nat) (p1 : Int32) (h : ra_H) (r : (Int32 × ra_H)) (e : fX8_readTest N p0 p1 h = some r) (D : Nat) (hD : 87 ≤ D) : ra_CO D 70 [.ref p0, .int p1] h (ra_oI r).1 (ra_oI r).2 := rX8_readTest_co N 9 p0 p1 h r e D (by omega)
/-! RedMarks$Tape.readClause()Z -/
def mX8_readClause : ra_M := (yX8_readClause, cX8_readClause, 2, (some .boolean))
def tVX8_readClause (N : Nat) : Nat → List Value → ra_H → Option ra_H := (ra_c1 43 (fun av h => match av with
  | [.ref z0] => fX8_advance N z0 h
  | _ => none) ra_c0)
theorem tVX8_readClause_ok (N : Nat) : ra_cok 87 ra_oV (tVX8_readClause N) := (ra_c1_ok (by
  intro av h a e
  split at e
  · exact fX8_advance_co N _ _ _ e 87 (by omega)
  · cases e) ra_c0_ok)
def tIX8_readClause (N : Nat) : Nat → List Value → ra_H → Option (Int32 × ra_H) := (ra_c1 48 (fun av h => match av with
  | [.ref z0] => fX8_headHere N z0 h
  | _ => none) (ra_c1 50 (fun av h => match av with
  | [.ref z0, .float z1] => fX8_isWord N z0 z1 h
  | _ => none) (ra_c1 62 (fun av h => match av with
  | [.ref z0, .int z1] => fX8_readSum N z0 z1 h
  | _ => none) (ra_c1 70 (fun av h => match av with
  | [.ref z0, .int z1] => fX8_readTest N z0 z1 h
  | _ => none) ra_c0))))
theorem tIX8_readClause_ok (N : Nat) : ra_cok 87 ra_oI (tIX8_readClause N) := (ra_c1_ok (by
  intro av h a e
  split at e
  · exact fX8_headHere_co N _ _ _ e 87 (by omega)
  · cases e) (ra_c1_ok (by
  intro av h a e
  split at e
  · exact fX8_isWord_co N _ _ _ _ e 87 (by omega)
  · cases e) (ra_c1_ok (by
  intro av h a e
  split at e
  · exact fX8_readSum_co N _ _ _ _ e 87 (by omega)
  · cases e) (ra_c1_ok (by
  intro av h a e
  split at e
  · exact fX8_readTest_co N _ _ _ _ e 87 (by omega)
  · cases e) ra_c0_ok))))
def lX8_readClause_56 : List ra_I := [(56, .aload_n 0, 1, 0, 0, 0, 0, 0, []),
  (57, .getfield 23, 3, 8, 5, 2, 0, 0, []),
  (60, .iconst (2), 1, 0, 0, 0, (2), 0, []),
  (61, .aload_n 0, 1, 0, 0, 0, 0, 0, []),
  (62, .getfield 33, 3, 8, 7, 0, 0, 0, []),
  (65, .imul, 1, 0, 0, 0, 0, 0, []),
  (66, .iconst (1), 1, 0, 0, 0, (1), 0, []),
  (67, .iadd, 1, 0, 0, 0, 0, 0, []),
  (68, .aload_n 0, 1, 0, 0, 0, 0, 0, []),
  (69, .getfield 30, 3, 8, 6, 0, 0, 0, []),
  (72, .iastore, 1, 0, 0, 0, 0, 0, []),
  (73, .aload_n 0, 1, 0, 0, 0, 0, 0, []),
  (74, .dup, 1, 0, 0, 0, 0, 0, []),
  (75, .getfield 33, 3, 8, 7, 0, 0, 0, []),
  (78, .iconst (1), 1, 0, 0, 0, (1), 0, []),
  (79, .iadd, 1, 0, 0, 0, 0, 0, []),
  (80, .putfield 33, 3, 8, 7, 0, 0, 0, []),
  (83, .aload_n 0, 1, 0, 0, 0, 0, 0, []),
  (84, .ldc 103, 2, 20, 0, 1, 0, 0, []),
  (86, .invokevirtual 105, 3, 50, 2, 1, 0, 0, []),
  (89, .ifCond .ne (5), 3, 94, 0, 0, 0, 0, []),
  (92, .iconst (1), 1, 0, 0, 0, (1), 0, []),
  (93, .ireturn, 1, 0, 0, 0, 0, 0, []),
  (94, .aload_n 0, 1, 0, 0, 0, 0, 0, []),
  (95, .invokevirtual 42, 3, 43, 1, 0, 0, 0, []),
  (98, .aload_n 0, 1, 0, 0, 0, 0, 0, []),
  (99, .iconst (0), 1, 0, 0, 0, (0), 0, []),
  (100, .invokevirtual 109, 3, 70, 2, 1, 0, 0, []),
  (103, .ireturn, 1, 0, 0, 0, 0, 0, [])]
set_option maxRecDepth 100000 in
theorem lX8_readClause_56_ck : lX8_readClause_56.all (ra_ck mX8_readClause 8) = true := by decide +kernel
def nX8_readClause_56 (N : Nat) (a0 : Nat) (h : ra_H) : Option (Int32 × ra_H) :=
  (ra_fR h 8 a0 5).bind fun x1 =>
  (ra_fI h 8 a0 7).bind fun x2 =>
  (ra_fI h 8 a0 6).bind fun x3 =>
  (ra_aW h 0 x1 ((((2 : Int32)) * x2) + ((1 : Int32))) x3).bind fun h4 =>
  (ra_fI h4 8 a0 7).bind fun x5 =>
  (ra_fW h4 8 a0 7 (.int (x5 + ((1 : Int32))))).bind fun h6 =>
  (fX8_isWord N a0 ((20 : UInt32)) h6).bind fun q7 =>
  if q7.1 = 0 then
    some ((1 : Int32), q7.2)
  else
    (fX8_advance N a0 q7.2).bind fun h8 =>
    (fX8_readTest N a0 ((0 : Int32)) h8).bind fun q9 =>
    some (q9.1, q9.2)
def kX8_readClause_56 (N : Nat) : Nat → List (Option Value) → List Value → ra_H → Option (Int32 × ra_H) := ra_k0
theorem kX8_readClause_56_ok (N : Nat) : ra_kok 87 mX8_readClause ra_oI (kX8_readClause_56 N) := ra_k0_ok
set_option maxRecDepth 100000 in
theorem nX8_readClause_56_ok (N : Nat) (a0 : Nat) (h : ra_H) (r : (Int32 × ra_H)) (e : nX8_readClause_56 N a0 h = some r) : ra_Ru 87 mX8_readClause 56 [some (.ref a0), none] [] h (ra_oI r) :=
  ra_sound (by omega) rfl ra_rI_ok (kX8_readClause_56_ok N) (fun m av h h1 e => (tVX8_readClause_ok N) m av h h1 e) (fun m av h x h1 e => (tIX8_readClause_ok N) m av h (x, h1) e) (fun m av h x h1 e => (ra_c0_ok (ro := ra_oJ)) m av h (x, h1) e) (fun m av h x h1 e => (ra_c0_ok (ro := ra_oR)) m av h (x, h1) e) (fun m av h x h1 e => (ra_c0_ok (ro := ra_oN)) m av h (x, h1) e) (fun m av h x h1 e => (ra_c0_ok (ro := ra_oF)) m av h (x, h1) e) 30 lX8_readClause_56 _ _ _ _ lX8_readClause_56_ck (show ra_run ra_rI (kX8_readClause_56 N) (tVX8_readClause N) (tIX8_readClause N) ra_c0 ra_c0 ra_c0 ra_c0 30 lX8_readClause_56 [some (.ref a0), none] [] h = some r from e) _ _ rfl
def lX8_readClause_0 : List ra_I := [(0, .aload_n 0, 1, 0, 0, 0, 0, 0, []),
  (1, .invokevirtual 97, 3, 48, 1, 1, 0, 0, []),
  (4, .istore_n 1, 1, 1, 0, 0, 0, 0, []),
  (5, .iload_n 1, 1, 1, 0, 0, 0, 0, []),
  (6, .iconst (-1), 1, 0, 0, 0, (-1), 0, []),
  (7, .if_icmp .ne (5), 3, 12, 0, 0, 0, 0, []),
  (10, .iconst (0), 1, 0, 0, 0, (0), 0, []),
  (11, .ireturn, 1, 0, 0, 0, 0, 0, []),
  (12, .aload_n 0, 1, 0, 0, 0, 0, 0, []),
  (13, .getfield 20, 3, 8, 4, 2, 0, 0, []),
  (16, .aload_n 0, 1, 0, 0, 0, 0, 0, []),
  (17, .getfield 33, 3, 8, 7, 0, 0, 0, []),
  (20, .iload_n 1, 1, 1, 0, 0, 0, 0, []),
  (21, .iastore, 1, 0, 0, 0, 0, 0, []),
  (22, .aload_n 0, 1, 0, 0, 0, 0, 0, []),
  (23, .getfield 23, 3, 8, 5, 2, 0, 0, []),
  (26, .iconst (2), 1, 0, 0, 0, (2), 0, []),
  (27, .aload_n 0, 1, 0, 0, 0, 0, 0, []),
  (28, .getfield 33, 3, 8, 7, 0, 0, 0, []),
  (31, .imul, 1, 0, 0, 0, 0, 0, []),
  (32, .aload_n 0, 1, 0, 0, 0, 0, 0, []),
  (33, .getfield 30, 3, 8, 6, 0, 0, 0, []),
  (36, .iastore, 1, 0, 0, 0, 0, 0, []),
  (37, .aload_n 0, 1, 0, 0, 0, 0, 0, []),
  (38, .invokevirtual 42, 3, 43, 1, 0, 0, 0, []),
  (41, .iload_n 1, 1, 1, 0, 0, 0, 0, []),
  (42, .iconst (4), 1, 0, 0, 0, (4), 0, []),
  (43, .if_icmp .eq (13), 3, 56, 0, 0, 0, 0, []),
  (46, .aload_n 0, 1, 0, 0, 0, 0, 0, []),
  (47, .iconst (0), 1, 0, 0, 0, (0), 0, []),
  (48, .invokevirtual 100, 3, 62, 2, 1, 0, 0, []),
  (51, .ifCond .ne (5), 3, 56, 0, 0, 0, 0, []),
  (54, .iconst (0), 1, 0, 0, 0, (0), 0, []),
  (55, .ireturn, 1, 0, 0, 0, 0, 0, [])]
set_option maxRecDepth 100000 in
theorem lX8_readClause_0_ck : lX8_readClause_0.all (ra_ck mX8_readClause 8) = true := by decide +kernel
def nX8_readClause_0 (N : Nat) (a0 : Nat) (h : ra_H) : Option (Int32 × ra_H) :=
  (fX8_headHere N a0 h).bind fun q1 =>
  if q1.1 = ((-1 : Int32)) then
    some ((0 : Int32), q1.2)
  else
    (ra_fR q1.2 8 a0 4).bind fun x2 =>
    (ra_fI q1.2 8 a0 7).bind fun x3 =>
    (ra_aW q1.2 0 x2 x3 q1.1).bind fun h4 =>
    (ra_fR h4 8 a0 5).bind fun x5 =>
    (ra_fI h4 8 a0 7).bind fun x6 =>
    (ra_fI h4 8 a0 6).bind fun x7 =>
    (ra_aW h4 0 x5 (((2 : Int32)) * x6) x7).bind fun h8 =>
    (fX8_advance N a0 h8).bind fun h9 =>
    if q1.1 = ((4 : Int32)) then
      nX8_readClause_56 N a0 h9
    else
      (fX8_readSum N a0 ((0 : Int32)) h9).bind fun q10 =>
      if q10.1 = 0 then
        some ((0 : Int32), q10.2)
      else
        nX8_readClause_56 N a0 q10.2
def kX8_readClause_0 (N : Nat) : Nat → List (Option Value) → List Value → ra_H → Option (Int32 × ra_H) := (ra_k1 56 (fun L S h => match L, S with
  | [some (.ref a0), _], [] => nX8_readClause_56 N a0 h
  | _, _ => none) ra_k0)
theorem kX8_readClause_0_ok (N : Nat) : ra_kok 87 mX8_readClause ra_oI (kX8_readClause_0 N) := (ra_k1_ok (by
  intro L S h a e
  split at e
  · exact ra_Ru.weak (nX8_readClause_56_ok N _ _ _ e) ⟨rfl, trivial⟩
  · cases e) ra_k0_ok)
set_option maxRecDepth 100000 in
theorem nX8_readClause_0_ok (N : Nat) (a0 : Nat) (h : ra_H) (r : (Int32 × ra_H)) (e : nX8_readClause_0 N a0 h = some r) : ra_Ru 87 mX8_readClause 0 [some (.ref a0), none] [] h (ra_oI r) :=
  ra_sound (by omega) rfl ra_rI_ok (kX8_readClause_0_ok N) (fun m av h h1 e => (tVX8_readClause_ok N) m av h h1 e) (fun m av h x h1 e => (tIX8_readClause_ok N) m av h (x, h1) e) (fun m av h x h1 e => (ra_c0_ok (ro := ra_oJ)) m av h (x, h1) e) (fun m av h x h1 e => (ra_c0_ok (ro := ra_oR)) m av h (x, h1) e) (fun m av h x h1 e => (ra_c0_ok (ro := ra_oN)) m av h (x, h1) e) (fun m av h x h1 e => (ra_c0_ok (ro := ra_oF)) m av h (x, h1) e) 35 lX8_readClause_0 _ _ _ _ lX8_readClause_0_ck (show ra_run ra_rI (kX8_readClause_0 N) (tVX8_readClause N) (tIX8_readClause N) ra_c0 ra_c0 ra_c0 ra_c0 35 lX8_readClause_0 [some (.ref a0), none] [] h = some r from e) _ _ rfl
def fX8_readClause (N : Nat) (p0 : Nat) (h : ra_H) : Option (Int32 × ra_H) := match ra_isOb h p0 8 with
  | true => (nX8_readClause_0 N p0 h).bind (fun q => ra_rz q.1 q.2)
  | false => none
set_option maxRecDepth 100000 in
theorem mtX8_readClause : ra_MT[47]? = some (mX8_readClause, 1, 0, (1, 4), (3, 127), (0, 7)) := rfl
theorem fX8_readClause_co (N : Nat) (p0 : Nat) (h : ra_H) (r : (Int32 × ra_H)) (e : fX8_readClause N p0 h = some r) (D : Nat) (hD : 88 ≤ D) : ra_CO D 47 [.ref p0] h (ra_oI r).1 (ra_oI r).2 := by
  have hw : ra_nw2 [.ref p0] ≤ 2 := Nat.le_of_ble_eq_true rfl
  have hdb : ∀ v ∈ ([.ref p0] : List Value), ∀ x, v ≠ .double x := by
    intro v hv x hx
    simp [hx] at hv
  unfold fX8_readClause at e
  split at e
  · rename_i ho
    obtain ⟨q, e1, e2⟩ := Option.bind_eq_some_iff.mp e
    obtain ⟨rfl, hz⟩ := ra_rz_of e2
    exact ⟨87, _, mtX8_readClause, hD, ra_ev_of (by decide) hdb hw hz (ra_Ru.weak (nX8_readClause_0_ok N p0 h _ e1) ⟨rfl, trivial⟩), (fun _ => ⟨_, _, rfl, ra_rcv_of ho (by decide) rfl⟩), (fun h => absurd h (by decide))⟩
  · cases e
/-! RedMarks$Tape.readScheme()LRedMarks$Scheme; -/
def mX8_readScheme : ra_M := (yX8_readScheme, cX8_readScheme, 2, (some (.object "RedMarks$Scheme")))
def tVX8_readScheme (N : Nat) : Nat → List Value → ra_H → Option ra_H := (ra_c1 43 (fun av h => match av with
  | [.ref z0] => fX8_advance N z0 h
  | _ => none) ra_c0)
theorem tVX8_readScheme_ok (N : Nat) : ra_cok 88 ra_oV (tVX8_readScheme N) := (ra_c1_ok (by
  intro av h a e
  split at e
  · exact fX8_advance_co N _ _ _ e 88 (by omega)
  · cases e) ra_c0_ok)
def tIX8_readScheme (N : Nat) : Nat → List Value → ra_H → Option (Int32 × ra_H) := (ra_c1 47 (fun av h => match av with
  | [.ref z0] => fX8_readClause N z0 h
  | _ => none) (ra_c1 65 (fun av h => match av with
  | [.ref z0, .int z1] => fX8_isSign N z0 z1 h
  | _ => none) ra_c0))
theorem tIX8_readScheme_ok (N : Nat) : ra_cok 88 ra_oI (tIX8_readScheme N) := (ra_c1_ok (by
  intro av h a e
  split at e
  · exact fX8_readClause_co N _ _ _ e 88 (by omega)
  · cases e) (ra_c1_ok (by
  intro av h a e
  split at e
  · exact fX8_isSign_co N _ _ _ _ e 88 (by omega)
  · cases e) ra_c0_ok))
def tRX8_readScheme (N : Nat) : Nat → List Value → ra_H → Option (Nat × ra_H) := (ra_c1 76 (fun av h => match av with
  | [.ref z0] => fX8_newScheme N z0 h
  | _ => none) ra_c0)
theorem tRX8_readScheme_ok (N : Nat) : ra_cok 88 ra_oR (tRX8_readScheme N) := (ra_c1_ok (by
  intro av h a e
  split at e
  · exact fX8_newScheme_co N _ _ _ e 88 (by omega)
  · cases e) ra_c0_ok)
def lX8_readScheme_26 : List ra_I := [(26, .iload_n 1, 1, 1, 0, 0, 0, 0, []),
  (27, .bipush (12), 2, 0, 0, 0, (12), 0, []),
  (29, .if_icmp .ge (45), 3, 74, 0, 0, 0, 0, []),
  (32, .aload_n 0, 1, 0, 0, 0, 0, 0, []),
  (33, .invokevirtual 45, 3, 47, 1, 1, 0, 0, []),
  (36, .ifCond .ne (5), 3, 41, 0, 0, 0, 0, []),
  (39, .aconst_null, 1, 0, 0, 0, 0, 0, []),
  (40, .areturn, 1, 0, 0, 0, 0, 0, []),
  (41, .aload_n 0, 1, 0, 0, 0, 0, 0, []),
  (42, .getfield 49, 3, 8, 9, 0, 0, 0, []),
  (45, .ifCond .ne (8), 3, 53, 0, 0, 0, 0, []),
  (48, .aload_n 0, 1, 0, 0, 0, 0, 0, []),
  (49, .invokevirtual 52, 3, 76, 1, 3, 0, 0, []),
  (52, .areturn, 1, 0, 0, 0, 0, 0, []),
  (53, .aload_n 0, 1, 0, 0, 0, 0, 0, []),
  (54, .bipush (59), 2, 0, 0, 0, (59), 0, []),
  (56, .invokevirtual 56, 3, 65, 2, 1, 0, 0, []),
  (59, .ifCond .ne (5), 3, 64, 0, 0, 0, 0, []),
  (62, .aconst_null, 1, 0, 0, 0, 0, 0, []),
  (63, .areturn, 1, 0, 0, 0, 0, 0, []),
  (64, .aload_n 0, 1, 0, 0, 0, 0, 0, []),
  (65, .invokevirtual 42, 3, 43, 1, 0, 0, 0, []),
  (68, .iinc 1 (1), 3, 1, 0, 0, (1), 0, []),
  (71, .goto (-45), 3, 26, 0, 0, 0, 0, []),
  (74, .aconst_null, 1, 0, 0, 0, 0, 0, []),
  (75, .areturn, 1, 0, 0, 0, 0, 0, [])]
set_option maxRecDepth 100000 in
theorem lX8_readScheme_26_ck : lX8_readScheme_26.all (ra_ck mX8_readScheme 8) = true := by decide +kernel
def nX8_readScheme_26 (N : Nat) : Nat → Nat → Int32 → ra_H → Option (Option Nat × ra_H)
  | 0, _, _, _ => none
  | n + 1, a0, a1, h =>
  if a1 < ((12 : Int32)) then
    (fX8_readClause N a0 h).bind fun q1 =>
    if q1.1 = 0 then
      some (none, q1.2)
    else
      (ra_fI q1.2 8 a0 9).bind fun x2 =>
      if x2 = 0 then
        (fX8_newScheme N a0 q1.2).bind fun q6 =>
        some (some q6.1, q6.2)
      else
        (fX8_isSign N a0 ((59 : Int32)) q1.2).bind fun q3 =>
        if q3.1 = 0 then
          some (none, q3.2)
        else
          (fX8_advance N a0 q3.2).bind fun h4 =>
          let y5 := a1 + (1 : Int32)
          nX8_readScheme_26 N n a0 y5 h4
  else
    some (none, h)
def kX8_readScheme_26 (N : Nat) (cs : Nat → Int32 → ra_H → Option (Option Nat × ra_H)) : Nat → List (Option Value) → List Value → ra_H → Option (Option Nat × ra_H) := (ra_k1 26 (fun L S h => match L, S with
  | [some (.ref a0), some (.int a1)], [] => cs a0 a1 h
  | _, _ => none) ra_k0)
theorem kX8_readScheme_26_ok (N : Nat) (cs : Nat → Int32 → ra_H → Option (Option Nat × ra_H)) (hcs : ∀ a0 a1 h r, cs a0 a1 h = some r → ra_Ru 88 mX8_readScheme 26 [some (.ref a0), some (.int a1)] [] h (ra_oN r)) : ra_kok 88 mX8_readScheme ra_oN (kX8_readScheme_26 N cs) := (ra_k1_ok (by
  intro L S h a e
  split at e
  · exact ra_Ru.weak (hcs _ _ _ _ e) ⟨rfl, ⟨rfl, trivial⟩⟩
  · cases e) ra_k0_ok)
set_option maxRecDepth 100000 in
theorem nX8_readScheme_26_ok (N : Nat) : ∀ n a0 a1 h r, nX8_readScheme_26 N n a0 a1 h = some r → ra_Ru 88 mX8_readScheme 26 [some (.ref a0), some (.int a1)] [] h (ra_oN r) := by
  intro n
  induction n with
  | zero => intro a0 a1 h r e; cases e
  | succ n ih =>
    intro a0 a1 h r e
    exact ra_sound (by omega) rfl ra_rN_ok (kX8_readScheme_26_ok N (nX8_readScheme_26 N n) ih) (fun m av h h1 e => (tVX8_readScheme_ok N) m av h h1 e) (fun m av h x h1 e => (tIX8_readScheme_ok N) m av h (x, h1) e) (fun m av h x h1 e => (ra_c0_ok (ro := ra_oJ)) m av h (x, h1) e) (fun m av h x h1 e => (tRX8_readScheme_ok N) m av h (x, h1) e) (fun m av h x h1 e => (ra_c0_ok (ro := ra_oN)) m av h (x, h1) e) (fun m av h x h1 e => (ra_c0_ok (ro := ra_oF)) m av h (x, h1) e) 27 lX8_readScheme_26 _ _ _ _ lX8_readScheme_26_ck (show ra_run ra_rN (kX8_readScheme_26 N (nX8_readScheme_26 N n)) (tVX8_readScheme N) (tIX8_readScheme N) ra_c0 (tRX8_readScheme N) ra_c0 ra_c0 27 lX8_readScheme_26 [some (.ref a0), some (.int a1)] [] h = some r from e) _ _ rfl
def lX8_readScheme_0 : List ra_I := [(0, .aload_n 0, 1, 0, 0, 0, 0, 0, []),
  (1, .iconst (0), 1, 0, 0, 0, (0), 0, []),
  (2, .putfield 30, 3, 8, 6, 0, 0, 0, []),
  (5, .aload_n 0, 1, 0, 0, 0, 0, 0, []),
  (6, .iconst (0), 1, 0, 0, 0, (0), 0, []),
  (7, .putfield 33, 3, 8, 7, 0, 0, 0, []),
  (10, .aload_n 0, 1, 0, 0, 0, 0, 0, []),
  (11, .iconst (0), 1, 0, 0, 0, (0), 0, []),
  (12, .putfield 36, 3, 8, 8, 0, 0, 0, []),
  (15, .aload_n 0, 1, 0, 0, 0, 0, 0, []),
  (16, .iconst (0), 1, 0, 0, 0, (0), 0, []),
  (17, .putfield 39, 3, 8, 11, 0, 0, 0, []),
  (20, .aload_n 0, 1, 0, 0, 0, 0, 0, []),
  (21, .invokevirtual 42, 3, 43, 1, 0, 0, 0, []),
  (24, .iconst (0), 1, 0, 0, 0, (0), 0, []),
  (25, .istore_n 1, 1, 1, 0, 0, 0, 0, [])]
set_option maxRecDepth 100000 in
theorem lX8_readScheme_0_ck : lX8_readScheme_0.all (ra_ck mX8_readScheme 8) = true := by decide +kernel
def nX8_readScheme_0 (N : Nat) (a0 : Nat) (h : ra_H) : Option (Option Nat × ra_H) :=
  (ra_fW h 8 a0 6 (.int ((0 : Int32)))).bind fun h1 =>
  (ra_fW h1 8 a0 7 (.int ((0 : Int32)))).bind fun h2 =>
  (ra_fW h2 8 a0 8 (.int ((0 : Int32)))).bind fun h3 =>
  (ra_fW h3 8 a0 11 (.int ((0 : Int32)))).bind fun h4 =>
  (fX8_advance N a0 h4).bind fun h5 =>
  nX8_readScheme_26 N N a0 ((0 : Int32)) h5
def kX8_readScheme_0 (N : Nat) : Nat → List (Option Value) → List Value → ra_H → Option (Option Nat × ra_H) := (ra_k1 26 (fun L S h => match L, S with
  | [some (.ref a0), some (.int a1)], [] => nX8_readScheme_26 N N a0 a1 h
  | _, _ => none) ra_k0)
theorem kX8_readScheme_0_ok (N : Nat) : ra_kok 88 mX8_readScheme ra_oN (kX8_readScheme_0 N) := (ra_k1_ok (by
  intro L S h a e
  split at e
  · exact ra_Ru.weak (nX8_readScheme_26_ok N N _ _ _ _ e) ⟨rfl, ⟨rfl, trivial⟩⟩
  · cases e) ra_k0_ok)
set_option maxRecDepth 100000 in
theorem nX8_readScheme_0_ok (N : Nat) (a0 : Nat) (h : ra_H) (r : (Option Nat × ra_H)) (e : nX8_readScheme_0 N a0 h = some r) : ra_Ru 88 mX8_readScheme 0 [some (.ref a0), none] [] h (ra_oN r) :=
  ra_sound (by omega) rfl ra_rN_ok (kX8_readScheme_0_ok N) (fun m av h h1 e => (tVX8_readScheme_ok N) m av h h1 e) (fun m av h x h1 e => (tIX8_readScheme_ok N) m av h (x, h1) e) (fun m av h x h1 e => (ra_c0_ok (ro := ra_oJ)) m av h (x, h1) e) (fun m av h x h1 e => (tRX8_readScheme_ok N) m av h (x, h1) e) (fun m av h x h1 e => (ra_c0_ok (ro := ra_oN)) m av h (x, h1) e) (fun m av h x h1 e => (ra_c0_ok (ro := ra_oF)) m av h (x, h1) e) 17 lX8_readScheme_0 _ _ _ _ lX8_readScheme_0_ck (show ra_run ra_rN (kX8_readScheme_0 N) (tVX8_readScheme N) (tIX8_readScheme N) ra_c0 (tRX8_readScheme N) ra_c0 ra_c0 17 lX8_readScheme_0 [some (.ref a0), none] [] h = some r from e) _ _ rfl
def fX8_readScheme (N : Nat) (p0 : Nat) (h : ra_H) : Option (Option Nat × ra_H) := match ra_isOb h p0 8 with
  | true => nX8_readScheme_0 N p0 h
  | false => none
set_option maxRecDepth 100000 in
theorem mtX8_readScheme : ra_MT[42]? = some (mX8_readScheme, 1, 0, (1, 4), (3, 109), (3, 110)) := rfl
theorem fX8_readScheme_co (N : Nat) (p0 : Nat) (h : ra_H) (r : (Option Nat × ra_H)) (e : fX8_readScheme N p0 h = some r) (D : Nat) (hD : 89 ≤ D) : ra_CO D 42 [.ref p0] h (ra_oN r).1 (ra_oN r).2 := by
  have hw : ra_nw2 [.ref p0] ≤ 2 := Nat.le_of_ble_eq_true rfl
  have hdb : ∀ v ∈ ([.ref p0] : List Value), ∀ x, v ≠ .double x := by
    intro v hv x hx
    simp [hx] at hv
  unfold fX8_readScheme at e
  split at e
  · rename_i ho
    have e1 := e
    exact ⟨88, _, mtX8_readScheme, hD, ra_ev_of (by decide) hdb hw (by rcases r with ⟨_ | _, _⟩ <;> trivial) (ra_Ru.weak (nX8_readScheme_0_ok N p0 h _ e1) ⟨rfl, trivial⟩), (fun _ => ⟨_, _, rfl, ra_rcv_of ho (by decide) rfl⟩), (fun h => absurd h (by decide))⟩
  · cases e
/-! RedMarks.text()I -/
def mX11_text : ra_M := (yX11_text, cX11_text, 3, (some .int))
def tVX11_text (N : Nat) : Nat → List Value → ra_H → Option ra_H := (ra_c1 79 (fun av h => match av with
  | [.ref z0, .int z1] => fX1_forgetScheme N z0 z1 h
  | _ => none) ra_c0)
theorem tVX11_text_ok (N : Nat) : ra_cok 89 ra_oV (tVX11_text N) := (ra_c1_ok (by
  intro av h a e
  split at e
  · exact fX1_forgetScheme_co N _ _ _ _ e 89 (by omega)
  · cases e) ra_c0_ok)
def tIX11_text (N : Nat) : Nat → List Value → ra_H → Option (Int32 × ra_H) := (ra_c1 17 (fun av h => match av with
  | [.ref z0, .int z1] => fX11_refuse N z0 z1 h
  | _ => none) (ra_c1 24 (fun av h => match av with
  | [.ref z0, .int z1] => fX11_accept N z0 z1 h
  | _ => none) ra_c0))
theorem tIX11_text_ok (N : Nat) : ra_cok 89 ra_oI (tIX11_text N) := (ra_c1_ok (by
  intro av h a e
  split at e
  · exact fX11_refuse_co N _ _ _ _ e 89 (by omega)
  · cases e) (ra_c1_ok (by
  intro av h a e
  split at e
  · exact fX11_accept_co N _ _ _ _ e 89 (by omega)
  · cases e) ra_c0_ok))
def tNX11_text (N : Nat) : Nat → List Value → ra_H → Option (Option Nat × ra_H) := (ra_c1 42 (fun av h => match av with
  | [.ref z0] => fX8_readScheme N z0 h
  | _ => none) ra_c0)
theorem tNX11_text_ok (N : Nat) : ra_cok 89 ra_oN (tNX11_text N) := (ra_c1_ok (by
  intro av h a e
  split at e
  · exact fX8_readScheme_co N _ _ _ e 89 (by omega)
  · cases e) ra_c0_ok)
def lX11_text_0 : List ra_I := [(0, .aload_n 0, 1, 0, 0, 0, 0, 0, []),
  (1, .getfield 10, 3, 11, 0, 2, 0, 0, []),
  (4, .getfield 159, 3, 2, 14, 0, 0, 0, []),
  (7, .bipush (8), 2, 0, 0, 0, (8), 0, []),
  (9, .if_icmp .lt (18), 3, 27, 0, 0, 0, 0, []),
  (12, .aload_n 0, 1, 0, 0, 0, 0, 0, []),
  (13, .getfield 23, 3, 11, 2, 2, 0, 0, []),
  (16, .iconst (0), 1, 0, 0, 0, (0), 0, []),
  (17, .putfield 147, 3, 8, 1, 0, 0, 0, []),
  (20, .aload_n 0, 1, 0, 0, 0, 0, 0, []),
  (21, .bipush (-5), 2, 0, 0, 0, (-5), 0, []),
  (23, .invokevirtual 95, 3, 17, 2, 1, 0, 0, []),
  (26, .ireturn, 1, 0, 0, 0, 0, 0, []),
  (27, .aload_n 0, 1, 0, 0, 0, 0, 0, []),
  (28, .getfield 23, 3, 11, 2, 2, 0, 0, []),
  (31, .invokevirtual 162, 3, 42, 1, 4, 0, 0, []),
  (34, .astore_n 1, 1, 1, 0, 0, 0, 0, []),
  (35, .aload_n 0, 1, 0, 0, 0, 0, 0, []),
  (36, .getfield 23, 3, 11, 2, 2, 0, 0, []),
  (39, .iconst (0), 1, 0, 0, 0, (0), 0, []),
  (40, .putfield 147, 3, 8, 1, 0, 0, 0, []),
  (43, .aload_n 1, 1, 1, 0, 0, 0, 0, []),
  (44, .ifnonnull (21), 3, 65, 0, 0, 0, 0, []),
  (47, .aload_n 0, 1, 0, 0, 0, 0, 0, []),
  (48, .aload_n 0, 1, 0, 0, 0, 0, 0, []),
  (49, .getfield 23, 3, 11, 2, 2, 0, 0, []),
  (52, .getfield 166, 3, 8, 2, 0, 0, 0, []),
  (55, .putfield 83, 3, 11, 12, 0, 0, 0, []),
  (58, .aload_n 0, 1, 0, 0, 0, 0, 0, []),
  (59, .bipush (-6), 2, 0, 0, 0, (-6), 0, []),
  (61, .invokevirtual 95, 3, 17, 2, 1, 0, 0, []),
  (64, .ireturn, 1, 0, 0, 0, 0, 0, []),
  (65, .aload_n 0, 1, 0, 0, 0, 0, 0, []),
  (66, .iconst (-1), 1, 0, 0, 0, (-1), 0, []),
  (67, .putfield 83, 3, 11, 12, 0, 0, 0, []),
  (70, .aload_n 0, 1, 0, 0, 0, 0, 0, []),
  (71, .getfield 10, 3, 11, 0, 2, 0, 0, []),
  (74, .getfield 159, 3, 2, 14, 0, 0, 0, []),
  (77, .istore_n 2, 1, 2, 0, 0, 0, 0, []),
  (78, .aload_n 0, 1, 0, 0, 0, 0, 0, []),
  (79, .getfield 10, 3, 11, 0, 2, 0, 0, []),
  (82, .getfield 169, 3, 2, 4, 2, 0, 0, []),
  (85, .iload_n 2, 1, 2, 0, 0, 0, 0, []),
  (86, .aload_n 1, 1, 1, 0, 0, 0, 0, []),
  (87, .aastore, 1, 0, 0, 0, 0, 0, []),
  (88, .aload_n 0, 1, 0, 0, 0, 0, 0, []),
  (89, .getfield 10, 3, 11, 0, 2, 0, 0, []),
  (92, .dup, 1, 0, 0, 0, 0, 0, []),
  (93, .getfield 159, 3, 2, 14, 0, 0, 0, []),
  (96, .iconst (1), 1, 0, 0, 0, (1), 0, []),
  (97, .iadd, 1, 0, 0, 0, 0, 0, []),
  (98, .putfield 159, 3, 2, 14, 0, 0, 0, []),
  (101, .aload_n 0, 1, 0, 0, 0, 0, 0, []),
  (102, .getfield 39, 3, 11, 4, 2, 0, 0, []),
  (105, .iload_n 2, 1, 2, 0, 0, 0, 0, []),
  (106, .invokevirtual 173, 3, 79, 2, 0, 0, 0, []),
  (109, .aload_n 0, 1, 0, 0, 0, 0, 0, []),
  (110, .iload_n 2, 1, 2, 0, 0, 0, 0, []),
  (111, .invokevirtual 106, 3, 24, 2, 1, 0, 0, []),
  (114, .ireturn, 1, 0, 0, 0, 0, 0, [])]
set_option maxRecDepth 100000 in
theorem lX11_text_0_ck : lX11_text_0.all (ra_ck mX11_text 11) = true := by decide +kernel
def nX11_text_0 (N : Nat) (a0 : Nat) (h : ra_H) : Option (Int32 × ra_H) :=
  (ra_fR h 11 a0 0).bind fun x1 =>
  (ra_fI h 2 x1 14).bind fun x2 =>
  if x2 < ((8 : Int32)) then
    (ra_fR h 11 a0 2).bind fun x3 =>
    (fX8_readScheme N x3 h).bind fun q4 => match q4.1 with
    | none =>
      (ra_fR q4.2 11 a0 2).bind fun x6 =>
      (ra_fW q4.2 8 x6 1 (.int ((0 : Int32)))).bind fun h7 =>
      (ra_fR h7 11 a0 2).bind fun x8 =>
      (ra_fI h7 8 x8 2).bind fun x9 =>
      (ra_fW h7 11 a0 12 (.int x9)).bind fun h10 =>
      (fX11_refuse N a0 ((-6 : Int32)) h10).bind fun q11 =>
      some (q11.1, q11.2)
    | some x5 =>
      (ra_fR q4.2 11 a0 2).bind fun x12 =>
      (ra_fW q4.2 8 x12 1 (.int ((0 : Int32)))).bind fun h13 =>
      (ra_fW h13 11 a0 12 (.int ((-1 : Int32)))).bind fun h14 =>
      (ra_fR h14 11 a0 0).bind fun x15 =>
      (ra_fI h14 2 x15 14).bind fun x16 =>
      (ra_fR h14 11 a0 0).bind fun x17 =>
      (ra_fR h14 2 x17 4).bind fun x18 =>
      (ra_aWR h14 x18 x16 x5).bind fun h19 =>
      (ra_fR h19 11 a0 0).bind fun x20 =>
      (ra_fI h19 2 x20 14).bind fun x21 =>
      (ra_fW h19 2 x20 14 (.int (x21 + ((1 : Int32))))).bind fun h22 =>
      (ra_fR h22 11 a0 4).bind fun x23 =>
      (fX1_forgetScheme N x23 x16 h22).bind fun h24 =>
      (fX11_accept N a0 x16 h24).bind fun q25 =>
      some (q25.1, q25.2)
  else
    (ra_fR h 11 a0 2).bind fun x26 =>
    (ra_fW h 8 x26 1 (.int ((0 : Int32)))).bind fun h27 =>
    (fX11_refuse N a0 ((-5 : Int32)) h27).bind fun q28 =>
    some (q28.1, q28.2)
def kX11_text_0 (N : Nat) : Nat → List (Option Value) → List Value → ra_H → Option (Int32 × ra_H) := ra_k0
theorem kX11_text_0_ok (N : Nat) : ra_kok 89 mX11_text ra_oI (kX11_text_0 N) := ra_k0_ok
set_option maxRecDepth 100000 in
theorem nX11_text_0_ok (N : Nat) (a0 : Nat) (h : ra_H) (r : (Int32 × ra_H)) (e : nX11_text_0 N a0 h = some r) : ra_Ru 89 mX11_text 0 [some (.ref a0), none, none] [] h (ra_oI r) :=
  ra_sound (by omega) rfl ra_rI_ok (kX11_text_0_ok N) (fun m av h h1 e => (tVX11_text_ok N) m av h h1 e) (fun m av h x h1 e => (tIX11_text_ok N) m av h (x, h1) e) (fun m av h x h1 e => (ra_c0_ok (ro := ra_oJ)) m av h (x, h1) e) (fun m av h x h1 e => (ra_c0_ok (ro := ra_oR)) m av h (x, h1) e) (fun m av h x h1 e => (tNX11_text_ok N) m av h (x, h1) e) (fun m av h x h1 e => (ra_c0_ok (ro := ra_oF)) m av h (x, h1) e) 61 lX11_text_0 _ _ _ _ lX11_text_0_ck (show ra_run ra_rI (kX11_text_0 N) (tVX11_text N) (tIX11_text N) ra_c0 ra_c0 (tNX11_text N) ra_c0 61 lX11_text_0 [some (.ref a0), none, none] [] h = some r from e) _ _ rfl
def fX11_text (N : Nat) (p0 : Nat) (h : ra_H) : Option (Int32 × ra_H) := match ra_isOb h p0 11 with
  | true => nX11_text_0 N p0 h
  | false => none
set_option maxRecDepth 100000 in
theorem mtX11_text : ra_MT[41]? = some (mX11_text, 1, 0, (1, 1), (3, 105), (3, 106)) := rfl
theorem fX11_text_co (N : Nat) (p0 : Nat) (h : ra_H) (r : (Int32 × ra_H)) (e : fX11_text N p0 h = some r) (D : Nat) (hD : 90 ≤ D) : ra_CO D 41 [.ref p0] h (ra_oI r).1 (ra_oI r).2 := by
  have hw : ra_nw2 [.ref p0] ≤ 3 := Nat.le_of_ble_eq_true rfl
  have hdb : ∀ v ∈ ([.ref p0] : List Value), ∀ x, v ≠ .double x := by
    intro v hv x hx
    simp [hx] at hv
  unfold fX11_text at e
  split at e
  · rename_i ho
    have e1 := e
    exact ⟨89, _, mtX11_text, hD, ra_ev_of (by decide) hdb hw trivial (ra_Ru.weak (nX11_text_0_ok N p0 h _ e1) ⟨rfl, trivial⟩), (fun _ => ⟨_, _, rfl, ra_rcv_of ho (by decide) rfl⟩), (fun h => absurd h (by decide))⟩
  · cases e
