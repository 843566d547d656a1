/-! RedMarks$Tape.readBracketedSum(I)Z -/
def mX8_readBracketedSum : ra_M := (yX8_readBracketedSum, cX8_readBracketedSum, 2, (some .boolean))
def tVX8_readBracketedSum (N : Nat) (rs : Nat → Int32 → ra_H → Option (Int32 × ra_H)) : Nat → List Value → ra_H → Option ra_H := (ra_c1 43 (fun av h => match av with
  | [.ref z0] => fX8_advance N z0 h
  | _ => none) ra_c0)
theorem tVX8_readBracketedSum_ok (N d : Nat) (hd : 10 ≤ d) (rs : Nat → Int32 → ra_H → Option (Int32 × ra_H)) (hrs : ∀ z0 z1 h r, rs z0 z1 h = some r → ∀ D, d + 1 ≤ D → ra_CO D 62 [.ref z0, .int z1] h (ra_oI r).1 (ra_oI r).2) : ra_cok (d + 1) ra_oV (tVX8_readBracketedSum N rs) := (ra_c1_ok (by
  intro av h a e
  split at e
  · exact fX8_advance_co N _ _ _ e (d + 1) (by omega)
  · cases e) ra_c0_ok)
def tIX8_readBracketedSum (N : Nat) (rs : Nat → Int32 → ra_H → Option (Int32 × ra_H)) : Nat → List Value → ra_H → Option (Int32 × ra_H) := (ra_c1 62 (fun av h => match av with
  | [.ref z0, .int z1] => rs z0 z1 h
  | _ => none) (ra_c1 65 (fun av h => match av with
  | [.ref z0, .int z1] => fX8_isSign N z0 z1 h
  | _ => none) ra_c0))
theorem tIX8_readBracketedSum_ok (N d : Nat) (hd : 10 ≤ d) (rs : Nat → Int32 → ra_H → Option (Int32 × ra_H)) (hrs : ∀ z0 z1 h r, rs z0 z1 h = some r → ∀ D, d + 1 ≤ D → ra_CO D 62 [.ref z0, .int z1] h (ra_oI r).1 (ra_oI r).2) : ra_cok (d + 1) ra_oI (tIX8_readBracketedSum N rs) := (ra_c1_ok (by
  intro av h a e
  split at e
  · exact hrs _ _ _ _ e (d + 1) (by omega)
  · cases e) (ra_c1_ok (by
  intro av h a e
  split at e
  · exact fX8_isSign_co N _ _ _ _ e (d + 1) (by omega)
  · cases e) ra_c0_ok))
def lX8_readBracketedSum_31 : List ra_I := [(31, .iconst (0), 1, 0, 0, 0, (0), 0, []),
  (32, .ireturn, 1, 0, 0, 0, 0, 0, [])]
set_option maxRecDepth 100000 in
theorem lX8_readBracketedSum_31_ck : lX8_readBracketedSum_31.all (ra_ck mX8_readBracketedSum 8) = true := by decide +kernel
def nX8_readBracketedSum_31 (N : Nat) (rs : Nat → Int32 → ra_H → Option (Int32 × ra_H)) (h : ra_H) : Option (Int32 × ra_H) :=
  some ((0 : Int32), h)
def kX8_readBracketedSum_31 (N : Nat) (rs : Nat → Int32 → ra_H → Option (Int32 × ra_H)) : Nat → List (Option Value) → List Value → ra_H → Option (Int32 × ra_H) := ra_k0
theorem kX8_readBracketedSum_31_ok (N d : Nat) (hd : 10 ≤ d) (rs : Nat → Int32 → ra_H → Option (Int32 × ra_H)) (hrs : ∀ z0 z1 h r, rs z0 z1 h = some r → ∀ D, d + 1 ≤ D → ra_CO D 62 [.ref z0, .int z1] h (ra_oI r).1 (ra_oI r).2) : ra_kok (d + 1) mX8_readBracketedSum ra_oI (kX8_readBracketedSum_31 N rs) := ra_k0_ok
set_option maxRecDepth 100000 in
theorem nX8_readBracketedSum_31_ok (N d : Nat) (hd : 10 ≤ d) (rs : Nat → Int32 → ra_H → Option (Int32 × ra_H)) (hrs : ∀ z0 z1 h r, rs z0 z1 h = some r → ∀ D, d + 1 ≤ D → ra_CO D 62 [.ref z0, .int z1] h (ra_oI r).1 (ra_oI r).2) (h : ra_H) (r : (Int32 × ra_H)) (e : nX8_readBracketedSum_31 N rs h = some r) : ra_Ru (d + 1) mX8_readBracketedSum 31 [none, none] [] h (ra_oI r) :=
  ra_sound (by omega) rfl ra_rI_ok (kX8_readBracketedSum_31_ok N d hd rs hrs) (fun m av h h1 e => (tVX8_readBracketedSum_ok N d hd rs hrs) m av h h1 e) (fun m av h x h1 e => (tIX8_readBracketedSum_ok N d hd rs hrs) m av h (x, h1) e) (fun m av h x h1 e => (ra_c0_ok (ro := ra_oJ)) m av h (x, h1) e) (fun m av h x h1 e => (ra_c0_ok (ro := ra_oR)) m av h (x, h1) e) (fun m av h x h1 e => (ra_c0_ok (ro := ra_oN)) m av h (x, h1) e) (fun m av h x h1 e => (ra_c0_ok (ro := ra_oF)) m av h (x, h1) e) 3 lX8_readBracketedSum_31 _ _ _ _ lX8_readBracketedSum_31_ck (show ra_run ra_rI (kX8_readBracketedSum_31 N rs) (tVX8_readBracketedSum N rs) (tIX8_readBracketedSum N rs) ra_c0 ra_c0 ra_c0 ra_c0 3 lX8_readBracketedSum_31 [none, none] [] h = some r from e) _ _ rfl
def lX8_readBracketedSum_0 : List ra_I := [(0, .iload_n 1, 1, 1, 0, 0, 0, 0, []),
  (1, .bipush (8), 2, 0, 0, 0, (8), 0, []),
  (3, .if_icmp .lt (5), 3, 8, 0, 0, 0, 0, []),
  (6, .iconst (0), 1, 0, 0, 0, (0), 0, []),
  (7, .ireturn, 1, 0, 0, 0, 0, 0, []),
  (8, .aload_n 0, 1, 0, 0, 0, 0, 0, []),
  (9, .invokevirtual 42, 3, 43, 1, 0, 0, 0, []),
  (12, .aload_n 0, 1, 0, 0, 0, 0, 0, []),
  (13, .iload_n 1, 1, 1, 0, 0, 0, 0, []),
  (14, .iconst (1), 1, 0, 0, 0, (1), 0, []),
  (15, .iadd, 1, 0, 0, 0, 0, 0, []),
  (16, .invokevirtual 100, 3, 62, 2, 1, 0, 0, []),
  (19, .ifCond .eq (12), 3, 31, 0, 0, 0, 0, []),
  (22, .aload_n 0, 1, 0, 0, 0, 0, 0, []),
  (23, .bipush (93), 2, 0, 0, 0, (93), 0, []),
  (25, .invokevirtual 56, 3, 65, 2, 1, 0, 0, []),
  (28, .ifCond .ne (5), 3, 33, 0, 0, 0, 0, []),
  (33, .aload_n 0, 1, 0, 0, 0, 0, 0, []),
  (34, .invokevirtual 42, 3, 43, 1, 0, 0, 0, []),
  (37, .iconst (1), 1, 0, 0, 0, (1), 0, []),
  (38, .ireturn, 1, 0, 0, 0, 0, 0, [])]
set_option maxRecDepth 100000 in
theorem lX8_readBracketedSum_0_ck : lX8_readBracketedSum_0.all (ra_ck mX8_readBracketedSum 8) = true := by decide +kernel
def nX8_readBracketedSum_0 (N : Nat) (rs : Nat → Int32 → ra_H → Option (Int32 × ra_H)) (a0 : Nat) (a1 : Int32) (h : ra_H) : Option (Int32 × ra_H) :=
  if a1 < ((8 : Int32)) then
    (fX8_advance N a0 h).bind fun h1 =>
    (rs a0 (a1 + ((1 : Int32))) h1).bind fun q2 =>
    if q2.1 = 0 then
      nX8_readBracketedSum_31 N rs q2.2
    else
      (fX8_isSign N a0 ((93 : Int32)) q2.2).bind fun q3 =>
      if q3.1 = 0 then
        nX8_readBracketedSum_31 N rs q3.2
      else
        (fX8_advance N a0 q3.2).bind fun h4 =>
        some ((1 : Int32), h4)
  else
    some ((0 : Int32), h)
def kX8_readBracketedSum_0 (N : Nat) (rs : Nat → Int32 → ra_H → Option (Int32 × ra_H)) : Nat → List (Option Value) → List Value → ra_H → Option (Int32 × ra_H) := (ra_k1 31 (fun L S h => match L, S with
  | [_, _], [] => nX8_readBracketedSum_31 N rs h
  | _, _ => none) ra_k0)
theorem kX8_readBracketedSum_0_ok (N d : Nat) (hd : 10 ≤ d) (rs : Nat → Int32 → ra_H → Option (Int32 × ra_H)) (hrs : ∀ z0 z1 h r, rs z0 z1 h = some r → ∀ D, d + 1 ≤ D → ra_CO D 62 [.ref z0, .int z1] h (ra_oI r).1 (ra_oI r).2) : ra_kok (d + 1) mX8_readBracketedSum ra_oI (kX8_readBracketedSum_0 N rs) := (ra_k1_ok (by
  intro L S h a e
  split at e
  · exact ra_Ru.weak (nX8_readBracketedSum_31_ok N d hd rs hrs _ _ e) trivial
  · cases e) ra_k0_ok)
set_option maxRecDepth 100000 in
theorem nX8_readBracketedSum_0_ok (N d : Nat) (hd : 10 ≤ d) (rs : Nat → Int32 → ra_H → Option (Int32 × ra_H)) (hrs : ∀ z0 z1 h r, rs z0 z1 h = some r → ∀ D, d + 1 ≤ D → ra_CO D 62 [.ref z0, .int z1] h (ra_oI r).1 (ra_oI r).2) (a0 : Nat) (a1 : Int32) (h : ra_H) (r : (Int32 × ra_H)) (e : nX8_readBracketedSum_0 N rs a0 a1 h = some r) : ra_Ru (d + 1) mX8_readBracketedSum 0 [some (.ref a0), some (.int a1)] [] h (ra_oI r) :=
  ra_sound (by omega) rfl ra_rI_ok (kX8_readBracketedSum_0_ok N d hd rs hrs) (fun m av h h1 e => (tVX8_readBracketedSum_ok N d hd rs hrs) m av h h1 e) (fun m av h x h1 e => (tIX8_readBracketedSum_ok N d hd rs hrs) m av h (x, h1) e) (fun m av h x h1 e => (ra_c0_ok (ro := ra_oJ)) m av h (x, h1) e) (fun m av h x h1 e => (ra_c0_ok (ro := ra_oR)) m av h (x, h1) e) (fun m av h x h1 e => (ra_c0_ok (ro := ra_oN)) m av h (x, h1) e) (fun m av h x h1 e => (ra_c0_ok (ro := ra_oF)) m av h (x, h1) e) 22 lX8_readBracketedSum_0 _ _ _ _ lX8_readBracketedSum_0_ck (show ra_run ra_rI (kX8_readBracketedSum_0 N rs) (tVX8_readBracketedSum N rs) (tIX8_readBracketedSum N rs) ra_c0 ra_c0 ra_c0 ra_c0 22 lX8_readBracketedSum_0 [some (.ref a0), some (.int a1)] [] h = some r from e) _ _ rfl
def fX8_readBracketedSum (N : Nat) (rs : Nat → Int32 → ra_H → Option (Int32 × ra_H)) (p0 : Nat) (p1 : Int32) (h : ra_H) : Option (Int32 × ra_H) := match ra_isOb h p0 8 with
  | true => (nX8_readBracketedSum_0 N rs p0 p1 h).bind (fun q => ra_rz q.1 q.2)
  | false => none
set_option maxRecDepth 100000 in
theorem mtX8_readBracketedSum : ra_MT[66]? = some (mX8_readBracketedSum, 1, 1, (1, 4), (3, 211), (0, 14)) := rfl
theorem fX8_readBracketedSum_co (N d : Nat) (hd : 10 ≤ d) (rs : Nat → Int32 → ra_H → Option (Int32 × ra_H)) (hrs : ∀ z0 z1 h r, rs z0 z1 h = some r → ∀ D, d + 1 ≤ D → ra_CO D 62 [.ref z0, .int z1] h (ra_oI r).1 (ra_oI r).2) (p0 : Nat) (p1 : Int32) (h : ra_H) (r : (Int32 × ra_H)) (e : fX8_readBracketedSum N rs p0 p1 h = some r) (D : Nat) (hD : (d + 1) + 1 ≤ D) : ra_CO D 66 [.ref p0, .int p1] h (ra_oI r).1 (ra_oI r).2 := by
  have hw : ra_nw2 [.ref p0, .int p1] ≤ 2 := Nat.le_of_ble_eq_true rfl
  have hdb : ∀ v ∈ ([.ref p0, .int p1] : List Value), ∀ x, v ≠ .double x := by
    intro v hv x hx
    simp [hx] at hv
  unfold fX8_readBracketedSum at e
  split at e
  · rename_i ho
    obtain ⟨q, e1, e2⟩ := Option.bind_eq_some_iff.mp e
    obtain ⟨rfl, hz⟩ := ra_rz_of e2
    exact ⟨(d + 1), _, mtX8_readBracketedSum, hD, ra_ev_of (by decide) hdb hw hz (ra_Ru.weak (nX8_readBracketedSum_0_ok N d hd rs hrs p0 p1 h _ e1) ⟨rfl, ⟨rfl, trivial⟩⟩), (fun _ => ⟨_, _, rfl, ra_rcv_of ho (by decide) rfl⟩), (fun h => absurd h (by decide))⟩
  · cases e
/-! RedMarks$Tape.readPart(I)Z -/
def mX8_readPart : ra_M := (yX8_readPart, cX8_readPart, 4, (some .boolean))
def tVX8_readPart (N : Nat) (rs : Nat → Int32 → ra_H → Option (Int32 × ra_H)) : Nat → List Value → ra_H → Option ra_H := (ra_c1 43 (fun av h => match av with
  | [.ref z0] => fX8_advance N z0 h
  | _ => none) (ra_c1 69 (fun av h => match av with
  | [.ref z0, .int z1, .int z2] => fX8_emit N z0 z1 z2 h
  | _ => none) ra_c0))
theorem tVX8_readPart_ok (N d : Nat) (hd : 10 ≤ d) (rs : Nat → Int32 → ra_H → Option (Int32 × ra_H)) (hrs : ∀ z0 z1 h r, rs z0 z1 h = some r → ∀ D, d + 1 ≤ D → ra_CO D 62 [.ref z0, .int z1] h (ra_oI r).1 (ra_oI r).2) : ra_cok (d + 2) ra_oV (tVX8_readPart N rs) := (ra_c1_ok (by
  intro av h a e
  split at e
  · exact fX8_advance_co N _ _ _ e (d + 2) (by omega)
  · cases e) (ra_c1_ok (by
  intro av h a e
  split at e
  · exact fX8_emit_co N _ _ _ _ _ e (d + 2) (by omega)
  · cases e) ra_c0_ok))
def tIX8_readPart (N : Nat) (rs : Nat → Int32 → ra_H → Option (Int32 × ra_H)) : Nat → List Value → ra_H → Option (Int32 × ra_H) := (ra_c1 65 (fun av h => match av with
  | [.ref z0, .int z1] => fX8_isSign N z0 z1 h
  | _ => none) (ra_c1 66 (fun av h => match av with
  | [.ref z0, .int z1] => fX8_readBracketedSum N rs z0 z1 h
  | _ => none) (ra_c1 67 (fun av h => match av with
  | [.ref z0] => fX8_factHere N z0 h
  | _ => none) ra_c0)))
theorem tIX8_readPart_ok (N d : Nat) (hd : 10 ≤ d) (rs : Nat → Int32 → ra_H → Option (Int32 × ra_H)) (hrs : ∀ z0 z1 h r, rs z0 z1 h = some r → ∀ D, d + 1 ≤ D → ra_CO D 62 [.ref z0, .int z1] h (ra_oI r).1 (ra_oI r).2) : ra_cok (d + 2) ra_oI (tIX8_readPart N rs) := (ra_c1_ok (by
  intro av h a e
  split at e
  · exact fX8_isSign_co N _ _ _ _ e (d + 2) (by omega)
  · cases e) (ra_c1_ok (by
  intro av h a e
  split at e
  · exact fX8_readBracketedSum_co N d hd rs hrs _ _ _ _ e (d + 2) (by omega)
  · cases e) (ra_c1_ok (by
  intro av h a e
  split at e
  · exact fX8_factHere_co N _ _ _ e (d + 2) (by omega)
  · cases e) ra_c0_ok)))
def lX8_readPart_62 : List ra_I := [(62, .iconst (0), 1, 0, 0, 0, (0), 0, []),
  (63, .ireturn, 1, 0, 0, 0, 0, 0, [])]
set_option maxRecDepth 100000 in
theorem lX8_readPart_62_ck : lX8_readPart_62.all (ra_ck mX8_readPart 8) = true := by decide +kernel
def nX8_readPart_62 (N : Nat) (rs : Nat → Int32 → ra_H → Option (Int32 × ra_H)) (h : ra_H) : Option (Int32 × ra_H) :=
  some ((0 : Int32), h)
def kX8_readPart_62 (N : Nat) (rs : Nat → Int32 → ra_H → Option (Int32 × ra_H)) : Nat → List (Option Value) → List Value → ra_H → Option (Int32 × ra_H) := ra_k0
theorem kX8_readPart_62_ok (N d : Nat) (hd : 10 ≤ d) (rs : Nat → Int32 → ra_H → Option (Int32 × ra_H)) (hrs : ∀ z0 z1 h r, rs z0 z1 h = some r → ∀ D, d + 1 ≤ D → ra_CO D 62 [.ref z0, .int z1] h (ra_oI r).1 (ra_oI r).2) : ra_kok (d + 2) mX8_readPart ra_oI (kX8_readPart_62 N rs) := ra_k0_ok
set_option maxRecDepth 100000 in
theorem nX8_readPart_62_ok (N d : Nat) (hd : 10 ≤ d) (rs : Nat → Int32 → ra_H → Option (Int32 × ra_H)) (hrs : ∀ z0 z1 h r, rs z0 z1 h = some r → ∀ D, d + 1 ≤ D → ra_CO D 62 [.ref z0, .int z1] h (ra_oI r).1 (ra_oI r).2) (h : ra_H) (r : (Int32 × ra_H)) (e : nX8_readPart_62 N rs h = some r) : ra_Ru (d + 2) mX8_readPart 62 [none, none, none, none] [] h (ra_oI r) :=
  ra_sound (by omega) rfl ra_rI_ok (kX8_readPart_62_ok N d hd rs hrs) (fun m av h h1 e => (tVX8_readPart_ok N d hd rs hrs) m av h h1 e) (fun m av h x h1 e => (tIX8_readPart_ok N d hd rs hrs) m av h (x, h1) e) (fun m av h x h1 e => (ra_c0_ok (ro := ra_oJ)) m av h (x, h1) e) (fun m av h x h1 e => (ra_c0_ok (ro := ra_oR)) m av h (x, h1) e) (fun m av h x h1 e => (ra_c0_ok (ro := ra_oN)) m av h (x, h1) e) (fun m av h x h1 e => (ra_c0_ok (ro := ra_oF)) m av h (x, h1) e) 3 lX8_readPart_62 _ _ _ _ lX8_readPart_62_ck (show ra_run ra_rI (kX8_readPart_62 N rs) (tVX8_readPart N rs) (tIX8_readPart N rs) ra_c0 ra_c0 ra_c0 ra_c0 3 lX8_readPart_62 [none, none, none, none] [] h = some r from e) _ _ rfl
def lX8_readPart_96 : List ra_I := [(96, .invokevirtual 158, 3, 69, 3, 0, 0, 0, []),
  (99, .aload_n 0, 1, 0, 0, 0, 0, 0, []),
  (100, .invokevirtual 42, 3, 43, 1, 0, 0, 0, []),
  (103, .iconst (1), 1, 0, 0, 0, (1), 0, []),
  (104, .ireturn, 1, 0, 0, 0, 0, 0, [])]
set_option maxRecDepth 100000 in
theorem lX8_readPart_96_ck : lX8_readPart_96.all (ra_ck mX8_readPart 8) = true := by decide +kernel
def nX8_readPart_96 (N : Nat) (rs : Nat → Int32 → ra_H → Option (Int32 × ra_H)) (a0 : Nat) (b0 : Nat) (b1 : Int32) (b2 : Int32) (h : ra_H) : Option (Int32 × ra_H) :=
  (fX8_emit N b0 b1 b2 h).bind fun h1 =>
  (fX8_advance N a0 h1).bind fun h2 =>
  some ((1 : Int32), h2)
def kX8_readPart_96 (N : Nat) (rs : Nat → Int32 → ra_H → Option (Int32 × ra_H)) : Nat → List (Option Value) → List Value → ra_H → Option (Int32 × ra_H) := ra_k0
theorem kX8_readPart_96_ok (N d : Nat) (hd : 10 ≤ d) (rs : Nat → Int32 → ra_H → Option (Int32 × ra_H)) (hrs : ∀ z0 z1 h r, rs z0 z1 h = some r → ∀ D, d + 1 ≤ D → ra_CO D 62 [.ref z0, .int z1] h (ra_oI r).1 (ra_oI r).2) : ra_kok (d + 2) mX8_readPart ra_oI (kX8_readPart_96 N rs) := ra_k0_ok
set_option maxRecDepth 100000 in
theorem nX8_readPart_96_ok (N d : Nat) (hd : 10 ≤ d) (rs : Nat → Int32 → ra_H → Option (Int32 × ra_H)) (hrs : ∀ z0 z1 h r, rs z0 z1 h = some r → ∀ D, d + 1 ≤ D → ra_CO D 62 [.ref z0, .int z1] h (ra_oI r).1 (ra_oI r).2) (a0 : Nat) (b0 : Nat) (b1 : Int32) (b2 : Int32) (h : ra_H) (r : (Int32 × ra_H)) (e : nX8_readPart_96 N rs a0 b0 b1 b2 h = some r) : ra_Ru (d + 2) mX8_readPart 96 [some (.ref a0), none, none, none] [.int b2, .int b1, .ref b0] h (ra_oI r) :=
  ra_sound (by omega) rfl ra_rI_ok (kX8_readPart_96_ok N d hd rs hrs) (fun m av h h1 e => (tVX8_readPart_ok N d hd rs hrs) m av h h1 e) (fun m av h x h1 e => (tIX8_readPart_ok N d hd rs hrs) m av h (x, h1) e) (fun m av h x h1 e => (ra_c0_ok (ro := ra_oJ)) m av h (x, h1) e) (fun m av h x h1 e => (ra_c0_ok (ro := ra_oR)) m av h (x, h1) e) (fun m av h x h1 e => (ra_c0_ok (ro := ra_oN)) m av h (x, h1) e) (fun m av h x h1 e => (ra_c0_ok (ro := ra_oF)) m av h (x, h1) e) 6 lX8_readPart_96 _ _ _ _ lX8_readPart_96_ck (show ra_run ra_rI (kX8_readPart_96 N rs) (tVX8_readPart N rs) (tIX8_readPart N rs) ra_c0 ra_c0 ra_c0 ra_c0 6 lX8_readPart_96 [some (.ref a0), none, none, none] [.int b2, .int b1, .ref b0] h = some r from e) _ _ rfl
def lX8_readPart_84 : List ra_I := [(84, .iload_n 2, 1, 2, 0, 0, 0, 0, []),
  (85, .ifCond .eq (10), 3, 95, 0, 0, 0, 0, []),
  (88, .aload_n 0, 1, 0, 0, 0, 0, 0, []),
  (89, .getfield 72, 3, 8, 10, 0, 0, 0, []),
  (92, .goto (4), 3, 96, 0, 0, 0, 0, []),
  (95, .iload_n 3, 1, 3, 0, 0, 0, 0, [])]
set_option maxRecDepth 100000 in
theorem lX8_readPart_84_ck : lX8_readPart_84.all (ra_ck mX8_readPart 8) = true := by decide +kernel
def nX8_readPart_84 (N : Nat) (rs : Nat → Int32 → ra_H → Option (Int32 × ra_H)) (a0 : Nat) (a2 : Int32) (a3 : Int32) (b0 : Nat) (b1 : Int32) (h : ra_H) : Option (Int32 × ra_H) :=
  if a2 = 0 then
    nX8_readPart_96 N rs a0 b0 b1 a3 h
  else
    (ra_fI h 8 a0 10).bind fun x1 =>
    nX8_readPart_96 N rs a0 b0 b1 x1 h
def kX8_readPart_84 (N : Nat) (rs : Nat → Int32 → ra_H → Option (Int32 × ra_H)) : Nat → List (Option Value) → List Value → ra_H → Option (Int32 × ra_H) := (ra_k1 96 (fun L S h => match L, S with
  | [some (.ref a0), _, _, _], [.int b2, .int b1, .ref b0] => nX8_readPart_96 N rs a0 b0 b1 b2 h
  | _, _ => none) ra_k0)
theorem kX8_readPart_84_ok (N d : Nat) (hd : 10 ≤ d) (rs : Nat → Int32 → ra_H → Option (Int32 × ra_H)) (hrs : ∀ z0 z1 h r, rs z0 z1 h = some r → ∀ D, d + 1 ≤ D → ra_CO D 62 [.ref z0, .int z1] h (ra_oI r).1 (ra_oI r).2) : ra_kok (d + 2) mX8_readPart ra_oI (kX8_readPart_84 N rs) := (ra_k1_ok (by
  intro L S h a e
  split at e
  · exact ra_Ru.weak (nX8_readPart_96_ok N d hd rs hrs _ _ _ _ _ _ e) ⟨rfl, trivial⟩
  · cases e) ra_k0_ok)
set_option maxRecDepth 100000 in
theorem nX8_readPart_84_ok (N d : Nat) (hd : 10 ≤ d) (rs : Nat → Int32 → ra_H → Option (Int32 × ra_H)) (hrs : ∀ z0 z1 h r, rs z0 z1 h = some r → ∀ D, d + 1 ≤ D → ra_CO D 62 [.ref z0, .int z1] h (ra_oI r).1 (ra_oI r).2) (a0 : Nat) (a2 : Int32) (a3 : Int32) (b0 : Nat) (b1 : Int32) (h : ra_H) (r : (Int32 × ra_H)) (e : nX8_readPart_84 N rs a0 a2 a3 b0 b1 h = some r) : ra_Ru (d + 2) mX8_readPart 84 [some (.ref a0), none, some (.int a2), some (.int a3)] [.int b1, .ref b0] h (ra_oI r) :=
  ra_sound (by omega) rfl ra_rI_ok (kX8_readPart_84_ok N d hd rs hrs) (fun m av h h1 e => (tVX8_readPart_ok N d hd rs hrs) m av h h1 e) (fun m av h x h1 e => (tIX8_readPart_ok N d hd rs hrs) m av h (x, h1) e) (fun m av h x h1 e => (ra_c0_ok (ro := ra_oJ)) m av h (x, h1) e) (fun m av h x h1 e => (ra_c0_ok (ro := ra_oR)) m av h (x, h1) e) (fun m av h x h1 e => (ra_c0_ok (ro := ra_oN)) m av h (x, h1) e) (fun m av h x h1 e => (ra_c0_ok (ro := ra_oF)) m av h (x, h1) e) 7 lX8_readPart_84 _ _ _ _ lX8_readPart_84_ck (show ra_run ra_rI (kX8_readPart_84 N rs) (tVX8_readPart N rs) (tIX8_readPart N rs) ra_c0 ra_c0 ra_c0 ra_c0 7 lX8_readPart_84 [some (.ref a0), none, some (.int a2), some (.int a3)] [.int b1, .ref b0] h = some r from e) _ _ rfl
def lX8_readPart_53 : List ra_I := [(53, .aload_n 0, 1, 0, 0, 0, 0, 0, []),
  (54, .getfield 36, 3, 8, 8, 0, 0, 0, []),
  (57, .bipush (50), 2, 0, 0, 0, (50), 0, []),
  (59, .if_icmp .lt (5), 3, 64, 0, 0, 0, 0, []),
  (64, .aload_n 0, 1, 0, 0, 0, 0, 0, []),
  (65, .dup, 1, 0, 0, 0, 0, 0, []),
  (66, .getfield 36, 3, 8, 8, 0, 0, 0, []),
  (69, .iconst (1), 1, 0, 0, 0, (1), 0, []),
  (70, .iadd, 1, 0, 0, 0, 0, 0, []),
  (71, .putfield 36, 3, 8, 8, 0, 0, 0, []),
  (74, .aload_n 0, 1, 0, 0, 0, 0, 0, []),
  (75, .iload_n 2, 1, 2, 0, 0, 0, 0, []),
  (76, .ifCond .eq (7), 3, 83, 0, 0, 0, 0, []),
  (79, .iconst (0), 1, 0, 0, 0, (0), 0, []),
  (80, .goto (4), 3, 84, 0, 0, 0, 0, []),
  (83, .iconst (1), 1, 0, 0, 0, (1), 0, [])]
set_option maxRecDepth 100000 in
theorem lX8_readPart_53_ck : lX8_readPart_53.all (ra_ck mX8_readPart 8) = true := by decide +kernel
def nX8_readPart_53 (N : Nat) (rs : Nat → Int32 → ra_H → Option (Int32 × ra_H)) (a0 : Nat) (a2 : Int32) (a3 : Int32) (h : ra_H) : Option (Int32 × ra_H) :=
  (ra_fI h 8 a0 8).bind fun x1 =>
  if x1 < ((50 : Int32)) then
    (ra_fI h 8 a0 8).bind fun x2 =>
    (ra_fW h 8 a0 8 (.int (x2 + ((1 : Int32))))).bind fun h3 =>
    if a2 = 0 then
      nX8_readPart_84 N rs a0 a2 a3 a0 ((1 : Int32)) h3
    else
      nX8_readPart_84 N rs a0 a2 a3 a0 ((0 : Int32)) h3
  else
    nX8_readPart_62 N rs h
def kX8_readPart_53 (N : Nat) (rs : Nat → Int32 → ra_H → Option (Int32 × ra_H)) : Nat → List (Option Value) → List Value → ra_H → Option (Int32 × ra_H) := (ra_k1 62 (fun L S h => match L, S with
  | [_, _, _, _], [] => nX8_readPart_62 N rs h
  | _, _ => none) (ra_k1 84 (fun L S h => match L, S with
  | [some (.ref a0), _, some (.int a2), some (.int a3)], [.int b1, .ref b0] => nX8_readPart_84 N rs a0 a2 a3 b0 b1 h
  | _, _ => none) ra_k0))
theorem kX8_readPart_53_ok (N d : Nat) (hd : 10 ≤ d) (rs : Nat → Int32 → ra_H → Option (Int32 × ra_H)) (hrs : ∀ z0 z1 h r, rs z0 z1 h = some r → ∀ D, d + 1 ≤ D → ra_CO D 62 [.ref z0, .int z1] h (ra_oI r).1 (ra_oI r).2) : ra_kok (d + 2) mX8_readPart ra_oI (kX8_readPart_53 N rs) := (ra_k1_ok (by
  intro L S h a e
  split at e
  · exact ra_Ru.weak (nX8_readPart_62_ok N d hd rs hrs _ _ e) trivial
  · cases e) (ra_k1_ok (by
  intro L S h a e
  split at e
  · exact ra_Ru.weak (nX8_readPart_84_ok N d hd rs hrs _ _ _ _ _ _ _ e) ⟨rfl, ⟨rfl, ⟨rfl, trivial⟩⟩⟩
  · cases e) ra_k0_ok))
set_option maxRecDepth 100000 in
theorem nX8_readPart_53_ok (N d : Nat) (hd : 10 ≤ d) (rs : Nat → Int32 → ra_H → Option (Int32 × ra_H)) (hrs : ∀ z0 z1 h r, rs z0 z1 h = some r → ∀ D, d + 1 ≤ D → ra_CO D 62 [.ref z0, .int z1] h (ra_oI r).1 (ra_oI r).2) (a0 : Nat) (a2 : Int32) (a3 : Int32) (h : ra_H) (r : (Int32 × ra_H)) (e : nX8_readPart_53 N rs a0 a2 a3 h = some r) : ra_Ru (d + 2) mX8_readPart 53 [some (.ref a0), none, some (.int a2), some (.int a3)] [] h (ra_oI r) :=
  ra_sound (by omega) rfl ra_rI_ok (kX8_readPart_53_ok N d hd rs hrs) (fun m av h h1 e => (tVX8_readPart_ok N d hd rs hrs) m av h h1 e) (fun m av h x h1 e => (tIX8_readPart_ok N d hd rs hrs) m av h (x, h1) e) (fun m av h x h1 e => (ra_c0_ok (ro := ra_oJ)) m av h (x, h1) e) (fun m av h x h1 e => (ra_c0_ok (ro := ra_oR)) m av h (x, h1) e) (fun m av h x h1 e => (ra_c0_ok (ro := ra_oN)) m av h (x, h1) e) (fun m av h x h1 e => (ra_c0_ok (ro := ra_oF)) m av h (x, h1) e) 17 lX8_readPart_53 _ _ _ _ lX8_readPart_53_ck (show ra_run ra_rI (kX8_readPart_53 N rs) (tVX8_readPart N rs) (tIX8_readPart N rs) ra_c0 ra_c0 ra_c0 ra_c0 17 lX8_readPart_53 [some (.ref a0), none, some (.int a2), some (.int a3)] [] h = some r from e) _ _ rfl
def lX8_readPart_38 : List ra_I := [(38, .istore_n 2, 1, 2, 0, 0, 0, 0, []),
  (39, .aload_n 0, 1, 0, 0, 0, 0, 0, []),
  (40, .invokevirtual 187, 3, 67, 1, 1, 0, 0, []),
  (43, .istore_n 3, 1, 3, 0, 0, 0, 0, []),
  (44, .iload_n 2, 1, 2, 0, 0, 0, 0, []),
  (45, .ifCond .ne (8), 3, 53, 0, 0, 0, 0, []),
  (48, .iload_n 3, 1, 3, 0, 0, 0, 0, []),
  (49, .iconst (-1), 1, 0, 0, 0, (-1), 0, []),
  (50, .if_icmp .eq (12), 3, 62, 0, 0, 0, 0, [])]
set_option maxRecDepth 100000 in
theorem lX8_readPart_38_ck : lX8_readPart_38.all (ra_ck mX8_readPart 8) = true := by decide +kernel
def nX8_readPart_38 (N : Nat) (rs : Nat → Int32 → ra_H → Option (Int32 × ra_H)) (a0 : Nat) (b0 : Int32) (h : ra_H) : Option (Int32 × ra_H) :=
  (fX8_factHere N a0 h).bind fun q1 =>
  if b0 = 0 then
    if q1.1 = ((-1 : Int32)) then
      nX8_readPart_62 N rs q1.2
    else
      nX8_readPart_53 N rs a0 b0 q1.1 q1.2
  else
    nX8_readPart_53 N rs a0 b0 q1.1 q1.2
def kX8_readPart_38 (N : Nat) (rs : Nat → Int32 → ra_H → Option (Int32 × ra_H)) : Nat → List (Option Value) → List Value → ra_H → Option (Int32 × ra_H) := (ra_k1 53 (fun L S h => match L, S with
  | [some (.ref a0), _, some (.int a2), some (.int a3)], [] => nX8_readPart_53 N rs a0 a2 a3 h
  | _, _ => none) (ra_k1 62 (fun L S h => match L, S with
  | [_, _, _, _], [] => nX8_readPart_62 N rs h
  | _, _ => none) ra_k0))
theorem kX8_readPart_38_ok (N d : Nat) (hd : 10 ≤ d) (rs : Nat → Int32 → ra_H → Option (Int32 × ra_H)) (hrs : ∀ z0 z1 h r, rs z0 z1 h = some r → ∀ D, d + 1 ≤ D → ra_CO D 62 [.ref z0, .int z1] h (ra_oI r).1 (ra_oI r).2) : ra_kok (d + 2) mX8_readPart ra_oI (kX8_readPart_38 N rs) := (ra_k1_ok (by
  intro L S h a e
  split at e
  · exact ra_Ru.weak (nX8_readPart_53_ok N d hd rs hrs _ _ _ _ _ e) ⟨rfl, ⟨rfl, ⟨rfl, trivial⟩⟩⟩
  · cases e) (ra_k1_ok (by
  intro L S h a e
  split at e
  · exact ra_Ru.weak (nX8_readPart_62_ok N d hd rs hrs _ _ e) trivial
  · cases e) ra_k0_ok))
set_option maxRecDepth 100000 in
theorem nX8_readPart_38_ok (N d : Nat) (hd : 10 ≤ d) (rs : Nat → Int32 → ra_H → Option (Int32 × ra_H)) (hrs : ∀ z0 z1 h r, rs z0 z1 h = some r → ∀ D, d + 1 ≤ D → ra_CO D 62 [.ref z0, .int z1] h (ra_oI r).1 (ra_oI r).2) (a0 : Nat) (b0 : Int32) (h : ra_H) (r : (Int32 × ra_H)) (e : nX8_readPart_38 N rs a0 b0 h = some r) : ra_Ru (d + 2) mX8_readPart 38 [some (.ref a0), none, none, none] [.int b0] h (ra_oI r) :=
  ra_sound (by omega) rfl ra_rI_ok (kX8_readPart_38_ok N d hd rs hrs) (fun m av h h1 e => (tVX8_readPart_ok N d hd rs hrs) m av h h1 e) (fun m av h x h1 e => (tIX8_readPart_ok N d hd rs hrs) m av h (x, h1) e) (fun m av h x h1 e => (ra_c0_ok (ro := ra_oJ)) m av h (x, h1) e) (fun m av h x h1 e => (ra_c0_ok (ro := ra_oR)) m av h (x, h1) e) (fun m av h x h1 e => (ra_c0_ok (ro := ra_oN)) m av h (x, h1) e) (fun m av h x h1 e => (ra_c0_ok (ro := ra_oF)) m av h (x, h1) e) 10 lX8_readPart_38 _ _ _ _ lX8_readPart_38_ck (show ra_run ra_rI (kX8_readPart_38 N rs) (tVX8_readPart N rs) (tIX8_readPart N rs) ra_c0 ra_c0 ra_c0 ra_c0 10 lX8_readPart_38 [some (.ref a0), none, none, none] [.int b0] h = some r from e) _ _ rfl
def lX8_readPart_37 : List ra_I := [(37, .iconst (0), 1, 0, 0, 0, (0), 0, [])]
set_option maxRecDepth 100000 in
theorem lX8_readPart_37_ck : lX8_readPart_37.all (ra_ck mX8_readPart 8) = true := by decide +kernel
def nX8_readPart_37 (N : Nat) (rs : Nat → Int32 → ra_H → Option (Int32 × ra_H)) (a0 : Nat) (h : ra_H) : Option (Int32 × ra_H) :=
  nX8_readPart_38 N rs a0 ((0 : Int32)) h
def kX8_readPart_37 (N : Nat) (rs : Nat → Int32 → ra_H → Option (Int32 × ra_H)) : Nat → List (Option Value) → List Value → ra_H → Option (Int32 × ra_H) := (ra_k1 38 (fun L S h => match L, S with
  | [some (.ref a0), _, _, _], [.int b0] => nX8_readPart_38 N rs a0 b0 h
  | _, _ => none) ra_k0)
theorem kX8_readPart_37_ok (N d : Nat) (hd : 10 ≤ d) (rs : Nat → Int32 → ra_H → Option (Int32 × ra_H)) (hrs : ∀ z0 z1 h r, rs z0 z1 h = some r → ∀ D, d + 1 ≤ D → ra_CO D 62 [.ref z0, .int z1] h (ra_oI r).1 (ra_oI r).2) : ra_kok (d + 2) mX8_readPart ra_oI (kX8_readPart_37 N rs) := (ra_k1_ok (by
  intro L S h a e
  split at e
  · exact ra_Ru.weak (nX8_readPart_38_ok N d hd rs hrs _ _ _ _ e) ⟨rfl, trivial⟩
  · cases e) ra_k0_ok)
set_option maxRecDepth 100000 in
theorem nX8_readPart_37_ok (N d : Nat) (hd : 10 ≤ d) (rs : Nat → Int32 → ra_H → Option (Int32 × ra_H)) (hrs : ∀ z0 z1 h r, rs z0 z1 h = some r → ∀ D, d + 1 ≤ D → ra_CO D 62 [.ref z0, .int z1] h (ra_oI r).1 (ra_oI r).2) (a0 : Nat) (h : ra_H) (r : (Int32 × ra_H)) (e : nX8_readPart_37 N rs a0 h = some r) : ra_Ru (d + 2) mX8_readPart 37 [some (.ref a0), none, none, none] [] h (ra_oI r) :=
  ra_sound (by omega) rfl ra_rI_ok (kX8_readPart_37_ok N d hd rs hrs) (fun m av h h1 e => (tVX8_readPart_ok N d hd rs hrs) m av h h1 e) (fun m av h x h1 e => (tIX8_readPart_ok N d hd rs hrs) m av h (x, h1) e) (fun m av h x h1 e => (ra_c0_ok (ro := ra_oJ)) m av h (x, h1) e) (fun m av h x h1 e => (ra_c0_ok (ro := ra_oR)) m av h (x, h1) e) (fun m av h x h1 e => (ra_c0_ok (ro := ra_oN)) m av h (x, h1) e) (fun m av h x h1 e => (ra_c0_ok (ro := ra_oF)) m av h (x, h1) e) 2 lX8_readPart_37 _ _ _ _ lX8_readPart_37_ck (show ra_run ra_rI (kX8_readPart_37 N rs) (tVX8_readPart N rs) (tIX8_readPart N rs) ra_c0 ra_c0 ra_c0 ra_c0 2 lX8_readPart_37 [some (.ref a0), none, none, none] [] h = some r from e) _ _ rfl
def lX8_readPart_0 : List ra_I := [(0, .aload_n 0, 1, 0, 0, 0, 0, 0, []),
  (1, .bipush (91), 2, 0, 0, 0, (91), 0, []),
  (3, .invokevirtual 56, 3, 65, 2, 1, 0, 0, []),
  (6, .ifCond .eq (9), 3, 15, 0, 0, 0, 0, []),
  (9, .aload_n 0, 1, 0, 0, 0, 0, 0, []),
  (10, .iload_n 1, 1, 1, 0, 0, 0, 0, []),
  (11, .invokevirtual 184, 3, 66, 2, 1, 0, 0, []),
  (14, .ireturn, 1, 0, 0, 0, 0, 0, []),
  (15, .aload_n 0, 1, 0, 0, 0, 0, 0, []),
  (16, .getfield 49, 3, 8, 9, 0, 0, 0, []),
  (19, .iconst (2), 1, 0, 0, 0, (2), 0, []),
  (20, .if_icmp .ne (17), 3, 37, 0, 0, 0, 0, []),
  (23, .aload_n 0, 1, 0, 0, 0, 0, 0, []),
  (24, .getfield 72, 3, 8, 10, 0, 0, 0, []),
  (27, .sipush (1000), 3, 0, 0, 0, (1000), 0, []),
  (30, .if_icmp .gt (7), 3, 37, 0, 0, 0, 0, []),
  (33, .iconst (1), 1, 0, 0, 0, (1), 0, []),
  (34, .goto (4), 3, 38, 0, 0, 0, 0, [])]
set_option maxRecDepth 100000 in
theorem lX8_readPart_0_ck : lX8_readPart_0.all (ra_ck mX8_readPart 8) = true := by decide +kernel
def nX8_readPart_0 (N : Nat) (rs : Nat → Int32 → ra_H → Option (Int32 × ra_H)) (a0 : Nat) (a1 : Int32) (h : ra_H) : Option (Int32 × ra_H) :=
  (fX8_isSign N a0 ((91 : Int32)) h).bind fun q1 =>
  if q1.1 = 0 then
    (ra_fI q1.2 8 a0 9).bind fun x2 =>
    if x2 = ((2 : Int32)) then
      (ra_fI q1.2 8 a0 10).bind fun x3 =>
      if x3 ≤ ((1000 : Int32)) then
        nX8_readPart_38 N rs a0 ((1 : Int32)) q1.2
      else
        nX8_readPart_37 N rs a0 q1.2
    else
      nX8_readPart_37 N rs a0 q1.2
  else
    (fX8_readBracketedSum N rs a0 a1 q1.2).bind fun q4 =>
    some (q4.1, q4.2)
def kX8_readPart_0 (N : Nat) (rs : Nat → Int32 → ra_H → Option (Int32 × ra_H)) : Nat → List (Option Value) → List Value → ra_H → Option (Int32 × ra_H) := (ra_k1 37 (fun L S h => match L, S with
  | [some (.ref a0), _, _, _], [] => nX8_readPart_37 N rs a0 h
  | _, _ => none) (ra_k1 38 (fun L S h => match L, S with
  | [some (.ref a0), _, _, _], [.int b0] => nX8_readPart_38 N rs a0 b0 h
  | _, _ => none) ra_k0))
theorem kX8_readPart_0_ok (N d : Nat) (hd : 10 ≤ d) (rs : Nat → Int32 → ra_H → Option (Int32 × ra_H)) (hrs : ∀ z0 z1 h r, rs z0 z1 h = some r → ∀ D, d + 1 ≤ D → ra_CO D 62 [.ref z0, .int z1] h (ra_oI r).1 (ra_oI r).2) : ra_kok (d + 2) mX8_readPart ra_oI (kX8_readPart_0 N rs) := (ra_k1_ok (by
  intro L S h a e
  split at e
  · exact ra_Ru.weak (nX8_readPart_37_ok N d hd rs hrs _ _ _ e) ⟨rfl, trivial⟩
  · cases e) (ra_k1_ok (by
  intro L S h a e
  split at e
  · exact ra_Ru.weak (nX8_readPart_38_ok N d hd rs hrs _ _ _ _ e) ⟨rfl, trivial⟩
  · cases e) ra_k0_ok))
set_option maxRecDepth 100000 in
theorem nX8_readPart_0_ok (N d : Nat) (hd : 10 ≤ d) (rs : Nat → Int32 → ra_H → Option (Int32 × ra_H)) (hrs : ∀ z0 z1 h r, rs z0 z1 h = some r → ∀ D, d + 1 ≤ D → ra_CO D 62 [.ref z0, .int z1] h (ra_oI r).1 (ra_oI r).2) (a0 : Nat) (a1 : Int32) (h : ra_H) (r : (Int32 × ra_H)) (e : nX8_readPart_0 N rs a0 a1 h = some r) : ra_Ru (d + 2) mX8_readPart 0 [some (.ref a0), some (.int a1), none, none] [] h (ra_oI r) :=
  ra_sound (by omega) rfl ra_rI_ok (kX8_readPart_0_ok N d hd rs hrs) (fun m av h h1 e => (tVX8_readPart_ok N d hd rs hrs) m av h h1 e) (fun m av h x h1 e => (tIX8_readPart_ok N d hd rs hrs) m av h (x, h1) e) (fun m av h x h1 e => (ra_c0_ok (ro := ra_oJ)) m av h (x, h1) e) (fun m av h x h1 e => (ra_c0_ok (ro := ra_oR)) m av h (x, h1) e) (fun m av h x h1 e => (ra_c0_ok (ro := ra_oN)) m av h (x, h1) e) (fun m av h x h1 e => (ra_c0_ok (ro := ra_oF)) m av h (x, h1) e) 19 lX8_readPart_0 _ _ _ _ lX8_readPart_0_ck (show ra_run ra_rI (kX8_readPart_0 N rs) (tVX8_readPart N rs) (tIX8_readPart N rs) ra_c0 ra_c0 ra_c0 ra_c0 19 lX8_readPart_0 [some (.ref a0), some (.int a1), none, none] [] h = some r from e) _ _ rfl
def fX8_readPart (N : Nat) (rs : Nat → Int32 → ra_H → Option (Int32 × ra_H)) (p0 : Nat) (p1 : Int32) (h : ra_H) : Option (Int32 × ra_H) := match ra_isOb h p0 8 with
  | true => (nX8_readPart_0 N rs p0 p1 h).bind (fun q => ra_rz q.1 q.2)
  | false => none
set_option maxRecDepth 100000 in
theorem mtX8_readPart : ra_MT[64]? = some (mX8_readPart, 1, 1, (1, 4), (3, 203), (0, 12)) := rfl
theorem fX8_readPart_co (N d : Nat) (hd : 10 ≤ d) (rs : Nat → Int32 → ra_H → Option (Int32 × ra_H)) (hrs : ∀ z0 z1 h r, rs z0 z1 h = some r → ∀ D, d + 1 ≤ D → ra_CO D 62 [.ref z0, .int z1] h (ra_oI r).1 (ra_oI r).2) (p0 : Nat) (p1 : Int32) (h : ra_H) (r : (Int32 × ra_H)) (e : fX8_readPart N rs p0 p1 h = some r) (D : Nat) (hD : (d + 2) + 1 ≤ D) : ra_CO D 64 [.ref p0, .int p1] h (ra_oI r).1 (ra_oI r).2 := by
  have hw : ra_nw2 [.ref p0, .int p1] ≤ 4 := Nat.le_of_ble_eq_true rfl
  have hdb : ∀ v ∈ ([.ref p0, .int p1] : List Value), ∀ x, v ≠ .double x := by
    intro v hv x hx
    simp [hx] at hv
  unfold fX8_readPart at e
  split at e
  · rename_i ho
    obtain ⟨q, e1, e2⟩ := Option.bind_eq_some_iff.mp e
    obtain ⟨rfl, hz⟩ := ra_rz_of e2
    exact ⟨(d + 2), _, mtX8_readPart, hD, ra_ev_of (by decide) hdb hw hz (ra_Ru.weak (nX8_readPart_0_ok N d hd rs hrs p0 p1 h _ e1) ⟨rfl, ⟨rfl, trivial⟩⟩), (fun _ => ⟨_, _, rfl, ra_rcv_of ho (by decide) rfl⟩), (fun h => absurd h (by decide))⟩
  · cases e
/-! RedMarks$Tape.readTerm(I)Z -/
def mX8_readTerm : ra_M := (yX8_readTerm, cX8_readTerm, 4, (some .boolean))
def tVX8_readTerm (N : Nat) (rs : Nat → Int32 → ra_H → Option (Int32 × ra_H)) : Nat → List Value → ra_H → Option ra_H := (ra_c1 43 (fun av h => match av with
  | [.ref z0] => fX8_advance N z0 h
  | _ => none) (ra_c1 69 (fun av h => match av with
  | [.ref z0, .int z1, .int z2] => fX8_emit N z0 z1 z2 h
  | _ => none) ra_c0))
theorem tVX8_readTerm_ok (N d : Nat) (hd : 10 ≤ d) (rs : Nat → Int32 → ra_H → Option (Int32 × ra_H)) (hrs : ∀ z0 z1 h r, rs z0 z1 h = some r → ∀ D, d + 1 ≤ D → ra_CO D 62 [.ref z0, .int z1] h (ra_oI r).1 (ra_oI r).2) : ra_cok (d + 3) ra_oV (tVX8_readTerm N rs) := (ra_c1_ok (by
  intro av h a e
  split at e
  · exact fX8_advance_co N _ _ _ e (d + 3) (by omega)
  · cases e) (ra_c1_ok (by
  intro av h a e
  split at e
  · exact fX8_emit_co N _ _ _ _ _ e (d + 3) (by omega)
  · cases e) ra_c0_ok))
def tIX8_readTerm (N : Nat) (rs : Nat → Int32 → ra_H → Option (Int32 × ra_H)) : Nat → List Value → ra_H → Option (Int32 × ra_H) := (ra_c1 64 (fun av h => match av with
  | [.ref z0, .int z1] => fX8_readPart N rs z0 z1 h
  | _ => none) (ra_c1 65 (fun av h => match av with
  | [.ref z0, .int z1] => fX8_isSign N z0 z1 h
  | _ => none) ra_c0))
theorem tIX8_readTerm_ok (N d : Nat) (hd : 10 ≤ d) (rs : Nat → Int32 → ra_H → Option (Int32 × ra_H)) (hrs : ∀ z0 z1 h r, rs z0 z1 h = some r → ∀ D, d + 1 ≤ D → ra_CO D 62 [.ref z0, .int z1] h (ra_oI r).1 (ra_oI r).2) : ra_cok (d + 3) ra_oI (tIX8_readTerm N rs) := (ra_c1_ok (by
  intro av h a e
  split at e
  · exact fX8_readPart_co N d hd rs hrs _ _ _ _ e (d + 3) (by omega)
  · cases e) (ra_c1_ok (by
  intro av h a e
  split at e
  · exact fX8_isSign_co N _ _ _ _ e (d + 3) (by omega)
  · cases e) ra_c0_ok))
def lX8_readTerm_51 : List ra_I := [(51, .istore_n 3, 1, 3, 0, 0, 0, 0, []),
  (52, .aload_n 0, 1, 0, 0, 0, 0, 0, []),
  (53, .invokevirtual 42, 3, 43, 1, 0, 0, 0, []),
  (56, .aload_n 0, 1, 0, 0, 0, 0, 0, []),
  (57, .iload_n 1, 1, 1, 0, 0, 0, 0, []),
  (58, .invokevirtual 181, 3, 64, 2, 1, 0, 0, []),
  (61, .ifCond .ne (5), 3, 66, 0, 0, 0, 0, []),
  (64, .iconst (0), 1, 0, 0, 0, (0), 0, []),
  (65, .ireturn, 1, 0, 0, 0, 0, 0, []),
  (66, .aload_n 0, 1, 0, 0, 0, 0, 0, []),
  (67, .iload_n 3, 1, 3, 0, 0, 0, 0, []),
  (68, .iconst (0), 1, 0, 0, 0, (0), 0, []),
  (69, .invokevirtual 158, 3, 69, 3, 0, 0, 0, []),
  (72, .iinc 2 (1), 3, 2, 0, 0, (1), 0, []),
  (75, .goto (-63), 3, 12, 0, 0, 0, 0, [])]
set_option maxRecDepth 100000 in
theorem lX8_readTerm_51_ck : lX8_readTerm_51.all (ra_ck mX8_readTerm 8) = true := by decide +kernel
def nX8_readTerm_51 (N : Nat) (rs : Nat → Int32 → ra_H → Option (Int32 × ra_H)) (c12 : Nat → Int32 → Int32 → ra_H → Option (Int32 × ra_H)) (a0 : Nat) (a1 : Int32) (a2 : Int32) (b0 : Int32) (h : ra_H) : Option (Int32 × ra_H) :=
  (fX8_advance N a0 h).bind fun h1 =>
  (fX8_readPart N rs a0 a1 h1).bind fun q2 =>
  if q2.1 = 0 then
    some ((0 : Int32), q2.2)
  else
    (fX8_emit N a0 b0 ((0 : Int32)) q2.2).bind fun h3 =>
    let y4 := a2 + (1 : Int32)
    c12 a0 a1 y4 h3
def kX8_readTerm_51 (N : Nat) (rs : Nat → Int32 → ra_H → Option (Int32 × ra_H)) (c12 : Nat → Int32 → Int32 → ra_H → Option (Int32 × ra_H)) : Nat → List (Option Value) → List Value → ra_H → Option (Int32 × ra_H) := (ra_k1 12 (fun L S h => match L, S with
  | [some (.ref a0), some (.int a1), some (.int a2), _], [] => c12 a0 a1 a2 h
  | _, _ => none) ra_k0)
theorem kX8_readTerm_51_ok (N d : Nat) (hd : 10 ≤ d) (rs : Nat → Int32 → ra_H → Option (Int32 × ra_H)) (hrs : ∀ z0 z1 h r, rs z0 z1 h = some r → ∀ D, d + 1 ≤ D → ra_CO D 62 [.ref z0, .int z1] h (ra_oI r).1 (ra_oI r).2) (c12 : Nat → Int32 → Int32 → ra_H → Option (Int32 × ra_H)) (hc12 : ∀ a0 a1 a2 h r, c12 a0 a1 a2 h = some r → ra_Ru (d + 3) mX8_readTerm 12 [some (.ref a0), some (.int a1), some (.int a2), none] [] h (ra_oI r)) : ra_kok (d + 3) mX8_readTerm ra_oI (kX8_readTerm_51 N rs c12) := (ra_k1_ok (by
  intro L S h a e
  split at e
  · exact ra_Ru.weak (hc12 _ _ _ _ _ e) ⟨rfl, ⟨rfl, ⟨rfl, trivial⟩⟩⟩
  · cases e) ra_k0_ok)
set_option maxRecDepth 100000 in
theorem nX8_readTerm_51_ok (N d : Nat) (hd : 10 ≤ d) (rs : Nat → Int32 → ra_H → Option (Int32 × ra_H)) (hrs : ∀ z0 z1 h r, rs z0 z1 h = some r → ∀ D, d + 1 ≤ D → ra_CO D 62 [.ref z0, .int z1] h (ra_oI r).1 (ra_oI r).2) (c12 : Nat → Int32 → Int32 → ra_H → Option (Int32 × ra_H)) (hc12 : ∀ a0 a1 a2 h r, c12 a0 a1 a2 h = some r → ra_Ru (d + 3) mX8_readTerm 12 [some (.ref a0), some (.int a1), some (.int a2), none] [] h (ra_oI r)) (a0 : Nat) (a1 : Int32) (a2 : Int32) (b0 : Int32) (h : ra_H) (r : (Int32 × ra_H)) (e : nX8_readTerm_51 N rs c12 a0 a1 a2 b0 h = some r) : ra_Ru (d + 3) mX8_readTerm 51 [some (.ref a0), some (.int a1), some (.int a2), none] [.int b0] h (ra_oI r) :=
  ra_sound (by omega) rfl ra_rI_ok (kX8_readTerm_51_ok N d hd rs hrs c12 hc12) (fun m av h h1 e => (tVX8_readTerm_ok N d hd rs hrs) m av h h1 e) (fun m av h x h1 e => (tIX8_readTerm_ok N d hd rs hrs) m av h (x, h1) e) (fun m av h x h1 e => (ra_c0_ok (ro := ra_oJ)) m av h (x, h1) e) (fun m av h x h1 e => (ra_c0_ok (ro := ra_oR)) m av h (x, h1) e) (fun m av h x h1 e => (ra_c0_ok (ro := ra_oN)) m av h (x, h1) e) (fun m av h x h1 e => (ra_c0_ok (ro := ra_oF)) m av h (x, h1) e) 16 lX8_readTerm_51 _ _ _ _ lX8_readTerm_51_ck (show ra_run ra_rI (kX8_readTerm_51 N rs c12) (tVX8_readTerm N rs) (tIX8_readTerm N rs) ra_c0 ra_c0 ra_c0 ra_c0 16 lX8_readTerm_51 [some (.ref a0), some (.int a1), some (.int a2), none] [.int b0] h = some r from e) _ _ rfl
def lX8_readTerm_37 : List ra_I := [(37, .aload_n 0, 1, 0, 0, 0, 0, 0, []),
  (38, .bipush (42), 2, 0, 0, 0, (42), 0, []),
  (40, .invokevirtual 56, 3, 65, 2, 1, 0, 0, []),
  (43, .ifCond .eq (7), 3, 50, 0, 0, 0, 0, []),
  (46, .iconst (4), 1, 0, 0, 0, (4), 0, []),
  (47, .goto (4), 3, 51, 0, 0, 0, 0, []),
  (50, .iconst (5), 1, 0, 0, 0, (5), 0, [])]
set_option maxRecDepth 100000 in
theorem lX8_readTerm_37_ck : lX8_readTerm_37.all (ra_ck mX8_readTerm 8) = true := by decide +kernel
def nX8_readTerm_37 (N : Nat) (rs : Nat → Int32 → ra_H → Option (Int32 × ra_H)) (c12 : Nat → Int32 → Int32 → ra_H → Option (Int32 × ra_H)) (a0 : Nat) (a1 : Int32) (a2 : Int32) (h : ra_H) : Option (Int32 × ra_H) :=
  (fX8_isSign N a0 ((42 : Int32)) h).bind fun q1 =>
  if q1.1 = 0 then
    nX8_readTerm_51 N rs c12 a0 a1 a2 ((5 : Int32)) q1.2
  else
    nX8_readTerm_51 N rs c12 a0 a1 a2 ((4 : Int32)) q1.2
def kX8_readTerm_37 (N : Nat) (rs : Nat → Int32 → ra_H → Option (Int32 × ra_H)) (c12 : Nat → Int32 → Int32 → ra_H → Option (Int32 × ra_H)) : Nat → List (Option Value) → List Value → ra_H → Option (Int32 × ra_H) := (ra_k1 51 (fun L S h => match L, S with
  | [some (.ref a0), some (.int a1), some (.int a2), _], [.int b0] => nX8_readTerm_51 N rs c12 a0 a1 a2 b0 h
  | _, _ => none) ra_k0)
theorem kX8_readTerm_37_ok (N d : Nat) (hd : 10 ≤ d) (rs : Nat → Int32 → ra_H → Option (Int32 × ra_H)) (hrs : ∀ z0 z1 h r, rs z0 z1 h = some r → ∀ D, d + 1 ≤ D → ra_CO D 62 [.ref z0, .int z1] h (ra_oI r).1 (ra_oI r).2) (c12 : Nat → Int32 → Int32 → ra_H → Option (Int32 × ra_H)) (hc12 : ∀ a0 a1 a2 h r, c12 a0 a1 a2 h = some r → ra_Ru (d + 3) mX8_readTerm 12 [some (.ref a0), some (.int a1), some (.int a2), none] [] h (ra_oI r)) : ra_kok (d + 3) mX8_readTerm ra_oI (kX8_readTerm_37 N rs c12) := (ra_k1_ok (by
  intro L S h a e
  split at e
  · exact ra_Ru.weak (nX8_readTerm_51_ok N d hd rs hrs c12 hc12 _ _ _ _ _ _ e) ⟨rfl, ⟨rfl, ⟨rfl, trivial⟩⟩⟩
  · cases e) ra_k0_ok)
set_option maxRecDepth 100000 in
theorem nX8_readTerm_37_ok (N d : Nat) (hd : 10 ≤ d) (rs : Nat → Int32 → ra_H → Option (Int32 × ra_H)) (hrs : ∀ z0 z1 h r, rs z0 z1 h = some r → ∀ D, d + 1 ≤ D → ra_CO D 62 [.ref z0, .int z1] h (ra_oI r).1 (ra_oI r).2) (c12 : Nat → Int32 → Int32 → ra_H → Option (Int32 × ra_H)) (hc12 : ∀ a0 a1 a2 h r, c12 a0 a1 a2 h = some r → ra_Ru (d + 3) mX8_readTerm 12 [some (.ref a0), some (.int a1), some (.int a2), none] [] h (ra_oI r)) (a0 : Nat) (a1 : Int32) (a2 : Int32) (h : ra_H) (r : (Int32 × ra_H)) (e : nX8_readTerm_37 N rs c12 a0 a1 a2 h = some r) : ra_Ru (d + 3) mX8_readTerm 37 [some (.ref a0), some (.int a1), some (.int a2), none] [] h (ra_oI r) :=
  ra_sound (by omega) rfl ra_rI_ok (kX8_readTerm_37_ok N d hd rs hrs c12 hc12) (fun m av h h1 e => (tVX8_readTerm_ok N d hd rs hrs) m av h h1 e) (fun m av h x h1 e => (tIX8_readTerm_ok N d hd rs hrs) m av h (x, h1) e) (fun m av h x h1 e => (ra_c0_ok (ro := ra_oJ)) m av h (x, h1) e) (fun m av h x h1 e => (ra_c0_ok (ro := ra_oR)) m av h (x, h1) e) (fun m av h x h1 e => (ra_c0_ok (ro := ra_oN)) m av h (x, h1) e) (fun m av h x h1 e => (ra_c0_ok (ro := ra_oF)) m av h (x, h1) e) 8 lX8_readTerm_37 _ _ _ _ lX8_readTerm_37_ck (show ra_run ra_rI (kX8_readTerm_37 N rs c12) (tVX8_readTerm N rs) (tIX8_readTerm N rs) ra_c0 ra_c0 ra_c0 ra_c0 8 lX8_readTerm_37 [some (.ref a0), some (.int a1), some (.int a2), none] [] h = some r from e) _ _ rfl
def lX8_readTerm_78 : List ra_I := [(78, .iconst (1), 1, 0, 0, 0, (1), 0, []),
  (79, .ireturn, 1, 0, 0, 0, 0, 0, [])]
set_option maxRecDepth 100000 in
theorem lX8_readTerm_78_ck : lX8_readTerm_78.all (ra_ck mX8_readTerm 8) = true := by decide +kernel
def nX8_readTerm_78 (N : Nat) (rs : Nat → Int32 → ra_H → Option (Int32 × ra_H)) (h : ra_H) : Option (Int32 × ra_H) :=
  some ((1 : Int32), h)
def kX8_readTerm_78 (N : Nat) (rs : Nat → Int32 → ra_H → Option (Int32 × ra_H)) : Nat → List (Option Value) → List Value → ra_H → Option (Int32 × ra_H) := ra_k0
theorem kX8_readTerm_78_ok (N d : Nat) (hd : 10 ≤ d) (rs : Nat → Int32 → ra_H → Option (Int32 × ra_H)) (hrs : ∀ z0 z1 h r, rs z0 z1 h = some r → ∀ D, d + 1 ≤ D → ra_CO D 62 [.ref z0, .int z1] h (ra_oI r).1 (ra_oI r).2) : ra_kok (d + 3) mX8_readTerm ra_oI (kX8_readTerm_78 N rs) := ra_k0_ok
set_option maxRecDepth 100000 in
theorem nX8_readTerm_78_ok (N d : Nat) (hd : 10 ≤ d) (rs : Nat → Int32 → ra_H → Option (Int32 × ra_H)) (hrs : ∀ z0 z1 h r, rs z0 z1 h = some r → ∀ D, d + 1 ≤ D → ra_CO D 62 [.ref z0, .int z1] h (ra_oI r).1 (ra_oI r).2) (h : ra_H) (r : (Int32 × ra_H)) (e : nX8_readTerm_78 N rs h = some r) : ra_Ru (d + 3) mX8_readTerm 78 [none, none, none, none] [] h (ra_oI r) :=
  ra_sound (by omega) rfl ra_rI_ok (kX8_readTerm_78_ok N d hd rs hrs) (fun m av h h1 e => (tVX8_readTerm_ok N d hd rs hrs) m av h h1 e) (fun m av h x h1 e => (tIX8_readTerm_ok N d hd rs hrs) m av h (x, h1) e) (fun m av h x h1 e => (ra_c0_ok (ro := ra_oJ)) m av h (x, h1) e) (fun m av h x h1 e => (ra_c0_ok (ro := ra_oR)) m av h (x, h1) e) (fun m av h x h1 e => (ra_c0_ok (ro := ra_oN)) m av h (x, h1) e) (fun m av h x h1 e => (ra_c0_ok (ro := ra_oF)) m av h (x, h1) e) 3 lX8_readTerm_78 _ _ _ _ lX8_readTerm_78_ck (show ra_run ra_rI (kX8_readTerm_78 N rs) (tVX8_readTerm N rs) (tIX8_readTerm N rs) ra_c0 ra_c0 ra_c0 ra_c0 3 lX8_readTerm_78 [none, none, none, none] [] h = some r from e) _ _ rfl
def lX8_readTerm_12 : List ra_I := [(12, .iload_n 2, 1, 2, 0, 0, 0, 0, []),
  (13, .sipush (400), 3, 0, 0, 0, (400), 0, []),
  (16, .if_icmp .ge (62), 3, 78, 0, 0, 0, 0, []),
  (19, .aload_n 0, 1, 0, 0, 0, 0, 0, []),
  (20, .bipush (42), 2, 0, 0, 0, (42), 0, []),
  (22, .invokevirtual 56, 3, 65, 2, 1, 0, 0, []),
  (25, .ifCond .ne (12), 3, 37, 0, 0, 0, 0, []),
  (28, .aload_n 0, 1, 0, 0, 0, 0, 0, []),
  (29, .bipush (47), 2, 0, 0, 0, (47), 0, []),
  (31, .invokevirtual 56, 3, 65, 2, 1, 0, 0, []),
  (34, .ifCond .eq (44), 3, 78, 0, 0, 0, 0, [])]
set_option maxRecDepth 100000 in
theorem lX8_readTerm_12_ck : lX8_readTerm_12.all (ra_ck mX8_readTerm 8) = true := by decide +kernel
def nX8_readTerm_12 (N : Nat) (rs : Nat → Int32 → ra_H → Option (Int32 × ra_H)) : Nat → Nat → Int32 → Int32 → ra_H → Option (Int32 × ra_H)
  | 0, _, _, _, _ => none
  | n + 1, a0, a1, a2, h =>
  if a2 < ((400 : Int32)) then
    (fX8_isSign N a0 ((42 : Int32)) h).bind fun q1 =>
    if q1.1 = 0 then
      (fX8_isSign N a0 ((47 : Int32)) q1.2).bind fun q2 =>
      if q2.1 = 0 then
        nX8_readTerm_78 N rs q2.2
      else
        nX8_readTerm_37 N rs (nX8_readTerm_12 N rs n) a0 a1 a2 q2.2
    else
      nX8_readTerm_37 N rs (nX8_readTerm_12 N rs n) a0 a1 a2 q1.2
  else
    nX8_readTerm_78 N rs h
def kX8_readTerm_12 (N : Nat) (rs : Nat → Int32 → ra_H → Option (Int32 × ra_H)) (cs : Nat → Int32 → Int32 → ra_H → Option (Int32 × ra_H)) : Nat → List (Option Value) → List Value → ra_H → Option (Int32 × ra_H) := (ra_k1 37 (fun L S h => match L, S with
  | [some (.ref a0), some (.int a1), some (.int a2), _], [] => nX8_readTerm_37 N rs cs a0 a1 a2 h
  | _, _ => none) (ra_k1 78 (fun L S h => match L, S with
  | [_, _, _, _], [] => nX8_readTerm_78 N rs h
  | _, _ => none) ra_k0))
theorem kX8_readTerm_12_ok (N d : Nat) (hd : 10 ≤ d) (rs : Nat → Int32 → ra_H → Option (Int32 × ra_H)) (hrs : ∀ z0 z1 h r, rs z0 z1 h = some r → ∀ D, d + 1 ≤ D → ra_CO D 62 [.ref z0, .int z1] h (ra_oI r).1 (ra_oI r).2) (cs : Nat → Int32 → Int32 → ra_H → Option (Int32 × ra_H)) (hcs : ∀ a0 a1 a2 h r, cs a0 a1 a2 h = some r → ra_Ru (d + 3) mX8_readTerm 12 [some (.ref a0), some (.int a1), some (.int a2), none] [] h (ra_oI r)) : ra_kok (d + 3) mX8_readTerm ra_oI (kX8_readTerm_12 N rs cs) := (ra_k1_ok (by
  intro L S h a e
  split at e
  · exact ra_Ru.weak (nX8_readTerm_37_ok N d hd rs hrs cs hcs _ _ _ _ _ e) ⟨rfl, ⟨rfl, ⟨rfl, trivial⟩⟩⟩
  · cases e) (ra_k1_ok (by
  intro L S h a e
  split at e
  · exact ra_Ru.weak (nX8_readTerm_78_ok N d hd rs hrs _ _ e) trivial
  · cases e) ra_k0_ok))
set_option maxRecDepth 100000 in
theorem nX8_readTerm_12_ok (N d : Nat) (hd : 10 ≤ d) (rs : Nat → Int32 → ra_H → Option (Int32 × ra_H)) (hrs : ∀ z0 z1 h r, rs z0 z1 h = some r → ∀ D, d + 1 ≤ D → ra_CO D 62 [.ref z0, .int z1] h (ra_oI r).1 (ra_oI r).2) : ∀ n a0 a1 a2 h r, nX8_readTerm_12 N rs n a0 a1 a2 h = some r → ra_Ru (d + 3) mX8_readTerm 12 [some (.ref a0), some (.int a1), some (.int a2), none] [] h (ra_oI r) := by
  intro n
  induction n with
  | zero => intro a0 a1 a2 h r e; cases e
  | succ n ih =>
    intro a0 a1 a2 h r e
    exact ra_sound (by omega) rfl ra_rI_ok (kX8_readTerm_12_ok N d hd rs hrs (nX8_readTerm_12 N rs n) ih) (fun m av h h1 e => (tVX8_readTerm_ok N d hd rs hrs) m av h h1 e) (fun m av h x h1 e => (tIX8_readTerm_ok N d hd rs hrs) m av h (x, h1) e) (fun m av h x h1 e => (ra_c0_ok (ro := ra_oJ)) m av h (x, h1) e) (fun m av h x h1 e => (ra_c0_ok (ro := ra_oR)) m av h (x, h1) e) (fun m av h x h1 e => (ra_c0_ok (ro := ra_oN)) m av h (x, h1) e) (fun m av h x h1 e => (ra_c0_ok (ro := ra_oF)) m av h (x, h1) e) 12 lX8_readTerm_12 _ _ _ _ lX8_readTerm_12_ck (show ra_run ra_rI (kX8_readTerm_12 N rs (nX8_readTerm_12 N rs n)) (tVX8_readTerm N rs) (tIX8_readTerm N rs) ra_c0 ra_c0 ra_c0 ra_c0 12 lX8_readTerm_12 [some (.ref a0), some (.int a1), some (.int a2), none] [] h = some r from e) _ _ rfl
def lX8_readTerm_0 : List ra_I := [(0, .aload_n 0, 1, 0, 0, 0, 0, 0, []),
  (1, .iload_n 1, 1, 1, 0, 0, 0, 0, []),
  (2, .invokevirtual 181, 3, 64, 2, 1, 0, 0, []),
  (5, .ifCond .ne (5), 3, 10, 0, 0, 0, 0, []),
  (8, .iconst (0), 1, 0, 0, 0, (0), 0, []),
  (9, .ireturn, 1, 0, 0, 0, 0, 0, []),
  (10, .iconst (0), 1, 0, 0, 0, (0), 0, []),
  (11, .istore_n 2, 1, 2, 0, 0, 0, 0, [])]
set_option maxRecDepth 100000 in
theorem lX8_readTerm_0_ck : lX8_readTerm_0.all (ra_ck mX8_readTerm 8) = true := by decide +kernel
def nX8_readTerm_0 (N : Nat) (rs : Nat → Int32 → ra_H → Option (Int32 × ra_H)) (a0 : Nat) (a1 : Int32) (h : ra_H) : Option (Int32 × ra_H) :=
  (fX8_readPart N rs a0 a1 h).bind fun q1 =>
  if q1.1 = 0 then
    some ((0 : Int32), q1.2)
  else
    nX8_readTerm_12 N rs N a0 a1 ((0 : Int32)) q1.2
def kX8_readTerm_0 (N : Nat) (rs : Nat → Int32 → ra_H → Option (Int32 × ra_H)) : Nat → List (Option Value) → List Value → ra_H → Option (Int32 × ra_H) := (ra_k1 12 (fun L S h => match L, S with
  | [some (.ref a0), some (.int a1), some (.int a2), _], [] => nX8_readTerm_12 N rs N a0 a1 a2 h
  | _, _ => none) ra_k0)
theorem kX8_readTerm_0_ok (N d : Nat) (hd : 10 ≤ d) (rs : Nat → Int32 → ra_H → Option (Int32 × ra_H)) (hrs : ∀ z0 z1 h r, rs z0 z1 h = some r → ∀ D, d + 1 ≤ D → ra_CO D 62 [.ref z0, .int z1] h (ra_oI r).1 (ra_oI r).2) : ra_kok (d + 3) mX8_readTerm ra_oI (kX8_readTerm_0 N rs) := (ra_k1_ok (by
  intro L S h a e
  split at e
  · exact ra_Ru.weak (nX8_readTerm_12_ok N d hd rs hrs N _ _ _ _ _ e) ⟨rfl, ⟨rfl, ⟨rfl, trivial⟩⟩⟩
  · cases e) ra_k0_ok)
set_option maxRecDepth 100000 in
theorem nX8_readTerm_0_ok (N d : Nat) (hd : 10 ≤ d) (rs : Nat → Int32 → ra_H → Option (Int32 × ra_H)) (hrs : ∀ z0 z1 h r, rs z0 z1 h = some r → ∀ D, d + 1 ≤ D → ra_CO D 62 [.ref z0, .int z1] h (ra_oI r).1 (ra_oI r).2) (a0 : Nat) (a1 : Int32) (h : ra_H) (r : (Int32 × ra_H)) (e : nX8_readTerm_0 N rs a0 a1 h = some r) : ra_Ru (d + 3) mX8_readTerm 0 [some (.ref a0), some (.int a1), none, none] [] h (ra_oI r) :=
  ra_sound (by omega) rfl ra_rI_ok (kX8_readTerm_0_ok N d hd rs hrs) (fun m av h h1 e => (tVX8_readTerm_ok N d hd rs hrs) m av h h1 e) (fun m av h x h1 e => (tIX8_readTerm_ok N d hd rs hrs) m av h (x, h1) e) (fun m av h x h1 e => (ra_c0_ok (ro := ra_oJ)) m av h (x, h1) e) (fun m av h x h1 e => (ra_c0_ok (ro := ra_oR)) m av h (x, h1) e) (fun m av h x h1 e => (ra_c0_ok (ro := ra_oN)) m av h (x, h1) e) (fun m av h x h1 e => (ra_c0_ok (ro := ra_oF)) m av h (x, h1) e) 9 lX8_readTerm_0 _ _ _ _ lX8_readTerm_0_ck (show ra_run ra_rI (kX8_readTerm_0 N rs) (tVX8_readTerm N rs) (tIX8_readTerm N rs) ra_c0 ra_c0 ra_c0 ra_c0 9 lX8_readTerm_0 [some (.ref a0), some (.int a1), none, none] [] h = some r from e) _ _ rfl
def fX8_readTerm (N : Nat) (rs : Nat → Int32 → ra_H → Option (Int32 × ra_H)) (p0 : Nat) (p1 : Int32) (h : ra_H) : Option (Int32 × ra_H) := match ra_isOb h p0 8 with
  | true => (nX8_readTerm_0 N rs p0 p1 h).bind (fun q => ra_rz q.1 q.2)
  | false => none
set_option maxRecDepth 100000 in
theorem mtX8_readTerm : ra_MT[63]? = some (mX8_readTerm, 1, 1, (1, 4), (3, 199), (0, 11)) := rfl
theorem fX8_readTerm_co (N d : Nat) (hd : 10 ≤ d) (rs : Nat → Int32 → ra_H → Option (Int32 × ra_H)) (hrs : ∀ z0 z1 h r, rs z0 z1 h = some r → ∀ D, d + 1 ≤ D → ra_CO D 62 [.ref z0, .int z1] h (ra_oI r).1 (ra_oI r).2) (p0 : Nat) (p1 : Int32) (h : ra_H) (r : (Int32 × ra_H)) (e : fX8_readTerm N rs p0 p1 h = some r) (D : Nat) (hD : (d + 3) + 1 ≤ D) : ra_CO D 63 [.ref p0, .int p1] h (ra_oI r).1 (ra_oI r).2 := by
  have hw : ra_nw2 [.ref p0, .int p1] ≤ 4 := Nat.le_of_ble_eq_true rfl
  have hdb : ∀ v ∈ ([.ref p0, .int p1] : List Value), ∀ x, v ≠ .double x := by
    intro v hv x hx
    simp [hx] at hv
  unfold fX8_readTerm at e
  split at e
  · rename_i ho
    obtain ⟨q, e1, e2⟩ := Option.bind_eq_some_iff.mp e
    obtain ⟨rfl, hz⟩ := ra_rz_of e2
    exact ⟨(d + 3), _, mtX8_readTerm, hD, ra_ev_of (by decide) hdb hw hz (ra_Ru.weak (nX8_readTerm_0_ok N d hd rs hrs p0 p1 h _ e1) ⟨rfl, ⟨rfl, trivial⟩⟩), (fun _ => ⟨_, _, rfl, ra_rcv_of ho (by decide) rfl⟩), (fun h => absurd h (by decide))⟩
  · cases e
/-! RedMarks$Tape.readSum(I)Z -/
def mX8_readSumo : ra_M := (yX8_readSum, cX8_readSum, 4, (some .boolean))
def tVX8_readSumo (N : Nat) (rs : Nat → Int32 → ra_H → Option (Int32 × ra_H)) : Nat → List Value → ra_H → Option ra_H := (ra_c1 43 (fun av h => match av with
  | [.ref z0] => fX8_advance N z0 h
  | _ => none) (ra_c1 69 (fun av h => match av with
  | [.ref z0, .int z1, .int z2] => fX8_emit N z0 z1 z2 h
  | _ => none) ra_c0))
theorem tVX8_readSumo_ok (N d : Nat) (hd : 10 ≤ d) (rs : Nat → Int32 → ra_H → Option (Int32 × ra_H)) (hrs : ∀ z0 z1 h r, rs z0 z1 h = some r → ∀ D, d + 1 ≤ D → ra_CO D 62 [.ref z0, .int z1] h (ra_oI r).1 (ra_oI r).2) : ra_cok (d + 4) ra_oV (tVX8_readSumo N rs) := (ra_c1_ok (by
  intro av h a e
  split at e
  · exact fX8_advance_co N _ _ _ e (d + 4) (by omega)
  · cases e) (ra_c1_ok (by
  intro av h a e
  split at e
  · exact fX8_emit_co N _ _ _ _ _ e (d + 4) (by omega)
  · cases e) ra_c0_ok))
def tIX8_readSumo (N : Nat) (rs : Nat → Int32 → ra_H → Option (Int32 × ra_H)) : Nat → List Value → ra_H → Option (Int32 × ra_H) := (ra_c1 63 (fun av h => match av with
  | [.ref z0, .int z1] => fX8_readTerm N rs z0 z1 h
  | _ => none) (ra_c1 65 (fun av h => match av with
  | [.ref z0, .int z1] => fX8_isSign N z0 z1 h
  | _ => none) ra_c0))
theorem tIX8_readSumo_ok (N d : Nat) (hd : 10 ≤ d) (rs : Nat → Int32 → ra_H → Option (Int32 × ra_H)) (hrs : ∀ z0 z1 h r, rs z0 z1 h = some r → ∀ D, d + 1 ≤ D → ra_CO D 62 [.ref z0, .int z1] h (ra_oI r).1 (ra_oI r).2) : ra_cok (d + 4) ra_oI (tIX8_readSumo N rs) := (ra_c1_ok (by
  intro av h a e
  split at e
  · exact fX8_readTerm_co N d hd rs hrs _ _ _ _ e (d + 4) (by omega)
  · cases e) (ra_c1_ok (by
  intro av h a e
  split at e
  · exact fX8_isSign_co N _ _ _ _ e (d + 4) (by omega)
  · cases e) ra_c0_ok))
def lX8_readSumo_51 : List ra_I := [(51, .istore_n 3, 1, 3, 0, 0, 0, 0, []),
  (52, .aload_n 0, 1, 0, 0, 0, 0, 0, []),
  (53, .invokevirtual 42, 3, 43, 1, 0, 0, 0, []),
  (56, .aload_n 0, 1, 0, 0, 0, 0, 0, []),
  (57, .iload_n 1, 1, 1, 0, 0, 0, 0, []),
  (58, .invokevirtual 178, 3, 63, 2, 1, 0, 0, []),
  (61, .ifCond .ne (5), 3, 66, 0, 0, 0, 0, []),
  (64, .iconst (0), 1, 0, 0, 0, (0), 0, []),
  (65, .ireturn, 1, 0, 0, 0, 0, 0, []),
  (66, .aload_n 0, 1, 0, 0, 0, 0, 0, []),
  (67, .iload_n 3, 1, 3, 0, 0, 0, 0, []),
  (68, .iconst (0), 1, 0, 0, 0, (0), 0, []),
  (69, .invokevirtual 158, 3, 69, 3, 0, 0, 0, []),
  (72, .iinc 2 (1), 3, 2, 0, 0, (1), 0, []),
  (75, .goto (-63), 3, 12, 0, 0, 0, 0, [])]
set_option maxRecDepth 100000 in
theorem lX8_readSumo_51_ck : lX8_readSumo_51.all (ra_ck mX8_readSumo 8) = true := by decide +kernel
def nX8_readSumo_51 (N : Nat) (rs : Nat → Int32 → ra_H → Option (Int32 × ra_H)) (c12 : Nat → Int32 → Int32 → ra_H → Option (Int32 × ra_H)) (a0 : Nat) (a1 : Int32) (a2 : Int32) (b0 : Int32) (h : ra_H) : Option (Int32 × ra_H) :=
  (fX8_advance N a0 h).bind fun h1 =>
  (fX8_readTerm N rs a0 a1 h1).bind fun q2 =>
  if q2.1 = 0 then
    some ((0 : Int32), q2.2)
  else
    (fX8_emit N a0 b0 ((0 : Int32)) q2.2).bind fun h3 =>
    let y4 := a2 + (1 : Int32)
    c12 a0 a1 y4 h3
def kX8_readSumo_51 (N : Nat) (rs : Nat → Int32 → ra_H → Option (Int32 × ra_H)) (c12 : Nat → Int32 → Int32 → ra_H → Option (Int32 × ra_H)) : Nat → List (Option Value) → List Value → ra_H → Option (Int32 × ra_H) := (ra_k1 12 (fun L S h => match L, S with
  | [some (.ref a0), some (.int a1), some (.int a2), _], [] => c12 a0 a1 a2 h
  | _, _ => none) ra_k0)
theorem kX8_readSumo_51_ok (N d : Nat) (hd : 10 ≤ d) (rs : Nat → Int32 → ra_H → Option (Int32 × ra_H)) (hrs : ∀ z0 z1 h r, rs z0 z1 h = some r → ∀ D, d + 1 ≤ D → ra_CO D 62 [.ref z0, .int z1] h (ra_oI r).1 (ra_oI r).2) (c12 : Nat → Int32 → Int32 → ra_H → Option (Int32 × ra_H)) (hc12 : ∀ a0 a1 a2 h r, c12 a0 a1 a2 h = some r → ra_Ru (d + 4) mX8_readSumo 12 [some (.ref a0), some (.int a1), some (.int a2), none] [] h (ra_oI r)) : ra_kok (d + 4) mX8_readSumo ra_oI (kX8_readSumo_51 N rs c12) := (ra_k1_ok (by
  intro L S h a e
  split at e
  · exact ra_Ru.weak (hc12 _ _ _ _ _ e) ⟨rfl, ⟨rfl, ⟨rfl, trivial⟩⟩⟩
  · cases e) ra_k0_ok)
set_option maxRecDepth 100000 in
theorem nX8_readSumo_51_ok (N d : Nat) (hd : 10 ≤ d) (rs : Nat → Int32 → ra_H → Option (Int32 × ra_H)) (hrs : ∀ z0 z1 h r, rs z0 z1 h = some r → ∀ D, d + 1 ≤ D → ra_CO D 62 [.ref z0, .int z1] h (ra_oI r).1 (ra_oI r).2) (c12 : Nat → Int32 → Int32 → ra_H → Option (Int32 × ra_H)) (hc12 : ∀ a0 a1 a2 h r, c12 a0 a1 a2 h = some r → ra_Ru (d + 4) mX8_readSumo 12 [some (.ref a0), some (.int a1), some (.int a2), none] [] h (ra_oI r)) (a0 : Nat) (a1 : Int32) (a2 : Int32) (b0 : Int32) (h : ra_H) (r : (Int32 × ra_H)) (e : nX8_readSumo_51 N rs c12 a0 a1 a2 b0 h = some r) : ra_Ru (d + 4) mX8_readSumo 51 [some (.ref a0), some (.int a1), some (.int a2), none] [.int b0] h (ra_oI r) :=
  ra_sound (by omega) rfl ra_rI_ok (kX8_readSumo_51_ok N d hd rs hrs c12 hc12) (fun m av h h1 e => (tVX8_readSumo_ok N d hd rs hrs) m av h h1 e) (fun m av h x h1 e => (tIX8_readSumo_ok N d hd rs hrs) m av h (x, h1) e) (fun m av h x h1 e => (ra_c0_ok (ro := ra_oJ)) m av h (x, h1) e) (fun m av h x h1 e => (ra_c0_ok (ro := ra_oR)) m av h (x, h1) e) (fun m av h x h1 e => (ra_c0_ok (ro := ra_oN)) m av h (x, h1) e) (fun m av h x h1 e => (ra_c0_ok (ro := ra_oF)) m av h (x, h1) e) 16 lX8_readSumo_51 _ _ _ _ lX8_readSumo_51_ck (show ra_run ra_rI (kX8_readSumo_51 N rs c12) (tVX8_readSumo N rs) (tIX8_readSumo N rs) ra_c0 ra_c0 ra_c0 ra_c0 16 lX8_readSumo_51 [some (.ref a0), some (.int a1), some (.int a2), none] [.int b0] h = some r from e) _ _ rfl
def lX8_readSumo_37 : List ra_I := [(37, .aload_n 0, 1, 0, 0, 0, 0, 0, []),
  (38, .bipush (43), 2, 0, 0, 0, (43), 0, []),
  (40, .invokevirtual 56, 3, 65, 2, 1, 0, 0, []),
  (43, .ifCond .eq (7), 3, 50, 0, 0, 0, 0, []),
  (46, .iconst (2), 1, 0, 0, 0, (2), 0, []),
  (47, .goto (4), 3, 51, 0, 0, 0, 0, []),
  (50, .iconst (3), 1, 0, 0, 0, (3), 0, [])]
set_option maxRecDepth 100000 in
theorem lX8_readSumo_37_ck : lX8_readSumo_37.all (ra_ck mX8_readSumo 8) = true := by decide +kernel
def nX8_readSumo_37 (N : Nat) (rs : Nat → Int32 → ra_H → Option (Int32 × ra_H)) (c12 : Nat → Int32 → Int32 → ra_H → Option (Int32 × ra_H)) (a0 : Nat) (a1 : Int32) (a2 : Int32) (h : ra_H) : Option (Int32 × ra_H) :=
  (fX8_isSign N a0 ((43 : Int32)) h).bind fun q1 =>
  if q1.1 = 0 then
    nX8_readSumo_51 N rs c12 a0 a1 a2 ((3 : Int32)) q1.2
  else
    nX8_readSumo_51 N rs c12 a0 a1 a2 ((2 : Int32)) q1.2
def kX8_readSumo_37 (N : Nat) (rs : Nat → Int32 → ra_H → Option (Int32 × ra_H)) (c12 : Nat → Int32 → Int32 → ra_H → Option (Int32 × ra_H)) : Nat → List (Option Value) → List Value → ra_H → Option (Int32 × ra_H) := (ra_k1 51 (fun L S h => match L, S with
  | [some (.ref a0), some (.int a1), some (.int a2), _], [.int b0] => nX8_readSumo_51 N rs c12 a0 a1 a2 b0 h
  | _, _ => none) ra_k0)
theorem kX8_readSumo_37_ok (N d : Nat) (hd : 10 ≤ d) (rs : Nat → Int32 → ra_H → Option (Int32 × ra_H)) (hrs : ∀ z0 z1 h r, rs z0 z1 h = some r → ∀ D, d + 1 ≤ D → ra_CO D 62 [.ref z0, .int z1] h (ra_oI r).1 (ra_oI r).2) (c12 : Nat → Int32 → Int32 → ra_H → Option (Int32 × ra_H)) (hc12 : ∀ a0 a1 a2 h r, c12 a0 a1 a2 h = some r → ra_Ru (d + 4) mX8_readSumo 12 [some (.ref a0), some (.int a1), some (.int a2), none] [] h (ra_oI r)) : ra_kok (d + 4) mX8_readSumo ra_oI (kX8_readSumo_37 N rs c12) := (ra_k1_ok (by
  intro L S h a e
  split at e
  · exact ra_Ru.weak (nX8_readSumo_51_ok N d hd rs hrs c12 hc12 _ _ _ _ _ _ e) ⟨rfl, ⟨rfl, ⟨rfl, trivial⟩⟩⟩
  · cases e) ra_k0_ok)
set_option maxRecDepth 100000 in
theorem nX8_readSumo_37_ok (N d : Nat) (hd : 10 ≤ d) (rs : Nat → Int32 → ra_H → Option (Int32 × ra_H)) (hrs : ∀ z0 z1 h r, rs z0 z1 h = some r → ∀ D, d + 1 ≤ D → ra_CO D 62 [.ref z0, .int z1] h (ra_oI r).1 (ra_oI r).2) (c12 : Nat → Int32 → Int32 → ra_H → Option (Int32 × ra_H)) (hc12 : ∀ a0 a1 a2 h r, c12 a0 a1 a2 h = some r → ra_Ru (d + 4) mX8_readSumo 12 [some (.ref a0), some (.int a1), some (.int a2), none] [] h (ra_oI r)) (a0 : Nat) (a1 : Int32) (a2 : Int32) (h : ra_H) (r : (Int32 × ra_H)) (e : nX8_readSumo_37 N rs c12 a0 a1 a2 h = some r) : ra_Ru (d + 4) mX8_readSumo 37 [some (.ref a0), some (.int a1), some (.int a2), none] [] h (ra_oI r) :=
  ra_sound (by omega) rfl ra_rI_ok (kX8_readSumo_37_ok N d hd rs hrs c12 hc12) (fun m av h h1 e => (tVX8_readSumo_ok N d hd rs hrs) m av h h1 e) (fun m av h x h1 e => (tIX8_readSumo_ok N d hd rs hrs) m av h (x, h1) e) (fun m av h x h1 e => (ra_c0_ok (ro := ra_oJ)) m av h (x, h1) e) (fun m av h x h1 e => (ra_c0_ok (ro := ra_oR)) m av h (x, h1) e) (fun m av h x h1 e => (ra_c0_ok (ro := ra_oN)) m av h (x, h1) e) (fun m av h x h1 e => (ra_c0_ok (ro := ra_oF)) m av h (x, h1) e) 8 lX8_readSumo_37 _ _ _ _ lX8_readSumo_37_ck (show ra_run ra_rI (kX8_readSumo_37 N rs c12) (tVX8_readSumo N rs) (tIX8_readSumo N rs) ra_c0 ra_c0 ra_c0 ra_c0 8 lX8_readSumo_37 [some (.ref a0), some (.int a1), some (.int a2), none] [] h = some r from e) _ _ rfl
def lX8_readSumo_78 : List ra_I := [(78, .iconst (1), 1, 0, 0, 0, (1), 0, []),
  (79, .ireturn, 1, 0, 0, 0, 0, 0, [])]
set_option maxRecDepth 100000 in
theorem lX8_readSumo_78_ck : lX8_readSumo_78.all (ra_ck mX8_readSumo 8) = true := by decide +kernel
def nX8_readSumo_78 (N : Nat) (rs : Nat → Int32 → ra_H → Option (Int32 × ra_H)) (h : ra_H) : Option (Int32 × ra_H) :=
  some ((1 : Int32), h)
def kX8_readSumo_78 (N : Nat) (rs : Nat → Int32 → ra_H → Option (Int32 × ra_H)) : Nat → List (Option Value) → List Value → ra_H → Option (Int32 × ra_H) := ra_k0
theorem kX8_readSumo_78_ok (N d : Nat) (hd : 10 ≤ d) (rs : Nat → Int32 → ra_H → Option (Int32 × ra_H)) (hrs : ∀ z0 z1 h r, rs z0 z1 h = some r → ∀ D, d + 1 ≤ D → ra_CO D 62 [.ref z0, .int z1] h (ra_oI r).1 (ra_oI r).2) : ra_kok (d + 4) mX8_readSumo ra_oI (kX8_readSumo_78 N rs) := ra_k0_ok
set_option maxRecDepth 100000 in
theorem nX8_readSumo_78_ok (N d : Nat) (hd : 10 ≤ d) (rs : Nat → Int32 → ra_H → Option (Int32 × ra_H)) (hrs : ∀ z0 z1 h r, rs z0 z1 h = some r → ∀ D, d + 1 ≤ D → ra_CO D 62 [.ref z0, .int z1] h (ra_oI r).1 (ra_oI r).2) (h : ra_H) (r : (Int32 × ra_H)) (e : nX8_readSumo_78 N rs h = some r) : ra_Ru (d + 4) mX8_readSumo 78 [none, none, none, none] [] h (ra_oI r) :=
  ra_sound (by omega) rfl ra_rI_ok (kX8_readSumo_78_ok N d hd rs hrs) (fun m av h h1 e => (tVX8_readSumo_ok N d hd rs hrs) m av h h1 e) (fun m av h x h1 e => (tIX8_readSumo_ok N d hd rs hrs) m av h (x, h1) e) (fun m av h x h1 e => (ra_c0_ok (ro := ra_oJ)) m av h (x, h1) e) (fun m av h x h1 e => (ra_c0_ok (ro := ra_oR)) m av h (x, h1) e) (fun m av h x h1 e => (ra_c0_ok (ro := ra_oN)) m av h (x, h1) e) (fun m av h x h1 e => (ra_c0_ok (ro := ra_oF)) m av h (x, h1) e) 3 lX8_readSumo_78 _ _ _ _ lX8_readSumo_78_ck (show ra_run ra_rI (kX8_readSumo_78 N rs) (tVX8_readSumo N rs) (tIX8_readSumo N rs) ra_c0 ra_c0 ra_c0 ra_c0 3 lX8_readSumo_78 [none, none, none, none] [] h = some r from e) _ _ rfl
def lX8_readSumo_12 : List ra_I := [(12, .iload_n 2, 1, 2, 0, 0, 0, 0, []),
  (13, .sipush (400), 3, 0, 0, 0, (400), 0, []),
  (16, .if_icmp .ge (62), 3, 78, 0, 0, 0, 0, []),
  (19, .aload_n 0, 1, 0, 0, 0, 0, 0, []),
  (20, .bipush (43), 2, 0, 0, 0, (43), 0, []),
  (22, .invokevirtual 56, 3, 65, 2, 1, 0, 0, []),
  (25, .ifCond .ne (12), 3, 37, 0, 0, 0, 0, []),
  (28, .aload_n 0, 1, 0, 0, 0, 0, 0, []),
  (29, .bipush (45), 2, 0, 0, 0, (45), 0, []),
  (31, .invokevirtual 56, 3, 65, 2, 1, 0, 0, []),
  (34, .ifCond .eq (44), 3, 78, 0, 0, 0, 0, [])]
set_option maxRecDepth 100000 in
theorem lX8_readSumo_12_ck : lX8_readSumo_12.all (ra_ck mX8_readSumo 8) = true := by decide +kernel
def nX8_readSumo_12 (N : Nat) (rs : Nat → Int32 → ra_H → Option (Int32 × ra_H)) : Nat → Nat → Int32 → Int32 → ra_H → Option (Int32 × ra_H)
  | 0, _, _, _, _ => none
  | n + 1, a0, a1, a2, h =>
  if a2 < ((400 : Int32)) then
    (fX8_isSign N a0 ((43 : Int32)) h).bind fun q1 =>
    if q1.1 = 0 then
      (fX8_isSign N a0 ((45 : Int32)) q1.2).bind fun q2 =>
      if q2.1 = 0 then
        nX8_readSumo_78 N rs q2.2
      else
        nX8_readSumo_37 N rs (nX8_readSumo_12 N rs n) a0 a1 a2 q2.2
    else
      nX8_readSumo_37 N rs (nX8_readSumo_12 N rs n) a0 a1 a2 q1.2
  else
    nX8_readSumo_78 N rs h
def kX8_readSumo_12 (N : Nat) (rs : Nat → Int32 → ra_H → Option (Int32 × ra_H)) (cs : Nat → Int32 → Int32 → ra_H → Option (Int32 × ra_H)) : Nat → List (Option Value) → List Value → ra_H → Option (Int32 × ra_H) := (ra_k1 37 (fun L S h => match L, S with
  | [some (.ref a0), some (.int a1), some (.int a2), _], [] => nX8_readSumo_37 N rs cs a0 a1 a2 h
  | _, _ => none) (ra_k1 78 (fun L S h => match L, S with
  | [_, _, _, _], [] => nX8_readSumo_78 N rs h
  | _, _ => none) ra_k0))
theorem kX8_readSumo_12_ok (N d : Nat) (hd : 10 ≤ d) (rs : Nat → Int32 → ra_H → Option (Int32 × ra_H)) (hrs : ∀ z0 z1 h r, rs z0 z1 h = some r → ∀ D, d + 1 ≤ D → ra_CO D 62 [.ref z0, .int z1] h (ra_oI r).1 (ra_oI r).2) (cs : Nat → Int32 → Int32 → ra_H → Option (Int32 × ra_H)) (hcs : ∀ a0 a1 a2 h r, cs a0 a1 a2 h = some r → ra_Ru (d + 4) mX8_readSumo 12 [some (.ref a0), some (.int a1), some (.int a2), none] [] h (ra_oI r)) : ra_kok (d + 4) mX8_readSumo ra_oI (kX8_readSumo_12 N rs cs) := (ra_k1_ok (by
  intro L S h a e
  split at e
  · exact ra_Ru.weak (nX8_readSumo_37_ok N d hd rs hrs cs hcs _ _ _ _ _ e) ⟨rfl, ⟨rfl, ⟨rfl, trivial⟩⟩⟩
  · cases e) (ra_k1_ok (by
  intro L S h a e
  split at e
  · exact ra_Ru.weak (nX8_readSumo_78_ok N d hd rs hrs _ _ e) trivial
  · cases e) ra_k0_ok))
set_option maxRecDepth 100000 in
theorem nX8_readSumo_12_ok (N d : Nat) (hd : 10 ≤ d) (rs : Nat → Int32 → ra_H → Option (Int32 × ra_H)) (hrs : ∀ z0 z1 h r, rs z0 z1 h = some r → ∀ D, d + 1 ≤ D → ra_CO D 62 [.ref z0, .int z1] h (ra_oI r).1 (ra_oI r).2) : ∀ n a0 a1 a2 h r, nX8_readSumo_12 N rs n a0 a1 a2 h = some r → ra_Ru (d + 4) mX8_readSumo 12 [some (.ref a0), some (.int a1), some (.int a2), none] [] h (ra_oI r) := by
  intro n
  induction n with
  | zero => intro a0 a1 a2 h r e; cases e
  | succ n ih =>
    intro a0 a1 a2 h r e
    exact ra_sound (by omega) rfl ra_rI_ok (kX8_readSumo_12_ok N d hd rs hrs (nX8_readSumo_12 N rs n) ih) (fun m av h h1 e => (tVX8_readSumo_ok N d hd rs hrs) m av h h1 e) (fun m av h x h1 e => (tIX8_readSumo_ok N d hd rs hrs) m av h (x, h1) e) (fun m av h x h1 e => (ra_c0_ok (ro := ra_oJ)) m av h (x, h1) e) (fun m av h x h1 e => (ra_c0_ok (ro := ra_oR)) m av h (x, h1) e) (fun m av h x h1 e => (ra_c0_ok (ro := ra_oN)) m av h (x, h1) e) (fun m av h x h1 e => (ra_c0_ok (ro := ra_oF)) m av h (x, h1) e) 12 lX8_readSumo_12 _ _ _ _ lX8_readSumo_12_ck (show ra_run ra_rI (kX8_readSumo_12 N rs (nX8_readSumo_12 N rs n)) (tVX8_readSumo N rs) (tIX8_readSumo N rs) ra_c0 ra_c0 ra_c0 ra_c0 12 lX8_readSumo_12 [some (.ref a0), some (.int a1), some (.int a2), none] [] h = some r from e) _ _ rfl
def lX8_readSumo_0 : List ra_I := [(0, .aload_n 0, 1, 0, 0, 0, 0, 0, []),
  (1, .iload_n 1, 1, 1, 0, 0, 0, 0, []),
  (2, .invokevirtual 178, 3, 63, 2, 1, 0, 0, []),
  (5, .ifCond .ne (5), 3, 10, 0, 0, 0, 0, []),
  (8, .iconst (0), 1, 0, 0, 0, (0), 0, []),
  (9, .ireturn, 1, 0, 0, 0, 0, 0, []),
  (10, .iconst (0), 1, 0, 0, 0, (0), 0, []),
  (11, .istore_n 2, 1, 2, 0, 0, 0, 0, [])]
set_option maxRecDepth 100000 in
theorem lX8_readSumo_0_ck : lX8_readSumo_0.all (ra_ck mX8_readSumo 8) = true := by decide +kernel
def nX8_readSumo_0 (N : Nat) (rs : Nat → Int32 → ra_H → Option (Int32 × ra_H)) (a0 : Nat) (a1 : Int32) (h : ra_H) : Option (Int32 × ra_H) :=
  (fX8_readTerm N rs a0 a1 h).bind fun q1 =>
  if q1.1 = 0 then
    some ((0 : Int32), q1.2)
  else
    nX8_readSumo_12 N rs N a0 a1 ((0 : Int32)) q1.2
def kX8_readSumo_0 (N : Nat) (rs : Nat → Int32 → ra_H → Option (Int32 × ra_H)) : Nat → List (Option Value) → List Value → ra_H → Option (Int32 × ra_H) := (ra_k1 12 (fun L S h => match L, S with
  | [some (.ref a0), some (.int a1), some (.int a2), _], [] => nX8_readSumo_12 N rs N a0 a1 a2 h
  | _, _ => none) ra_k0)
theorem kX8_readSumo_0_ok (N d : Nat) (hd : 10 ≤ d) (rs : Nat → Int32 → ra_H → Option (Int32 × ra_H)) (hrs : ∀ z0 z1 h r, rs z0 z1 h = some r → ∀ D, d + 1 ≤ D → ra_CO D 62 [.ref z0, .int z1] h (ra_oI r).1 (ra_oI r).2) : ra_kok (d + 4) mX8_readSumo ra_oI (kX8_readSumo_0 N rs) := (ra_k1_ok (by
  intro L S h a e
  split at e
  · exact ra_Ru.weak (nX8_readSumo_12_ok N d hd rs hrs N _ _ _ _ _ e) ⟨rfl, ⟨rfl, ⟨rfl, trivial⟩⟩⟩
  · cases e) ra_k0_ok)
set_option maxRecDepth 100000 in
theorem nX8_readSumo_0_ok (N d : Nat) (hd : 10 ≤ d) (rs : Nat → Int32 → ra_H → Option (Int32 × ra_H)) (hrs : ∀ z0 z1 h r, rs z0 z1 h = some r → ∀ D, d + 1 ≤ D → ra_CO D 62 [.ref z0, .int z1] h (ra_oI r).1 (ra_oI r).2) (a0 : Nat) (a1 : Int32) (h : ra_H) (r : (Int32 × ra_H)) (e : nX8_readSumo_0 N rs a0 a1 h = some r) : ra_Ru (d + 4) mX8_readSumo 0 [some (.ref a0), some (.int a1), none, none] [] h (ra_oI r) :=
  ra_sound (by omega) rfl ra_rI_ok (kX8_readSumo_0_ok N d hd rs hrs) (fun m av h h1 e => (tVX8_readSumo_ok N d hd rs hrs) m av h h1 e) (fun m av h x h1 e => (tIX8_readSumo_ok N d hd rs hrs) m av h (x, h1) e) (fun m av h x h1 e => (ra_c0_ok (ro := ra_oJ)) m av h (x, h1) e) (fun m av h x h1 e => (ra_c0_ok (ro := ra_oR)) m av h (x, h1) e) (fun m av h x h1 e => (ra_c0_ok (ro := ra_oN)) m av h (x, h1) e) (fun m av h x h1 e => (ra_c0_ok (ro := ra_oF)) m av h (x, h1) e) 9 lX8_readSumo_0 _ _ _ _ lX8_readSumo_0_ck (show ra_run ra_rI (kX8_readSumo_0 N rs) (tVX8_readSumo N rs) (tIX8_readSumo N rs) ra_c0 ra_c0 ra_c0 ra_c0 9 lX8_readSumo_0 [some (.ref a0), some (.int a1), none, none] [] h = some r from e) _ _ rfl
def fX8_readSumo (N : Nat) (rs : Nat → Int32 → ra_H → Option (Int32 × ra_H)) (p0 : Nat) (p1 : Int32) (h : ra_H) : Option (Int32 × ra_H) := match ra_isOb h p0 8 with
  | true => (nX8_readSumo_0 N rs p0 p1 h).bind (fun q => ra_rz q.1 q.2)
  | false => none
set_option maxRecDepth 100000 in
theorem mtX8_readSumo : ra_MT[62]? = some (mX8_readSumo, 1, 1, (1, 4), (3, 195), (0, 10)) := rfl
theorem fX8_readSumo_co (N d : Nat) (hd : 10 ≤ d) (rs : Nat → Int32 → ra_H → Option (Int32 × ra_H)) (hrs : ∀ z0 z1 h r, rs z0 z1 h = some r → ∀ D, d + 1 ≤ D → ra_CO D 62 [.ref z0, .int z1] h (ra_oI r).1 (ra_oI r).2) (p0 : Nat) (p1 : Int32) (h : ra_H) (r : (Int32 × ra_H)) (e : fX8_readSumo N rs p0 p1 h = some r) (D : Nat) (hD : (d + 4) + 1 ≤ D) : ra_CO D 62 [.ref p0, .int p1] h (ra_oI r).1 (ra_oI r).2 := by
  have hw : ra_nw2 [.ref p0, .int p1] ≤ 4 := Nat.le_of_ble_eq_true rfl
  have hdb : ∀ v ∈ ([.ref p0, .int p1] : List Value), ∀ x, v ≠ .double x := by
    intro v hv x hx
    simp [hx] at hv
  unfold fX8_readSumo at e
  split at e
  · rename_i ho
    obtain ⟨q, e1, e2⟩ := Option.bind_eq_some_iff.mp e
    obtain ⟨rfl, hz⟩ := ra_rz_of e2
    exact ⟨(d + 4), _, mtX8_readSumo, hD, ra_ev_of (by decide) hdb hw hz (ra_Ru.weak (nX8_readSumo_0_ok N d hd rs hrs p0 p1 h _ e1) ⟨rfl, ⟨rfl, trivial⟩⟩), (fun _ => ⟨_, _, rfl, ra_rcv_of ho (by decide) rfl⟩), (fun h => absurd h (by decide))⟩
  · cases e
def rX8_readSum (N : Nat) : Nat → Nat → Int32 → ra_H → Option (Int32 × ra_H)
  | 0, _, _, _ => none
  | k + 1, p0, p1, h => fX8_readSumo N (rX8_readSum N k) p0 p1 h
theorem rX8_readSum_co (N : Nat) : ∀ k z0 z1 h r, rX8_readSum N k z0 z1 h = some r → ∀ D, 10 + 4 * k + 1 ≤ D → ra_CO D 62 [.ref z0, .int z1] h (ra_oI r).1 (ra_oI r).2 := by
  intro k
  induction k with
  | zero => intro z0 z1 h r e; cases e
  | succ k ih =>
    intro z0 z1 h r e D hD
    exact fX8_readSumo_co N (10 + 4 * k) (by omega) (rX8_readSum N k) ih z0 z1 h r e D (by omega)
def fX8_readSum (N : Nat) (p0 : Nat) (p1 : Int32) (h : ra_H) : Option (Int32 × ra_H) := rX8_readSum N 9 p0 p1 h
theorem fX8_readSum_co (N : Nat) (p0 : Nat) (p1 : Int32) (h : ra_H) (r : (Int32 × ra_H)) (e : fX8_readSum N p0 p1 h = some r) (D : Nat) (hD : 47 ≤ D) : ra_CO D 62 [.ref p0, .int p1] h (ra_oI r).1 (ra_oI r).2 := rX8_readSum_co N 9 p0 p1 h r e D (by omega)
