/-! RedMarksModel.nearest(II)I -/
def mX12_nearest : ra_M := (yX12_nearest, cX12_nearest, 8, (some .int))
def tIX12_nearest (N : Nat) : Nat → List Value → ra_H → Option (Int32 × ra_H) := (ra_c1 209 (fun av h => match av with
  | [.long z0, .long z1, .long z2] => fX12_in N z0 z1 z2 h
  | _ => none) (ra_c1 218 (fun av h => match av with
  | [.ref z0, .int z1] => fX12_isBook N z0 z1 h
  | _ => none) (ra_c1 269 (fun av h => match av with
  | [.ref z0] => fX12_lookKept N z0 h
  | _ => none) (ra_c1 273 (fun av h => match av with
  | [.ref z0, .int z1] => fX12_freeOf N z0 z1 h
  | _ => none) ra_c0))))
theorem tIX12_nearest_ok (N : Nat) : ra_cok 8 ra_oI (tIX12_nearest N) := (ra_c1_ok (by
  intro av h a e
  split at e
  · exact fX12_in_co N _ _ _ _ _ e 8 (by omega)
  · cases e) (ra_c1_ok (by
  intro av h a e
  split at e
  · exact fX12_isBook_co N _ _ _ _ e 8 (by omega)
  · cases e) (ra_c1_ok (by
  intro av h a e
  split at e
  · exact fX12_lookKept_co N _ _ _ e 8 (by omega)
  · cases e) (ra_c1_ok (by
  intro av h a e
  split at e
  · exact fX12_freeOf_co N _ _ _ _ e 8 (by omega)
  · cases e) ra_c0_ok))))
def lX12_nearest_42 : List ra_I := [(42, .iconst (-1), 1, 0, 0, 0, (-1), 0, []),
  (43, .ireturn, 1, 0, 0, 0, 0, 0, [])]
set_option maxRecDepth 100000 in
theorem lX12_nearest_42_ck : lX12_nearest_42.all (ra_ck mX12_nearest 12) = true := by decide +kernel
def nX12_nearest_42 (N : Nat) (h : ra_H) : Option (Int32 × ra_H) :=
  some ((-1 : Int32), h)
def kX12_nearest_42 (N : Nat) : Nat → List (Option Value) → List Value → ra_H → Option (Int32 × ra_H) := ra_k0
theorem kX12_nearest_42_ok (N : Nat) : ra_kok 8 mX12_nearest ra_oI (kX12_nearest_42 N) := ra_k0_ok
set_option maxRecDepth 100000 in
theorem nX12_nearest_42_ok (N : Nat) (h : ra_H) (r : (Int32 × ra_H)) (e : nX12_nearest_42 N h = some r) : ra_Ru 8 mX12_nearest 42 [none, none, none, none, none, none, none, none] [] h (ra_oI r) :=
  ra_sound (by omega) rfl ra_rI_ok (kX12_nearest_42_ok N) (fun m av h h1 e => (ra_c0_ok (ro := ra_oV)) m av h h1 e) (fun m av h x h1 e => (tIX12_nearest_ok N) m av h (x, h1) e) (fun m av h x h1 e => (ra_c0_ok (ro := ra_oJ)) m av h (x, h1) e) (fun m av h x h1 e => (ra_c0_ok (ro := ra_oR)) m av h (x, h1) e) (fun m av h x h1 e => (ra_c0_ok (ro := ra_oN)) m av h (x, h1) e) (fun m av h x h1 e => (ra_c0_ok (ro := ra_oF)) m av h (x, h1) e) 3 lX12_nearest_42 _ _ _ _ lX12_nearest_42_ck (show ra_run ra_rI (kX12_nearest_42 N) ra_c0 (tIX12_nearest N) ra_c0 ra_c0 ra_c0 ra_c0 3 lX12_nearest_42 [none, none, none, none, none, none, none, none] [] h = some r from e) _ _ rfl
def lX12_nearest_202 : List ra_I := [(202, .iinc 5 (1), 3, 5, 0, 0, (1), 0, []),
  (205, .goto (-153), 3, 52, 0, 0, 0, 0, [])]
set_option maxRecDepth 100000 in
theorem lX12_nearest_202_ck : lX12_nearest_202.all (ra_ck mX12_nearest 12) = true := by decide +kernel
def nX12_nearest_202 (N : Nat) (c52 : Nat → Int32 → Int32 → Int32 → Int32 → Int32 → ra_H → Option (Int32 × ra_H)) (a0 : Nat) (a1 : Int32) (a2 : Int32) (a3 : Int32) (a4 : Int32) (a5 : Int32) (h : ra_H) : Option (Int32 × ra_H) :=
  let y1 := a5 + (1 : Int32)
  c52 a0 a1 a2 a3 a4 y1 h
def kX12_nearest_202 (N : Nat) (c52 : Nat → Int32 → Int32 → Int32 → Int32 → Int32 → ra_H → Option (Int32 × ra_H)) : Nat → List (Option Value) → List Value → ra_H → Option (Int32 × ra_H) := (ra_k1 52 (fun L S h => match L, S with
  | [some (.ref a0), some (.int a1), some (.int a2), some (.int a3), some (.int a4), some (.int a5), _, _], [] => c52 a0 a1 a2 a3 a4 a5 h
  | _, _ => none) ra_k0)
theorem kX12_nearest_202_ok (N : Nat) (c52 : Nat → Int32 → Int32 → Int32 → Int32 → Int32 → ra_H → Option (Int32 × ra_H)) (hc52 : ∀ a0 a1 a2 a3 a4 a5 h r, c52 a0 a1 a2 a3 a4 a5 h = some r → ra_Ru 8 mX12_nearest 52 [some (.ref a0), some (.int a1), some (.int a2), some (.int a3), some (.int a4), some (.int a5), none, none] [] h (ra_oI r)) : ra_kok 8 mX12_nearest ra_oI (kX12_nearest_202 N c52) := (ra_k1_ok (by
  intro L S h a e
  split at e
  · exact ra_Ru.weak (hc52 _ _ _ _ _ _ _ _ e) ⟨rfl, ⟨rfl, ⟨rfl, ⟨rfl, ⟨rfl, ⟨rfl, trivial⟩⟩⟩⟩⟩⟩
  · cases e) ra_k0_ok)
set_option maxRecDepth 100000 in
theorem nX12_nearest_202_ok (N : Nat) (c52 : Nat → Int32 → Int32 → Int32 → Int32 → Int32 → ra_H → Option (Int32 × ra_H)) (hc52 : ∀ a0 a1 a2 a3 a4 a5 h r, c52 a0 a1 a2 a3 a4 a5 h = some r → ra_Ru 8 mX12_nearest 52 [some (.ref a0), some (.int a1), some (.int a2), some (.int a3), some (.int a4), some (.int a5), none, none] [] h (ra_oI r)) (a0 : Nat) (a1 : Int32) (a2 : Int32) (a3 : Int32) (a4 : Int32) (a5 : Int32) (h : ra_H) (r : (Int32 × ra_H)) (e : nX12_nearest_202 N c52 a0 a1 a2 a3 a4 a5 h = some r) : ra_Ru 8 mX12_nearest 202 [some (.ref a0), some (.int a1), some (.int a2), some (.int a3), some (.int a4), some (.int a5), none, none] [] h (ra_oI r) :=
  ra_sound (by omega) rfl ra_rI_ok (kX12_nearest_202_ok N c52 hc52) (fun m av h h1 e => (ra_c0_ok (ro := ra_oV)) m av h h1 e) (fun m av h x h1 e => (tIX12_nearest_ok N) m av h (x, h1) e) (fun m av h x h1 e => (ra_c0_ok (ro := ra_oJ)) m av h (x, h1) e) (fun m av h x h1 e => (ra_c0_ok (ro := ra_oR)) m av h (x, h1) e) (fun m av h x h1 e => (ra_c0_ok (ro := ra_oN)) m av h (x, h1) e) (fun m av h x h1 e => (ra_c0_ok (ro := ra_oF)) m av h (x, h1) e) 3 lX12_nearest_202 _ _ _ _ lX12_nearest_202_ck (show ra_run ra_rI (kX12_nearest_202 N c52) ra_c0 (tIX12_nearest N) ra_c0 ra_c0 ra_c0 ra_c0 3 lX12_nearest_202 [some (.ref a0), some (.int a1), some (.int a2), some (.int a3), some (.int a4), some (.int a5), none, none] [] h = some r from e) _ _ rfl
def lX12_nearest_195 : List ra_I := [(195, .iload 5, 2, 5, 0, 0, 0, 0, []),
  (197, .istore_n 3, 1, 3, 0, 0, 0, 0, []),
  (198, .iload 7, 2, 7, 0, 0, 0, 0, []),
  (200, .istore 4, 2, 4, 0, 0, 0, 0, [])]
set_option maxRecDepth 100000 in
theorem lX12_nearest_195_ck : lX12_nearest_195.all (ra_ck mX12_nearest 12) = true := by decide +kernel
def nX12_nearest_195 (N : Nat) (c52 : Nat → Int32 → Int32 → Int32 → Int32 → Int32 → ra_H → Option (Int32 × ra_H)) (a0 : Nat) (a1 : Int32) (a2 : Int32) (a5 : Int32) (a7 : Int32) (h : ra_H) : Option (Int32 × ra_H) :=
  nX12_nearest_202 N c52 a0 a1 a2 a5 a7 a5 h
def kX12_nearest_195 (N : Nat) (c52 : Nat → Int32 → Int32 → Int32 → Int32 → Int32 → ra_H → Option (Int32 × ra_H)) : Nat → List (Option Value) → List Value → ra_H → Option (Int32 × ra_H) := (ra_k1 202 (fun L S h => match L, S with
  | [some (.ref a0), some (.int a1), some (.int a2), some (.int a3), some (.int a4), some (.int a5), _, _], [] => nX12_nearest_202 N c52 a0 a1 a2 a3 a4 a5 h
  | _, _ => none) ra_k0)
theorem kX12_nearest_195_ok (N : Nat) (c52 : Nat → Int32 → Int32 → Int32 → Int32 → Int32 → ra_H → Option (Int32 × ra_H)) (hc52 : ∀ a0 a1 a2 a3 a4 a5 h r, c52 a0 a1 a2 a3 a4 a5 h = some r → ra_Ru 8 mX12_nearest 52 [some (.ref a0), some (.int a1), some (.int a2), some (.int a3), some (.int a4), some (.int a5), none, none] [] h (ra_oI r)) : ra_kok 8 mX12_nearest ra_oI (kX12_nearest_195 N c52) := (ra_k1_ok (by
  intro L S h a e
  split at e
  · exact ra_Ru.weak (nX12_nearest_202_ok N c52 hc52 _ _ _ _ _ _ _ _ e) ⟨rfl, ⟨rfl, ⟨rfl, ⟨rfl, ⟨rfl, ⟨rfl, trivial⟩⟩⟩⟩⟩⟩
  · cases e) ra_k0_ok)
set_option maxRecDepth 100000 in
theorem nX12_nearest_195_ok (N : Nat) (c52 : Nat → Int32 → Int32 → Int32 → Int32 → Int32 → ra_H → Option (Int32 × ra_H)) (hc52 : ∀ a0 a1 a2 a3 a4 a5 h r, c52 a0 a1 a2 a3 a4 a5 h = some r → ra_Ru 8 mX12_nearest 52 [some (.ref a0), some (.int a1), some (.int a2), some (.int a3), some (.int a4), some (.int a5), none, none] [] h (ra_oI r)) (a0 : Nat) (a1 : Int32) (a2 : Int32) (a5 : Int32) (a7 : Int32) (h : ra_H) (r : (Int32 × ra_H)) (e : nX12_nearest_195 N c52 a0 a1 a2 a5 a7 h = some r) : ra_Ru 8 mX12_nearest 195 [some (.ref a0), some (.int a1), some (.int a2), none, none, some (.int a5), none, some (.int a7)] [] h (ra_oI r) :=
  ra_sound (by omega) rfl ra_rI_ok (kX12_nearest_195_ok N c52 hc52) (fun m av h h1 e => (ra_c0_ok (ro := ra_oV)) m av h h1 e) (fun m av h x h1 e => (tIX12_nearest_ok N) m av h (x, h1) e) (fun m av h x h1 e => (ra_c0_ok (ro := ra_oJ)) m av h (x, h1) e) (fun m av h x h1 e => (ra_c0_ok (ro := ra_oR)) m av h (x, h1) e) (fun m av h x h1 e => (ra_c0_ok (ro := ra_oN)) m av h (x, h1) e) (fun m av h x h1 e => (ra_c0_ok (ro := ra_oF)) m av h (x, h1) e) 5 lX12_nearest_195 _ _ _ _ lX12_nearest_195_ck (show ra_run ra_rI (kX12_nearest_195 N c52) ra_c0 (tIX12_nearest N) ra_c0 ra_c0 ra_c0 ra_c0 5 lX12_nearest_195 [some (.ref a0), some (.int a1), some (.int a2), none, none, some (.int a5), none, some (.int a7)] [] h = some r from e) _ _ rfl
def lX12_nearest_180 : List ra_I := [(180, .iadd, 1, 0, 0, 0, 0, 0, []),
  (181, .istore 7, 2, 7, 0, 0, 0, 0, []),
  (183, .iload_n 3, 1, 3, 0, 0, 0, 0, []),
  (184, .iconst (-1), 1, 0, 0, 0, (-1), 0, []),
  (185, .if_icmp .eq (10), 3, 195, 0, 0, 0, 0, []),
  (188, .iload 7, 2, 7, 0, 0, 0, 0, []),
  (190, .iload 4, 2, 4, 0, 0, 0, 0, []),
  (192, .if_icmp .ge (10), 3, 202, 0, 0, 0, 0, [])]
set_option maxRecDepth 100000 in
theorem lX12_nearest_180_ck : lX12_nearest_180.all (ra_ck mX12_nearest 12) = true := by decide +kernel
def nX12_nearest_180 (N : Nat) (c52 : Nat → Int32 → Int32 → Int32 → Int32 → Int32 → ra_H → Option (Int32 × ra_H)) (a0 : Nat) (a1 : Int32) (a2 : Int32) (a3 : Int32) (a4 : Int32) (a5 : Int32) (b0 : Int32) (b1 : Int32) (h : ra_H) : Option (Int32 × ra_H) :=
  let y1 := b0 + b1
  if a3 = ((-1 : Int32)) then
    nX12_nearest_195 N c52 a0 a1 a2 a5 y1 h
  else
    if y1 < a4 then
      nX12_nearest_195 N c52 a0 a1 a2 a5 y1 h
    else
      nX12_nearest_202 N c52 a0 a1 a2 a3 a4 a5 h
def kX12_nearest_180 (N : Nat) (c52 : Nat → Int32 → Int32 → Int32 → Int32 → Int32 → ra_H → Option (Int32 × ra_H)) : Nat → List (Option Value) → List Value → ra_H → Option (Int32 × ra_H) := (ra_k1 195 (fun L S h => match L, S with
  | [some (.ref a0), some (.int a1), some (.int a2), _, _, some (.int a5), _, some (.int a7)], [] => nX12_nearest_195 N c52 a0 a1 a2 a5 a7 h
  | _, _ => none) (ra_k1 202 (fun L S h => match L, S with
  | [some (.ref a0), some (.int a1), some (.int a2), some (.int a3), some (.int a4), some (.int a5), _, _], [] => nX12_nearest_202 N c52 a0 a1 a2 a3 a4 a5 h
  | _, _ => none) ra_k0))
theorem kX12_nearest_180_ok (N : Nat) (c52 : Nat → Int32 → Int32 → Int32 → Int32 → Int32 → ra_H → Option (Int32 × ra_H)) (hc52 : ∀ a0 a1 a2 a3 a4 a5 h r, c52 a0 a1 a2 a3 a4 a5 h = some r → ra_Ru 8 mX12_nearest 52 [some (.ref a0), some (.int a1), some (.int a2), some (.int a3), some (.int a4), some (.int a5), none, none] [] h (ra_oI r)) : ra_kok 8 mX12_nearest ra_oI (kX12_nearest_180 N c52) := (ra_k1_ok (by
  intro L S h a e
  split at e
  · exact ra_Ru.weak (nX12_nearest_195_ok N c52 hc52 _ _ _ _ _ _ _ e) ⟨rfl, ⟨rfl, ⟨rfl, ⟨rfl, ⟨rfl, trivial⟩⟩⟩⟩⟩
  · cases e) (ra_k1_ok (by
  intro L S h a e
  split at e
  · exact ra_Ru.weak (nX12_nearest_202_ok N c52 hc52 _ _ _ _ _ _ _ _ e) ⟨rfl, ⟨rfl, ⟨rfl, ⟨rfl, ⟨rfl, ⟨rfl, trivial⟩⟩⟩⟩⟩⟩
  · cases e) ra_k0_ok))
set_option maxRecDepth 100000 in
theorem nX12_nearest_180_ok (N : Nat) (c52 : Nat → Int32 → Int32 → Int32 → Int32 → Int32 → ra_H → Option (Int32 × ra_H)) (hc52 : ∀ a0 a1 a2 a3 a4 a5 h r, c52 a0 a1 a2 a3 a4 a5 h = some r → ra_Ru 8 mX12_nearest 52 [some (.ref a0), some (.int a1), some (.int a2), some (.int a3), some (.int a4), some (.int a5), none, none] [] h (ra_oI r)) (a0 : Nat) (a1 : Int32) (a2 : Int32) (a3 : Int32) (a4 : Int32) (a5 : Int32) (b0 : Int32) (b1 : Int32) (h : ra_H) (r : (Int32 × ra_H)) (e : nX12_nearest_180 N c52 a0 a1 a2 a3 a4 a5 b0 b1 h = some r) : ra_Ru 8 mX12_nearest 180 [some (.ref a0), some (.int a1), some (.int a2), some (.int a3), some (.int a4), some (.int a5), none, none] [.int b1, .int b0] h (ra_oI r) :=
  ra_sound (by omega) rfl ra_rI_ok (kX12_nearest_180_ok N c52 hc52) (fun m av h h1 e => (ra_c0_ok (ro := ra_oV)) m av h h1 e) (fun m av h x h1 e => (tIX12_nearest_ok N) m av h (x, h1) e) (fun m av h x h1 e => (ra_c0_ok (ro := ra_oJ)) m av h (x, h1) e) (fun m av h x h1 e => (ra_c0_ok (ro := ra_oR)) m av h (x, h1) e) (fun m av h x h1 e => (ra_c0_ok (ro := ra_oN)) m av h (x, h1) e) (fun m av h x h1 e => (ra_c0_ok (ro := ra_oF)) m av h (x, h1) e) 9 lX12_nearest_180 _ _ _ _ lX12_nearest_180_ck (show ra_run ra_rI (kX12_nearest_180 N c52) ra_c0 (tIX12_nearest N) ra_c0 ra_c0 ra_c0 ra_c0 9 lX12_nearest_180 [some (.ref a0), some (.int a1), some (.int a2), some (.int a3), some (.int a4), some (.int a5), none, none] [.int b1, .int b0] h = some r from e) _ _ rfl
def lX12_nearest_146 : List ra_I := [(146, .imul, 1, 0, 0, 0, 0, 0, []),
  (147, .aload_n 0, 1, 0, 0, 0, 0, 0, []),
  (148, .getfield 13, 3, 12, 3, 2, 0, 0, []),
  (151, .bipush (12), 2, 0, 0, 0, (12), 0, []),
  (153, .iload 5, 2, 5, 0, 0, 0, 0, []),
  (155, .imul, 1, 0, 0, 0, 0, 0, []),
  (156, .bipush (7), 2, 0, 0, 0, (7), 0, []),
  (158, .iadd, 1, 0, 0, 0, 0, 0, []),
  (159, .iaload, 1, 0, 0, 0, 0, 0, []),
  (160, .aload_n 0, 1, 0, 0, 0, 0, 0, []),
  (161, .getfield 13, 3, 12, 3, 2, 0, 0, []),
  (164, .bipush (12), 2, 0, 0, 0, (12), 0, []),
  (166, .iload_n 1, 1, 1, 0, 0, 0, 0, []),
  (167, .imul, 1, 0, 0, 0, 0, 0, []),
  (168, .bipush (7), 2, 0, 0, 0, (7), 0, []),
  (170, .iadd, 1, 0, 0, 0, 0, 0, []),
  (171, .iaload, 1, 0, 0, 0, 0, 0, []),
  (172, .if_icmp .ne (7), 3, 179, 0, 0, 0, 0, []),
  (175, .iconst (0), 1, 0, 0, 0, (0), 0, []),
  (176, .goto (4), 3, 180, 0, 0, 0, 0, []),
  (179, .iconst (1), 1, 0, 0, 0, (1), 0, [])]
set_option maxRecDepth 100000 in
theorem lX12_nearest_146_ck : lX12_nearest_146.all (ra_ck mX12_nearest 12) = true := by decide +kernel
def nX12_nearest_146 (N : Nat) (c52 : Nat → Int32 → Int32 → Int32 → Int32 → Int32 → ra_H → Option (Int32 × ra_H)) (a0 : Nat) (a1 : Int32) (a2 : Int32) (a3 : Int32) (a4 : Int32) (a5 : Int32) (b0 : Int32) (b1 : Int32) (h : ra_H) : Option (Int32 × ra_H) :=
  (ra_fR h 12 a0 3).bind fun x1 =>
  (ra_aI h 0 x1 ((((12 : Int32)) * a5) + ((7 : Int32)))).bind fun x2 =>
  (ra_fR h 12 a0 3).bind fun x3 =>
  (ra_aI h 0 x3 ((((12 : Int32)) * a1) + ((7 : Int32)))).bind fun x4 =>
  if x2 = x4 then
    nX12_nearest_180 N c52 a0 a1 a2 a3 a4 a5 (b0 * b1) ((0 : Int32)) h
  else
    nX12_nearest_180 N c52 a0 a1 a2 a3 a4 a5 (b0 * b1) ((1 : Int32)) h
def kX12_nearest_146 (N : Nat) (c52 : Nat → Int32 → Int32 → Int32 → Int32 → Int32 → ra_H → Option (Int32 × ra_H)) : Nat → List (Option Value) → List Value → ra_H → Option (Int32 × ra_H) := (ra_k1 180 (fun L S h => match L, S with
  | [some (.ref a0), some (.int a1), some (.int a2), some (.int a3), some (.int a4), some (.int a5), _, _], [.int b1, .int b0] => nX12_nearest_180 N c52 a0 a1 a2 a3 a4 a5 b0 b1 h
  | _, _ => none) ra_k0)
theorem kX12_nearest_146_ok (N : Nat) (c52 : Nat → Int32 → Int32 → Int32 → Int32 → Int32 → ra_H → Option (Int32 × ra_H)) (hc52 : ∀ a0 a1 a2 a3 a4 a5 h r, c52 a0 a1 a2 a3 a4 a5 h = some r → ra_Ru 8 mX12_nearest 52 [some (.ref a0), some (.int a1), some (.int a2), some (.int a3), some (.int a4), some (.int a5), none, none] [] h (ra_oI r)) : ra_kok 8 mX12_nearest ra_oI (kX12_nearest_146 N c52) := (ra_k1_ok (by
  intro L S h a e
  split at e
  · exact ra_Ru.weak (nX12_nearest_180_ok N c52 hc52 _ _ _ _ _ _ _ _ _ _ e) ⟨rfl, ⟨rfl, ⟨rfl, ⟨rfl, ⟨rfl, ⟨rfl, trivial⟩⟩⟩⟩⟩⟩
  · cases e) ra_k0_ok)
set_option maxRecDepth 100000 in
theorem nX12_nearest_146_ok (N : Nat) (c52 : Nat → Int32 → Int32 → Int32 → Int32 → Int32 → ra_H → Option (Int32 × ra_H)) (hc52 : ∀ a0 a1 a2 a3 a4 a5 h r, c52 a0 a1 a2 a3 a4 a5 h = some r → ra_Ru 8 mX12_nearest 52 [some (.ref a0), some (.int a1), some (.int a2), some (.int a3), some (.int a4), some (.int a5), none, none] [] h (ra_oI r)) (a0 : Nat) (a1 : Int32) (a2 : Int32) (a3 : Int32) (a4 : Int32) (a5 : Int32) (b0 : Int32) (b1 : Int32) (h : ra_H) (r : (Int32 × ra_H)) (e : nX12_nearest_146 N c52 a0 a1 a2 a3 a4 a5 b0 b1 h = some r) : ra_Ru 8 mX12_nearest 146 [some (.ref a0), some (.int a1), some (.int a2), some (.int a3), some (.int a4), some (.int a5), none, none] [.int b1, .int b0] h (ra_oI r) :=
  ra_sound (by omega) rfl ra_rI_ok (kX12_nearest_146_ok N c52 hc52) (fun m av h h1 e => (ra_c0_ok (ro := ra_oV)) m av h h1 e) (fun m av h x h1 e => (tIX12_nearest_ok N) m av h (x, h1) e) (fun m av h x h1 e => (ra_c0_ok (ro := ra_oJ)) m av h (x, h1) e) (fun m av h x h1 e => (ra_c0_ok (ro := ra_oR)) m av h (x, h1) e) (fun m av h x h1 e => (ra_c0_ok (ro := ra_oN)) m av h (x, h1) e) (fun m av h x h1 e => (ra_c0_ok (ro := ra_oF)) m av h (x, h1) e) 22 lX12_nearest_146 _ _ _ _ lX12_nearest_146_ck (show ra_run ra_rI (kX12_nearest_146 N c52) ra_c0 (tIX12_nearest N) ra_c0 ra_c0 ra_c0 ra_c0 22 lX12_nearest_146 [some (.ref a0), some (.int a1), some (.int a2), some (.int a3), some (.int a4), some (.int a5), none, none] [.int b1, .int b0] h = some r from e) _ _ rfl
def lX12_nearest_265 : List ra_I := [(265, .ireturn, 1, 0, 0, 0, 0, 0, [])]
set_option maxRecDepth 100000 in
theorem lX12_nearest_265_ck : lX12_nearest_265.all (ra_ck mX12_nearest 12) = true := by decide +kernel
def nX12_nearest_265 (N : Nat) (b0 : Int32) (h : ra_H) : Option (Int32 × ra_H) :=
  some (b0, h)
def kX12_nearest_265 (N : Nat) : Nat → List (Option Value) → List Value → ra_H → Option (Int32 × ra_H) := ra_k0
theorem kX12_nearest_265_ok (N : Nat) : ra_kok 8 mX12_nearest ra_oI (kX12_nearest_265 N) := ra_k0_ok
set_option maxRecDepth 100000 in
theorem nX12_nearest_265_ok (N : Nat) (b0 : Int32) (h : ra_H) (r : (Int32 × ra_H)) (e : nX12_nearest_265 N b0 h = some r) : ra_Ru 8 mX12_nearest 265 [none, none, none, none, none, none, none, none] [.int b0] h (ra_oI r) :=
  ra_sound (by omega) rfl ra_rI_ok (kX12_nearest_265_ok N) (fun m av h h1 e => (ra_c0_ok (ro := ra_oV)) m av h h1 e) (fun m av h x h1 e => (tIX12_nearest_ok N) m av h (x, h1) e) (fun m av h x h1 e => (ra_c0_ok (ro := ra_oJ)) m av h (x, h1) e) (fun m av h x h1 e => (ra_c0_ok (ro := ra_oR)) m av h (x, h1) e) (fun m av h x h1 e => (ra_c0_ok (ro := ra_oN)) m av h (x, h1) e) (fun m av h x h1 e => (ra_c0_ok (ro := ra_oF)) m av h (x, h1) e) 2 lX12_nearest_265 _ _ _ _ lX12_nearest_265_ck (show ra_run ra_rI (kX12_nearest_265 N) ra_c0 (tIX12_nearest N) ra_c0 ra_c0 ra_c0 ra_c0 2 lX12_nearest_265 [none, none, none, none, none, none, none, none] [.int b0] h = some r from e) _ _ rfl
def lX12_nearest_52 : List ra_I := [(52, .iload 5, 2, 5, 0, 0, 0, 0, []),
  (54, .aload_n 0, 1, 0, 0, 0, 0, 0, []),
  (55, .getfield 13, 3, 12, 3, 2, 0, 0, []),
  (58, .sipush (480), 3, 0, 0, 0, (480), 0, []),
  (61, .iaload, 1, 0, 0, 0, 0, 0, []),
  (62, .if_icmp .ge (146), 3, 208, 0, 0, 0, 0, []),
  (65, .aload_n 0, 1, 0, 0, 0, 0, 0, []),
  (66, .getfield 101, 3, 12, 39, 2, 0, 0, []),
  (69, .iload 5, 2, 5, 0, 0, 0, 0, []),
  (71, .iaload, 1, 0, 0, 0, 0, 0, []),
  (72, .iconst (4), 1, 0, 0, 0, (4), 0, []),
  (73, .if_icmp .ne (129), 3, 202, 0, 0, 0, 0, []),
  (76, .aload_n 0, 1, 0, 0, 0, 0, 0, []),
  (77, .aload_n 0, 1, 0, 0, 0, 0, 0, []),
  (78, .getfield 104, 3, 12, 40, 2, 0, 0, []),
  (81, .iload 5, 2, 5, 0, 0, 0, 0, []),
  (83, .iaload, 1, 0, 0, 0, 0, 0, []),
  (84, .bipush (100), 2, 0, 0, 0, (100), 0, []),
  (86, .idiv, 1, 0, 0, 0, 0, 0, []),
  (87, .invokevirtual 434, 3, 273, 2, 1, 0, 0, []),
  (90, .aload_n 0, 1, 0, 0, 0, 0, 0, []),
  (91, .getfield 13, 3, 12, 3, 2, 0, 0, []),
  (94, .bipush (12), 2, 0, 0, 0, (12), 0, []),
  (96, .iload_n 1, 1, 1, 0, 0, 0, 0, []),
  (97, .imul, 1, 0, 0, 0, 0, 0, []),
  (98, .iconst (3), 1, 0, 0, 0, (3), 0, []),
  (99, .iadd, 1, 0, 0, 0, 0, 0, []),
  (100, .iaload, 1, 0, 0, 0, 0, 0, []),
  (101, .if_icmp .lt (101), 3, 202, 0, 0, 0, 0, []),
  (104, .aload_n 0, 1, 0, 0, 0, 0, 0, []),
  (105, .getfield 13, 3, 12, 3, 2, 0, 0, []),
  (108, .bipush (12), 2, 0, 0, 0, (12), 0, []),
  (110, .iload 5, 2, 5, 0, 0, 0, 0, []),
  (112, .imul, 1, 0, 0, 0, 0, 0, []),
  (113, .bipush (8), 2, 0, 0, 0, (8), 0, []),
  (115, .iadd, 1, 0, 0, 0, 0, 0, []),
  (116, .iaload, 1, 0, 0, 0, 0, 0, []),
  (117, .aload_n 0, 1, 0, 0, 0, 0, 0, []),
  (118, .getfield 13, 3, 12, 3, 2, 0, 0, []),
  (121, .bipush (12), 2, 0, 0, 0, (12), 0, []),
  (123, .iload_n 1, 1, 1, 0, 0, 0, 0, []),
  (124, .imul, 1, 0, 0, 0, 0, 0, []),
  (125, .bipush (8), 2, 0, 0, 0, (8), 0, []),
  (127, .iadd, 1, 0, 0, 0, 0, 0, []),
  (128, .iaload, 1, 0, 0, 0, 0, 0, []),
  (129, .isub, 1, 0, 0, 0, 0, 0, []),
  (130, .istore 6, 2, 6, 0, 0, 0, 0, []),
  (132, .iconst (2), 1, 0, 0, 0, (2), 0, []),
  (133, .iload 6, 2, 6, 0, 0, 0, 0, []),
  (135, .ifCond .ge (9), 3, 144, 0, 0, 0, 0, []),
  (138, .iload 6, 2, 6, 0, 0, 0, 0, []),
  (140, .ineg, 1, 0, 0, 0, 0, 0, []),
  (141, .goto (5), 3, 146, 0, 0, 0, 0, []),
  (144, .iload 6, 2, 6, 0, 0, 0, 0, []),
  (208, .iload_n 3, 1, 3, 0, 0, 0, 0, []),
  (209, .iconst (-1), 1, 0, 0, 0, (-1), 0, []),
  (210, .if_icmp .ne (5), 3, 215, 0, 0, 0, 0, []),
  (213, .iconst (-1), 1, 0, 0, 0, (-1), 0, []),
  (214, .ireturn, 1, 0, 0, 0, 0, 0, []),
  (215, .iload_n 2, 1, 2, 0, 0, 0, 0, []),
  (216, .ifCond .ne (7), 3, 223, 0, 0, 0, 0, []),
  (219, .iload_n 3, 1, 3, 0, 0, 0, 0, []),
  (220, .goto (45), 3, 265, 0, 0, 0, 0, []),
  (223, .iload_n 2, 1, 2, 0, 0, 0, 0, []),
  (224, .iconst (1), 1, 0, 0, 0, (1), 0, []),
  (225, .if_icmp .ne (16), 3, 241, 0, 0, 0, 0, []),
  (228, .aload_n 0, 1, 0, 0, 0, 0, 0, []),
  (229, .getfield 104, 3, 12, 40, 2, 0, 0, []),
  (232, .iload_n 3, 1, 3, 0, 0, 0, 0, []),
  (233, .iaload, 1, 0, 0, 0, 0, 0, []),
  (234, .sipush (600), 3, 0, 0, 0, (600), 0, []),
  (237, .idiv, 1, 0, 0, 0, 0, 0, []),
  (238, .goto (27), 3, 265, 0, 0, 0, 0, []),
  (241, .iload_n 2, 1, 2, 0, 0, 0, 0, []),
  (242, .iconst (2), 1, 0, 0, 0, (2), 0, []),
  (243, .if_icmp .ne (18), 3, 261, 0, 0, 0, 0, []),
  (246, .aload_n 0, 1, 0, 0, 0, 0, 0, []),
  (247, .getfield 104, 3, 12, 40, 2, 0, 0, []),
  (250, .iload_n 3, 1, 3, 0, 0, 0, 0, []),
  (251, .iaload, 1, 0, 0, 0, 0, 0, []),
  (252, .bipush (100), 2, 0, 0, 0, (100), 0, []),
  (254, .idiv, 1, 0, 0, 0, 0, 0, []),
  (255, .bipush (6), 2, 0, 0, 0, (6), 0, []),
  (257, .irem, 1, 0, 0, 0, 0, 0, []),
  (258, .goto (7), 3, 265, 0, 0, 0, 0, []),
  (261, .iload 4, 2, 4, 0, 0, 0, 0, []),
  (263, .iconst (2), 1, 0, 0, 0, (2), 0, []),
  (264, .idiv, 1, 0, 0, 0, 0, 0, [])]
set_option maxRecDepth 100000 in
theorem lX12_nearest_52_ck : lX12_nearest_52.all (ra_ck mX12_nearest 12) = true := by decide +kernel
def nX12_nearest_52 (N : Nat) : Nat → Nat → Int32 → Int32 → Int32 → Int32 → Int32 → ra_H → Option (Int32 × ra_H)
  | 0, _, _, _, _, _, _, _ => none
  | n + 1, a0, a1, a2, a3, a4, a5, h =>
  (ra_fR h 12 a0 3).bind fun x1 =>
  (ra_aI h 0 x1 ((480 : Int32))).bind fun x2 =>
  if a5 < x2 then
    (ra_fR h 12 a0 39).bind fun x7 =>
    (ra_aI h 0 x7 a5).bind fun x8 =>
    if x8 = ((4 : Int32)) then
      (ra_fR h 12 a0 40).bind fun x9 =>
      (ra_aI h 0 x9 a5).bind fun x10 =>
      if ((100 : Int32)) = 0 then none else
      (fX12_freeOf N a0 (x10 / ((100 : Int32))) h).bind fun q11 =>
      (ra_fR q11.2 12 a0 3).bind fun x12 =>
      (ra_aI q11.2 0 x12 ((((12 : Int32)) * a1) + ((3 : Int32)))).bind fun x13 =>
      if q11.1 < x13 then
        nX12_nearest_202 N (nX12_nearest_52 N n) a0 a1 a2 a3 a4 a5 q11.2
      else
        (ra_fR q11.2 12 a0 3).bind fun x14 =>
        (ra_aI q11.2 0 x14 ((((12 : Int32)) * a5) + ((8 : Int32)))).bind fun x15 =>
        (ra_fR q11.2 12 a0 3).bind fun x16 =>
        (ra_aI q11.2 0 x16 ((((12 : Int32)) * a1) + ((8 : Int32)))).bind fun x17 =>
        let y18 := x15 - x17
        if y18 < 0 then
          nX12_nearest_146 N (nX12_nearest_52 N n) a0 a1 a2 a3 a4 a5 ((2 : Int32)) (-y18) q11.2
        else
          nX12_nearest_146 N (nX12_nearest_52 N n) a0 a1 a2 a3 a4 a5 ((2 : Int32)) y18 q11.2
    else
      nX12_nearest_202 N (nX12_nearest_52 N n) a0 a1 a2 a3 a4 a5 h
  else
    if a3 = ((-1 : Int32)) then
      some ((-1 : Int32), h)
    else
      if a2 = 0 then
        nX12_nearest_265 N a3 h
      else
        if a2 = ((1 : Int32)) then
          (ra_fR h 12 a0 40).bind fun x5 =>
          (ra_aI h 0 x5 a3).bind fun x6 =>
          if ((600 : Int32)) = 0 then none else
          nX12_nearest_265 N (x6 / ((600 : Int32))) h
        else
          if a2 = ((2 : Int32)) then
            (ra_fR h 12 a0 40).bind fun x3 =>
            (ra_aI h 0 x3 a3).bind fun x4 =>
            if ((100 : Int32)) = 0 then none else
            if ((6 : Int32)) = 0 then none else
            nX12_nearest_265 N ((x4 / ((100 : Int32))) - (x4 / ((100 : Int32))) / ((6 : Int32)) * ((6 : Int32))) h
          else
            if ((2 : Int32)) = 0 then none else
            nX12_nearest_265 N (a4 / ((2 : Int32))) h
def kX12_nearest_52 (N : Nat) (cs : Nat → Int32 → Int32 → Int32 → Int32 → Int32 → ra_H → Option (Int32 × ra_H)) : Nat → List (Option Value) → List Value → ra_H → Option (Int32 × ra_H) := (ra_k1 146 (fun L S h => match L, S with
  | [some (.ref a0), some (.int a1), some (.int a2), some (.int a3), some (.int a4), some (.int a5), _, _], [.int b1, .int b0] => nX12_nearest_146 N cs a0 a1 a2 a3 a4 a5 b0 b1 h
  | _, _ => none) (ra_k1 202 (fun L S h => match L, S with
  | [some (.ref a0), some (.int a1), some (.int a2), some (.int a3), some (.int a4), some (.int a5), _, _], [] => nX12_nearest_202 N cs a0 a1 a2 a3 a4 a5 h
  | _, _ => none) (ra_k1 265 (fun L S h => match L, S with
  | [_, _, _, _, _, _, _, _], [.int b0] => nX12_nearest_265 N b0 h
  | _, _ => none) ra_k0)))
theorem kX12_nearest_52_ok (N : Nat) (cs : Nat → Int32 → Int32 → Int32 → Int32 → Int32 → ra_H → Option (Int32 × ra_H)) (hcs : ∀ a0 a1 a2 a3 a4 a5 h r, cs a0 a1 a2 a3 a4 a5 h = some r → ra_Ru 8 mX12_nearest 52 [some (.ref a0), some (.int a1), some (.int a2), some (.int a3), some (.int a4), some (.int a5), none, none] [] h (ra_oI r)) : ra_kok 8 mX12_nearest ra_oI (kX12_nearest_52 N cs) := (ra_k1_ok (by
  intro L S h a e
  split at e
  · exact ra_Ru.weak (nX12_nearest_146_ok N cs hcs _ _ _ _ _ _ _ _ _ _ e) ⟨rfl, ⟨rfl, ⟨rfl, ⟨rfl, ⟨rfl, ⟨rfl, trivial⟩⟩⟩⟩⟩⟩
  · cases e) (ra_k1_ok (by
  intro L S h a e
  split at e
  · exact ra_Ru.weak (nX12_nearest_202_ok N cs hcs _ _ _ _ _ _ _ _ e) ⟨rfl, ⟨rfl, ⟨rfl, ⟨rfl, ⟨rfl, ⟨rfl, trivial⟩⟩⟩⟩⟩⟩
  · cases e) (ra_k1_ok (by
  intro L S h a e
  split at e
  · exact ra_Ru.weak (nX12_nearest_265_ok N _ _ _ e) trivial
  · cases e) ra_k0_ok)))
set_option maxRecDepth 100000 in
theorem nX12_nearest_52_ok (N : Nat) : ∀ n a0 a1 a2 a3 a4 a5 h r, nX12_nearest_52 N n a0 a1 a2 a3 a4 a5 h = some r → ra_Ru 8 mX12_nearest 52 [some (.ref a0), some (.int a1), some (.int a2), some (.int a3), some (.int a4), some (.int a5), none, none] [] h (ra_oI r) := by
  intro n
  induction n with
  | zero => intro a0 a1 a2 a3 a4 a5 h r e; cases e
  | succ n ih =>
    intro a0 a1 a2 a3 a4 a5 h r e
    exact ra_sound (by omega) rfl ra_rI_ok (kX12_nearest_52_ok N (nX12_nearest_52 N n) ih) (fun m av h h1 e => (ra_c0_ok (ro := ra_oV)) m av h h1 e) (fun m av h x h1 e => (tIX12_nearest_ok N) m av h (x, h1) e) (fun m av h x h1 e => (ra_c0_ok (ro := ra_oJ)) m av h (x, h1) e) (fun m av h x h1 e => (ra_c0_ok (ro := ra_oR)) m av h (x, h1) e) (fun m av h x h1 e => (ra_c0_ok (ro := ra_oN)) m av h (x, h1) e) (fun m av h x h1 e => (ra_c0_ok (ro := ra_oF)) m av h (x, h1) e) 89 lX12_nearest_52 _ _ _ _ lX12_nearest_52_ck (show ra_run ra_rI (kX12_nearest_52 N (nX12_nearest_52 N n)) ra_c0 (tIX12_nearest N) ra_c0 ra_c0 ra_c0 ra_c0 89 lX12_nearest_52 [some (.ref a0), some (.int a1), some (.int a2), some (.int a3), some (.int a4), some (.int a5), none, none] [] h = some r from e) _ _ rfl
def lX12_nearest_0 : List ra_I := [(0, .aload_n 0, 1, 0, 0, 0, 0, 0, []),
  (1, .iconst (0), 1, 0, 0, 0, (0), 0, []),
  (2, .putfield 147, 3, 12, 0, 0, 0, 0, []),
  (5, .aload_n 0, 1, 0, 0, 0, 0, 0, []),
  (6, .iload_n 1, 1, 1, 0, 0, 0, 0, []),
  (7, .invokevirtual 198, 3, 218, 2, 1, 0, 0, []),
  (10, .ifCond .eq (32), 3, 42, 0, 0, 0, 0, []),
  (13, .iload_n 2, 1, 2, 0, 0, 0, 0, []),
  (14, .i2l, 1, 0, 0, 0, 0, 0, []),
  (15, .lconst 0, 1, 0, 0, 0, 0, 0, []),
  (16, .ldc2_w 406, 3, 0, 0, 0, 0, (3), []),
  (19, .invokestatic 153, 3, 209, 3, 1, 0, 0, []),
  (22, .ifCond .eq (20), 3, 42, 0, 0, 0, 0, []),
  (25, .aload_n 0, 1, 0, 0, 0, 0, 0, []),
  (26, .invokevirtual 425, 3, 269, 1, 1, 0, 0, []),
  (29, .ifCond .eq (13), 3, 42, 0, 0, 0, 0, []),
  (32, .aload_n 0, 1, 0, 0, 0, 0, 0, []),
  (33, .getfield 101, 3, 12, 39, 2, 0, 0, []),
  (36, .iload_n 1, 1, 1, 0, 0, 0, 0, []),
  (37, .iaload, 1, 0, 0, 0, 0, 0, []),
  (38, .iconst (4), 1, 0, 0, 0, (4), 0, []),
  (39, .if_icmp .ne (5), 3, 44, 0, 0, 0, 0, []),
  (44, .iconst (-1), 1, 0, 0, 0, (-1), 0, []),
  (45, .istore_n 3, 1, 3, 0, 0, 0, 0, []),
  (46, .iconst (0), 1, 0, 0, 0, (0), 0, []),
  (47, .istore 4, 2, 4, 0, 0, 0, 0, []),
  (49, .iconst (0), 1, 0, 0, 0, (0), 0, []),
  (50, .istore 5, 2, 5, 0, 0, 0, 0, [])]
set_option maxRecDepth 100000 in
theorem lX12_nearest_0_ck : lX12_nearest_0.all (ra_ck mX12_nearest 12) = true := by decide +kernel
def nX12_nearest_0 (N : Nat) (a0 : Nat) (a1 : Int32) (a2 : Int32) (h : ra_H) : Option (Int32 × ra_H) :=
  (ra_fW h 12 a0 0 (.int ((0 : Int32)))).bind fun h1 =>
  (fX12_isBook N a0 a1 h1).bind fun q2 =>
  if q2.1 = 0 then
    nX12_nearest_42 N q2.2
  else
    (fX12_in N (Int32.toInt64 a2) ((0 : Int64)) ((3 : Int64)) q2.2).bind fun q3 =>
    if q3.1 = 0 then
      nX12_nearest_42 N q3.2
    else
      (fX12_lookKept N a0 q3.2).bind fun q4 =>
      if q4.1 = 0 then
        nX12_nearest_42 N q4.2
      else
        (ra_fR q4.2 12 a0 39).bind fun x5 =>
        (ra_aI q4.2 0 x5 a1).bind fun x6 =>
        if x6 = ((4 : Int32)) then
          nX12_nearest_42 N q4.2
        else
          nX12_nearest_52 N N a0 a1 a2 ((-1 : Int32)) ((0 : Int32)) ((0 : Int32)) q4.2
def kX12_nearest_0 (N : Nat) : Nat → List (Option Value) → List Value → ra_H → Option (Int32 × ra_H) := (ra_k1 42 (fun L S h => match L, S with
  | [_, _, _, _, _, _, _, _], [] => nX12_nearest_42 N h
  | _, _ => none) (ra_k1 52 (fun L S h => match L, S with
  | [some (.ref a0), some (.int a1), some (.int a2), some (.int a3), some (.int a4), some (.int a5), _, _], [] => nX12_nearest_52 N N a0 a1 a2 a3 a4 a5 h
  | _, _ => none) ra_k0))
theorem kX12_nearest_0_ok (N : Nat) : ra_kok 8 mX12_nearest ra_oI (kX12_nearest_0 N) := (ra_k1_ok (by
  intro L S h a e
  split at e
  · exact ra_Ru.weak (nX12_nearest_42_ok N _ _ e) trivial
  · cases e) (ra_k1_ok (by
  intro L S h a e
  split at e
  · exact ra_Ru.weak (nX12_nearest_52_ok N N _ _ _ _ _ _ _ _ e) ⟨rfl, ⟨rfl, ⟨rfl, ⟨rfl, ⟨rfl, ⟨rfl, trivial⟩⟩⟩⟩⟩⟩
  · cases e) ra_k0_ok))
set_option maxRecDepth 100000 in
theorem nX12_nearest_0_ok (N : Nat) (a0 : Nat) (a1 : Int32) (a2 : Int32) (h : ra_H) (r : (Int32 × ra_H)) (e : nX12_nearest_0 N a0 a1 a2 h = some r) : ra_Ru 8 mX12_nearest 0 [some (.ref a0), some (.int a1), some (.int a2), none, none, none, none, none] [] h (ra_oI r) :=
  ra_sound (by omega) rfl ra_rI_ok (kX12_nearest_0_ok N) (fun m av h h1 e => (ra_c0_ok (ro := ra_oV)) m av h h1 e) (fun m av h x h1 e => (tIX12_nearest_ok N) m av h (x, h1) e) (fun m av h x h1 e => (ra_c0_ok (ro := ra_oJ)) m av h (x, h1) e) (fun m av h x h1 e => (ra_c0_ok (ro := ra_oR)) m av h (x, h1) e) (fun m av h x h1 e => (ra_c0_ok (ro := ra_oN)) m av h (x, h1) e) (fun m av h x h1 e => (ra_c0_ok (ro := ra_oF)) m av h (x, h1) e) 29 lX12_nearest_0 _ _ _ _ lX12_nearest_0_ck (show ra_run ra_rI (kX12_nearest_0 N) ra_c0 (tIX12_nearest N) ra_c0 ra_c0 ra_c0 ra_c0 29 lX12_nearest_0 [some (.ref a0), some (.int a1), some (.int a2), none, none, none, none, none] [] h = some r from e) _ _ rfl
def fX12_nearest (N : Nat) (p0 : Nat) (p1 : Int32) (p2 : Int32) (h : ra_H) : Option (Int32 × ra_H) := match ra_isOb h p0 12 with
  | true => nX12_nearest_0 N p0 p1 p2 h
  | false => none
set_option maxRecDepth 100000 in
theorem mtX12_nearest : ra_MT[275]? = some (mX12_nearest, 1, 2, (1, 13), (8, 138), (8, 139)) := rfl
theorem fX12_nearest_co (N : Nat) (p0 : Nat) (p1 : Int32) (p2 : Int32) (h : ra_H) (r : (Int32 × ra_H)) (e : fX12_nearest N p0 p1 p2 h = some r) (D : Nat) (hD : 9 ≤ D) : ra_CO D 275 [.ref p0, .int p1, .int p2] h (ra_oI r).1 (ra_oI r).2 := by
  have hw : ra_nw2 [.ref p0, .int p1, .int p2] ≤ 8 := Nat.le_of_ble_eq_true rfl
  have hdb : ∀ v ∈ ([.ref p0, .int p1, .int p2] : List Value), ∀ x, v ≠ .double x := by
    intro v hv x hx
    simp [hx] at hv
  unfold fX12_nearest at e
  split at e
  · rename_i ho
    have e1 := e
    exact ⟨8, _, mtX12_nearest, hD, ra_ev_of (by decide) hdb hw trivial (ra_Ru.weak (nX12_nearest_0_ok N p0 p1 p2 h _ e1) ⟨rfl, ⟨rfl, ⟨rfl, trivial⟩⟩⟩), (fun _ => ⟨_, _, rfl, ra_rcv_of ho (by decide) rfl⟩), (fun h => absurd h (by decide))⟩
  · cases e
/-! RedMarksModel.next()I -/
def mX12_next : ra_M := (yX12_next, cX12_next, 9, (some .int))
def tJX12_next (N : Nat) : Nat → List Value → ra_H → Option (Int64 × ra_H) := (ra_c1 311 (fun av h => match av with
  | [.ref z0, .int z1] => fX12_hopes N z0 z1 h
  | _ => none) ra_c0)
theorem tJX12_next_ok (N : Nat) : ra_cok 2 ra_oJ (tJX12_next N) := (ra_c1_ok (by
  intro av h a e
  split at e
  · exact fX12_hopes_co N _ _ _ _ e 2 (by omega)
  · cases e) ra_c0_ok)
def lX12_next_100 : List ra_I := [(100, .iinc 6 (1), 3, 6, 0, 0, (1), 0, []),
  (103, .goto (-88), 3, 15, 0, 0, 0, 0, [])]
set_option maxRecDepth 100000 in
theorem lX12_next_100_ck : lX12_next_100.all (ra_ck mX12_next 12) = true := by decide +kernel
def nX12_next_100 (N : Nat) (c15 : Nat → Int32 → Int64 → Int64 → Int32 → ra_H → Option (Int32 × ra_H)) (a0 : Nat) (a1 : Int32) (a2 : Int64) (a4 : Int64) (a6 : Int32) (h : ra_H) : Option (Int32 × ra_H) :=
  let y1 := a6 + (1 : Int32)
  c15 a0 a1 a2 a4 y1 h
def kX12_next_100 (N : Nat) (c15 : Nat → Int32 → Int64 → Int64 → Int32 → ra_H → Option (Int32 × ra_H)) : Nat → List (Option Value) → List Value → ra_H → Option (Int32 × ra_H) := (ra_k1 15 (fun L S h => match L, S with
  | [some (.ref a0), some (.int a1), some (.long a2), _, some (.long a4), _, some (.int a6), _, _], [] => c15 a0 a1 a2 a4 a6 h
  | _, _ => none) ra_k0)
theorem kX12_next_100_ok (N : Nat) (c15 : Nat → Int32 → Int64 → Int64 → Int32 → ra_H → Option (Int32 × ra_H)) (hc15 : ∀ a0 a1 a2 a4 a6 h r, c15 a0 a1 a2 a4 a6 h = some r → ra_Ru 2 mX12_next 15 [some (.ref a0), some (.int a1), some (.long a2), none, some (.long a4), none, some (.int a6), none, none] [] h (ra_oI r)) : ra_kok 2 mX12_next ra_oI (kX12_next_100 N c15) := (ra_k1_ok (by
  intro L S h a e
  split at e
  · exact ra_Ru.weak (hc15 _ _ _ _ _ _ _ e) ⟨rfl, ⟨rfl, ⟨rfl, ⟨rfl, ⟨rfl, trivial⟩⟩⟩⟩⟩
  · cases e) ra_k0_ok)
set_option maxRecDepth 100000 in
theorem nX12_next_100_ok (N : Nat) (c15 : Nat → Int32 → Int64 → Int64 → Int32 → ra_H → Option (Int32 × ra_H)) (hc15 : ∀ a0 a1 a2 a4 a6 h r, c15 a0 a1 a2 a4 a6 h = some r → ra_Ru 2 mX12_next 15 [some (.ref a0), some (.int a1), some (.long a2), none, some (.long a4), none, some (.int a6), none, none] [] h (ra_oI r)) (a0 : Nat) (a1 : Int32) (a2 : Int64) (a4 : Int64) (a6 : Int32) (h : ra_H) (r : (Int32 × ra_H)) (e : nX12_next_100 N c15 a0 a1 a2 a4 a6 h = some r) : ra_Ru 2 mX12_next 100 [some (.ref a0), some (.int a1), some (.long a2), none, some (.long a4), none, some (.int a6), none, none] [] h (ra_oI r) :=
  ra_sound (by omega) rfl ra_rI_ok (kX12_next_100_ok N c15 hc15) (fun m av h h1 e => (ra_c0_ok (ro := ra_oV)) m av h h1 e) (fun m av h x h1 e => (ra_c0_ok (ro := ra_oI)) m av h (x, h1) e) (fun m av h x h1 e => (tJX12_next_ok N) m av h (x, h1) e) (fun m av h x h1 e => (ra_c0_ok (ro := ra_oR)) m av h (x, h1) e) (fun m av h x h1 e => (ra_c0_ok (ro := ra_oN)) m av h (x, h1) e) (fun m av h x h1 e => (ra_c0_ok (ro := ra_oF)) m av h (x, h1) e) 3 lX12_next_100 _ _ _ _ lX12_next_100_ck (show ra_run ra_rI (kX12_next_100 N c15) ra_c0 ra_c0 (tJX12_next N) ra_c0 ra_c0 ra_c0 3 lX12_next_100 [some (.ref a0), some (.int a1), some (.long a2), none, some (.long a4), none, some (.int a6), none, none] [] h = some r from e) _ _ rfl
def lX12_next_86 : List ra_I := [(86, .iload 6, 2, 6, 0, 0, 0, 0, []),
  (88, .istore_n 1, 1, 1, 0, 0, 0, 0, []),
  (89, .aload_n 0, 1, 0, 0, 0, 0, 0, []),
  (90, .iload 6, 2, 6, 0, 0, 0, 0, []),
  (92, .invokevirtual 493, 3, 311, 2, 2, 0, 0, []),
  (95, .lstore_n 2, 1, 2, 0, 0, 0, 0, []),
  (96, .lload 7, 2, 7, 0, 0, 0, 0, []),
  (98, .lstore 4, 2, 4, 0, 0, 0, 0, [])]
set_option maxRecDepth 100000 in
theorem lX12_next_86_ck : lX12_next_86.all (ra_ck mX12_next 12) = true := by decide +kernel
def nX12_next_86 (N : Nat) (c15 : Nat → Int32 → Int64 → Int64 → Int32 → ra_H → Option (Int32 × ra_H)) (a0 : Nat) (a6 : Int32) (a7 : Int64) (h : ra_H) : Option (Int32 × ra_H) :=
  (fX12_hopes N a0 a6 h).bind fun q1 =>
  nX12_next_100 N c15 a0 a6 q1.1 a7 a6 q1.2
def kX12_next_86 (N : Nat) (c15 : Nat → Int32 → Int64 → Int64 → Int32 → ra_H → Option (Int32 × ra_H)) : Nat → List (Option Value) → List Value → ra_H → Option (Int32 × ra_H) := (ra_k1 100 (fun L S h => match L, S with
  | [some (.ref a0), some (.int a1), some (.long a2), _, some (.long a4), _, some (.int a6), _, _], [] => nX12_next_100 N c15 a0 a1 a2 a4 a6 h
  | _, _ => none) ra_k0)
theorem kX12_next_86_ok (N : Nat) (c15 : Nat → Int32 → Int64 → Int64 → Int32 → ra_H → Option (Int32 × ra_H)) (hc15 : ∀ a0 a1 a2 a4 a6 h r, c15 a0 a1 a2 a4 a6 h = some r → ra_Ru 2 mX12_next 15 [some (.ref a0), some (.int a1), some (.long a2), none, some (.long a4), none, some (.int a6), none, none] [] h (ra_oI r)) : ra_kok 2 mX12_next ra_oI (kX12_next_86 N c15) := (ra_k1_ok (by
  intro L S h a e
  split at e
  · exact ra_Ru.weak (nX12_next_100_ok N c15 hc15 _ _ _ _ _ _ _ e) ⟨rfl, ⟨rfl, ⟨rfl, ⟨rfl, ⟨rfl, trivial⟩⟩⟩⟩⟩
  · cases e) ra_k0_ok)
set_option maxRecDepth 100000 in
theorem nX12_next_86_ok (N : Nat) (c15 : Nat → Int32 → Int64 → Int64 → Int32 → ra_H → Option (Int32 × ra_H)) (hc15 : ∀ a0 a1 a2 a4 a6 h r, c15 a0 a1 a2 a4 a6 h = some r → ra_Ru 2 mX12_next 15 [some (.ref a0), some (.int a1), some (.long a2), none, some (.long a4), none, some (.int a6), none, none] [] h (ra_oI r)) (a0 : Nat) (a6 : Int32) (a7 : Int64) (h : ra_H) (r : (Int32 × ra_H)) (e : nX12_next_86 N c15 a0 a6 a7 h = some r) : ra_Ru 2 mX12_next 86 [some (.ref a0), none, none, none, none, none, some (.int a6), some (.long a7), none] [] h (ra_oI r) :=
  ra_sound (by omega) rfl ra_rI_ok (kX12_next_86_ok N c15 hc15) (fun m av h h1 e => (ra_c0_ok (ro := ra_oV)) m av h h1 e) (fun m av h x h1 e => (ra_c0_ok (ro := ra_oI)) m av h (x, h1) e) (fun m av h x h1 e => (tJX12_next_ok N) m av h (x, h1) e) (fun m av h x h1 e => (ra_c0_ok (ro := ra_oR)) m av h (x, h1) e) (fun m av h x h1 e => (ra_c0_ok (ro := ra_oN)) m av h (x, h1) e) (fun m av h x h1 e => (ra_c0_ok (ro := ra_oF)) m av h (x, h1) e) 9 lX12_next_86 _ _ _ _ lX12_next_86_ck (show ra_run ra_rI (kX12_next_86 N c15) ra_c0 ra_c0 (tJX12_next N) ra_c0 ra_c0 ra_c0 9 lX12_next_86 [some (.ref a0), none, none, none, none, none, some (.int a6), some (.long a7), none] [] h = some r from e) _ _ rfl
def lX12_next_15 : List ra_I := [(15, .iload 6, 2, 6, 0, 0, 0, 0, []),
  (17, .bipush (12), 2, 0, 0, 0, (12), 0, []),
  (19, .if_icmp .ge (87), 3, 106, 0, 0, 0, 0, []),
  (22, .aload_n 0, 1, 0, 0, 0, 0, 0, []),
  (23, .getfield 13, 3, 12, 3, 2, 0, 0, []),
  (26, .sipush (610), 3, 0, 0, 0, (610), 0, []),
  (29, .iconst (3), 1, 0, 0, 0, (3), 0, []),
  (30, .iload 6, 2, 6, 0, 0, 0, 0, []),
  (32, .imul, 1, 0, 0, 0, 0, 0, []),
  (33, .iadd, 1, 0, 0, 0, 0, 0, []),
  (34, .iconst (1), 1, 0, 0, 0, (1), 0, []),
  (35, .iadd, 1, 0, 0, 0, 0, 0, []),
  (36, .iaload, 1, 0, 0, 0, 0, 0, []),
  (37, .i2l, 1, 0, 0, 0, 0, 0, []),
  (38, .aload_n 0, 1, 0, 0, 0, 0, 0, []),
  (39, .getfield 13, 3, 12, 3, 2, 0, 0, []),
  (42, .sipush (610), 3, 0, 0, 0, (610), 0, []),
  (45, .iconst (3), 1, 0, 0, 0, (3), 0, []),
  (46, .iload 6, 2, 6, 0, 0, 0, 0, []),
  (48, .imul, 1, 0, 0, 0, 0, 0, []),
  (49, .iadd, 1, 0, 0, 0, 0, 0, []),
  (50, .iconst (2), 1, 0, 0, 0, (2), 0, []),
  (51, .iadd, 1, 0, 0, 0, 0, 0, []),
  (52, .iaload, 1, 0, 0, 0, 0, 0, []),
  (53, .i2l, 1, 0, 0, 0, 0, 0, []),
  (54, .lmul, 1, 0, 0, 0, 0, 0, []),
  (55, .lstore 7, 2, 7, 0, 0, 0, 0, []),
  (57, .lload 7, 2, 7, 0, 0, 0, 0, []),
  (59, .lconst 0, 1, 0, 0, 0, 0, 0, []),
  (60, .lcmp, 1, 0, 0, 0, 0, 0, []),
  (61, .ifCond .le (39), 3, 100, 0, 0, 0, 0, []),
  (64, .iload_n 1, 1, 1, 0, 0, 0, 0, []),
  (65, .iconst (-1), 1, 0, 0, 0, (-1), 0, []),
  (66, .if_icmp .eq (20), 3, 86, 0, 0, 0, 0, []),
  (69, .aload_n 0, 1, 0, 0, 0, 0, 0, []),
  (70, .iload 6, 2, 6, 0, 0, 0, 0, []),
  (72, .invokevirtual 493, 3, 311, 2, 2, 0, 0, []),
  (75, .lload 4, 2, 4, 0, 0, 0, 0, []),
  (77, .lmul, 1, 0, 0, 0, 0, 0, []),
  (78, .lload_n 2, 1, 2, 0, 0, 0, 0, []),
  (79, .lload 7, 2, 7, 0, 0, 0, 0, []),
  (81, .lmul, 1, 0, 0, 0, 0, 0, []),
  (82, .lcmp, 1, 0, 0, 0, 0, 0, []),
  (83, .ifCond .le (17), 3, 100, 0, 0, 0, 0, []),
  (106, .iload_n 1, 1, 1, 0, 0, 0, 0, []),
  (107, .ireturn, 1, 0, 0, 0, 0, 0, [])]
set_option maxRecDepth 100000 in
theorem lX12_next_15_ck : lX12_next_15.all (ra_ck mX12_next 12) = true := by decide +kernel
def nX12_next_15 (N : Nat) : Nat → Nat → Int32 → Int64 → Int64 → Int32 → ra_H → Option (Int32 × ra_H)
  | 0, _, _, _, _, _, _ => none
  | n + 1, a0, a1, a2, a4, a6, h =>
  if a6 < ((12 : Int32)) then
    (ra_fR h 12 a0 3).bind fun x1 =>
    (ra_aI h 0 x1 ((((610 : Int32)) + (((3 : Int32)) * a6)) + ((1 : Int32)))).bind fun x2 =>
    (ra_fR h 12 a0 3).bind fun x3 =>
    (ra_aI h 0 x3 ((((610 : Int32)) + (((3 : Int32)) * a6)) + ((2 : Int32)))).bind fun x4 =>
    let y5 := (Int32.toInt64 x2) * (Int32.toInt64 x4)
    if (lg_cmp y5 ((0 : Int64))) ≤ 0 then
      nX12_next_100 N (nX12_next_15 N n) a0 a1 a2 a4 a6 h
    else
      if a1 = ((-1 : Int32)) then
        nX12_next_86 N (nX12_next_15 N n) a0 a6 y5 h
      else
        (fX12_hopes N a0 a6 h).bind fun q6 =>
        if (lg_cmp (q6.1 * a4) (a2 * y5)) ≤ 0 then
          nX12_next_100 N (nX12_next_15 N n) a0 a1 a2 a4 a6 q6.2
        else
          nX12_next_86 N (nX12_next_15 N n) a0 a6 y5 q6.2
  else
    some (a1, h)
def kX12_next_15 (N : Nat) (cs : Nat → Int32 → Int64 → Int64 → Int32 → ra_H → Option (Int32 × ra_H)) : Nat → List (Option Value) → List Value → ra_H → Option (Int32 × ra_H) := (ra_k1 86 (fun L S h => match L, S with
  | [some (.ref a0), _, _, _, _, _, some (.int a6), some (.long a7), _], [] => nX12_next_86 N cs a0 a6 a7 h
  | _, _ => none) (ra_k1 100 (fun L S h => match L, S with
  | [some (.ref a0), some (.int a1), some (.long a2), _, some (.long a4), _, some (.int a6), _, _], [] => nX12_next_100 N cs a0 a1 a2 a4 a6 h
  | _, _ => none) ra_k0))
theorem kX12_next_15_ok (N : Nat) (cs : Nat → Int32 → Int64 → Int64 → Int32 → ra_H → Option (Int32 × ra_H)) (hcs : ∀ a0 a1 a2 a4 a6 h r, cs a0 a1 a2 a4 a6 h = some r → ra_Ru 2 mX12_next 15 [some (.ref a0), some (.int a1), some (.long a2), none, some (.long a4), none, some (.int a6), none, none] [] h (ra_oI r)) : ra_kok 2 mX12_next ra_oI (kX12_next_15 N cs) := (ra_k1_ok (by
  intro L S h a e
  split at e
  · exact ra_Ru.weak (nX12_next_86_ok N cs hcs _ _ _ _ _ e) ⟨rfl, ⟨rfl, ⟨rfl, trivial⟩⟩⟩
  · cases e) (ra_k1_ok (by
  intro L S h a e
  split at e
  · exact ra_Ru.weak (nX12_next_100_ok N cs hcs _ _ _ _ _ _ _ e) ⟨rfl, ⟨rfl, ⟨rfl, ⟨rfl, ⟨rfl, trivial⟩⟩⟩⟩⟩
  · cases e) ra_k0_ok))
set_option maxRecDepth 100000 in
theorem nX12_next_15_ok (N : Nat) : ∀ n a0 a1 a2 a4 a6 h r, nX12_next_15 N n a0 a1 a2 a4 a6 h = some r → ra_Ru 2 mX12_next 15 [some (.ref a0), some (.int a1), some (.long a2), none, some (.long a4), none, some (.int a6), none, none] [] h (ra_oI r) := by
  intro n
  induction n with
  | zero => intro a0 a1 a2 a4 a6 h r e; cases e
  | succ n ih =>
    intro a0 a1 a2 a4 a6 h r e
    exact ra_sound (by omega) rfl ra_rI_ok (kX12_next_15_ok N (nX12_next_15 N n) ih) (fun m av h h1 e => (ra_c0_ok (ro := ra_oV)) m av h h1 e) (fun m av h x h1 e => (ra_c0_ok (ro := ra_oI)) m av h (x, h1) e) (fun m av h x h1 e => (tJX12_next_ok N) m av h (x, h1) e) (fun m av h x h1 e => (ra_c0_ok (ro := ra_oR)) m av h (x, h1) e) (fun m av h x h1 e => (ra_c0_ok (ro := ra_oN)) m av h (x, h1) e) (fun m av h x h1 e => (ra_c0_ok (ro := ra_oF)) m av h (x, h1) e) 47 lX12_next_15 _ _ _ _ lX12_next_15_ck (show ra_run ra_rI (kX12_next_15 N (nX12_next_15 N n)) ra_c0 ra_c0 (tJX12_next N) ra_c0 ra_c0 ra_c0 47 lX12_next_15 [some (.ref a0), some (.int a1), some (.long a2), none, some (.long a4), none, some (.int a6), none, none] [] h = some r from e) _ _ rfl
def lX12_next_0 : List ra_I := [(0, .aload_n 0, 1, 0, 0, 0, 0, 0, []),
  (1, .iconst (0), 1, 0, 0, 0, (0), 0, []),
  (2, .putfield 147, 3, 12, 0, 0, 0, 0, []),
  (5, .iconst (-1), 1, 0, 0, 0, (-1), 0, []),
  (6, .istore_n 1, 1, 1, 0, 0, 0, 0, []),
  (7, .lconst 0, 1, 0, 0, 0, 0, 0, []),
  (8, .lstore_n 2, 1, 2, 0, 0, 0, 0, []),
  (9, .lconst 1, 1, 0, 0, 0, 0, 1, []),
  (10, .lstore 4, 2, 4, 0, 0, 0, 0, []),
  (12, .iconst (0), 1, 0, 0, 0, (0), 0, []),
  (13, .istore 6, 2, 6, 0, 0, 0, 0, [])]
set_option maxRecDepth 100000 in
theorem lX12_next_0_ck : lX12_next_0.all (ra_ck mX12_next 12) = true := by decide +kernel
def nX12_next_0 (N : Nat) (a0 : Nat) (h : ra_H) : Option (Int32 × ra_H) :=
  (ra_fW h 12 a0 0 (.int ((0 : Int32)))).bind fun h1 =>
  nX12_next_15 N N a0 ((-1 : Int32)) ((0 : Int64)) ((1 : Int64)) ((0 : Int32)) h1
def kX12_next_0 (N : Nat) : Nat → List (Option Value) → List Value → ra_H → Option (Int32 × ra_H) := (ra_k1 15 (fun L S h => match L, S with
  | [some (.ref a0), some (.int a1), some (.long a2), _, some (.long a4), _, some (.int a6), _, _], [] => nX12_next_15 N N a0 a1 a2 a4 a6 h
  | _, _ => none) ra_k0)
theorem kX12_next_0_ok (N : Nat) : ra_kok 2 mX12_next ra_oI (kX12_next_0 N) := (ra_k1_ok (by
  intro L S h a e
  split at e
  · exact ra_Ru.weak (nX12_next_15_ok N N _ _ _ _ _ _ _ e) ⟨rfl, ⟨rfl, ⟨rfl, ⟨rfl, ⟨rfl, trivial⟩⟩⟩⟩⟩
  · cases e) ra_k0_ok)
set_option maxRecDepth 100000 in
theorem nX12_next_0_ok (N : Nat) (a0 : Nat) (h : ra_H) (r : (Int32 × ra_H)) (e : nX12_next_0 N a0 h = some r) : ra_Ru 2 mX12_next 0 [some (.ref a0), none, none, none, none, none, none, none, none] [] h (ra_oI r) :=
  ra_sound (by omega) rfl ra_rI_ok (kX12_next_0_ok N) (fun m av h h1 e => (ra_c0_ok (ro := ra_oV)) m av h h1 e) (fun m av h x h1 e => (ra_c0_ok (ro := ra_oI)) m av h (x, h1) e) (fun m av h x h1 e => (tJX12_next_ok N) m av h (x, h1) e) (fun m av h x h1 e => (ra_c0_ok (ro := ra_oR)) m av h (x, h1) e) (fun m av h x h1 e => (ra_c0_ok (ro := ra_oN)) m av h (x, h1) e) (fun m av h x h1 e => (ra_c0_ok (ro := ra_oF)) m av h (x, h1) e) 12 lX12_next_0 _ _ _ _ lX12_next_0_ck (show ra_run ra_rI (kX12_next_0 N) ra_c0 ra_c0 (tJX12_next N) ra_c0 ra_c0 ra_c0 12 lX12_next_0 [some (.ref a0), none, none, none, none, none, none, none, none] [] h = some r from e) _ _ rfl
def fX12_next (N : Nat) (p0 : Nat) (h : ra_H) : Option (Int32 × ra_H) := match ra_isOb h p0 12 with
  | true => nX12_next_0 N p0 h
  | false => none
set_option maxRecDepth 100000 in
theorem mtX12_next : ra_MT[312]? = some (mX12_next, 1, 0, (1, 13), (9, 50), (9, 51)) := rfl
theorem fX12_next_co (N : Nat) (p0 : Nat) (h : ra_H) (r : (Int32 × ra_H)) (e : fX12_next N p0 h = some r) (D : Nat) (hD : 3 ≤ D) : ra_CO D 312 [.ref p0] h (ra_oI r).1 (ra_oI r).2 := by
  have hw : ra_nw2 [.ref p0] ≤ 9 := Nat.le_of_ble_eq_true rfl
  have hdb : ∀ v ∈ ([.ref p0] : List Value), ∀ x, v ≠ .double x := by
    intro v hv x hx
    simp [hx] at hv
  unfold fX12_next at e
  split at e
  · rename_i ho
    have e1 := e
    exact ⟨2, _, mtX12_next, hD, ra_ev_of (by decide) hdb hw trivial (ra_Ru.weak (nX12_next_0_ok N p0 h _ e1) ⟨rfl, trivial⟩), (fun _ => ⟨_, _, rfl, ra_rcv_of ho (by decide) rfl⟩), (fun h => absurd h (by decide))⟩
  · cases e
/-! RedMarksModel.of(II)I -/
def mX12_of : ra_M := (yX12_of, cX12_of, 3, (some .int))
def tIX12_of (N : Nat) : Nat → List Value → ra_H → Option (Int32 × ra_H) := (ra_c1 209 (fun av h => match av with
  | [.long z0, .long z1, .long z2] => fX12_in N z0 z1 z2 h
  | _ => none) (ra_c1 218 (fun av h => match av with
  | [.ref z0, .int z1] => fX12_isBook N z0 z1 h
  | _ => none) ra_c0))
theorem tIX12_of_ok (N : Nat) : ra_cok 3 ra_oI (tIX12_of N) := (ra_c1_ok (by
  intro av h a e
  split at e
  · exact fX12_in_co N _ _ _ _ _ e 3 (by omega)
  · cases e) (ra_c1_ok (by
  intro av h a e
  split at e
  · exact fX12_isBook_co N _ _ _ _ e 3 (by omega)
  · cases e) ra_c0_ok))
def lX12_of_42 : List ra_I := [(42, .ireturn, 1, 0, 0, 0, 0, 0, [])]
set_option maxRecDepth 100000 in
theorem lX12_of_42_ck : lX12_of_42.all (ra_ck mX12_of 12) = true := by decide +kernel
def nX12_of_42 (N : Nat) (b0 : Int32) (h : ra_H) : Option (Int32 × ra_H) :=
  some (b0, h)
def kX12_of_42 (N : Nat) : Nat → List (Option Value) → List Value → ra_H → Option (Int32 × ra_H) := ra_k0
theorem kX12_of_42_ok (N : Nat) : ra_kok 3 mX12_of ra_oI (kX12_of_42 N) := ra_k0_ok
set_option maxRecDepth 100000 in
theorem nX12_of_42_ok (N : Nat) (b0 : Int32) (h : ra_H) (r : (Int32 × ra_H)) (e : nX12_of_42 N b0 h = some r) : ra_Ru 3 mX12_of 42 [none, none, none] [.int b0] h (ra_oI r) :=
  ra_sound (by omega) rfl ra_rI_ok (kX12_of_42_ok N) (fun m av h h1 e => (ra_c0_ok (ro := ra_oV)) m av h h1 e) (fun m av h x h1 e => (tIX12_of_ok N) m av h (x, h1) e) (fun m av h x h1 e => (ra_c0_ok (ro := ra_oJ)) m av h (x, h1) e) (fun m av h x h1 e => (ra_c0_ok (ro := ra_oR)) m av h (x, h1) e) (fun m av h x h1 e => (ra_c0_ok (ro := ra_oN)) m av h (x, h1) e) (fun m av h x h1 e => (ra_c0_ok (ro := ra_oF)) m av h (x, h1) e) 2 lX12_of_42 _ _ _ _ lX12_of_42_ck (show ra_run ra_rI (kX12_of_42 N) ra_c0 (tIX12_of N) ra_c0 ra_c0 ra_c0 ra_c0 2 lX12_of_42 [none, none, none] [.int b0] h = some r from e) _ _ rfl
def lX12_of_39 : List ra_I := [(39, .sipush (-1000), 3, 0, 0, 0, (-1000), 0, [])]
set_option maxRecDepth 100000 in
theorem lX12_of_39_ck : lX12_of_39.all (ra_ck mX12_of 12) = true := by decide +kernel
def nX12_of_39 (N : Nat) (h : ra_H) : Option (Int32 × ra_H) :=
  nX12_of_42 N ((-1000 : Int32)) h
def kX12_of_39 (N : Nat) : Nat → List (Option Value) → List Value → ra_H → Option (Int32 × ra_H) := (ra_k1 42 (fun L S h => match L, S with
  | [_, _, _], [.int b0] => nX12_of_42 N b0 h
  | _, _ => none) ra_k0)
theorem kX12_of_39_ok (N : Nat) : ra_kok 3 mX12_of ra_oI (kX12_of_39 N) := (ra_k1_ok (by
  intro L S h a e
  split at e
  · exact ra_Ru.weak (nX12_of_42_ok N _ _ _ e) trivial
  · cases e) ra_k0_ok)
set_option maxRecDepth 100000 in
theorem nX12_of_39_ok (N : Nat) (h : ra_H) (r : (Int32 × ra_H)) (e : nX12_of_39 N h = some r) : ra_Ru 3 mX12_of 39 [none, none, none] [] h (ra_oI r) :=
  ra_sound (by omega) rfl ra_rI_ok (kX12_of_39_ok N) (fun m av h h1 e => (ra_c0_ok (ro := ra_oV)) m av h h1 e) (fun m av h x h1 e => (tIX12_of_ok N) m av h (x, h1) e) (fun m av h x h1 e => (ra_c0_ok (ro := ra_oJ)) m av h (x, h1) e) (fun m av h x h1 e => (ra_c0_ok (ro := ra_oR)) m av h (x, h1) e) (fun m av h x h1 e => (ra_c0_ok (ro := ra_oN)) m av h (x, h1) e) (fun m av h x h1 e => (ra_c0_ok (ro := ra_oF)) m av h (x, h1) e) 2 lX12_of_39 _ _ _ _ lX12_of_39_ck (show ra_run ra_rI (kX12_of_39 N) ra_c0 (tIX12_of N) ra_c0 ra_c0 ra_c0 ra_c0 2 lX12_of_39 [none, none, none] [] h = some r from e) _ _ rfl
def lX12_of_0 : List ra_I := [(0, .aload_n 0, 1, 0, 0, 0, 0, 0, []),
  (1, .iconst (0), 1, 0, 0, 0, (0), 0, []),
  (2, .putfield 147, 3, 12, 0, 0, 0, 0, []),
  (5, .aload_n 0, 1, 0, 0, 0, 0, 0, []),
  (6, .iload_n 1, 1, 1, 0, 0, 0, 0, []),
  (7, .invokevirtual 198, 3, 218, 2, 1, 0, 0, []),
  (10, .ifCond .eq (29), 3, 39, 0, 0, 0, 0, []),
  (13, .iload_n 2, 1, 2, 0, 0, 0, 0, []),
  (14, .i2l, 1, 0, 0, 0, 0, 0, []),
  (15, .lconst 0, 1, 0, 0, 0, 0, 0, []),
  (16, .ldc2_w 181, 3, 0, 0, 0, 0, (11), []),
  (19, .invokestatic 153, 3, 209, 3, 1, 0, 0, []),
  (22, .ifCond .eq (17), 3, 39, 0, 0, 0, 0, []),
  (25, .aload_n 0, 1, 0, 0, 0, 0, 0, []),
  (26, .getfield 13, 3, 12, 3, 2, 0, 0, []),
  (29, .bipush (12), 2, 0, 0, 0, (12), 0, []),
  (31, .iload_n 1, 1, 1, 0, 0, 0, 0, []),
  (32, .imul, 1, 0, 0, 0, 0, 0, []),
  (33, .iload_n 2, 1, 2, 0, 0, 0, 0, []),
  (34, .iadd, 1, 0, 0, 0, 0, 0, []),
  (35, .iaload, 1, 0, 0, 0, 0, 0, []),
  (36, .goto (6), 3, 42, 0, 0, 0, 0, [])]
set_option maxRecDepth 100000 in
theorem lX12_of_0_ck : lX12_of_0.all (ra_ck mX12_of 12) = true := by decide +kernel
def nX12_of_0 (N : Nat) (a0 : Nat) (a1 : Int32) (a2 : Int32) (h : ra_H) : Option (Int32 × ra_H) :=
  (ra_fW h 12 a0 0 (.int ((0 : Int32)))).bind fun h1 =>
  (fX12_isBook N a0 a1 h1).bind fun q2 =>
  if q2.1 = 0 then
    nX12_of_39 N q2.2
  else
    (fX12_in N (Int32.toInt64 a2) ((0 : Int64)) ((11 : Int64)) q2.2).bind fun q3 =>
    if q3.1 = 0 then
      nX12_of_39 N q3.2
    else
      (ra_fR q3.2 12 a0 3).bind fun x4 =>
      (ra_aI q3.2 0 x4 ((((12 : Int32)) * a1) + a2)).bind fun x5 =>
      nX12_of_42 N x5 q3.2
def kX12_of_0 (N : Nat) : Nat → List (Option Value) → List Value → ra_H → Option (Int32 × ra_H) := (ra_k1 39 (fun L S h => match L, S with
  | [_, _, _], [] => nX12_of_39 N h
  | _, _ => none) (ra_k1 42 (fun L S h => match L, S with
  | [_, _, _], [.int b0] => nX12_of_42 N b0 h
  | _, _ => none) ra_k0))
theorem kX12_of_0_ok (N : Nat) : ra_kok 3 mX12_of ra_oI (kX12_of_0 N) := (ra_k1_ok (by
  intro L S h a e
  split at e
  · exact ra_Ru.weak (nX12_of_39_ok N _ _ e) trivial
  · cases e) (ra_k1_ok (by
  intro L S h a e
  split at e
  · exact ra_Ru.weak (nX12_of_42_ok N _ _ _ e) trivial
  · cases e) ra_k0_ok))
set_option maxRecDepth 100000 in
theorem nX12_of_0_ok (N : Nat) (a0 : Nat) (a1 : Int32) (a2 : Int32) (h : ra_H) (r : (Int32 × ra_H)) (e : nX12_of_0 N a0 a1 a2 h = some r) : ra_Ru 3 mX12_of 0 [some (.ref a0), some (.int a1), some (.int a2)] [] h (ra_oI r) :=
  ra_sound (by omega) rfl ra_rI_ok (kX12_of_0_ok N) (fun m av h h1 e => (ra_c0_ok (ro := ra_oV)) m av h h1 e) (fun m av h x h1 e => (tIX12_of_ok N) m av h (x, h1) e) (fun m av h x h1 e => (ra_c0_ok (ro := ra_oJ)) m av h (x, h1) e) (fun m av h x h1 e => (ra_c0_ok (ro := ra_oR)) m av h (x, h1) e) (fun m av h x h1 e => (ra_c0_ok (ro := ra_oN)) m av h (x, h1) e) (fun m av h x h1 e => (ra_c0_ok (ro := ra_oF)) m av h (x, h1) e) 23 lX12_of_0 _ _ _ _ lX12_of_0_ck (show ra_run ra_rI (kX12_of_0 N) ra_c0 (tIX12_of N) ra_c0 ra_c0 ra_c0 ra_c0 23 lX12_of_0 [some (.ref a0), some (.int a1), some (.int a2)] [] h = some r from e) _ _ rfl
def fX12_of (N : Nat) (p0 : Nat) (p1 : Int32) (p2 : Int32) (h : ra_H) : Option (Int32 × ra_H) := match ra_isOb h p0 12 with
  | true => nX12_of_0 N p0 p1 p2 h
  | false => none
set_option maxRecDepth 100000 in
theorem mtX12_of : ra_MT[221]? = some (mX12_of, 1, 2, (1, 13), (7, 143), (7, 144)) := rfl
theorem fX12_of_co (N : Nat) (p0 : Nat) (p1 : Int32) (p2 : Int32) (h : ra_H) (r : (Int32 × ra_H)) (e : fX12_of N p0 p1 p2 h = some r) (D : Nat) (hD : 4 ≤ D) : ra_CO D 221 [.ref p0, .int p1, .int p2] h (ra_oI r).1 (ra_oI r).2 := by
  have hw : ra_nw2 [.ref p0, .int p1, .int p2] ≤ 3 := Nat.le_of_ble_eq_true rfl
  have hdb : ∀ v ∈ ([.ref p0, .int p1, .int p2] : List Value), ∀ x, v ≠ .double x := by
    intro v hv x hx
    simp [hx] at hv
  unfold fX12_of at e
  split at e
  · rename_i ho
    have e1 := e
    exact ⟨3, _, mtX12_of, hD, ra_ev_of (by decide) hdb hw trivial (ra_Ru.weak (nX12_of_0_ok N p0 p1 p2 h _ e1) ⟨rfl, ⟨rfl, ⟨rfl, trivial⟩⟩⟩), (fun _ => ⟨_, _, rfl, ra_rcv_of ho (by decide) rfl⟩), (fun h => absurd h (by decide))⟩
  · cases e
/-! RedMarksModel.on(III)I -/
def mX12_on : ra_M := (yX12_on, cX12_on, 4, (some .int))
def tVX12_on (N : Nat) : Nat → List Value → ra_H → Option ra_H := (ra_c1 271 (fun av h => match av with
  | [.ref z0, .int z1] => fX12_lookAt N z0 z1 h
  | _ => none) ra_c0)
theorem tVX12_on_ok (N : Nat) : ra_cok 8 ra_oV (tVX12_on N) := (ra_c1_ok (by
  intro av h a e
  split at e
  · exact fX12_lookAt_co N _ _ _ _ e 8 (by omega)
  · cases e) ra_c0_ok)
def tIX12_on (N : Nat) : Nat → List Value → ra_H → Option (Int32 × ra_H) := (ra_c1 209 (fun av h => match av with
  | [.long z0, .long z1, .long z2] => fX12_in N z0 z1 z2 h
  | _ => none) (ra_c1 224 (fun av h => match av with
  | [.int z0, .int z1] => fX12_isShelf N z0 z1 h
  | _ => none) (ra_c1 269 (fun av h => match av with
  | [.ref z0] => fX12_lookKept N z0 h
  | _ => none) ra_c0)))
theorem tIX12_on_ok (N : Nat) : ra_cok 8 ra_oI (tIX12_on N) := (ra_c1_ok (by
  intro av h a e
  split at e
  · exact fX12_in_co N _ _ _ _ _ e 8 (by omega)
  · cases e) (ra_c1_ok (by
  intro av h a e
  split at e
  · exact fX12_isShelf_co N _ _ _ _ e 8 (by omega)
  · cases e) (ra_c1_ok (by
  intro av h a e
  split at e
  · exact fX12_lookKept_co N _ _ _ e 8 (by omega)
  · cases e) ra_c0_ok)))
def lX12_on_20 : List ra_I := [(20, .iconst (-1), 1, 0, 0, 0, (-1), 0, []),
  (21, .ireturn, 1, 0, 0, 0, 0, 0, [])]
set_option maxRecDepth 100000 in
theorem lX12_on_20_ck : lX12_on_20.all (ra_ck mX12_on 12) = true := by decide +kernel
def nX12_on_20 (N : Nat) (h : ra_H) : Option (Int32 × ra_H) :=
  some ((-1 : Int32), h)
def kX12_on_20 (N : Nat) : Nat → List (Option Value) → List Value → ra_H → Option (Int32 × ra_H) := ra_k0
theorem kX12_on_20_ok (N : Nat) : ra_kok 8 mX12_on ra_oI (kX12_on_20 N) := ra_k0_ok
set_option maxRecDepth 100000 in
theorem nX12_on_20_ok (N : Nat) (h : ra_H) (r : (Int32 × ra_H)) (e : nX12_on_20 N h = some r) : ra_Ru 8 mX12_on 20 [none, none, none, none] [] h (ra_oI r) :=
  ra_sound (by omega) rfl ra_rI_ok (kX12_on_20_ok N) (fun m av h h1 e => (tVX12_on_ok N) m av h h1 e) (fun m av h x h1 e => (tIX12_on_ok N) m av h (x, h1) e) (fun m av h x h1 e => (ra_c0_ok (ro := ra_oJ)) m av h (x, h1) e) (fun m av h x h1 e => (ra_c0_ok (ro := ra_oR)) m av h (x, h1) e) (fun m av h x h1 e => (ra_c0_ok (ro := ra_oN)) m av h (x, h1) e) (fun m av h x h1 e => (ra_c0_ok (ro := ra_oF)) m av h (x, h1) e) 3 lX12_on_20 _ _ _ _ lX12_on_20_ck (show ra_run ra_rI (kX12_on_20 N) (tVX12_on N) (tIX12_on N) ra_c0 ra_c0 ra_c0 ra_c0 3 lX12_on_20 [none, none, none, none] [] h = some r from e) _ _ rfl
def lX12_on_58 : List ra_I := [(58, .ireturn, 1, 0, 0, 0, 0, 0, [])]
set_option maxRecDepth 100000 in
theorem lX12_on_58_ck : lX12_on_58.all (ra_ck mX12_on 12) = true := by decide +kernel
def nX12_on_58 (N : Nat) (b0 : Int32) (h : ra_H) : Option (Int32 × ra_H) :=
  some (b0, h)
def kX12_on_58 (N : Nat) : Nat → List (Option Value) → List Value → ra_H → Option (Int32 × ra_H) := ra_k0
theorem kX12_on_58_ok (N : Nat) : ra_kok 8 mX12_on ra_oI (kX12_on_58 N) := ra_k0_ok
set_option maxRecDepth 100000 in
theorem nX12_on_58_ok (N : Nat) (b0 : Int32) (h : ra_H) (r : (Int32 × ra_H)) (e : nX12_on_58 N b0 h = some r) : ra_Ru 8 mX12_on 58 [none, none, none, none] [.int b0] h (ra_oI r) :=
  ra_sound (by omega) rfl ra_rI_ok (kX12_on_58_ok N) (fun m av h h1 e => (tVX12_on_ok N) m av h h1 e) (fun m av h x h1 e => (tIX12_on_ok N) m av h (x, h1) e) (fun m av h x h1 e => (ra_c0_ok (ro := ra_oJ)) m av h (x, h1) e) (fun m av h x h1 e => (ra_c0_ok (ro := ra_oR)) m av h (x, h1) e) (fun m av h x h1 e => (ra_c0_ok (ro := ra_oN)) m av h (x, h1) e) (fun m av h x h1 e => (ra_c0_ok (ro := ra_oF)) m av h (x, h1) e) 2 lX12_on_58 _ _ _ _ lX12_on_58_ck (show ra_run ra_rI (kX12_on_58 N) (tVX12_on N) (tIX12_on N) ra_c0 ra_c0 ra_c0 ra_c0 2 lX12_on_58 [none, none, none, none] [.int b0] h = some r from e) _ _ rfl
def lX12_on_0 : List ra_I := [(0, .aload_n 0, 1, 0, 0, 0, 0, 0, []),
  (1, .iconst (0), 1, 0, 0, 0, (0), 0, []),
  (2, .putfield 147, 3, 12, 0, 0, 0, 0, []),
  (5, .iload_n 1, 1, 1, 0, 0, 0, 0, []),
  (6, .iload_n 2, 1, 2, 0, 0, 0, 0, []),
  (7, .invokestatic 205, 3, 224, 2, 1, 0, 0, []),
  (10, .ifCond .eq (10), 3, 20, 0, 0, 0, 0, []),
  (13, .aload_n 0, 1, 0, 0, 0, 0, 0, []),
  (14, .invokevirtual 425, 3, 269, 1, 1, 0, 0, []),
  (17, .ifCond .ne (5), 3, 22, 0, 0, 0, 0, []),
  (22, .aload_n 0, 1, 0, 0, 0, 0, 0, []),
  (23, .bipush (6), 2, 0, 0, 0, (6), 0, []),
  (25, .iload_n 1, 1, 1, 0, 0, 0, 0, []),
  (26, .imul, 1, 0, 0, 0, 0, 0, []),
  (27, .iload_n 2, 1, 2, 0, 0, 0, 0, []),
  (28, .iadd, 1, 0, 0, 0, 0, 0, []),
  (29, .invokevirtual 431, 3, 271, 2, 0, 0, 0, []),
  (32, .iload_n 3, 1, 3, 0, 0, 0, 0, []),
  (33, .i2l, 1, 0, 0, 0, 0, 0, []),
  (34, .lconst 0, 1, 0, 0, 0, 0, 0, []),
  (35, .aload_n 0, 1, 0, 0, 0, 0, 0, []),
  (36, .getfield 428, 3, 12, 43, 0, 0, 0, []),
  (39, .i2l, 1, 0, 0, 0, 0, 0, []),
  (40, .lconst 1, 1, 0, 0, 0, 0, 1, []),
  (41, .lsub, 1, 0, 0, 0, 0, 0, []),
  (42, .invokestatic 153, 3, 209, 3, 1, 0, 0, []),
  (45, .ifCond .eq (12), 3, 57, 0, 0, 0, 0, []),
  (48, .aload_n 0, 1, 0, 0, 0, 0, 0, []),
  (49, .getfield 107, 3, 12, 42, 2, 0, 0, []),
  (52, .iload_n 3, 1, 3, 0, 0, 0, 0, []),
  (53, .iaload, 1, 0, 0, 0, 0, 0, []),
  (54, .goto (4), 3, 58, 0, 0, 0, 0, []),
  (57, .iconst (-1), 1, 0, 0, 0, (-1), 0, [])]
set_option maxRecDepth 100000 in
theorem lX12_on_0_ck : lX12_on_0.all (ra_ck mX12_on 12) = true := by decide +kernel
def nX12_on_0 (N : Nat) (a0 : Nat) (a1 : Int32) (a2 : Int32) (a3 : Int32) (h : ra_H) : Option (Int32 × ra_H) :=
  (ra_fW h 12 a0 0 (.int ((0 : Int32)))).bind fun h1 =>
  (fX12_isShelf N a1 a2 h1).bind fun q2 =>
  if q2.1 = 0 then
    nX12_on_20 N q2.2
  else
    (fX12_lookKept N a0 q2.2).bind fun q3 =>
    if q3.1 = 0 then
      nX12_on_20 N q3.2
    else
      (fX12_lookAt N a0 ((((6 : Int32)) * a1) + a2) q3.2).bind fun h4 =>
      (ra_fI h4 12 a0 43).bind fun x5 =>
      (fX12_in N (Int32.toInt64 a3) ((0 : Int64)) ((Int32.toInt64 x5) - ((1 : Int64))) h4).bind fun q6 =>
      if q6.1 = 0 then
        nX12_on_58 N ((-1 : Int32)) q6.2
      else
        (ra_fR q6.2 12 a0 42).bind fun x7 =>
        (ra_aI q6.2 0 x7 a3).bind fun x8 =>
        nX12_on_58 N x8 q6.2
def kX12_on_0 (N : Nat) : Nat → List (Option Value) → List Value → ra_H → Option (Int32 × ra_H) := (ra_k1 20 (fun L S h => match L, S with
  | [_, _, _, _], [] => nX12_on_20 N h
  | _, _ => none) (ra_k1 58 (fun L S h => match L, S with
  | [_, _, _, _], [.int b0] => nX12_on_58 N b0 h
  | _, _ => none) ra_k0))
theorem kX12_on_0_ok (N : Nat) : ra_kok 8 mX12_on ra_oI (kX12_on_0 N) := (ra_k1_ok (by
  intro L S h a e
  split at e
  · exact ra_Ru.weak (nX12_on_20_ok N _ _ e) trivial
  · cases e) (ra_k1_ok (by
  intro L S h a e
  split at e
  · exact ra_Ru.weak (nX12_on_58_ok N _ _ _ e) trivial
  · cases e) ra_k0_ok))
set_option maxRecDepth 100000 in
theorem nX12_on_0_ok (N : Nat) (a0 : Nat) (a1 : Int32) (a2 : Int32) (a3 : Int32) (h : ra_H) (r : (Int32 × ra_H)) (e : nX12_on_0 N a0 a1 a2 a3 h = some r) : ra_Ru 8 mX12_on 0 [some (.ref a0), some (.int a1), some (.int a2), some (.int a3)] [] h (ra_oI r) :=
  ra_sound (by omega) rfl ra_rI_ok (kX12_on_0_ok N) (fun m av h h1 e => (tVX12_on_ok N) m av h h1 e) (fun m av h x h1 e => (tIX12_on_ok N) m av h (x, h1) e) (fun m av h x h1 e => (ra_c0_ok (ro := ra_oJ)) m av h (x, h1) e) (fun m av h x h1 e => (ra_c0_ok (ro := ra_oR)) m av h (x, h1) e) (fun m av h x h1 e => (ra_c0_ok (ro := ra_oN)) m av h (x, h1) e) (fun m av h x h1 e => (ra_c0_ok (ro := ra_oF)) m av h (x, h1) e) 34 lX12_on_0 _ _ _ _ lX12_on_0_ck (show ra_run ra_rI (kX12_on_0 N) (tVX12_on N) (tIX12_on N) ra_c0 ra_c0 ra_c0 ra_c0 34 lX12_on_0 [some (.ref a0), some (.int a1), some (.int a2), some (.int a3)] [] h = some r from e) _ _ rfl
def fX12_on (N : Nat) (p0 : Nat) (p1 : Int32) (p2 : Int32) (p3 : Int32) (h : ra_H) : Option (Int32 × ra_H) := match ra_isOb h p0 12 with
  | true => nX12_on_0 N p0 p1 p2 p3 h
  | false => none
set_option maxRecDepth 100000 in
theorem mtX12_on : ra_MT[270]? = some (mX12_on, 1, 3, (1, 13), (8, 118), (8, 119)) := rfl
theorem fX12_on_co (N : Nat) (p0 : Nat) (p1 : Int32) (p2 : Int32) (p3 : Int32) (h : ra_H) (r : (Int32 × ra_H)) (e : fX12_on N p0 p1 p2 p3 h = some r) (D : Nat) (hD : 9 ≤ D) : ra_CO D 270 [.ref p0, .int p1, .int p2, .int p3] h (ra_oI r).1 (ra_oI r).2 := by
  have hw : ra_nw2 [.ref p0, .int p1, .int p2, .int p3] ≤ 4 := Nat.le_of_ble_eq_true rfl
  have hdb : ∀ v ∈ ([.ref p0, .int p1, .int p2, .int p3] : List Value), ∀ x, v ≠ .double x := by
    intro v hv x hx
    simp [hx] at hv
  unfold fX12_on at e
  split at e
  · rename_i ho
    have e1 := e
    exact ⟨8, _, mtX12_on, hD, ra_ev_of (by decide) hdb hw trivial (ra_Ru.weak (nX12_on_0_ok N p0 p1 p2 p3 h _ e1) ⟨rfl, ⟨rfl, ⟨rfl, ⟨rfl, trivial⟩⟩⟩⟩), (fun _ => ⟨_, _, rfl, ra_rcv_of ho (by decide) rfl⟩), (fun h => absurd h (by decide))⟩
  · cases e
/-! RedMarksModel.openBracket(I)V -/
def mX12_openBracket : ra_M := (yX12_openBracket, cX12_openBracket, 2, none)
def tVX12_openBracket (N : Nat) : Nat → List Value → ra_H → Option ra_H := (ra_c1 239 (fun av h => match av with
  | [.ref z0, .int z1] => fX12_must N z0 z1 h
  | _ => none) (ra_c1 242 (fun av h => match av with
  | [.ref z0, .int z1, .int z2] => fX12_push N z0 z1 z2 h
  | _ => none) ra_c0))
theorem tVX12_openBracket_ok (N : Nat) : ra_cok 4 ra_oV (tVX12_openBracket N) := (ra_c1_ok (by
  intro av h a e
  split at e
  · exact fX12_must_co N _ _ _ _ e 4 (by omega)
  · cases e) (ra_c1_ok (by
  intro av h a e
  split at e
  · exact fX12_push_co N _ _ _ _ _ e 4 (by omega)
  · cases e) ra_c0_ok))
def lX12_openBracket_41 : List ra_I := [(41, .return_, 1, 0, 0, 0, 0, 0, [])]
set_option maxRecDepth 100000 in
theorem lX12_openBracket_41_ck : lX12_openBracket_41.all (ra_ck mX12_openBracket 12) = true := by decide +kernel
def nX12_openBracket_41 (N : Nat) (h : ra_H) : Option ra_H :=
  some h
def kX12_openBracket_41 (N : Nat) : Nat → List (Option Value) → List Value → ra_H → Option ra_H := ra_k0
theorem kX12_openBracket_41_ok (N : Nat) : ra_kok 4 mX12_openBracket ra_oV (kX12_openBracket_41 N) := ra_k0_ok
set_option maxRecDepth 100000 in
theorem nX12_openBracket_41_ok (N : Nat) (h : ra_H) (r : ra_H) (e : nX12_openBracket_41 N h = some r) : ra_Ru 4 mX12_openBracket 41 [none, none] [] h (ra_oV r) :=
  ra_sound (by omega) rfl ra_rV_ok (kX12_openBracket_41_ok N) (fun m av h h1 e => (tVX12_openBracket_ok N) m av h h1 e) (fun m av h x h1 e => (ra_c0_ok (ro := ra_oI)) m av h (x, h1) e) (fun m av h x h1 e => (ra_c0_ok (ro := ra_oJ)) m av h (x, h1) e) (fun m av h x h1 e => (ra_c0_ok (ro := ra_oR)) m av h (x, h1) e) (fun m av h x h1 e => (ra_c0_ok (ro := ra_oN)) m av h (x, h1) e) (fun m av h x h1 e => (ra_c0_ok (ro := ra_oF)) m av h (x, h1) e) 2 lX12_openBracket_41 _ _ _ _ lX12_openBracket_41_ck (show ra_run ra_rV (kX12_openBracket_41 N) (tVX12_openBracket N) ra_c0 ra_c0 ra_c0 ra_c0 ra_c0 2 lX12_openBracket_41 [none, none] [] h = some r from e) _ _ rfl
def lX12_openBracket_15 : List ra_I := [(15, .invokevirtual 260, 3, 239, 2, 0, 0, 0, []),
  (18, .aload_n 0, 1, 0, 0, 0, 0, 0, []),
  (19, .getfield 225, 3, 12, 14, 0, 0, 0, []),
  (22, .ifCond .ne (19), 3, 41, 0, 0, 0, 0, []),
  (25, .aload_n 0, 1, 0, 0, 0, 0, 0, []),
  (26, .dup, 1, 0, 0, 0, 0, 0, []),
  (27, .getfield 293, 3, 12, 24, 0, 0, 0, []),
  (30, .iconst (1), 1, 0, 0, 0, (1), 0, []),
  (31, .iadd, 1, 0, 0, 0, 0, 0, []),
  (32, .putfield 293, 3, 12, 24, 0, 0, 0, []),
  (35, .aload_n 0, 1, 0, 0, 0, 0, 0, []),
  (36, .iload_n 1, 1, 1, 0, 0, 0, 0, []),
  (37, .iconst (0), 1, 0, 0, 0, (0), 0, []),
  (38, .invokevirtual 296, 3, 242, 3, 0, 0, 0, [])]
set_option maxRecDepth 100000 in
theorem lX12_openBracket_15_ck : lX12_openBracket_15.all (ra_ck mX12_openBracket 12) = true := by decide +kernel
def nX12_openBracket_15 (N : Nat) (a0 : Nat) (a1 : Int32) (b0 : Nat) (b1 : Int32) (h : ra_H) : Option ra_H :=
  (fX12_must N b0 b1 h).bind fun h1 =>
  (ra_fI h1 12 a0 14).bind fun x2 =>
  if x2 = 0 then
    (ra_fI h1 12 a0 24).bind fun x3 =>
    (ra_fW h1 12 a0 24 (.int (x3 + ((1 : Int32))))).bind fun h4 =>
    (fX12_push N a0 a1 ((0 : Int32)) h4).bind fun h5 =>
    nX12_openBracket_41 N h5
  else
    nX12_openBracket_41 N h1
def kX12_openBracket_15 (N : Nat) : Nat → List (Option Value) → List Value → ra_H → Option ra_H := (ra_k1 41 (fun L S h => match L, S with
  | [_, _], [] => nX12_openBracket_41 N h
  | _, _ => none) ra_k0)
theorem kX12_openBracket_15_ok (N : Nat) : ra_kok 4 mX12_openBracket ra_oV (kX12_openBracket_15 N) := (ra_k1_ok (by
  intro L S h a e
  split at e
  · exact ra_Ru.weak (nX12_openBracket_41_ok N _ _ e) trivial
  · cases e) ra_k0_ok)
set_option maxRecDepth 100000 in
theorem nX12_openBracket_15_ok (N : Nat) (a0 : Nat) (a1 : Int32) (b0 : Nat) (b1 : Int32) (h : ra_H) (r : ra_H) (e : nX12_openBracket_15 N a0 a1 b0 b1 h = some r) : ra_Ru 4 mX12_openBracket 15 [some (.ref a0), some (.int a1)] [.int b1, .ref b0] h (ra_oV r) :=
  ra_sound (by omega) rfl ra_rV_ok (kX12_openBracket_15_ok N) (fun m av h h1 e => (tVX12_openBracket_ok N) m av h h1 e) (fun m av h x h1 e => (ra_c0_ok (ro := ra_oI)) m av h (x, h1) e) (fun m av h x h1 e => (ra_c0_ok (ro := ra_oJ)) m av h (x, h1) e) (fun m av h x h1 e => (ra_c0_ok (ro := ra_oR)) m av h (x, h1) e) (fun m av h x h1 e => (ra_c0_ok (ro := ra_oN)) m av h (x, h1) e) (fun m av h x h1 e => (ra_c0_ok (ro := ra_oF)) m av h (x, h1) e) 15 lX12_openBracket_15 _ _ _ _ lX12_openBracket_15_ck (show ra_run ra_rV (kX12_openBracket_15 N) (tVX12_openBracket N) ra_c0 ra_c0 ra_c0 ra_c0 ra_c0 15 lX12_openBracket_15 [some (.ref a0), some (.int a1)] [.int b1, .ref b0] h = some r from e) _ _ rfl
def lX12_openBracket_0 : List ra_I := [(0, .aload_n 0, 1, 0, 0, 0, 0, 0, []),
  (1, .aload_n 0, 1, 0, 0, 0, 0, 0, []),
  (2, .getfield 293, 3, 12, 24, 0, 0, 0, []),
  (5, .bipush (8), 2, 0, 0, 0, (8), 0, []),
  (7, .if_icmp .ge (7), 3, 14, 0, 0, 0, 0, []),
  (10, .iconst (1), 1, 0, 0, 0, (1), 0, []),
  (11, .goto (4), 3, 15, 0, 0, 0, 0, []),
  (14, .iconst (0), 1, 0, 0, 0, (0), 0, [])]
set_option maxRecDepth 100000 in
theorem lX12_openBracket_0_ck : lX12_openBracket_0.all (ra_ck mX12_openBracket 12) = true := by decide +kernel
def nX12_openBracket_0 (N : Nat) (a0 : Nat) (a1 : Int32) (h : ra_H) : Option ra_H :=
  (ra_fI h 12 a0 24).bind fun x1 =>
  if x1 < ((8 : Int32)) then
    nX12_openBracket_15 N a0 a1 a0 ((1 : Int32)) h
  else
    nX12_openBracket_15 N a0 a1 a0 ((0 : Int32)) h
def kX12_openBracket_0 (N : Nat) : Nat → List (Option Value) → List Value → ra_H → Option ra_H := (ra_k1 15 (fun L S h => match L, S with
  | [some (.ref a0), some (.int a1)], [.int b1, .ref b0] => nX12_openBracket_15 N a0 a1 b0 b1 h
  | _, _ => none) ra_k0)
theorem kX12_openBracket_0_ok (N : Nat) : ra_kok 4 mX12_openBracket ra_oV (kX12_openBracket_0 N) := (ra_k1_ok (by
  intro L S h a e
  split at e
  · exact ra_Ru.weak (nX12_openBracket_15_ok N _ _ _ _ _ _ e) ⟨rfl, ⟨rfl, trivial⟩⟩
  · cases e) ra_k0_ok)
set_option maxRecDepth 100000 in
theorem nX12_openBracket_0_ok (N : Nat) (a0 : Nat) (a1 : Int32) (h : ra_H) (r : ra_H) (e : nX12_openBracket_0 N a0 a1 h = some r) : ra_Ru 4 mX12_openBracket 0 [some (.ref a0), some (.int a1)] [] h (ra_oV r) :=
  ra_sound (by omega) rfl ra_rV_ok (kX12_openBracket_0_ok N) (fun m av h h1 e => (tVX12_openBracket_ok N) m av h h1 e) (fun m av h x h1 e => (ra_c0_ok (ro := ra_oI)) m av h (x, h1) e) (fun m av h x h1 e => (ra_c0_ok (ro := ra_oJ)) m av h (x, h1) e) (fun m av h x h1 e => (ra_c0_ok (ro := ra_oR)) m av h (x, h1) e) (fun m av h x h1 e => (ra_c0_ok (ro := ra_oN)) m av h (x, h1) e) (fun m av h x h1 e => (ra_c0_ok (ro := ra_oF)) m av h (x, h1) e) 9 lX12_openBracket_0 _ _ _ _ lX12_openBracket_0_ck (show ra_run ra_rV (kX12_openBracket_0 N) (tVX12_openBracket N) ra_c0 ra_c0 ra_c0 ra_c0 ra_c0 9 lX12_openBracket_0 [some (.ref a0), some (.int a1)] [] h = some r from e) _ _ rfl
def fX12_openBracket (N : Nat) (p0 : Nat) (p1 : Int32) (h : ra_H) : Option ra_H := match ra_isOb h p0 12 with
  | true => nX12_openBracket_0 N p0 p1 h
  | false => none
set_option maxRecDepth 100000 in
theorem mtX12_openBracket : ra_MT[244]? = some (mX12_openBracket, 1, 1, (1, 13), (8, 3), (0, 77)) := rfl
theorem fX12_openBracket_co (N : Nat) (p0 : Nat) (p1 : Int32) (h : ra_H) (r : ra_H) (e : fX12_openBracket N p0 p1 h = some r) (D : Nat) (hD : 5 ≤ D) : ra_CO D 244 [.ref p0, .int p1] h (ra_oV r).1 (ra_oV r).2 := by
  have hw : ra_nw2 [.ref p0, .int p1] ≤ 2 := Nat.le_of_ble_eq_true rfl
  have hdb : ∀ v ∈ ([.ref p0, .int p1] : List Value), ∀ x, v ≠ .double x := by
    intro v hv x hx
    simp [hx] at hv
  unfold fX12_openBracket at e
  split at e
  · rename_i ho
    have e1 := e
    exact ⟨4, _, mtX12_openBracket, hD, ra_ev_of (by decide) hdb hw trivial (ra_Ru.weak (nX12_openBracket_0_ok N p0 p1 h _ e1) ⟨rfl, ⟨rfl, trivial⟩⟩), (fun _ => ⟨_, _, rfl, ra_rcv_of ho (by decide) rfl⟩), (fun h => absurd h (by decide))⟩
  · cases e
/-! RedMarksModel.oursOf(II)I -/
def mX12_oursOf : ra_M := (yX12_oursOf, cX12_oursOf, 3, (some .int))
def tVX12_oursOf (N : Nat) : Nat → List Value → ra_H → Option ra_H := (ra_c1 259 (fun av h => match av with
  | [.ref z0, .int z1, .int z2, .int z3] => fX12_ask N z0 z1 z2 z3 h
  | _ => none) ra_c0)
theorem tVX12_oursOf_ok (N : Nat) : ra_cok 5 ra_oV (tVX12_oursOf N) := (ra_c1_ok (by
  intro av h a e
  split at e
  · exact fX12_ask_co N _ _ _ _ _ _ e 5 (by omega)
  · cases e) ra_c0_ok)
def lX12_oursOf_42 : List ra_I := [(42, .ireturn, 1, 0, 0, 0, 0, 0, [])]
set_option maxRecDepth 100000 in
theorem lX12_oursOf_42_ck : lX12_oursOf_42.all (ra_ck mX12_oursOf 12) = true := by decide +kernel
def nX12_oursOf_42 (N : Nat) (b0 : Int32) (h : ra_H) : Option (Int32 × ra_H) :=
  some (b0, h)
def kX12_oursOf_42 (N : Nat) : Nat → List (Option Value) → List Value → ra_H → Option (Int32 × ra_H) := ra_k0
theorem kX12_oursOf_42_ok (N : Nat) : ra_kok 5 mX12_oursOf ra_oI (kX12_oursOf_42 N) := ra_k0_ok
set_option maxRecDepth 100000 in
theorem nX12_oursOf_42_ok (N : Nat) (b0 : Int32) (h : ra_H) (r : (Int32 × ra_H)) (e : nX12_oursOf_42 N b0 h = some r) : ra_Ru 5 mX12_oursOf 42 [none, none, none] [.int b0] h (ra_oI r) :=
  ra_sound (by omega) rfl ra_rI_ok (kX12_oursOf_42_ok N) (fun m av h h1 e => (tVX12_oursOf_ok N) m av h h1 e) (fun m av h x h1 e => (ra_c0_ok (ro := ra_oI)) m av h (x, h1) e) (fun m av h x h1 e => (ra_c0_ok (ro := ra_oJ)) m av h (x, h1) e) (fun m av h x h1 e => (ra_c0_ok (ro := ra_oR)) m av h (x, h1) e) (fun m av h x h1 e => (ra_c0_ok (ro := ra_oN)) m av h (x, h1) e) (fun m av h x h1 e => (ra_c0_ok (ro := ra_oF)) m av h (x, h1) e) 2 lX12_oursOf_42 _ _ _ _ lX12_oursOf_42_ck (show ra_run ra_rI (kX12_oursOf_42 N) (tVX12_oursOf N) ra_c0 ra_c0 ra_c0 ra_c0 ra_c0 2 lX12_oursOf_42 [none, none, none] [.int b0] h = some r from e) _ _ rfl
def lX12_oursOf_0 : List ra_I := [(0, .aload_n 0, 1, 0, 0, 0, 0, 0, []),
  (1, .iload_n 1, 1, 1, 0, 0, 0, 0, []),
  (2, .iload_n 2, 1, 2, 0, 0, 0, 0, []),
  (3, .iconst (3), 1, 0, 0, 0, (3), 0, []),
  (4, .invokevirtual 396, 3, 259, 4, 0, 0, 0, []),
  (7, .aload_n 0, 1, 0, 0, 0, 0, 0, []),
  (8, .getfield 387, 3, 12, 34, 1, 0, 0, []),
  (11, .lconst 0, 1, 0, 0, 0, 0, 0, []),
  (12, .lcmp, 1, 0, 0, 0, 0, 0, []),
  (13, .ifCond .ge (7), 3, 20, 0, 0, 0, 0, []),
  (16, .iconst (0), 1, 0, 0, 0, (0), 0, []),
  (17, .goto (25), 3, 42, 0, 0, 0, 0, []),
  (20, .aload_n 0, 1, 0, 0, 0, 0, 0, []),
  (21, .getfield 387, 3, 12, 34, 1, 0, 0, []),
  (24, .ldc2_w 312, 3, 0, 0, 0, 0, (1000), []),
  (27, .lcmp, 1, 0, 0, 0, 0, 0, []),
  (28, .ifCond .le (9), 3, 37, 0, 0, 0, 0, []),
  (31, .sipush (1000), 3, 0, 0, 0, (1000), 0, []),
  (34, .goto (8), 3, 42, 0, 0, 0, 0, []),
  (37, .aload_n 0, 1, 0, 0, 0, 0, 0, []),
  (38, .getfield 387, 3, 12, 34, 1, 0, 0, []),
  (41, .l2i, 1, 0, 0, 0, 0, 0, [])]
set_option maxRecDepth 100000 in
theorem lX12_oursOf_0_ck : lX12_oursOf_0.all (ra_ck mX12_oursOf 12) = true := by decide +kernel
def nX12_oursOf_0 (N : Nat) (a0 : Nat) (a1 : Int32) (a2 : Int32) (h : ra_H) : Option (Int32 × ra_H) :=
  (fX12_ask N a0 a1 a2 ((3 : Int32)) h).bind fun h1 =>
  (ra_fJ h1 12 a0 34).bind fun x2 =>
  if (lg_cmp x2 ((0 : Int64))) < 0 then
    nX12_oursOf_42 N ((0 : Int32)) h1
  else
    (ra_fJ h1 12 a0 34).bind fun x3 =>
    if (lg_cmp x3 ((1000 : Int64))) ≤ 0 then
      (ra_fJ h1 12 a0 34).bind fun x4 =>
      nX12_oursOf_42 N (Int64.toInt32 x4) h1
    else
      nX12_oursOf_42 N ((1000 : Int32)) h1
def kX12_oursOf_0 (N : Nat) : Nat → List (Option Value) → List Value → ra_H → Option (Int32 × ra_H) := (ra_k1 42 (fun L S h => match L, S with
  | [_, _, _], [.int b0] => nX12_oursOf_42 N b0 h
  | _, _ => none) ra_k0)
theorem kX12_oursOf_0_ok (N : Nat) : ra_kok 5 mX12_oursOf ra_oI (kX12_oursOf_0 N) := (ra_k1_ok (by
  intro L S h a e
  split at e
  · exact ra_Ru.weak (nX12_oursOf_42_ok N _ _ _ e) trivial
  · cases e) ra_k0_ok)
set_option maxRecDepth 100000 in
theorem nX12_oursOf_0_ok (N : Nat) (a0 : Nat) (a1 : Int32) (a2 : Int32) (h : ra_H) (r : (Int32 × ra_H)) (e : nX12_oursOf_0 N a0 a1 a2 h = some r) : ra_Ru 5 mX12_oursOf 0 [some (.ref a0), some (.int a1), some (.int a2)] [] h (ra_oI r) :=
  ra_sound (by omega) rfl ra_rI_ok (kX12_oursOf_0_ok N) (fun m av h h1 e => (tVX12_oursOf_ok N) m av h h1 e) (fun m av h x h1 e => (ra_c0_ok (ro := ra_oI)) m av h (x, h1) e) (fun m av h x h1 e => (ra_c0_ok (ro := ra_oJ)) m av h (x, h1) e) (fun m av h x h1 e => (ra_c0_ok (ro := ra_oR)) m av h (x, h1) e) (fun m av h x h1 e => (ra_c0_ok (ro := ra_oN)) m av h (x, h1) e) (fun m av h x h1 e => (ra_c0_ok (ro := ra_oF)) m av h (x, h1) e) 23 lX12_oursOf_0 _ _ _ _ lX12_oursOf_0_ck (show ra_run ra_rI (kX12_oursOf_0 N) (tVX12_oursOf N) ra_c0 ra_c0 ra_c0 ra_c0 ra_c0 23 lX12_oursOf_0 [some (.ref a0), some (.int a1), some (.int a2)] [] h = some r from e) _ _ rfl
def fX12_oursOf (N : Nat) (p0 : Nat) (p1 : Int32) (p2 : Int32) (h : ra_H) : Option (Int32 × ra_H) := match ra_isOb h p0 12 with
  | true => nX12_oursOf_0 N p0 p1 p2 h
  | false => none
set_option maxRecDepth 100000 in
theorem mtX12_oursOf : ra_MT[301]? = some (mX12_oursOf, 1, 2, (1, 13), (9, 4), (0, 111)) := rfl
theorem fX12_oursOf_co (N : Nat) (p0 : Nat) (p1 : Int32) (p2 : Int32) (h : ra_H) (r : (Int32 × ra_H)) (e : fX12_oursOf N p0 p1 p2 h = some r) (D : Nat) (hD : 6 ≤ D) : ra_CO D 301 [.ref p0, .int p1, .int p2] h (ra_oI r).1 (ra_oI r).2 := by
  have hw : ra_nw2 [.ref p0, .int p1, .int p2] ≤ 3 := Nat.le_of_ble_eq_true rfl
  have hdb : ∀ v ∈ ([.ref p0, .int p1, .int p2] : List Value), ∀ x, v ≠ .double x := by
    intro v hv x hx
    simp [hx] at hv
  unfold fX12_oursOf at e
  split at e
  · rename_i ho
    have e1 := e
    exact ⟨5, _, mtX12_oursOf, hD, ra_ev_of (by decide) hdb hw trivial (ra_Ru.weak (nX12_oursOf_0_ok N p0 p1 p2 h _ e1) ⟨rfl, ⟨rfl, ⟨rfl, trivial⟩⟩⟩), (fun _ => ⟨_, _, rfl, ra_rcv_of ho (by decide) rfl⟩), (fun h => absurd h (by decide))⟩
  · cases e
/-! RedMarksModel.ours(III)I -/
def mX12_ours : ra_M := (yX12_ours, cX12_ours, 6, (some .int))
def tIX12_ours (N : Nat) : Nat → List Value → ra_H → Option (Int32 × ra_H) := (ra_c1 218 (fun av h => match av with
  | [.ref z0, .int z1] => fX12_isBook N z0 z1 h
  | _ => none) (ra_c1 256 (fun av h => match av with
  | [.ref z0, .int z1] => fX12_isText N z0 z1 h
  | _ => none) (ra_c1 301 (fun av h => match av with
  | [.ref z0, .int z1, .int z2] => fX12_oursOf N z0 z1 z2 h
  | _ => none) ra_c0)))
theorem tIX12_ours_ok (N : Nat) : ra_cok 6 ra_oI (tIX12_ours N) := (ra_c1_ok (by
  intro av h a e
  split at e
  · exact fX12_isBook_co N _ _ _ _ e 6 (by omega)
  · cases e) (ra_c1_ok (by
  intro av h a e
  split at e
  · exact fX12_isText_co N _ _ _ _ e 6 (by omega)
  · cases e) (ra_c1_ok (by
  intro av h a e
  split at e
  · exact fX12_oursOf_co N _ _ _ _ _ e 6 (by omega)
  · cases e) ra_c0_ok)))
def lX12_ours_34 : List ra_I := [(34, .iconst (-1), 1, 0, 0, 0, (-1), 0, []),
  (35, .ireturn, 1, 0, 0, 0, 0, 0, [])]
set_option maxRecDepth 100000 in
theorem lX12_ours_34_ck : lX12_ours_34.all (ra_ck mX12_ours 12) = true := by decide +kernel
def nX12_ours_34 (N : Nat) (h : ra_H) : Option (Int32 × ra_H) :=
  some ((-1 : Int32), h)
def kX12_ours_34 (N : Nat) : Nat → List (Option Value) → List Value → ra_H → Option (Int32 × ra_H) := ra_k0
theorem kX12_ours_34_ok (N : Nat) : ra_kok 6 mX12_ours ra_oI (kX12_ours_34 N) := ra_k0_ok
set_option maxRecDepth 100000 in
theorem nX12_ours_34_ok (N : Nat) (h : ra_H) (r : (Int32 × ra_H)) (e : nX12_ours_34 N h = some r) : ra_Ru 6 mX12_ours 34 [none, none, none, none, none, none] [] h (ra_oI r) :=
  ra_sound (by omega) rfl ra_rI_ok (kX12_ours_34_ok N) (fun m av h h1 e => (ra_c0_ok (ro := ra_oV)) m av h h1 e) (fun m av h x h1 e => (tIX12_ours_ok N) m av h (x, h1) e) (fun m av h x h1 e => (ra_c0_ok (ro := ra_oJ)) m av h (x, h1) e) (fun m av h x h1 e => (ra_c0_ok (ro := ra_oR)) m av h (x, h1) e) (fun m av h x h1 e => (ra_c0_ok (ro := ra_oN)) m av h (x, h1) e) (fun m av h x h1 e => (ra_c0_ok (ro := ra_oF)) m av h (x, h1) e) 3 lX12_ours_34 _ _ _ _ lX12_ours_34_ck (show ra_run ra_rI (kX12_ours_34 N) ra_c0 (tIX12_ours N) ra_c0 ra_c0 ra_c0 ra_c0 3 lX12_ours_34 [none, none, none, none, none, none] [] h = some r from e) _ _ rfl
def lX12_ours_80 : List ra_I := [(80, .ireturn, 1, 0, 0, 0, 0, 0, [])]
set_option maxRecDepth 100000 in
theorem lX12_ours_80_ck : lX12_ours_80.all (ra_ck mX12_ours 12) = true := by decide +kernel
def nX12_ours_80 (N : Nat) (b0 : Int32) (h : ra_H) : Option (Int32 × ra_H) :=
  some (b0, h)
def kX12_ours_80 (N : Nat) : Nat → List (Option Value) → List Value → ra_H → Option (Int32 × ra_H) := ra_k0
theorem kX12_ours_80_ok (N : Nat) : ra_kok 6 mX12_ours ra_oI (kX12_ours_80 N) := ra_k0_ok
set_option maxRecDepth 100000 in
theorem nX12_ours_80_ok (N : Nat) (b0 : Int32) (h : ra_H) (r : (Int32 × ra_H)) (e : nX12_ours_80 N b0 h = some r) : ra_Ru 6 mX12_ours 80 [none, none, none, none, none, none] [.int b0] h (ra_oI r) :=
  ra_sound (by omega) rfl ra_rI_ok (kX12_ours_80_ok N) (fun m av h h1 e => (ra_c0_ok (ro := ra_oV)) m av h h1 e) (fun m av h x h1 e => (tIX12_ours_ok N) m av h (x, h1) e) (fun m av h x h1 e => (ra_c0_ok (ro := ra_oJ)) m av h (x, h1) e) (fun m av h x h1 e => (ra_c0_ok (ro := ra_oR)) m av h (x, h1) e) (fun m av h x h1 e => (ra_c0_ok (ro := ra_oN)) m av h (x, h1) e) (fun m av h x h1 e => (ra_c0_ok (ro := ra_oF)) m av h (x, h1) e) 2 lX12_ours_80 _ _ _ _ lX12_ours_80_ck (show ra_run ra_rI (kX12_ours_80 N) ra_c0 (tIX12_ours N) ra_c0 ra_c0 ra_c0 ra_c0 2 lX12_ours_80 [none, none, none, none, none, none] [.int b0] h = some r from e) _ _ rfl
def lX12_ours_36 : List ra_I := [(36, .aload_n 0, 1, 0, 0, 0, 0, 0, []),
  (37, .iload_n 1, 1, 1, 0, 0, 0, 0, []),
  (38, .iload_n 2, 1, 2, 0, 0, 0, 0, []),
  (39, .invokevirtual 479, 3, 301, 3, 1, 0, 0, []),
  (42, .istore 4, 2, 4, 0, 0, 0, 0, []),
  (44, .iload_n 3, 1, 3, 0, 0, 0, 0, []),
  (45, .iconst (-1), 1, 0, 0, 0, (-1), 0, []),
  (46, .if_icmp .ne (6), 3, 52, 0, 0, 0, 0, []),
  (49, .iload 4, 2, 4, 0, 0, 0, 0, []),
  (51, .ireturn, 1, 0, 0, 0, 0, 0, []),
  (52, .iload 4, 2, 4, 0, 0, 0, 0, []),
  (54, .aload_n 0, 1, 0, 0, 0, 0, 0, []),
  (55, .iload_n 1, 1, 1, 0, 0, 0, 0, []),
  (56, .iload_n 3, 1, 3, 0, 0, 0, 0, []),
  (57, .invokevirtual 479, 3, 301, 3, 1, 0, 0, []),
  (60, .iadd, 1, 0, 0, 0, 0, 0, []),
  (61, .istore 5, 2, 5, 0, 0, 0, 0, []),
  (63, .iload 5, 2, 5, 0, 0, 0, 0, []),
  (65, .ifCond .ne (7), 3, 72, 0, 0, 0, 0, []),
  (68, .iconst (0), 1, 0, 0, 0, (0), 0, []),
  (69, .goto (11), 3, 80, 0, 0, 0, 0, []),
  (72, .bipush (100), 2, 0, 0, 0, (100), 0, []),
  (74, .iload 4, 2, 4, 0, 0, 0, 0, []),
  (76, .imul, 1, 0, 0, 0, 0, 0, []),
  (77, .iload 5, 2, 5, 0, 0, 0, 0, []),
  (79, .idiv, 1, 0, 0, 0, 0, 0, [])]
set_option maxRecDepth 100000 in
theorem lX12_ours_36_ck : lX12_ours_36.all (ra_ck mX12_ours 12) = true := by decide +kernel
def nX12_ours_36 (N : Nat) (a0 : Nat) (a1 : Int32) (a2 : Int32) (a3 : Int32) (h : ra_H) : Option (Int32 × ra_H) :=
  (fX12_oursOf N a0 a1 a2 h).bind fun q1 =>
  if a3 = ((-1 : Int32)) then
    some (q1.1, q1.2)
  else
    (fX12_oursOf N a0 a1 a3 q1.2).bind fun q2 =>
    let y3 := q1.1 + q2.1
    if y3 = 0 then
      nX12_ours_80 N ((0 : Int32)) q2.2
    else
      if y3 = 0 then none else
      nX12_ours_80 N ((((100 : Int32)) * q1.1) / y3) q2.2
def kX12_ours_36 (N : Nat) : Nat → List (Option Value) → List Value → ra_H → Option (Int32 × ra_H) := (ra_k1 80 (fun L S h => match L, S with
  | [_, _, _, _, _, _], [.int b0] => nX12_ours_80 N b0 h
  | _, _ => none) ra_k0)
theorem kX12_ours_36_ok (N : Nat) : ra_kok 6 mX12_ours ra_oI (kX12_ours_36 N) := (ra_k1_ok (by
  intro L S h a e
  split at e
  · exact ra_Ru.weak (nX12_ours_80_ok N _ _ _ e) trivial
  · cases e) ra_k0_ok)
set_option maxRecDepth 100000 in
theorem nX12_ours_36_ok (N : Nat) (a0 : Nat) (a1 : Int32) (a2 : Int32) (a3 : Int32) (h : ra_H) (r : (Int32 × ra_H)) (e : nX12_ours_36 N a0 a1 a2 a3 h = some r) : ra_Ru 6 mX12_ours 36 [some (.ref a0), some (.int a1), some (.int a2), some (.int a3), none, none] [] h (ra_oI r) :=
  ra_sound (by omega) rfl ra_rI_ok (kX12_ours_36_ok N) (fun m av h h1 e => (ra_c0_ok (ro := ra_oV)) m av h h1 e) (fun m av h x h1 e => (tIX12_ours_ok N) m av h (x, h1) e) (fun m av h x h1 e => (ra_c0_ok (ro := ra_oJ)) m av h (x, h1) e) (fun m av h x h1 e => (ra_c0_ok (ro := ra_oR)) m av h (x, h1) e) (fun m av h x h1 e => (ra_c0_ok (ro := ra_oN)) m av h (x, h1) e) (fun m av h x h1 e => (ra_c0_ok (ro := ra_oF)) m av h (x, h1) e) 27 lX12_ours_36 _ _ _ _ lX12_ours_36_ck (show ra_run ra_rI (kX12_ours_36 N) ra_c0 (tIX12_ours N) ra_c0 ra_c0 ra_c0 ra_c0 27 lX12_ours_36 [some (.ref a0), some (.int a1), some (.int a2), some (.int a3), none, none] [] h = some r from e) _ _ rfl
def lX12_ours_0 : List ra_I := [(0, .aload_n 0, 1, 0, 0, 0, 0, 0, []),
  (1, .iconst (0), 1, 0, 0, 0, (0), 0, []),
  (2, .putfield 147, 3, 12, 0, 0, 0, 0, []),
  (5, .aload_n 0, 1, 0, 0, 0, 0, 0, []),
  (6, .iload_n 1, 1, 1, 0, 0, 0, 0, []),
  (7, .invokevirtual 403, 3, 256, 2, 1, 0, 0, []),
  (10, .ifCond .eq (24), 3, 34, 0, 0, 0, 0, []),
  (13, .aload_n 0, 1, 0, 0, 0, 0, 0, []),
  (14, .iload_n 2, 1, 2, 0, 0, 0, 0, []),
  (15, .invokevirtual 198, 3, 218, 2, 1, 0, 0, []),
  (18, .ifCond .eq (16), 3, 34, 0, 0, 0, 0, []),
  (21, .iload_n 3, 1, 3, 0, 0, 0, 0, []),
  (22, .iconst (-1), 1, 0, 0, 0, (-1), 0, []),
  (23, .if_icmp .eq (13), 3, 36, 0, 0, 0, 0, []),
  (26, .aload_n 0, 1, 0, 0, 0, 0, 0, []),
  (27, .iload_n 3, 1, 3, 0, 0, 0, 0, []),
  (28, .invokevirtual 198, 3, 218, 2, 1, 0, 0, []),
  (31, .ifCond .ne (5), 3, 36, 0, 0, 0, 0, [])]
set_option maxRecDepth 100000 in
theorem lX12_ours_0_ck : lX12_ours_0.all (ra_ck mX12_ours 12) = true := by decide +kernel
def nX12_ours_0 (N : Nat) (a0 : Nat) (a1 : Int32) (a2 : Int32) (a3 : Int32) (h : ra_H) : Option (Int32 × ra_H) :=
  (ra_fW h 12 a0 0 (.int ((0 : Int32)))).bind fun h1 =>
  (fX12_isText N a0 a1 h1).bind fun q2 =>
  if q2.1 = 0 then
    nX12_ours_34 N q2.2
  else
    (fX12_isBook N a0 a2 q2.2).bind fun q3 =>
    if q3.1 = 0 then
      nX12_ours_34 N q3.2
    else
      if a3 = ((-1 : Int32)) then
        nX12_ours_36 N a0 a1 a2 a3 q3.2
      else
        (fX12_isBook N a0 a3 q3.2).bind fun q4 =>
        if q4.1 = 0 then
          nX12_ours_34 N q4.2
        else
          nX12_ours_36 N a0 a1 a2 a3 q4.2
def kX12_ours_0 (N : Nat) : Nat → List (Option Value) → List Value → ra_H → Option (Int32 × ra_H) := (ra_k1 34 (fun L S h => match L, S with
  | [_, _, _, _, _, _], [] => nX12_ours_34 N h
  | _, _ => none) (ra_k1 36 (fun L S h => match L, S with
  | [some (.ref a0), some (.int a1), some (.int a2), some (.int a3), _, _], [] => nX12_ours_36 N a0 a1 a2 a3 h
  | _, _ => none) ra_k0))
theorem kX12_ours_0_ok (N : Nat) : ra_kok 6 mX12_ours ra_oI (kX12_ours_0 N) := (ra_k1_ok (by
  intro L S h a e
  split at e
  · exact ra_Ru.weak (nX12_ours_34_ok N _ _ e) trivial
  · cases e) (ra_k1_ok (by
  intro L S h a e
  split at e
  · exact ra_Ru.weak (nX12_ours_36_ok N _ _ _ _ _ _ e) ⟨rfl, ⟨rfl, ⟨rfl, ⟨rfl, trivial⟩⟩⟩⟩
  · cases e) ra_k0_ok))
set_option maxRecDepth 100000 in
theorem nX12_ours_0_ok (N : Nat) (a0 : Nat) (a1 : Int32) (a2 : Int32) (a3 : Int32) (h : ra_H) (r : (Int32 × ra_H)) (e : nX12_ours_0 N a0 a1 a2 a3 h = some r) : ra_Ru 6 mX12_ours 0 [some (.ref a0), some (.int a1), some (.int a2), some (.int a3), none, none] [] h (ra_oI r) :=
  ra_sound (by omega) rfl ra_rI_ok (kX12_ours_0_ok N) (fun m av h h1 e => (ra_c0_ok (ro := ra_oV)) m av h h1 e) (fun m av h x h1 e => (tIX12_ours_ok N) m av h (x, h1) e) (fun m av h x h1 e => (ra_c0_ok (ro := ra_oJ)) m av h (x, h1) e) (fun m av h x h1 e => (ra_c0_ok (ro := ra_oR)) m av h (x, h1) e) (fun m av h x h1 e => (ra_c0_ok (ro := ra_oN)) m av h (x, h1) e) (fun m av h x h1 e => (ra_c0_ok (ro := ra_oF)) m av h (x, h1) e) 19 lX12_ours_0 _ _ _ _ lX12_ours_0_ck (show ra_run ra_rI (kX12_ours_0 N) ra_c0 (tIX12_ours N) ra_c0 ra_c0 ra_c0 ra_c0 19 lX12_ours_0 [some (.ref a0), some (.int a1), some (.int a2), some (.int a3), none, none] [] h = some r from e) _ _ rfl
def fX12_ours (N : Nat) (p0 : Nat) (p1 : Int32) (p2 : Int32) (p3 : Int32) (h : ra_H) : Option (Int32 × ra_H) := match ra_isOb h p0 12 with
  | true => nX12_ours_0 N p0 p1 p2 p3 h
  | false => none
set_option maxRecDepth 100000 in
theorem mtX12_ours : ra_MT[300]? = some (mX12_ours, 1, 3, (1, 13), (8, 239), (9, 0)) := rfl
theorem fX12_ours_co (N : Nat) (p0 : Nat) (p1 : Int32) (p2 : Int32) (p3 : Int32) (h : ra_H) (r : (Int32 × ra_H)) (e : fX12_ours N p0 p1 p2 p3 h = some r) (D : Nat) (hD : 7 ≤ D) : ra_CO D 300 [.ref p0, .int p1, .int p2, .int p3] h (ra_oI r).1 (ra_oI r).2 := by
  have hw : ra_nw2 [.ref p0, .int p1, .int p2, .int p3] ≤ 6 := Nat.le_of_ble_eq_true rfl
  have hdb : ∀ v ∈ ([.ref p0, .int p1, .int p2, .int p3] : List Value), ∀ x, v ≠ .double x := by
    intro v hv x hx
    simp [hx] at hv
  unfold fX12_ours at e
  split at e
  · rename_i ho
    have e1 := e
    exact ⟨6, _, mtX12_ours, hD, ra_ev_of (by decide) hdb hw trivial (ra_Ru.weak (nX12_ours_0_ok N p0 p1 p2 p3 h _ e1) ⟨rfl, ⟨rfl, ⟨rfl, ⟨rfl, trivial⟩⟩⟩⟩), (fun _ => ⟨_, _, rfl, ra_rcv_of ho (by decide) rfl⟩), (fun h => absurd h (by decide))⟩
  · cases e
/-! RedMarksModel.which([JI)I -/
def mX12_which : ra_M := (yX12_which, cX12_which, 5, (some .int))
def tIX12_which (N : Nat) : Nat → List Value → ra_H → Option (Int32 × ra_H) := (ra_c1 238 (fun av h => match av with
  | [.ref z0, .long z1] => fX12_isWord N z0 z1 h
  | _ => none) ra_c0)
theorem tIX12_which_ok (N : Nat) : ra_cok 2 ra_oI (tIX12_which N) := (ra_c1_ok (by
  intro av h a e
  split at e
  · exact fX12_isWord_co N _ _ _ _ e 2 (by omega)
  · cases e) ra_c0_ok)
def lX12_which_28 : List ra_I := [(28, .istore_n 3, 1, 3, 0, 0, 0, 0, []),
  (29, .iinc 4 (1), 3, 4, 0, 0, (1), 0, []),
  (32, .goto (-27), 3, 5, 0, 0, 0, 0, [])]
set_option maxRecDepth 100000 in
theorem lX12_which_28_ck : lX12_which_28.all (ra_ck mX12_which 12) = true := by decide +kernel
def nX12_which_28 (N : Nat) (c5 : Nat → Nat → Int32 → Int32 → Int32 → ra_H → Option (Int32 × ra_H)) (a0 : Nat) (a1 : Nat) (a2 : Int32) (a4 : Int32) (b0 : Int32) (h : ra_H) : Option (Int32 × ra_H) :=
  let y1 := a4 + (1 : Int32)
  c5 a0 a1 a2 b0 y1 h
def kX12_which_28 (N : Nat) (c5 : Nat → Nat → Int32 → Int32 → Int32 → ra_H → Option (Int32 × ra_H)) : Nat → List (Option Value) → List Value → ra_H → Option (Int32 × ra_H) := (ra_k1 5 (fun L S h => match L, S with
  | [some (.ref a0), some (.ref a1), some (.int a2), some (.int a3), some (.int a4)], [] => c5 a0 a1 a2 a3 a4 h
  | _, _ => none) ra_k0)
theorem kX12_which_28_ok (N : Nat) (c5 : Nat → Nat → Int32 → Int32 → Int32 → ra_H → Option (Int32 × ra_H)) (hc5 : ∀ a0 a1 a2 a3 a4 h r, c5 a0 a1 a2 a3 a4 h = some r → ra_Ru 2 mX12_which 5 [some (.ref a0), some (.ref a1), some (.int a2), some (.int a3), some (.int a4)] [] h (ra_oI r)) : ra_kok 2 mX12_which ra_oI (kX12_which_28 N c5) := (ra_k1_ok (by
  intro L S h a e
  split at e
  · exact ra_Ru.weak (hc5 _ _ _ _ _ _ _ e) ⟨rfl, ⟨rfl, ⟨rfl, ⟨rfl, ⟨rfl, trivial⟩⟩⟩⟩⟩
  · cases e) ra_k0_ok)
set_option maxRecDepth 100000 in
theorem nX12_which_28_ok (N : Nat) (c5 : Nat → Nat → Int32 → Int32 → Int32 → ra_H → Option (Int32 × ra_H)) (hc5 : ∀ a0 a1 a2 a3 a4 h r, c5 a0 a1 a2 a3 a4 h = some r → ra_Ru 2 mX12_which 5 [some (.ref a0), some (.ref a1), some (.int a2), some (.int a3), some (.int a4)] [] h (ra_oI r)) (a0 : Nat) (a1 : Nat) (a2 : Int32) (a4 : Int32) (b0 : Int32) (h : ra_H) (r : (Int32 × ra_H)) (e : nX12_which_28 N c5 a0 a1 a2 a4 b0 h = some r) : ra_Ru 2 mX12_which 28 [some (.ref a0), some (.ref a1), some (.int a2), none, some (.int a4)] [.int b0] h (ra_oI r) :=
  ra_sound (by omega) rfl ra_rI_ok (kX12_which_28_ok N c5 hc5) (fun m av h h1 e => (ra_c0_ok (ro := ra_oV)) m av h h1 e) (fun m av h x h1 e => (tIX12_which_ok N) m av h (x, h1) e) (fun m av h x h1 e => (ra_c0_ok (ro := ra_oJ)) m av h (x, h1) e) (fun m av h x h1 e => (ra_c0_ok (ro := ra_oR)) m av h (x, h1) e) (fun m av h x h1 e => (ra_c0_ok (ro := ra_oN)) m av h (x, h1) e) (fun m av h x h1 e => (ra_c0_ok (ro := ra_oF)) m av h (x, h1) e) 4 lX12_which_28 _ _ _ _ lX12_which_28_ck (show ra_run ra_rI (kX12_which_28 N c5) ra_c0 (tIX12_which N) ra_c0 ra_c0 ra_c0 ra_c0 4 lX12_which_28 [some (.ref a0), some (.ref a1), some (.int a2), none, some (.int a4)] [.int b0] h = some r from e) _ _ rfl
def lX12_which_5 : List ra_I := [(5, .iload 4, 2, 4, 0, 0, 0, 0, []),
  (7, .iload_n 2, 1, 2, 0, 0, 0, 0, []),
  (8, .if_icmp .ge (27), 3, 35, 0, 0, 0, 0, []),
  (11, .aload_n 0, 1, 0, 0, 0, 0, 0, []),
  (12, .aload_n 1, 1, 1, 0, 0, 0, 0, []),
  (13, .iload 4, 2, 4, 0, 0, 0, 0, []),
  (15, .laload, 1, 0, 0, 0, 0, 0, []),
  (16, .invokevirtual 285, 3, 238, 2, 1, 0, 0, []),
  (19, .ifCond .eq (8), 3, 27, 0, 0, 0, 0, []),
  (22, .iload 4, 2, 4, 0, 0, 0, 0, []),
  (24, .goto (4), 3, 28, 0, 0, 0, 0, []),
  (27, .iload_n 3, 1, 3, 0, 0, 0, 0, []),
  (35, .iload_n 3, 1, 3, 0, 0, 0, 0, []),
  (36, .ireturn, 1, 0, 0, 0, 0, 0, [])]
set_option maxRecDepth 100000 in
theorem lX12_which_5_ck : lX12_which_5.all (ra_ck mX12_which 12) = true := by decide +kernel
def nX12_which_5 (N : Nat) : Nat → Nat → Nat → Int32 → Int32 → Int32 → ra_H → Option (Int32 × ra_H)
  | 0, _, _, _, _, _, _ => none
  | n + 1, a0, a1, a2, a3, a4, h =>
  if a4 < a2 then
    (ra_aJ h a1 a4).bind fun x1 =>
    (fX12_isWord N a0 x1 h).bind fun q2 =>
    if q2.1 = 0 then
      nX12_which_28 N (nX12_which_5 N n) a0 a1 a2 a4 a3 q2.2
    else
      nX12_which_28 N (nX12_which_5 N n) a0 a1 a2 a4 a4 q2.2
  else
    some (a3, h)
def kX12_which_5 (N : Nat) (cs : Nat → Nat → Int32 → Int32 → Int32 → ra_H → Option (Int32 × ra_H)) : Nat → List (Option Value) → List Value → ra_H → Option (Int32 × ra_H) := (ra_k1 28 (fun L S h => match L, S with
  | [some (.ref a0), some (.ref a1), some (.int a2), _, some (.int a4)], [.int b0] => nX12_which_28 N cs a0 a1 a2 a4 b0 h
  | _, _ => none) ra_k0)
theorem kX12_which_5_ok (N : Nat) (cs : Nat → Nat → Int32 → Int32 → Int32 → ra_H → Option (Int32 × ra_H)) (hcs : ∀ a0 a1 a2 a3 a4 h r, cs a0 a1 a2 a3 a4 h = some r → ra_Ru 2 mX12_which 5 [some (.ref a0), some (.ref a1), some (.int a2), some (.int a3), some (.int a4)] [] h (ra_oI r)) : ra_kok 2 mX12_which ra_oI (kX12_which_5 N cs) := (ra_k1_ok (by
  intro L S h a e
  split at e
  · exact ra_Ru.weak (nX12_which_28_ok N cs hcs _ _ _ _ _ _ _ e) ⟨rfl, ⟨rfl, ⟨rfl, ⟨rfl, trivial⟩⟩⟩⟩
  · cases e) ra_k0_ok)
set_option maxRecDepth 100000 in
theorem nX12_which_5_ok (N : Nat) : ∀ n a0 a1 a2 a3 a4 h r, nX12_which_5 N n a0 a1 a2 a3 a4 h = some r → ra_Ru 2 mX12_which 5 [some (.ref a0), some (.ref a1), some (.int a2), some (.int a3), some (.int a4)] [] h (ra_oI r) := by
  intro n
  induction n with
  | zero => intro a0 a1 a2 a3 a4 h r e; cases e
  | succ n ih =>
    intro a0 a1 a2 a3 a4 h r e
    exact ra_sound (by omega) rfl ra_rI_ok (kX12_which_5_ok N (nX12_which_5 N n) ih) (fun m av h h1 e => (ra_c0_ok (ro := ra_oV)) m av h h1 e) (fun m av h x h1 e => (tIX12_which_ok N) m av h (x, h1) e) (fun m av h x h1 e => (ra_c0_ok (ro := ra_oJ)) m av h (x, h1) e) (fun m av h x h1 e => (ra_c0_ok (ro := ra_oR)) m av h (x, h1) e) (fun m av h x h1 e => (ra_c0_ok (ro := ra_oN)) m av h (x, h1) e) (fun m av h x h1 e => (ra_c0_ok (ro := ra_oF)) m av h (x, h1) e) 15 lX12_which_5 _ _ _ _ lX12_which_5_ck (show ra_run ra_rI (kX12_which_5 N (nX12_which_5 N n)) ra_c0 (tIX12_which N) ra_c0 ra_c0 ra_c0 ra_c0 15 lX12_which_5 [some (.ref a0), some (.ref a1), some (.int a2), some (.int a3), some (.int a4)] [] h = some r from e) _ _ rfl
def lX12_which_0 : List ra_I := [(0, .iconst (-1), 1, 0, 0, 0, (-1), 0, []),
  (1, .istore_n 3, 1, 3, 0, 0, 0, 0, []),
  (2, .iconst (0), 1, 0, 0, 0, (0), 0, []),
  (3, .istore 4, 2, 4, 0, 0, 0, 0, [])]
set_option maxRecDepth 100000 in
theorem lX12_which_0_ck : lX12_which_0.all (ra_ck mX12_which 12) = true := by decide +kernel
def nX12_which_0 (N : Nat) (a0 : Nat) (a1 : Nat) (a2 : Int32) (h : ra_H) : Option (Int32 × ra_H) :=
  nX12_which_5 N N a0 a1 a2 ((-1 : Int32)) ((0 : Int32)) h
def kX12_which_0 (N : Nat) : Nat → List (Option Value) → List Value → ra_H → Option (Int32 × ra_H) := (ra_k1 5 (fun L S h => match L, S with
  | [some (.ref a0), some (.ref a1), some (.int a2), some (.int a3), some (.int a4)], [] => nX12_which_5 N N a0 a1 a2 a3 a4 h
  | _, _ => none) ra_k0)
theorem kX12_which_0_ok (N : Nat) : ra_kok 2 mX12_which ra_oI (kX12_which_0 N) := (ra_k1_ok (by
  intro L S h a e
  split at e
  · exact ra_Ru.weak (nX12_which_5_ok N N _ _ _ _ _ _ _ e) ⟨rfl, ⟨rfl, ⟨rfl, ⟨rfl, ⟨rfl, trivial⟩⟩⟩⟩⟩
  · cases e) ra_k0_ok)
set_option maxRecDepth 100000 in
theorem nX12_which_0_ok (N : Nat) (a0 : Nat) (a1 : Nat) (a2 : Int32) (h : ra_H) (r : (Int32 × ra_H)) (e : nX12_which_0 N a0 a1 a2 h = some r) : ra_Ru 2 mX12_which 0 [some (.ref a0), some (.ref a1), some (.int a2), none, none] [] h (ra_oI r) :=
  ra_sound (by omega) rfl ra_rI_ok (kX12_which_0_ok N) (fun m av h h1 e => (ra_c0_ok (ro := ra_oV)) m av h h1 e) (fun m av h x h1 e => (tIX12_which_ok N) m av h (x, h1) e) (fun m av h x h1 e => (ra_c0_ok (ro := ra_oJ)) m av h (x, h1) e) (fun m av h x h1 e => (ra_c0_ok (ro := ra_oR)) m av h (x, h1) e) (fun m av h x h1 e => (ra_c0_ok (ro := ra_oN)) m av h (x, h1) e) (fun m av h x h1 e => (ra_c0_ok (ro := ra_oF)) m av h (x, h1) e) 5 lX12_which_0 _ _ _ _ lX12_which_0_ck (show ra_run ra_rI (kX12_which_0 N) ra_c0 (tIX12_which N) ra_c0 ra_c0 ra_c0 ra_c0 5 lX12_which_0 [some (.ref a0), some (.ref a1), some (.int a2), none, none] [] h = some r from e) _ _ rfl
def fX12_which (N : Nat) (p0 : Nat) (p1 : Nat) (p2 : Int32) (h : ra_H) : Option (Int32 × ra_H) := match ra_isOb h p0 12 with
  | true => nX12_which_0 N p0 p1 p2 h
  | false => none
set_option maxRecDepth 100000 in
theorem mtX12_which : ra_MT[237]? = some (mX12_which, 1, 2, (1, 13), (7, 214), (0, 70)) := rfl
theorem fX12_which_co (N : Nat) (p0 : Nat) (p1 : Nat) (p2 : Int32) (h : ra_H) (r : (Int32 × ra_H)) (e : fX12_which N p0 p1 p2 h = some r) (D : Nat) (hD : 3 ≤ D) : ra_CO D 237 [.ref p0, .ref p1, .int p2] h (ra_oI r).1 (ra_oI r).2 := by
  have hw : ra_nw2 [.ref p0, .ref p1, .int p2] ≤ 5 := Nat.le_of_ble_eq_true rfl
  have hdb : ∀ v ∈ ([.ref p0, .ref p1, .int p2] : List Value), ∀ x, v ≠ .double x := by
    intro v hv x hx
    simp [hx] at hv
  unfold fX12_which at e
  split at e
  · rename_i ho
    have e1 := e
    exact ⟨2, _, mtX12_which, hD, ra_ev_of (by decide) hdb hw trivial (ra_Ru.weak (nX12_which_0_ok N p0 p1 p2 h _ e1) ⟨rfl, ⟨rfl, ⟨rfl, trivial⟩⟩⟩), (fun _ => ⟨_, _, rfl, ra_rcv_of ho (by decide) rfl⟩), (fun h => absurd h (by decide))⟩
  · cases e
/-! RedMarksModel.partAt()I -/
def mX12_partAt : ra_M := (yX12_partAt, cX12_partAt, 2, (some .int))
def tIX12_partAt (N : Nat) : Nat → List Value → ra_H → Option (Int32 × ra_H) := (ra_c1 237 (fun av h => match av with
  | [.ref z0, .ref z1, .int z2] => fX12_which N z0 z1 z2 h
  | _ => none) ra_c0)
theorem tIX12_partAt_ok (N : Nat) : ra_cok 3 ra_oI (tIX12_partAt N) := (ra_c1_ok (by
  intro av h a e
  split at e
  · exact fX12_which_co N _ _ _ _ _ e 3 (by omega)
  · cases e) ra_c0_ok)
def lX12_partAt_23 : List ra_I := [(23, .ireturn, 1, 0, 0, 0, 0, 0, [])]
set_option maxRecDepth 100000 in
theorem lX12_partAt_23_ck : lX12_partAt_23.all (ra_ck mX12_partAt 12) = true := by decide +kernel
def nX12_partAt_23 (N : Nat) (b0 : Int32) (h : ra_H) : Option (Int32 × ra_H) :=
  some (b0, h)
def kX12_partAt_23 (N : Nat) : Nat → List (Option Value) → List Value → ra_H → Option (Int32 × ra_H) := ra_k0
theorem kX12_partAt_23_ok (N : Nat) : ra_kok 3 mX12_partAt ra_oI (kX12_partAt_23 N) := ra_k0_ok
set_option maxRecDepth 100000 in
theorem nX12_partAt_23_ok (N : Nat) (b0 : Int32) (h : ra_H) (r : (Int32 × ra_H)) (e : nX12_partAt_23 N b0 h = some r) : ra_Ru 3 mX12_partAt 23 [none, none] [.int b0] h (ra_oI r) :=
  ra_sound (by omega) rfl ra_rI_ok (kX12_partAt_23_ok N) (fun m av h h1 e => (ra_c0_ok (ro := ra_oV)) m av h h1 e) (fun m av h x h1 e => (tIX12_partAt_ok N) m av h (x, h1) e) (fun m av h x h1 e => (ra_c0_ok (ro := ra_oJ)) m av h (x, h1) e) (fun m av h x h1 e => (ra_c0_ok (ro := ra_oR)) m av h (x, h1) e) (fun m av h x h1 e => (ra_c0_ok (ro := ra_oN)) m av h (x, h1) e) (fun m av h x h1 e => (ra_c0_ok (ro := ra_oF)) m av h (x, h1) e) 2 lX12_partAt_23 _ _ _ _ lX12_partAt_23_ck (show ra_run ra_rI (kX12_partAt_23 N) ra_c0 (tIX12_partAt N) ra_c0 ra_c0 ra_c0 ra_c0 2 lX12_partAt_23 [none, none] [.int b0] h = some r from e) _ _ rfl
def lX12_partAt_0 : List ra_I := [(0, .aload_n 0, 1, 0, 0, 0, 0, 0, []),
  (1, .aload_n 0, 1, 0, 0, 0, 0, 0, []),
  (2, .getfield 69, 3, 12, 25, 2, 0, 0, []),
  (5, .bipush (12), 2, 0, 0, 0, (12), 0, []),
  (7, .invokevirtual 289, 3, 237, 3, 1, 0, 0, []),
  (10, .istore_n 1, 1, 1, 0, 0, 0, 0, []),
  (11, .iload_n 1, 1, 1, 0, 0, 0, 0, []),
  (12, .iconst (-1), 1, 0, 0, 0, (-1), 0, []),
  (13, .if_icmp .ne (7), 3, 20, 0, 0, 0, 0, []),
  (16, .iconst (-1), 1, 0, 0, 0, (-1), 0, []),
  (17, .goto (6), 3, 23, 0, 0, 0, 0, []),
  (20, .iload_n 1, 1, 1, 0, 0, 0, 0, []),
  (21, .iconst (1), 1, 0, 0, 0, (1), 0, []),
  (22, .iadd, 1, 0, 0, 0, 0, 0, [])]
set_option maxRecDepth 100000 in
theorem lX12_partAt_0_ck : lX12_partAt_0.all (ra_ck mX12_partAt 12) = true := by decide +kernel
def nX12_partAt_0 (N : Nat) (a0 : Nat) (h : ra_H) : Option (Int32 × ra_H) :=
  (ra_fR h 12 a0 25).bind fun x1 =>
  (fX12_which N a0 x1 ((12 : Int32)) h).bind fun q2 =>
  if q2.1 = ((-1 : Int32)) then
    nX12_partAt_23 N ((-1 : Int32)) q2.2
  else
    nX12_partAt_23 N (q2.1 + ((1 : Int32))) q2.2
def kX12_partAt_0 (N : Nat) : Nat → List (Option Value) → List Value → ra_H → Option (Int32 × ra_H) := (ra_k1 23 (fun L S h => match L, S with
  | [_, _], [.int b0] => nX12_partAt_23 N b0 h
  | _, _ => none) ra_k0)
theorem kX12_partAt_0_ok (N : Nat) : ra_kok 3 mX12_partAt ra_oI (kX12_partAt_0 N) := (ra_k1_ok (by
  intro L S h a e
  split at e
  · exact ra_Ru.weak (nX12_partAt_23_ok N _ _ _ e) trivial
  · cases e) ra_k0_ok)
set_option maxRecDepth 100000 in
theorem nX12_partAt_0_ok (N : Nat) (a0 : Nat) (h : ra_H) (r : (Int32 × ra_H)) (e : nX12_partAt_0 N a0 h = some r) : ra_Ru 3 mX12_partAt 0 [some (.ref a0), none] [] h (ra_oI r) :=
  ra_sound (by omega) rfl ra_rI_ok (kX12_partAt_0_ok N) (fun m av h h1 e => (ra_c0_ok (ro := ra_oV)) m av h h1 e) (fun m av h x h1 e => (tIX12_partAt_ok N) m av h (x, h1) e) (fun m av h x h1 e => (ra_c0_ok (ro := ra_oJ)) m av h (x, h1) e) (fun m av h x h1 e => (ra_c0_ok (ro := ra_oR)) m av h (x, h1) e) (fun m av h x h1 e => (ra_c0_ok (ro := ra_oN)) m av h (x, h1) e) (fun m av h x h1 e => (ra_c0_ok (ro := ra_oF)) m av h (x, h1) e) 15 lX12_partAt_0 _ _ _ _ lX12_partAt_0_ck (show ra_run ra_rI (kX12_partAt_0 N) ra_c0 (tIX12_partAt N) ra_c0 ra_c0 ra_c0 ra_c0 15 lX12_partAt_0 [some (.ref a0), none] [] h = some r from e) _ _ rfl
def fX12_partAt (N : Nat) (p0 : Nat) (h : ra_H) : Option (Int32 × ra_H) := match ra_isOb h p0 12 with
  | true => nX12_partAt_0 N p0 h
  | false => none
set_option maxRecDepth 100000 in
theorem mtX12_partAt : ra_MT[246]? = some (mX12_partAt, 1, 0, (1, 13), (8, 11), (0, 79)) := rfl
theorem fX12_partAt_co (N : Nat) (p0 : Nat) (h : ra_H) (r : (Int32 × ra_H)) (e : fX12_partAt N p0 h = some r) (D : Nat) (hD : 4 ≤ D) : ra_CO D 246 [.ref p0] h (ra_oI r).1 (ra_oI r).2 := by
  have hw : ra_nw2 [.ref p0] ≤ 2 := Nat.le_of_ble_eq_true rfl
  have hdb : ∀ v ∈ ([.ref p0] : List Value), ∀ x, v ≠ .double x := by
    intro v hv x hx
    simp [hx] at hv
  unfold fX12_partAt at e
  split at e
  · rename_i ho
    have e1 := e
    exact ⟨3, _, mtX12_partAt, hD, ra_ev_of (by decide) hdb hw trivial (ra_Ru.weak (nX12_partAt_0_ok N p0 h _ e1) ⟨rfl, trivial⟩), (fun _ => ⟨_, _, rfl, ra_rcv_of ho (by decide) rfl⟩), (fun h => absurd h (by decide))⟩
  · cases e
/-! RedMarksModel.readPart()I -/
def mX12_readPart : ra_M := (yX12_readPart, cX12_readPart, 3, (some .int))
def tVX12_readPart (N : Nat) : Nat → List Value → ra_H → Option ra_H := (ra_c1 244 (fun av h => match av with
  | [.ref z0, .int z1] => fX12_openBracket N z0 z1 h
  | _ => none) (ra_c1 247 (fun av h => match av with
  | [.ref z0, .int z1, .int z2, .int z3] => fX12_leaf N z0 z1 z2 z3 h
  | _ => none) ra_c0))
theorem tVX12_readPart_ok (N : Nat) : ra_cok 5 ra_oV (tVX12_readPart N) := (ra_c1_ok (by
  intro av h a e
  split at e
  · exact fX12_openBracket_co N _ _ _ _ e 5 (by omega)
  · cases e) (ra_c1_ok (by
  intro av h a e
  split at e
  · exact fX12_leaf_co N _ _ _ _ _ _ e 5 (by omega)
  · cases e) ra_c0_ok))
def tIX12_readPart (N : Nat) : Nat → List Value → ra_H → Option (Int32 × ra_H) := (ra_c1 243 (fun av h => match av with
  | [.ref z0, .int z1] => fX12_isSign N z0 z1 h
  | _ => none) (ra_c1 246 (fun av h => match av with
  | [.ref z0] => fX12_partAt N z0 h
  | _ => none) ra_c0))
theorem tIX12_readPart_ok (N : Nat) : ra_cok 5 ra_oI (tIX12_readPart N) := (ra_c1_ok (by
  intro av h a e
  split at e
  · exact fX12_isSign_co N _ _ _ _ e 5 (by omega)
  · cases e) (ra_c1_ok (by
  intro av h a e
  split at e
  · exact fX12_partAt_co N _ _ _ e 5 (by omega)
  · cases e) ra_c0_ok))
def lX12_readPart_85 : List ra_I := [(85, .invokevirtual 314, 3, 247, 4, 0, 0, 0, []),
  (88, .iconst (3), 1, 0, 0, 0, (3), 0, []),
  (89, .ireturn, 1, 0, 0, 0, 0, 0, [])]
set_option maxRecDepth 100000 in
theorem lX12_readPart_85_ck : lX12_readPart_85.all (ra_ck mX12_readPart 12) = true := by decide +kernel
def nX12_readPart_85 (N : Nat) (b0 : Nat) (b1 : Int32) (b2 : Int32) (b3 : Int32) (h : ra_H) : Option (Int32 × ra_H) :=
  (fX12_leaf N b0 b1 b2 b3 h).bind fun h1 =>
  some ((3 : Int32), h1)
def kX12_readPart_85 (N : Nat) : Nat → List (Option Value) → List Value → ra_H → Option (Int32 × ra_H) := ra_k0
theorem kX12_readPart_85_ok (N : Nat) : ra_kok 5 mX12_readPart ra_oI (kX12_readPart_85 N) := ra_k0_ok
set_option maxRecDepth 100000 in
theorem nX12_readPart_85_ok (N : Nat) (b0 : Nat) (b1 : Int32) (b2 : Int32) (b3 : Int32) (h : ra_H) (r : (Int32 × ra_H)) (e : nX12_readPart_85 N b0 b1 b2 b3 h = some r) : ra_Ru 5 mX12_readPart 85 [none, none, none] [.int b3, .int b2, .int b1, .ref b0] h (ra_oI r) :=
  ra_sound (by omega) rfl ra_rI_ok (kX12_readPart_85_ok N) (fun m av h h1 e => (tVX12_readPart_ok N) m av h h1 e) (fun m av h x h1 e => (tIX12_readPart_ok N) m av h (x, h1) e) (fun m av h x h1 e => (ra_c0_ok (ro := ra_oJ)) m av h (x, h1) e) (fun m av h x h1 e => (ra_c0_ok (ro := ra_oR)) m av h (x, h1) e) (fun m av h x h1 e => (ra_c0_ok (ro := ra_oN)) m av h (x, h1) e) (fun m av h x h1 e => (ra_c0_ok (ro := ra_oF)) m av h (x, h1) e) 4 lX12_readPart_85 _ _ _ _ lX12_readPart_85_ck (show ra_run ra_rI (kX12_readPart_85 N) (tVX12_readPart N) (tIX12_readPart N) ra_c0 ra_c0 ra_c0 ra_c0 4 lX12_readPart_85 [none, none, none] [.int b3, .int b2, .int b1, .ref b0] h = some r from e) _ _ rfl
def lX12_readPart_72 : List ra_I := [(72, .iload_n 2, 1, 2, 0, 0, 0, 0, []),
  (73, .ifCond .eq (11), 3, 84, 0, 0, 0, 0, []),
  (76, .aload_n 0, 1, 0, 0, 0, 0, 0, []),
  (77, .getfield 235, 3, 12, 12, 1, 0, 0, []),
  (80, .l2i, 1, 0, 0, 0, 0, 0, []),
  (81, .goto (4), 3, 85, 0, 0, 0, 0, []),
  (84, .iconst (0), 1, 0, 0, 0, (0), 0, [])]
set_option maxRecDepth 100000 in
theorem lX12_readPart_72_ck : lX12_readPart_72.all (ra_ck mX12_readPart 12) = true := by decide +kernel
def nX12_readPart_72 (N : Nat) (a0 : Nat) (a2 : Int32) (b0 : Nat) (b1 : Int32) (b2 : Int32) (h : ra_H) : Option (Int32 × ra_H) :=
  if a2 = 0 then
    nX12_readPart_85 N b0 b1 b2 ((0 : Int32)) h
  else
    (ra_fJ h 12 a0 12).bind fun x1 =>
    nX12_readPart_85 N b0 b1 b2 (Int64.toInt32 x1) h
def kX12_readPart_72 (N : Nat) : Nat → List (Option Value) → List Value → ra_H → Option (Int32 × ra_H) := (ra_k1 85 (fun L S h => match L, S with
  | [_, _, _], [.int b3, .int b2, .int b1, .ref b0] => nX12_readPart_85 N b0 b1 b2 b3 h
  | _, _ => none) ra_k0)
theorem kX12_readPart_72_ok (N : Nat) : ra_kok 5 mX12_readPart ra_oI (kX12_readPart_72 N) := (ra_k1_ok (by
  intro L S h a e
  split at e
  · exact ra_Ru.weak (nX12_readPart_85_ok N _ _ _ _ _ _ e) trivial
  · cases e) ra_k0_ok)
set_option maxRecDepth 100000 in
theorem nX12_readPart_72_ok (N : Nat) (a0 : Nat) (a2 : Int32) (b0 : Nat) (b1 : Int32) (b2 : Int32) (h : ra_H) (r : (Int32 × ra_H)) (e : nX12_readPart_72 N a0 a2 b0 b1 b2 h = some r) : ra_Ru 5 mX12_readPart 72 [some (.ref a0), none, some (.int a2)] [.int b2, .int b1, .ref b0] h (ra_oI r) :=
  ra_sound (by omega) rfl ra_rI_ok (kX12_readPart_72_ok N) (fun m av h h1 e => (tVX12_readPart_ok N) m av h h1 e) (fun m av h x h1 e => (tIX12_readPart_ok N) m av h (x, h1) e) (fun m av h x h1 e => (ra_c0_ok (ro := ra_oJ)) m av h (x, h1) e) (fun m av h x h1 e => (ra_c0_ok (ro := ra_oR)) m av h (x, h1) e) (fun m av h x h1 e => (ra_c0_ok (ro := ra_oN)) m av h (x, h1) e) (fun m av h x h1 e => (ra_c0_ok (ro := ra_oF)) m av h (x, h1) e) 8 lX12_readPart_72 _ _ _ _ lX12_readPart_72_ck (show ra_run ra_rI (kX12_readPart_72 N) (tVX12_readPart N) (tIX12_readPart N) ra_c0 ra_c0 ra_c0 ra_c0 8 lX12_readPart_72 [some (.ref a0), none, some (.int a2)] [.int b2, .int b1, .ref b0] h = some r from e) _ _ rfl
def lX12_readPart_62 : List ra_I := [(62, .iload_n 1, 1, 1, 0, 0, 0, 0, []),
  (63, .iconst (-1), 1, 0, 0, 0, (-1), 0, []),
  (64, .if_icmp .ne (7), 3, 71, 0, 0, 0, 0, []),
  (67, .iconst (0), 1, 0, 0, 0, (0), 0, []),
  (68, .goto (4), 3, 72, 0, 0, 0, 0, []),
  (71, .iload_n 1, 1, 1, 0, 0, 0, 0, [])]
set_option maxRecDepth 100000 in
theorem lX12_readPart_62_ck : lX12_readPart_62.all (ra_ck mX12_readPart 12) = true := by decide +kernel
def nX12_readPart_62 (N : Nat) (a0 : Nat) (a1 : Int32) (a2 : Int32) (b0 : Nat) (b1 : Int32) (h : ra_H) : Option (Int32 × ra_H) :=
  if a1 = ((-1 : Int32)) then
    nX12_readPart_72 N a0 a2 b0 b1 ((0 : Int32)) h
  else
    nX12_readPart_72 N a0 a2 b0 b1 a1 h
def kX12_readPart_62 (N : Nat) : Nat → List (Option Value) → List Value → ra_H → Option (Int32 × ra_H) := (ra_k1 72 (fun L S h => match L, S with
  | [some (.ref a0), _, some (.int a2)], [.int b2, .int b1, .ref b0] => nX12_readPart_72 N a0 a2 b0 b1 b2 h
  | _, _ => none) ra_k0)
theorem kX12_readPart_62_ok (N : Nat) : ra_kok 5 mX12_readPart ra_oI (kX12_readPart_62 N) := (ra_k1_ok (by
  intro L S h a e
  split at e
  · exact ra_Ru.weak (nX12_readPart_72_ok N _ _ _ _ _ _ _ e) ⟨rfl, ⟨rfl, trivial⟩⟩
  · cases e) ra_k0_ok)
set_option maxRecDepth 100000 in
theorem nX12_readPart_62_ok (N : Nat) (a0 : Nat) (a1 : Int32) (a2 : Int32) (b0 : Nat) (b1 : Int32) (h : ra_H) (r : (Int32 × ra_H)) (e : nX12_readPart_62 N a0 a1 a2 b0 b1 h = some r) : ra_Ru 5 mX12_readPart 62 [some (.ref a0), some (.int a1), some (.int a2)] [.int b1, .ref b0] h (ra_oI r) :=
  ra_sound (by omega) rfl ra_rI_ok (kX12_readPart_62_ok N) (fun m av h h1 e => (tVX12_readPart_ok N) m av h h1 e) (fun m av h x h1 e => (tIX12_readPart_ok N) m av h (x, h1) e) (fun m av h x h1 e => (ra_c0_ok (ro := ra_oJ)) m av h (x, h1) e) (fun m av h x h1 e => (ra_c0_ok (ro := ra_oR)) m av h (x, h1) e) (fun m av h x h1 e => (ra_c0_ok (ro := ra_oN)) m av h (x, h1) e) (fun m av h x h1 e => (ra_c0_ok (ro := ra_oF)) m av h (x, h1) e) 7 lX12_readPart_62 _ _ _ _ lX12_readPart_62_ck (show ra_run ra_rI (kX12_readPart_62 N) (tVX12_readPart N) (tIX12_readPart N) ra_c0 ra_c0 ra_c0 ra_c0 7 lX12_readPart_62 [some (.ref a0), some (.int a1), some (.int a2)] [.int b1, .ref b0] h = some r from e) _ _ rfl
def lX12_readPart_57 : List ra_I := [(57, .iconst (1), 1, 0, 0, 0, (1), 0, []),
  (58, .goto (4), 3, 62, 0, 0, 0, 0, [])]
set_option maxRecDepth 100000 in
theorem lX12_readPart_57_ck : lX12_readPart_57.all (ra_ck mX12_readPart 12) = true := by decide +kernel
def nX12_readPart_57 (N : Nat) (a0 : Nat) (a1 : Int32) (a2 : Int32) (b0 : Nat) (h : ra_H) : Option (Int32 × ra_H) :=
  nX12_readPart_62 N a0 a1 a2 b0 ((1 : Int32)) h
def kX12_readPart_57 (N : Nat) : Nat → List (Option Value) → List Value → ra_H → Option (Int32 × ra_H) := (ra_k1 62 (fun L S h => match L, S with
  | [some (.ref a0), some (.int a1), some (.int a2)], [.int b1, .ref b0] => nX12_readPart_62 N a0 a1 a2 b0 b1 h
  | _, _ => none) ra_k0)
theorem kX12_readPart_57_ok (N : Nat) : ra_kok 5 mX12_readPart ra_oI (kX12_readPart_57 N) := (ra_k1_ok (by
  intro L S h a e
  split at e
  · exact ra_Ru.weak (nX12_readPart_62_ok N _ _ _ _ _ _ _ e) ⟨rfl, ⟨rfl, ⟨rfl, trivial⟩⟩⟩
  · cases e) ra_k0_ok)
set_option maxRecDepth 100000 in
theorem nX12_readPart_57_ok (N : Nat) (a0 : Nat) (a1 : Int32) (a2 : Int32) (b0 : Nat) (h : ra_H) (r : (Int32 × ra_H)) (e : nX12_readPart_57 N a0 a1 a2 b0 h = some r) : ra_Ru 5 mX12_readPart 57 [some (.ref a0), some (.int a1), some (.int a2)] [.ref b0] h (ra_oI r) :=
  ra_sound (by omega) rfl ra_rI_ok (kX12_readPart_57_ok N) (fun m av h h1 e => (tVX12_readPart_ok N) m av h h1 e) (fun m av h x h1 e => (tIX12_readPart_ok N) m av h (x, h1) e) (fun m av h x h1 e => (ra_c0_ok (ro := ra_oJ)) m av h (x, h1) e) (fun m av h x h1 e => (ra_c0_ok (ro := ra_oR)) m av h (x, h1) e) (fun m av h x h1 e => (ra_c0_ok (ro := ra_oN)) m av h (x, h1) e) (fun m av h x h1 e => (ra_c0_ok (ro := ra_oF)) m av h (x, h1) e) 3 lX12_readPart_57 _ _ _ _ lX12_readPart_57_ck (show ra_run ra_rI (kX12_readPart_57 N) (tVX12_readPart N) (tIX12_readPart N) ra_c0 ra_c0 ra_c0 ra_c0 3 lX12_readPart_57 [some (.ref a0), some (.int a1), some (.int a2)] [.ref b0] h = some r from e) _ _ rfl
def lX12_readPart_46 : List ra_I := [(46, .istore_n 2, 1, 2, 0, 0, 0, 0, []),
  (47, .aload_n 0, 1, 0, 0, 0, 0, 0, []),
  (48, .iload_n 1, 1, 1, 0, 0, 0, 0, []),
  (49, .iconst (-1), 1, 0, 0, 0, (-1), 0, []),
  (50, .if_icmp .ne (7), 3, 57, 0, 0, 0, 0, []),
  (53, .iload_n 2, 1, 2, 0, 0, 0, 0, []),
  (54, .ifCond .eq (7), 3, 61, 0, 0, 0, 0, []),
  (61, .iconst (0), 1, 0, 0, 0, (0), 0, [])]
set_option maxRecDepth 100000 in
theorem lX12_readPart_46_ck : lX12_readPart_46.all (ra_ck mX12_readPart 12) = true := by decide +kernel
def nX12_readPart_46 (N : Nat) (a0 : Nat) (a1 : Int32) (b0 : Int32) (h : ra_H) : Option (Int32 × ra_H) :=
  if a1 = ((-1 : Int32)) then
    if b0 = 0 then
      nX12_readPart_62 N a0 a1 b0 a0 ((0 : Int32)) h
    else
      nX12_readPart_57 N a0 a1 b0 a0 h
  else
    nX12_readPart_57 N a0 a1 b0 a0 h
def kX12_readPart_46 (N : Nat) : Nat → List (Option Value) → List Value → ra_H → Option (Int32 × ra_H) := (ra_k1 57 (fun L S h => match L, S with
  | [some (.ref a0), some (.int a1), some (.int a2)], [.ref b0] => nX12_readPart_57 N a0 a1 a2 b0 h
  | _, _ => none) (ra_k1 62 (fun L S h => match L, S with
  | [some (.ref a0), some (.int a1), some (.int a2)], [.int b1, .ref b0] => nX12_readPart_62 N a0 a1 a2 b0 b1 h
  | _, _ => none) ra_k0))
theorem kX12_readPart_46_ok (N : Nat) : ra_kok 5 mX12_readPart ra_oI (kX12_readPart_46 N) := (ra_k1_ok (by
  intro L S h a e
  split at e
  · exact ra_Ru.weak (nX12_readPart_57_ok N _ _ _ _ _ _ e) ⟨rfl, ⟨rfl, ⟨rfl, trivial⟩⟩⟩
  · cases e) (ra_k1_ok (by
  intro L S h a e
  split at e
  · exact ra_Ru.weak (nX12_readPart_62_ok N _ _ _ _ _ _ _ e) ⟨rfl, ⟨rfl, ⟨rfl, trivial⟩⟩⟩
  · cases e) ra_k0_ok))
set_option maxRecDepth 100000 in
theorem nX12_readPart_46_ok (N : Nat) (a0 : Nat) (a1 : Int32) (b0 : Int32) (h : ra_H) (r : (Int32 × ra_H)) (e : nX12_readPart_46 N a0 a1 b0 h = some r) : ra_Ru 5 mX12_readPart 46 [some (.ref a0), some (.int a1), none] [.int b0] h (ra_oI r) :=
  ra_sound (by omega) rfl ra_rI_ok (kX12_readPart_46_ok N) (fun m av h h1 e => (tVX12_readPart_ok N) m av h h1 e) (fun m av h x h1 e => (tIX12_readPart_ok N) m av h (x, h1) e) (fun m av h x h1 e => (ra_c0_ok (ro := ra_oJ)) m av h (x, h1) e) (fun m av h x h1 e => (ra_c0_ok (ro := ra_oR)) m av h (x, h1) e) (fun m av h x h1 e => (ra_c0_ok (ro := ra_oN)) m av h (x, h1) e) (fun m av h x h1 e => (ra_c0_ok (ro := ra_oF)) m av h (x, h1) e) 9 lX12_readPart_46 _ _ _ _ lX12_readPart_46_ck (show ra_run ra_rI (kX12_readPart_46 N) (tVX12_readPart N) (tIX12_readPart N) ra_c0 ra_c0 ra_c0 ra_c0 9 lX12_readPart_46 [some (.ref a0), some (.int a1), none] [.int b0] h = some r from e) _ _ rfl
def lX12_readPart_45 : List ra_I := [(45, .iconst (0), 1, 0, 0, 0, (0), 0, [])]
set_option maxRecDepth 100000 in
theorem lX12_readPart_45_ck : lX12_readPart_45.all (ra_ck mX12_readPart 12) = true := by decide +kernel
def nX12_readPart_45 (N : Nat) (a0 : Nat) (a1 : Int32) (h : ra_H) : Option (Int32 × ra_H) :=
  nX12_readPart_46 N a0 a1 ((0 : Int32)) h
def kX12_readPart_45 (N : Nat) : Nat → List (Option Value) → List Value → ra_H → Option (Int32 × ra_H) := (ra_k1 46 (fun L S h => match L, S with
  | [some (.ref a0), some (.int a1), _], [.int b0] => nX12_readPart_46 N a0 a1 b0 h
  | _, _ => none) ra_k0)
theorem kX12_readPart_45_ok (N : Nat) : ra_kok 5 mX12_readPart ra_oI (kX12_readPart_45 N) := (ra_k1_ok (by
  intro L S h a e
  split at e
  · exact ra_Ru.weak (nX12_readPart_46_ok N _ _ _ _ _ e) ⟨rfl, ⟨rfl, trivial⟩⟩
  · cases e) ra_k0_ok)
set_option maxRecDepth 100000 in
theorem nX12_readPart_45_ok (N : Nat) (a0 : Nat) (a1 : Int32) (h : ra_H) (r : (Int32 × ra_H)) (e : nX12_readPart_45 N a0 a1 h = some r) : ra_Ru 5 mX12_readPart 45 [some (.ref a0), some (.int a1), none] [] h (ra_oI r) :=
  ra_sound (by omega) rfl ra_rI_ok (kX12_readPart_45_ok N) (fun m av h h1 e => (tVX12_readPart_ok N) m av h h1 e) (fun m av h x h1 e => (tIX12_readPart_ok N) m av h (x, h1) e) (fun m av h x h1 e => (ra_c0_ok (ro := ra_oJ)) m av h (x, h1) e) (fun m av h x h1 e => (ra_c0_ok (ro := ra_oR)) m av h (x, h1) e) (fun m av h x h1 e => (ra_c0_ok (ro := ra_oN)) m av h (x, h1) e) (fun m av h x h1 e => (ra_c0_ok (ro := ra_oF)) m av h (x, h1) e) 2 lX12_readPart_45 _ _ _ _ lX12_readPart_45_ck (show ra_run ra_rI (kX12_readPart_45 N) (tVX12_readPart N) (tIX12_readPart N) ra_c0 ra_c0 ra_c0 ra_c0 2 lX12_readPart_45 [some (.ref a0), some (.int a1), none] [] h = some r from e) _ _ rfl
def lX12_readPart_0 : List ra_I := [(0, .aload_n 0, 1, 0, 0, 0, 0, 0, []),
  (1, .bipush (91), 2, 0, 0, 0, (91), 0, []),
  (3, .invokevirtual 302, 3, 243, 2, 1, 0, 0, []),
  (6, .ifCond .eq (11), 3, 17, 0, 0, 0, 0, []),
  (9, .aload_n 0, 1, 0, 0, 0, 0, 0, []),
  (10, .bipush (31), 2, 0, 0, 0, (31), 0, []),
  (12, .invokevirtual 305, 3, 244, 2, 0, 0, 0, []),
  (15, .iconst (1), 1, 0, 0, 0, (1), 0, []),
  (16, .ireturn, 1, 0, 0, 0, 0, 0, []),
  (17, .aload_n 0, 1, 0, 0, 0, 0, 0, []),
  (18, .invokevirtual 308, 3, 246, 1, 1, 0, 0, []),
  (21, .istore_n 1, 1, 1, 0, 0, 0, 0, []),
  (22, .aload_n 0, 1, 0, 0, 0, 0, 0, []),
  (23, .getfield 245, 3, 12, 11, 0, 0, 0, []),
  (26, .iconst (2), 1, 0, 0, 0, (2), 0, []),
  (27, .if_icmp .ne (18), 3, 45, 0, 0, 0, 0, []),
  (30, .aload_n 0, 1, 0, 0, 0, 0, 0, []),
  (31, .getfield 235, 3, 12, 12, 1, 0, 0, []),
  (34, .ldc2_w 312, 3, 0, 0, 0, 0, (1000), []),
  (37, .lcmp, 1, 0, 0, 0, 0, 0, []),
  (38, .ifCond .gt (7), 3, 45, 0, 0, 0, 0, []),
  (41, .iconst (1), 1, 0, 0, 0, (1), 0, []),
  (42, .goto (4), 3, 46, 0, 0, 0, 0, [])]
set_option maxRecDepth 100000 in
theorem lX12_readPart_0_ck : lX12_readPart_0.all (ra_ck mX12_readPart 12) = true := by decide +kernel
def nX12_readPart_0 (N : Nat) (a0 : Nat) (h : ra_H) : Option (Int32 × ra_H) :=
  (fX12_isSign N a0 ((91 : Int32)) h).bind fun q1 =>
  if q1.1 = 0 then
    (fX12_partAt N a0 q1.2).bind fun q2 =>
    (ra_fI q2.2 12 a0 11).bind fun x3 =>
    if x3 = ((2 : Int32)) then
      (ra_fJ q2.2 12 a0 12).bind fun x4 =>
      if (lg_cmp x4 ((1000 : Int64))) ≤ 0 then
        nX12_readPart_46 N a0 q2.1 ((1 : Int32)) q2.2
      else
        nX12_readPart_45 N a0 q2.1 q2.2
    else
      nX12_readPart_45 N a0 q2.1 q2.2
  else
    (fX12_openBracket N a0 ((31 : Int32)) q1.2).bind fun h5 =>
    some ((1 : Int32), h5)
def kX12_readPart_0 (N : Nat) : Nat → List (Option Value) → List Value → ra_H → Option (Int32 × ra_H) := (ra_k1 45 (fun L S h => match L, S with
  | [some (.ref a0), some (.int a1), _], [] => nX12_readPart_45 N a0 a1 h
  | _, _ => none) (ra_k1 46 (fun L S h => match L, S with
  | [some (.ref a0), some (.int a1), _], [.int b0] => nX12_readPart_46 N a0 a1 b0 h
  | _, _ => none) ra_k0))
theorem kX12_readPart_0_ok (N : Nat) : ra_kok 5 mX12_readPart ra_oI (kX12_readPart_0 N) := (ra_k1_ok (by
  intro L S h a e
  split at e
  · exact ra_Ru.weak (nX12_readPart_45_ok N _ _ _ _ e) ⟨rfl, ⟨rfl, trivial⟩⟩
  · cases e) (ra_k1_ok (by
  intro L S h a e
  split at e
  · exact ra_Ru.weak (nX12_readPart_46_ok N _ _ _ _ _ e) ⟨rfl, ⟨rfl, trivial⟩⟩
  · cases e) ra_k0_ok))
set_option maxRecDepth 100000 in
theorem nX12_readPart_0_ok (N : Nat) (a0 : Nat) (h : ra_H) (r : (Int32 × ra_H)) (e : nX12_readPart_0 N a0 h = some r) : ra_Ru 5 mX12_readPart 0 [some (.ref a0), none, none] [] h (ra_oI r) :=
  ra_sound (by omega) rfl ra_rI_ok (kX12_readPart_0_ok N) (fun m av h h1 e => (tVX12_readPart_ok N) m av h h1 e) (fun m av h x h1 e => (tIX12_readPart_ok N) m av h (x, h1) e) (fun m av h x h1 e => (ra_c0_ok (ro := ra_oJ)) m av h (x, h1) e) (fun m av h x h1 e => (ra_c0_ok (ro := ra_oR)) m av h (x, h1) e) (fun m av h x h1 e => (ra_c0_ok (ro := ra_oN)) m av h (x, h1) e) (fun m av h x h1 e => (ra_c0_ok (ro := ra_oF)) m av h (x, h1) e) 24 lX12_readPart_0 _ _ _ _ lX12_readPart_0_ck (show ra_run ra_rI (kX12_readPart_0 N) (tVX12_readPart N) (tIX12_readPart N) ra_c0 ra_c0 ra_c0 ra_c0 24 lX12_readPart_0 [some (.ref a0), none, none] [] h = some r from e) _ _ rfl
def fX12_readPart (N : Nat) (p0 : Nat) (h : ra_H) : Option (Int32 × ra_H) := match ra_isOb h p0 12 with
  | true => nX12_readPart_0 N p0 h
  | false => none
set_option maxRecDepth 100000 in
theorem mtX12_readPart : ra_MT[245]? = some (mX12_readPart, 1, 0, (1, 13), (8, 7), (0, 78)) := rfl
theorem fX12_readPart_co (N : Nat) (p0 : Nat) (h : ra_H) (r : (Int32 × ra_H)) (e : fX12_readPart N p0 h = some r) (D : Nat) (hD : 6 ≤ D) : ra_CO D 245 [.ref p0] h (ra_oI r).1 (ra_oI r).2 := by
  have hw : ra_nw2 [.ref p0] ≤ 3 := Nat.le_of_ble_eq_true rfl
  have hdb : ∀ v ∈ ([.ref p0] : List Value), ∀ x, v ≠ .double x := by
    intro v hv x hx
    simp [hx] at hv
  unfold fX12_readPart at e
  split at e
  · rename_i ho
    have e1 := e
    exact ⟨5, _, mtX12_readPart, hD, ra_ev_of (by decide) hdb hw trivial (ra_Ru.weak (nX12_readPart_0_ok N p0 h _ e1) ⟨rfl, trivial⟩), (fun _ => ⟨_, _, rfl, ra_rcv_of ho (by decide) rfl⟩), (fun h => absurd h (by decide))⟩
  · cases e
/-! RedMarksModel.readPlain()I -/
def mX12_readPlain : ra_M := (yX12_readPlain, cX12_readPlain, 1, (some .int))
def tVX12_readPlain (N : Nat) : Nat → List Value → ra_H → Option ra_H := (ra_c1 233 (fun av h => match av with
  | [.ref z0] => fX12_goOn N z0 h
  | _ => none) (ra_c1 242 (fun av h => match av with
  | [.ref z0, .int z1, .int z2] => fX12_push N z0 z1 z2 h
  | _ => none) (ra_c1 244 (fun av h => match av with
  | [.ref z0, .int z1] => fX12_openBracket N z0 z1 h
  | _ => none) ra_c0)))
theorem tVX12_readPlain_ok (N : Nat) : ra_cok 6 ra_oV (tVX12_readPlain N) := (ra_c1_ok (by
  intro av h a e
  split at e
  · exact fX12_goOn_co N _ _ _ e 6 (by omega)
  · cases e) (ra_c1_ok (by
  intro av h a e
  split at e
  · exact fX12_push_co N _ _ _ _ _ e 6 (by omega)
  · cases e) (ra_c1_ok (by
  intro av h a e
  split at e
  · exact fX12_openBracket_co N _ _ _ _ e 6 (by omega)
  · cases e) ra_c0_ok)))
def tIX12_readPlain (N : Nat) : Nat → List Value → ra_H → Option (Int32 × ra_H) := (ra_c1 238 (fun av h => match av with
  | [.ref z0, .long z1] => fX12_isWord N z0 z1 h
  | _ => none) (ra_c1 243 (fun av h => match av with
  | [.ref z0, .int z1] => fX12_isSign N z0 z1 h
  | _ => none) (ra_c1 245 (fun av h => match av with
  | [.ref z0] => fX12_readPart N z0 h
  | _ => none) ra_c0)))
theorem tIX12_readPlain_ok (N : Nat) : ra_cok 6 ra_oI (tIX12_readPlain N) := (ra_c1_ok (by
  intro av h a e
  split at e
  · exact fX12_isWord_co N _ _ _ _ e 6 (by omega)
  · cases e) (ra_c1_ok (by
  intro av h a e
  split at e
  · exact fX12_isSign_co N _ _ _ _ e 6 (by omega)
  · cases e) (ra_c1_ok (by
  intro av h a e
  split at e
  · exact fX12_readPart_co N _ _ _ e 6 (by omega)
  · cases e) ra_c0_ok)))
def lX12_readPlain_0 : List ra_I := [(0, .aload_n 0, 1, 0, 0, 0, 0, 0, []),
  (1, .ldc2_w 318, 3, 0, 0, 0, 0, (14836), []),
  (4, .invokevirtual 285, 3, 238, 2, 1, 0, 0, []),
  (7, .ifCond .eq (16), 3, 23, 0, 0, 0, 0, []),
  (10, .aload_n 0, 1, 0, 0, 0, 0, 0, []),
  (11, .bipush (27), 2, 0, 0, 0, (27), 0, []),
  (13, .iconst (0), 1, 0, 0, 0, (0), 0, []),
  (14, .invokevirtual 296, 3, 242, 3, 0, 0, 0, []),
  (17, .aload_n 0, 1, 0, 0, 0, 0, 0, []),
  (18, .invokevirtual 229, 3, 233, 1, 0, 0, 0, []),
  (21, .iconst (0), 1, 0, 0, 0, (0), 0, []),
  (22, .ireturn, 1, 0, 0, 0, 0, 0, []),
  (23, .aload_n 0, 1, 0, 0, 0, 0, 0, []),
  (24, .bipush (40), 2, 0, 0, 0, (40), 0, []),
  (26, .invokevirtual 302, 3, 243, 2, 1, 0, 0, []),
  (29, .ifCond .eq (11), 3, 40, 0, 0, 0, 0, []),
  (32, .aload_n 0, 1, 0, 0, 0, 0, 0, []),
  (33, .bipush (30), 2, 0, 0, 0, (30), 0, []),
  (35, .invokevirtual 305, 3, 244, 2, 0, 0, 0, []),
  (38, .iconst (0), 1, 0, 0, 0, (0), 0, []),
  (39, .ireturn, 1, 0, 0, 0, 0, 0, []),
  (40, .aload_n 0, 1, 0, 0, 0, 0, 0, []),
  (41, .invokevirtual 320, 3, 245, 1, 1, 0, 0, []),
  (44, .ireturn, 1, 0, 0, 0, 0, 0, [])]
set_option maxRecDepth 100000 in
theorem lX12_readPlain_0_ck : lX12_readPlain_0.all (ra_ck mX12_readPlain 12) = true := by decide +kernel
def nX12_readPlain_0 (N : Nat) (a0 : Nat) (h : ra_H) : Option (Int32 × ra_H) :=
  (fX12_isWord N a0 ((14836 : Int64)) h).bind fun q1 =>
  if q1.1 = 0 then
    (fX12_isSign N a0 ((40 : Int32)) q1.2).bind fun q2 =>
    if q2.1 = 0 then
      (fX12_readPart N a0 q2.2).bind fun q3 =>
      some (q3.1, q3.2)
    else
      (fX12_openBracket N a0 ((30 : Int32)) q2.2).bind fun h4 =>
      some ((0 : Int32), h4)
  else
    (fX12_push N a0 ((27 : Int32)) ((0 : Int32)) q1.2).bind fun h5 =>
    (fX12_goOn N a0 h5).bind fun h6 =>
    some ((0 : Int32), h6)
def kX12_readPlain_0 (N : Nat) : Nat → List (Option Value) → List Value → ra_H → Option (Int32 × ra_H) := ra_k0
theorem kX12_readPlain_0_ok (N : Nat) : ra_kok 6 mX12_readPlain ra_oI (kX12_readPlain_0 N) := ra_k0_ok
set_option maxRecDepth 100000 in
theorem nX12_readPlain_0_ok (N : Nat) (a0 : Nat) (h : ra_H) (r : (Int32 × ra_H)) (e : nX12_readPlain_0 N a0 h = some r) : ra_Ru 6 mX12_readPlain 0 [some (.ref a0)] [] h (ra_oI r) :=
  ra_sound (by omega) rfl ra_rI_ok (kX12_readPlain_0_ok N) (fun m av h h1 e => (tVX12_readPlain_ok N) m av h h1 e) (fun m av h x h1 e => (tIX12_readPlain_ok N) m av h (x, h1) e) (fun m av h x h1 e => (ra_c0_ok (ro := ra_oJ)) m av h (x, h1) e) (fun m av h x h1 e => (ra_c0_ok (ro := ra_oR)) m av h (x, h1) e) (fun m av h x h1 e => (ra_c0_ok (ro := ra_oN)) m av h (x, h1) e) (fun m av h x h1 e => (ra_c0_ok (ro := ra_oF)) m av h (x, h1) e) 25 lX12_readPlain_0 _ _ _ _ lX12_readPlain_0_ck (show ra_run ra_rI (kX12_readPlain_0 N) (tVX12_readPlain N) (tIX12_readPlain N) ra_c0 ra_c0 ra_c0 ra_c0 25 lX12_readPlain_0 [some (.ref a0)] [] h = some r from e) _ _ rfl
def fX12_readPlain (N : Nat) (p0 : Nat) (h : ra_H) : Option (Int32 × ra_H) := match ra_isOb h p0 12 with
  | true => nX12_readPlain_0 N p0 h
  | false => none
set_option maxRecDepth 100000 in
theorem mtX12_readPlain : ra_MT[241]? = some (mX12_readPlain, 1, 0, (1, 13), (7, 230), (0, 74)) := rfl
theorem fX12_readPlain_co (N : Nat) (p0 : Nat) (h : ra_H) (r : (Int32 × ra_H)) (e : fX12_readPlain N p0 h = some r) (D : Nat) (hD : 7 ≤ D) : ra_CO D 241 [.ref p0] h (ra_oI r).1 (ra_oI r).2 := by
  have hw : ra_nw2 [.ref p0] ≤ 1 := Nat.le_of_ble_eq_true rfl
  have hdb : ∀ v ∈ ([.ref p0] : List Value), ∀ x, v ≠ .double x := by
    intro v hv x hx
    simp [hx] at hv
  unfold fX12_readPlain at e
  split at e
  · rename_i ho
    have e1 := e
    exact ⟨6, _, mtX12_readPlain, hD, ra_ev_of (by decide) hdb hw trivial (ra_Ru.weak (nX12_readPlain_0_ok N p0 h _ e1) ⟨rfl, trivial⟩), (fun _ => ⟨_, _, rfl, ra_rcv_of ho (by decide) rfl⟩), (fun h => absurd h (by decide))⟩
  · cases e
/-! RedMarksModel.readExpression(Z)V -/
def mX12_readExpression : ra_M := (yX12_readExpression, cX12_readExpression, 3, none)
def tVX12_readExpression (N : Nat) : Nat → List Value → ra_H → Option ra_H := (ra_c1 251 (fun av h => match av with
  | [.ref z0, .int z1] => fX12_settle N z0 z1 h
  | _ => none) ra_c0)
theorem tVX12_readExpression_ok (N : Nat) : ra_cok 7 ra_oV (tVX12_readExpression N) := (ra_c1_ok (by
  intro av h a e
  split at e
  · exact fX12_settle_co N _ _ _ _ e 7 (by omega)
  · cases e) ra_c0_ok)
def tIX12_readExpression (N : Nat) : Nat → List Value → ra_H → Option (Int32 × ra_H) := (ra_c1 241 (fun av h => match av with
  | [.ref z0] => fX12_readPlain N z0 h
  | _ => none) (ra_c1 245 (fun av h => match av with
  | [.ref z0] => fX12_readPart N z0 h
  | _ => none) (ra_c1 249 (fun av h => match av with
  | [.ref z0, .int z1] => fX12_behindSum N z0 z1 h
  | _ => none) (ra_c1 254 (fun av h => match av with
  | [.ref z0] => fX12_behindTest N z0 h
  | _ => none) ra_c0))))
theorem tIX12_readExpression_ok (N : Nat) : ra_cok 7 ra_oI (tIX12_readExpression N) := (ra_c1_ok (by
  intro av h a e
  split at e
  · exact fX12_readPlain_co N _ _ _ e 7 (by omega)
  · cases e) (ra_c1_ok (by
  intro av h a e
  split at e
  · exact fX12_readPart_co N _ _ _ e 7 (by omega)
  · cases e) (ra_c1_ok (by
  intro av h a e
  split at e
  · exact fX12_behindSum_co N _ _ _ _ e 7 (by omega)
  · cases e) (ra_c1_ok (by
  intro av h a e
  split at e
  · exact fX12_behindTest_co N _ _ _ e 7 (by omega)
  · cases e) ra_c0_ok))))
def lX12_readExpression_72 : List ra_I := [(72, .istore_n 2, 1, 2, 0, 0, 0, 0, []),
  (73, .goto (-53), 3, 20, 0, 0, 0, 0, [])]
set_option maxRecDepth 100000 in
theorem lX12_readExpression_72_ck : lX12_readExpression_72.all (ra_ck mX12_readExpression 12) = true := by decide +kernel
def nX12_readExpression_72 (N : Nat) (c20 : Nat → Int32 → Int32 → ra_H → Option ra_H) (a0 : Nat) (a1 : Int32) (b0 : Int32) (h : ra_H) : Option ra_H :=
  c20 a0 a1 b0 h
def kX12_readExpression_72 (N : Nat) (c20 : Nat → Int32 → Int32 → ra_H → Option ra_H) : Nat → List (Option Value) → List Value → ra_H → Option ra_H := (ra_k1 20 (fun L S h => match L, S with
  | [some (.ref a0), some (.int a1), some (.int a2)], [] => c20 a0 a1 a2 h
  | _, _ => none) ra_k0)
theorem kX12_readExpression_72_ok (N : Nat) (c20 : Nat → Int32 → Int32 → ra_H → Option ra_H) (hc20 : ∀ a0 a1 a2 h r, c20 a0 a1 a2 h = some r → ra_Ru 7 mX12_readExpression 20 [some (.ref a0), some (.int a1), some (.int a2)] [] h (ra_oV r)) : ra_kok 7 mX12_readExpression ra_oV (kX12_readExpression_72 N c20) := (ra_k1_ok (by
  intro L S h a e
  split at e
  · exact ra_Ru.weak (hc20 _ _ _ _ _ e) ⟨rfl, ⟨rfl, ⟨rfl, trivial⟩⟩⟩
  · cases e) ra_k0_ok)
set_option maxRecDepth 100000 in
theorem nX12_readExpression_72_ok (N : Nat) (c20 : Nat → Int32 → Int32 → ra_H → Option ra_H) (hc20 : ∀ a0 a1 a2 h r, c20 a0 a1 a2 h = some r → ra_Ru 7 mX12_readExpression 20 [some (.ref a0), some (.int a1), some (.int a2)] [] h (ra_oV r)) (a0 : Nat) (a1 : Int32) (b0 : Int32) (h : ra_H) (r : ra_H) (e : nX12_readExpression_72 N c20 a0 a1 b0 h = some r) : ra_Ru 7 mX12_readExpression 72 [some (.ref a0), some (.int a1), none] [.int b0] h (ra_oV r) :=
  ra_sound (by omega) rfl ra_rV_ok (kX12_readExpression_72_ok N c20 hc20) (fun m av h h1 e => (tVX12_readExpression_ok N) m av h h1 e) (fun m av h x h1 e => (tIX12_readExpression_ok N) m av h (x, h1) e) (fun m av h x h1 e => (ra_c0_ok (ro := ra_oJ)) m av h (x, h1) e) (fun m av h x h1 e => (ra_c0_ok (ro := ra_oR)) m av h (x, h1) e) (fun m av h x h1 e => (ra_c0_ok (ro := ra_oN)) m av h (x, h1) e) (fun m av h x h1 e => (ra_c0_ok (ro := ra_oF)) m av h (x, h1) e) 3 lX12_readExpression_72 _ _ _ _ lX12_readExpression_72_ck (show ra_run ra_rV (kX12_readExpression_72 N c20) (tVX12_readExpression N) (tIX12_readExpression N) ra_c0 ra_c0 ra_c0 ra_c0 3 lX12_readExpression_72 [some (.ref a0), some (.int a1), none] [.int b0] h = some r from e) _ _ rfl
def lX12_readExpression_76 : List ra_I := [(76, .aload_n 0, 1, 0, 0, 0, 0, 0, []),
  (77, .iconst (1), 1, 0, 0, 0, (1), 0, []),
  (78, .invokevirtual 323, 3, 251, 2, 0, 0, 0, []),
  (81, .return_, 1, 0, 0, 0, 0, 0, [])]
set_option maxRecDepth 100000 in
theorem lX12_readExpression_76_ck : lX12_readExpression_76.all (ra_ck mX12_readExpression 12) = true := by decide +kernel
def nX12_readExpression_76 (N : Nat) (a0 : Nat) (h : ra_H) : Option ra_H :=
  (fX12_settle N a0 ((1 : Int32)) h).bind fun h1 =>
  some h1
def kX12_readExpression_76 (N : Nat) : Nat → List (Option Value) → List Value → ra_H → Option ra_H := ra_k0
theorem kX12_readExpression_76_ok (N : Nat) : ra_kok 7 mX12_readExpression ra_oV (kX12_readExpression_76 N) := ra_k0_ok
set_option maxRecDepth 100000 in
theorem nX12_readExpression_76_ok (N : Nat) (a0 : Nat) (h : ra_H) (r : ra_H) (e : nX12_readExpression_76 N a0 h = some r) : ra_Ru 7 mX12_readExpression 76 [some (.ref a0), none, none] [] h (ra_oV r) :=
  ra_sound (by omega) rfl ra_rV_ok (kX12_readExpression_76_ok N) (fun m av h h1 e => (tVX12_readExpression_ok N) m av h h1 e) (fun m av h x h1 e => (tIX12_readExpression_ok N) m av h (x, h1) e) (fun m av h x h1 e => (ra_c0_ok (ro := ra_oJ)) m av h (x, h1) e) (fun m av h x h1 e => (ra_c0_ok (ro := ra_oR)) m av h (x, h1) e) (fun m av h x h1 e => (ra_c0_ok (ro := ra_oN)) m av h (x, h1) e) (fun m av h x h1 e => (ra_c0_ok (ro := ra_oF)) m av h (x, h1) e) 5 lX12_readExpression_76 _ _ _ _ lX12_readExpression_76_ck (show ra_run ra_rV (kX12_readExpression_76 N) (tVX12_readExpression N) (tIX12_readExpression N) ra_c0 ra_c0 ra_c0 ra_c0 5 lX12_readExpression_76 [some (.ref a0), none, none] [] h = some r from e) _ _ rfl
def lX12_readExpression_20 : List ra_I := [(20, .aload_n 0, 1, 0, 0, 0, 0, 0, []),
  (21, .getfield 225, 3, 12, 14, 0, 0, 0, []),
  (24, .ifCond .ne (52), 3, 76, 0, 0, 0, 0, []),
  (27, .iload_n 2, 1, 2, 0, 0, 0, 0, []),
  (28, .iconst (4), 1, 0, 0, 0, (4), 0, []),
  (29, .if_icmp .eq (47), 3, 76, 0, 0, 0, 0, []),
  (32, .iload_n 2, 1, 2, 0, 0, 0, 0, []),
  (33, .ifCond .ne (10), 3, 43, 0, 0, 0, 0, []),
  (36, .aload_n 0, 1, 0, 0, 0, 0, 0, []),
  (37, .invokevirtual 337, 3, 241, 1, 1, 0, 0, []),
  (40, .goto (32), 3, 72, 0, 0, 0, 0, []),
  (43, .iload_n 2, 1, 2, 0, 0, 0, 0, []),
  (44, .iconst (1), 1, 0, 0, 0, (1), 0, []),
  (45, .if_icmp .ne (10), 3, 55, 0, 0, 0, 0, []),
  (48, .aload_n 0, 1, 0, 0, 0, 0, 0, []),
  (49, .invokevirtual 320, 3, 245, 1, 1, 0, 0, []),
  (52, .goto (20), 3, 72, 0, 0, 0, 0, []),
  (55, .iload_n 2, 1, 2, 0, 0, 0, 0, []),
  (56, .iconst (3), 1, 0, 0, 0, (3), 0, []),
  (57, .if_icmp .ne (11), 3, 68, 0, 0, 0, 0, []),
  (60, .aload_n 0, 1, 0, 0, 0, 0, 0, []),
  (61, .iload_n 1, 1, 1, 0, 0, 0, 0, []),
  (62, .invokevirtual 340, 3, 249, 2, 1, 0, 0, []),
  (65, .goto (7), 3, 72, 0, 0, 0, 0, []),
  (68, .aload_n 0, 1, 0, 0, 0, 0, 0, []),
  (69, .invokevirtual 344, 3, 254, 1, 1, 0, 0, [])]
set_option maxRecDepth 100000 in
theorem lX12_readExpression_20_ck : lX12_readExpression_20.all (ra_ck mX12_readExpression 12) = true := by decide +kernel
def nX12_readExpression_20 (N : Nat) : Nat → Nat → Int32 → Int32 → ra_H → Option ra_H
  | 0, _, _, _, _ => none
  | n + 1, a0, a1, a2, h =>
  (ra_fI h 12 a0 14).bind fun x1 =>
  if x1 = 0 then
    if a2 = ((4 : Int32)) then
      nX12_readExpression_76 N a0 h
    else
      if a2 = 0 then
        (fX12_readPlain N a0 h).bind fun q5 =>
        nX12_readExpression_72 N (nX12_readExpression_20 N n) a0 a1 q5.1 q5.2
      else
        if a2 = ((1 : Int32)) then
          (fX12_readPart N a0 h).bind fun q4 =>
          nX12_readExpression_72 N (nX12_readExpression_20 N n) a0 a1 q4.1 q4.2
        else
          if a2 = ((3 : Int32)) then
            (fX12_behindSum N a0 a1 h).bind fun q3 =>
            nX12_readExpression_72 N (nX12_readExpression_20 N n) a0 a1 q3.1 q3.2
          else
            (fX12_behindTest N a0 h).bind fun q2 =>
            nX12_readExpression_72 N (nX12_readExpression_20 N n) a0 a1 q2.1 q2.2
  else
    nX12_readExpression_76 N a0 h
def kX12_readExpression_20 (N : Nat) (cs : Nat → Int32 → Int32 → ra_H → Option ra_H) : Nat → List (Option Value) → List Value → ra_H → Option ra_H := (ra_k1 72 (fun L S h => match L, S with
  | [some (.ref a0), some (.int a1), _], [.int b0] => nX12_readExpression_72 N cs a0 a1 b0 h
  | _, _ => none) (ra_k1 76 (fun L S h => match L, S with
  | [some (.ref a0), _, _], [] => nX12_readExpression_76 N a0 h
  | _, _ => none) ra_k0))
theorem kX12_readExpression_20_ok (N : Nat) (cs : Nat → Int32 → Int32 → ra_H → Option ra_H) (hcs : ∀ a0 a1 a2 h r, cs a0 a1 a2 h = some r → ra_Ru 7 mX12_readExpression 20 [some (.ref a0), some (.int a1), some (.int a2)] [] h (ra_oV r)) : ra_kok 7 mX12_readExpression ra_oV (kX12_readExpression_20 N cs) := (ra_k1_ok (by
  intro L S h a e
  split at e
  · exact ra_Ru.weak (nX12_readExpression_72_ok N cs hcs _ _ _ _ _ e) ⟨rfl, ⟨rfl, trivial⟩⟩
  · cases e) (ra_k1_ok (by
  intro L S h a e
  split at e
  · exact ra_Ru.weak (nX12_readExpression_76_ok N _ _ _ e) ⟨rfl, trivial⟩
  · cases e) ra_k0_ok))
set_option maxRecDepth 100000 in
theorem nX12_readExpression_20_ok (N : Nat) : ∀ n a0 a1 a2 h r, nX12_readExpression_20 N n a0 a1 a2 h = some r → ra_Ru 7 mX12_readExpression 20 [some (.ref a0), some (.int a1), some (.int a2)] [] h (ra_oV r) := by
  intro n
  induction n with
  | zero => intro a0 a1 a2 h r e; cases e
  | succ n ih =>
    intro a0 a1 a2 h r e
    exact ra_sound (by omega) rfl ra_rV_ok (kX12_readExpression_20_ok N (nX12_readExpression_20 N n) ih) (fun m av h h1 e => (tVX12_readExpression_ok N) m av h h1 e) (fun m av h x h1 e => (tIX12_readExpression_ok N) m av h (x, h1) e) (fun m av h x h1 e => (ra_c0_ok (ro := ra_oJ)) m av h (x, h1) e) (fun m av h x h1 e => (ra_c0_ok (ro := ra_oR)) m av h (x, h1) e) (fun m av h x h1 e => (ra_c0_ok (ro := ra_oN)) m av h (x, h1) e) (fun m av h x h1 e => (ra_c0_ok (ro := ra_oF)) m av h (x, h1) e) 27 lX12_readExpression_20 _ _ _ _ lX12_readExpression_20_ck (show ra_run ra_rV (kX12_readExpression_20 N (nX12_readExpression_20 N n)) (tVX12_readExpression N) (tIX12_readExpression N) ra_c0 ra_c0 ra_c0 ra_c0 27 lX12_readExpression_20 [some (.ref a0), some (.int a1), some (.int a2)] [] h = some r from e) _ _ rfl
def lX12_readExpression_19 : List ra_I := [(19, .istore_n 2, 1, 2, 0, 0, 0, 0, [])]
set_option maxRecDepth 100000 in
theorem lX12_readExpression_19_ck : lX12_readExpression_19.all (ra_ck mX12_readExpression 12) = true := by decide +kernel
def nX12_readExpression_19 (N : Nat) (a0 : Nat) (a1 : Int32) (b0 : Int32) (h : ra_H) : Option ra_H :=
  nX12_readExpression_20 N N a0 a1 b0 h
def kX12_readExpression_19 (N : Nat) : Nat → List (Option Value) → List Value → ra_H → Option ra_H := (ra_k1 20 (fun L S h => match L, S with
  | [some (.ref a0), some (.int a1), some (.int a2)], [] => nX12_readExpression_20 N N a0 a1 a2 h
  | _, _ => none) ra_k0)
theorem kX12_readExpression_19_ok (N : Nat) : ra_kok 7 mX12_readExpression ra_oV (kX12_readExpression_19 N) := (ra_k1_ok (by
  intro L S h a e
  split at e
  · exact ra_Ru.weak (nX12_readExpression_20_ok N N _ _ _ _ _ e) ⟨rfl, ⟨rfl, ⟨rfl, trivial⟩⟩⟩
  · cases e) ra_k0_ok)
set_option maxRecDepth 100000 in
theorem nX12_readExpression_19_ok (N : Nat) (a0 : Nat) (a1 : Int32) (b0 : Int32) (h : ra_H) (r : ra_H) (e : nX12_readExpression_19 N a0 a1 b0 h = some r) : ra_Ru 7 mX12_readExpression 19 [some (.ref a0), some (.int a1), none] [.int b0] h (ra_oV r) :=
  ra_sound (by omega) rfl ra_rV_ok (kX12_readExpression_19_ok N) (fun m av h h1 e => (tVX12_readExpression_ok N) m av h h1 e) (fun m av h x h1 e => (tIX12_readExpression_ok N) m av h (x, h1) e) (fun m av h x h1 e => (ra_c0_ok (ro := ra_oJ)) m av h (x, h1) e) (fun m av h x h1 e => (ra_c0_ok (ro := ra_oR)) m av h (x, h1) e) (fun m av h x h1 e => (ra_c0_ok (ro := ra_oN)) m av h (x, h1) e) (fun m av h x h1 e => (ra_c0_ok (ro := ra_oF)) m av h (x, h1) e) 2 lX12_readExpression_19 _ _ _ _ lX12_readExpression_19_ck (show ra_run ra_rV (kX12_readExpression_19 N) (tVX12_readExpression N) (tIX12_readExpression N) ra_c0 ra_c0 ra_c0 ra_c0 2 lX12_readExpression_19 [some (.ref a0), some (.int a1), none] [.int b0] h = some r from e) _ _ rfl
def lX12_readExpression_0 : List ra_I := [(0, .aload_n 0, 1, 0, 0, 0, 0, 0, []),
  (1, .iconst (0), 1, 0, 0, 0, (0), 0, []),
  (2, .putfield 267, 3, 12, 23, 0, 0, 0, []),
  (5, .aload_n 0, 1, 0, 0, 0, 0, 0, []),
  (6, .iconst (0), 1, 0, 0, 0, (0), 0, []),
  (7, .putfield 293, 3, 12, 24, 0, 0, 0, []),
  (10, .iload_n 1, 1, 1, 0, 0, 0, 0, []),
  (11, .ifCond .eq (7), 3, 18, 0, 0, 0, 0, []),
  (14, .iconst (0), 1, 0, 0, 0, (0), 0, []),
  (15, .goto (4), 3, 19, 0, 0, 0, 0, []),
  (18, .iconst (1), 1, 0, 0, 0, (1), 0, [])]
set_option maxRecDepth 100000 in
theorem lX12_readExpression_0_ck : lX12_readExpression_0.all (ra_ck mX12_readExpression 12) = true := by decide +kernel
def nX12_readExpression_0 (N : Nat) (a0 : Nat) (a1 : Int32) (h : ra_H) : Option ra_H :=
  (ra_fW h 12 a0 23 (.int ((0 : Int32)))).bind fun h1 =>
  (ra_fW h1 12 a0 24 (.int ((0 : Int32)))).bind fun h2 =>
  if a1 = 0 then
    nX12_readExpression_19 N a0 a1 ((1 : Int32)) h2
  else
    nX12_readExpression_19 N a0 a1 ((0 : Int32)) h2
def kX12_readExpression_0 (N : Nat) : Nat → List (Option Value) → List Value → ra_H → Option ra_H := (ra_k1 19 (fun L S h => match L, S with
  | [some (.ref a0), some (.int a1), _], [.int b0] => nX12_readExpression_19 N a0 a1 b0 h
  | _, _ => none) ra_k0)
theorem kX12_readExpression_0_ok (N : Nat) : ra_kok 7 mX12_readExpression ra_oV (kX12_readExpression_0 N) := (ra_k1_ok (by
  intro L S h a e
  split at e
  · exact ra_Ru.weak (nX12_readExpression_19_ok N _ _ _ _ _ e) ⟨rfl, ⟨rfl, trivial⟩⟩
  · cases e) ra_k0_ok)
set_option maxRecDepth 100000 in
theorem nX12_readExpression_0_ok (N : Nat) (a0 : Nat) (a1 : Int32) (h : ra_H) (r : ra_H) (e : nX12_readExpression_0 N a0 a1 h = some r) : ra_Ru 7 mX12_readExpression 0 [some (.ref a0), some (.int a1), none] [] h (ra_oV r) :=
  ra_sound (by omega) rfl ra_rV_ok (kX12_readExpression_0_ok N) (fun m av h h1 e => (tVX12_readExpression_ok N) m av h h1 e) (fun m av h x h1 e => (tIX12_readExpression_ok N) m av h (x, h1) e) (fun m av h x h1 e => (ra_c0_ok (ro := ra_oJ)) m av h (x, h1) e) (fun m av h x h1 e => (ra_c0_ok (ro := ra_oR)) m av h (x, h1) e) (fun m av h x h1 e => (ra_c0_ok (ro := ra_oN)) m av h (x, h1) e) (fun m av h x h1 e => (ra_c0_ok (ro := ra_oF)) m av h (x, h1) e) 12 lX12_readExpression_0 _ _ _ _ lX12_readExpression_0_ck (show ra_run ra_rV (kX12_readExpression_0 N) (tVX12_readExpression N) (tIX12_readExpression N) ra_c0 ra_c0 ra_c0 ra_c0 12 lX12_readExpression_0 [some (.ref a0), some (.int a1), none] [] h = some r from e) _ _ rfl
def fX12_readExpression (N : Nat) (p0 : Nat) (p1 : Int32) (h : ra_H) : Option ra_H := match ra_isOb h p0 12 with
  | true => nX12_readExpression_0 N p0 p1 h
  | false => none
set_option maxRecDepth 100000 in
theorem mtX12_readExpression : ra_MT[240]? = some (mX12_readExpression, 1, 1, (1, 13), (7, 226), (0, 73)) := rfl
theorem fX12_readExpression_co (N : Nat) (p0 : Nat) (p1 : Int32) (h : ra_H) (r : ra_H) (e : fX12_readExpression N p0 p1 h = some r) (D : Nat) (hD : 8 ≤ D) : ra_CO D 240 [.ref p0, .int p1] h (ra_oV r).1 (ra_oV r).2 := by
  have hw : ra_nw2 [.ref p0, .int p1] ≤ 3 := Nat.le_of_ble_eq_true rfl
  have hdb : ∀ v ∈ ([.ref p0, .int p1] : List Value), ∀ x, v ≠ .double x := by
    intro v hv x hx
    simp [hx] at hv
  unfold fX12_readExpression at e
  split at e
  · rename_i ho
    have e1 := e
    exact ⟨7, _, mtX12_readExpression, hD, ra_ev_of (by decide) hdb hw trivial (ra_Ru.weak (nX12_readExpression_0_ok N p0 p1 h _ e1) ⟨rfl, ⟨rfl, trivial⟩⟩), (fun _ => ⟨_, _, rfl, ra_rcv_of ho (by decide) rfl⟩), (fun h => absurd h (by decide))⟩
  · cases e
/-! RedMarksModel.readClause()V -/
def mX12_readClause : ra_M := (yX12_readClause, cX12_readClause, 4, none)
def tVX12_readClause (N : Nat) : Nat → List Value → ra_H → Option ra_H := (ra_c1 233 (fun av h => match av with
  | [.ref z0] => fX12_goOn N z0 h
  | _ => none) (ra_c1 239 (fun av h => match av with
  | [.ref z0, .int z1] => fX12_must N z0 z1 h
  | _ => none) (ra_c1 240 (fun av h => match av with
  | [.ref z0, .int z1] => fX12_readExpression N z0 z1 h
  | _ => none) ra_c0)))
theorem tVX12_readClause_ok (N : Nat) : ra_cok 8 ra_oV (tVX12_readClause N) := (ra_c1_ok (by
  intro av h a e
  split at e
  · exact fX12_goOn_co N _ _ _ e 8 (by omega)
  · cases e) (ra_c1_ok (by
  intro av h a e
  split at e
  · exact fX12_must_co N _ _ _ _ e 8 (by omega)
  · cases e) (ra_c1_ok (by
  intro av h a e
  split at e
  · exact fX12_readExpression_co N _ _ _ _ e 8 (by omega)
  · cases e) ra_c0_ok)))
def tIX12_readClause (N : Nat) : Nat → List Value → ra_H → Option (Int32 × ra_H) := (ra_c1 237 (fun av h => match av with
  | [.ref z0, .ref z1, .int z2] => fX12_which N z0 z1 z2 h
  | _ => none) (ra_c1 238 (fun av h => match av with
  | [.ref z0, .long z1] => fX12_isWord N z0 z1 h
  | _ => none) ra_c0))
theorem tIX12_readClause_ok (N : Nat) : ra_cok 8 ra_oI (tIX12_readClause N) := (ra_c1_ok (by
  intro av h a e
  split at e
  · exact fX12_which_co N _ _ _ _ _ e 8 (by omega)
  · cases e) (ra_c1_ok (by
  intro av h a e
  split at e
  · exact fX12_isWord_co N _ _ _ _ e 8 (by omega)
  · cases e) ra_c0_ok))
def lX12_readClause_161 : List ra_I := [(161, .aload_n 0, 1, 0, 0, 0, 0, 0, []),
  (162, .getfield 30, 3, 12, 16, 2, 0, 0, []),
  (165, .iload_n 2, 1, 2, 0, 0, 0, 0, []),
  (166, .bipush (6), 2, 0, 0, 0, (6), 0, []),
  (168, .iadd, 1, 0, 0, 0, 0, 0, []),
  (169, .aload_n 0, 1, 0, 0, 0, 0, 0, []),
  (170, .getfield 264, 3, 12, 17, 0, 0, 0, []),
  (173, .iastore, 1, 0, 0, 0, 0, 0, []),
  (174, .return_, 1, 0, 0, 0, 0, 0, [])]
set_option maxRecDepth 100000 in
theorem lX12_readClause_161_ck : lX12_readClause_161.all (ra_ck mX12_readClause 12) = true := by decide +kernel
def nX12_readClause_161 (N : Nat) (a0 : Nat) (a2 : Int32) (h : ra_H) : Option ra_H :=
  (ra_fR h 12 a0 16).bind fun x1 =>
  (ra_fI h 12 a0 17).bind fun x2 =>
  (ra_aW h 0 x1 (a2 + ((6 : Int32))) x2).bind fun h3 =>
  some h3
def kX12_readClause_161 (N : Nat) : Nat → List (Option Value) → List Value → ra_H → Option ra_H := ra_k0
theorem kX12_readClause_161_ok (N : Nat) : ra_kok 8 mX12_readClause ra_oV (kX12_readClause_161 N) := ra_k0_ok
set_option maxRecDepth 100000 in
theorem nX12_readClause_161_ok (N : Nat) (a0 : Nat) (a2 : Int32) (h : ra_H) (r : ra_H) (e : nX12_readClause_161 N a0 a2 h = some r) : ra_Ru 8 mX12_readClause 161 [some (.ref a0), none, some (.int a2), none] [] h (ra_oV r) :=
  ra_sound (by omega) rfl ra_rV_ok (kX12_readClause_161_ok N) (fun m av h h1 e => (tVX12_readClause_ok N) m av h h1 e) (fun m av h x h1 e => (tIX12_readClause_ok N) m av h (x, h1) e) (fun m av h x h1 e => (ra_c0_ok (ro := ra_oJ)) m av h (x, h1) e) (fun m av h x h1 e => (ra_c0_ok (ro := ra_oR)) m av h (x, h1) e) (fun m av h x h1 e => (ra_c0_ok (ro := ra_oN)) m av h (x, h1) e) (fun m av h x h1 e => (ra_c0_ok (ro := ra_oF)) m av h (x, h1) e) 10 lX12_readClause_161 _ _ _ _ lX12_readClause_161_ck (show ra_run ra_rV (kX12_readClause_161 N) (tVX12_readClause N) (tIX12_readClause N) ra_c0 ra_c0 ra_c0 ra_c0 10 lX12_readClause_161 [some (.ref a0), none, some (.int a2), none] [] h = some r from e) _ _ rfl
def lX12_readClause_111 : List ra_I := [(111, .aload_n 0, 1, 0, 0, 0, 0, 0, []),
  (112, .getfield 30, 3, 12, 16, 2, 0, 0, []),
  (115, .iload_n 2, 1, 2, 0, 0, 0, 0, []),
  (116, .iconst (4), 1, 0, 0, 0, (4), 0, []),
  (117, .iadd, 1, 0, 0, 0, 0, 0, []),
  (118, .aload_n 0, 1, 0, 0, 0, 0, 0, []),
  (119, .getfield 264, 3, 12, 17, 0, 0, 0, []),
  (122, .iastore, 1, 0, 0, 0, 0, 0, []),
  (123, .aload_n 0, 1, 0, 0, 0, 0, 0, []),
  (124, .getfield 30, 3, 12, 16, 2, 0, 0, []),
  (127, .iload_n 2, 1, 2, 0, 0, 0, 0, []),
  (128, .iconst (5), 1, 0, 0, 0, (5), 0, []),
  (129, .iadd, 1, 0, 0, 0, 0, 0, []),
  (130, .aload_n 0, 1, 0, 0, 0, 0, 0, []),
  (131, .getfield 264, 3, 12, 17, 0, 0, 0, []),
  (134, .iastore, 1, 0, 0, 0, 0, 0, []),
  (135, .aload_n 0, 1, 0, 0, 0, 0, 0, []),
  (136, .getfield 225, 3, 12, 14, 0, 0, 0, []),
  (139, .ifCond .ne (22), 3, 161, 0, 0, 0, 0, []),
  (142, .aload_n 0, 1, 0, 0, 0, 0, 0, []),
  (143, .ldc2_w 353, 3, 0, 0, 0, 0, (294), []),
  (146, .invokevirtual 285, 3, 238, 2, 1, 0, 0, []),
  (149, .ifCond .eq (12), 3, 161, 0, 0, 0, 0, []),
  (152, .aload_n 0, 1, 0, 0, 0, 0, 0, []),
  (153, .invokevirtual 229, 3, 233, 1, 0, 0, 0, []),
  (156, .aload_n 0, 1, 0, 0, 0, 0, 0, []),
  (157, .iconst (1), 1, 0, 0, 0, (1), 0, []),
  (158, .invokevirtual 350, 3, 240, 2, 0, 0, 0, [])]
set_option maxRecDepth 100000 in
theorem lX12_readClause_111_ck : lX12_readClause_111.all (ra_ck mX12_readClause 12) = true := by decide +kernel
def nX12_readClause_111 (N : Nat) (a0 : Nat) (a2 : Int32) (h : ra_H) : Option ra_H :=
  (ra_fR h 12 a0 16).bind fun x1 =>
  (ra_fI h 12 a0 17).bind fun x2 =>
  (ra_aW h 0 x1 (a2 + ((4 : Int32))) x2).bind fun h3 =>
  (ra_fR h3 12 a0 16).bind fun x4 =>
  (ra_fI h3 12 a0 17).bind fun x5 =>
  (ra_aW h3 0 x4 (a2 + ((5 : Int32))) x5).bind fun h6 =>
  (ra_fI h6 12 a0 14).bind fun x7 =>
  if x7 = 0 then
    (fX12_isWord N a0 ((294 : Int64)) h6).bind fun q8 =>
    if q8.1 = 0 then
      nX12_readClause_161 N a0 a2 q8.2
    else
      (fX12_goOn N a0 q8.2).bind fun h9 =>
      (fX12_readExpression N a0 ((1 : Int32)) h9).bind fun h10 =>
      nX12_readClause_161 N a0 a2 h10
  else
    nX12_readClause_161 N a0 a2 h6
def kX12_readClause_111 (N : Nat) : Nat → List (Option Value) → List Value → ra_H → Option ra_H := (ra_k1 161 (fun L S h => match L, S with
  | [some (.ref a0), _, some (.int a2), _], [] => nX12_readClause_161 N a0 a2 h
  | _, _ => none) ra_k0)
theorem kX12_readClause_111_ok (N : Nat) : ra_kok 8 mX12_readClause ra_oV (kX12_readClause_111 N) := (ra_k1_ok (by
  intro L S h a e
  split at e
  · exact ra_Ru.weak (nX12_readClause_161_ok N _ _ _ _ e) ⟨rfl, ⟨rfl, trivial⟩⟩
  · cases e) ra_k0_ok)
set_option maxRecDepth 100000 in
theorem nX12_readClause_111_ok (N : Nat) (a0 : Nat) (a2 : Int32) (h : ra_H) (r : ra_H) (e : nX12_readClause_111 N a0 a2 h = some r) : ra_Ru 8 mX12_readClause 111 [some (.ref a0), none, some (.int a2), none] [] h (ra_oV r) :=
  ra_sound (by omega) rfl ra_rV_ok (kX12_readClause_111_ok N) (fun m av h h1 e => (tVX12_readClause_ok N) m av h h1 e) (fun m av h x h1 e => (tIX12_readClause_ok N) m av h (x, h1) e) (fun m av h x h1 e => (ra_c0_ok (ro := ra_oJ)) m av h (x, h1) e) (fun m av h x h1 e => (ra_c0_ok (ro := ra_oR)) m av h (x, h1) e) (fun m av h x h1 e => (ra_c0_ok (ro := ra_oN)) m av h (x, h1) e) (fun m av h x h1 e => (ra_c0_ok (ro := ra_oF)) m av h (x, h1) e) 29 lX12_readClause_111 _ _ _ _ lX12_readClause_111_ck (show ra_run ra_rV (kX12_readClause_111 N) (tVX12_readClause N) (tIX12_readClause N) ra_c0 ra_c0 ra_c0 ra_c0 29 lX12_readClause_111 [some (.ref a0), none, some (.int a2), none] [] h = some r from e) _ _ rfl
def lX12_readClause_51 : List ra_I := [(51, .iload_n 3, 1, 3, 0, 0, 0, 0, []),
  (52, .bipush (8), 2, 0, 0, 0, (8), 0, []),
  (54, .if_icmp .ge (18), 3, 72, 0, 0, 0, 0, []),
  (57, .aload_n 0, 1, 0, 0, 0, 0, 0, []),
  (58, .getfield 30, 3, 12, 16, 2, 0, 0, []),
  (61, .iload_n 2, 1, 2, 0, 0, 0, 0, []),
  (62, .iload_n 3, 1, 3, 0, 0, 0, 0, []),
  (63, .iadd, 1, 0, 0, 0, 0, 0, []),
  (64, .iconst (0), 1, 0, 0, 0, (0), 0, []),
  (65, .iastore, 1, 0, 0, 0, 0, 0, []),
  (66, .iinc 3 (1), 3, 3, 0, 0, (1), 0, []),
  (69, .goto (-18), 3, 51, 0, 0, 0, 0, []),
  (72, .aload_n 0, 1, 0, 0, 0, 0, 0, []),
  (73, .getfield 30, 3, 12, 16, 2, 0, 0, []),
  (76, .iload_n 2, 1, 2, 0, 0, 0, 0, []),
  (77, .iload_n 1, 1, 1, 0, 0, 0, 0, []),
  (78, .iastore, 1, 0, 0, 0, 0, 0, []),
  (79, .aload_n 0, 1, 0, 0, 0, 0, 0, []),
  (80, .dup, 1, 0, 0, 0, 0, 0, []),
  (81, .getfield 347, 3, 12, 15, 0, 0, 0, []),
  (84, .iconst (1), 1, 0, 0, 0, (1), 0, []),
  (85, .iadd, 1, 0, 0, 0, 0, 0, []),
  (86, .putfield 347, 3, 12, 15, 0, 0, 0, []),
  (89, .aload_n 0, 1, 0, 0, 0, 0, 0, []),
  (90, .getfield 30, 3, 12, 16, 2, 0, 0, []),
  (93, .iload_n 2, 1, 2, 0, 0, 0, 0, []),
  (94, .iconst (3), 1, 0, 0, 0, (3), 0, []),
  (95, .iadd, 1, 0, 0, 0, 0, 0, []),
  (96, .aload_n 0, 1, 0, 0, 0, 0, 0, []),
  (97, .getfield 264, 3, 12, 17, 0, 0, 0, []),
  (100, .iastore, 1, 0, 0, 0, 0, 0, []),
  (101, .iload_n 1, 1, 1, 0, 0, 0, 0, []),
  (102, .iconst (4), 1, 0, 0, 0, (4), 0, []),
  (103, .if_icmp .eq (8), 3, 111, 0, 0, 0, 0, []),
  (106, .aload_n 0, 1, 0, 0, 0, 0, 0, []),
  (107, .iconst (0), 1, 0, 0, 0, (0), 0, []),
  (108, .invokevirtual 350, 3, 240, 2, 0, 0, 0, [])]
set_option maxRecDepth 100000 in
theorem lX12_readClause_51_ck : lX12_readClause_51.all (ra_ck mX12_readClause 12) = true := by decide +kernel
def nX12_readClause_51 (N : Nat) : Nat → Nat → Int32 → Int32 → Int32 → ra_H → Option ra_H
  | 0, _, _, _, _, _ => none
  | n + 1, a0, a1, a2, a3, h =>
  if a3 < ((8 : Int32)) then
    (ra_fR h 12 a0 16).bind fun x9 =>
    (ra_aW h 0 x9 (a2 + a3) ((0 : Int32))).bind fun h10 =>
    let y11 := a3 + (1 : Int32)
    nX12_readClause_51 N n a0 a1 a2 y11 h10
  else
    (ra_fR h 12 a0 16).bind fun x1 =>
    (ra_aW h 0 x1 a2 a1).bind fun h2 =>
    (ra_fI h2 12 a0 15).bind fun x3 =>
    (ra_fW h2 12 a0 15 (.int (x3 + ((1 : Int32))))).bind fun h4 =>
    (ra_fR h4 12 a0 16).bind fun x5 =>
    (ra_fI h4 12 a0 17).bind fun x6 =>
    (ra_aW h4 0 x5 (a2 + ((3 : Int32))) x6).bind fun h7 =>
    if a1 = ((4 : Int32)) then
      nX12_readClause_111 N a0 a2 h7
    else
      (fX12_readExpression N a0 ((0 : Int32)) h7).bind fun h8 =>
      nX12_readClause_111 N a0 a2 h8
def kX12_readClause_51 (N : Nat) (cs : Nat → Int32 → Int32 → Int32 → ra_H → Option ra_H) : Nat → List (Option Value) → List Value → ra_H → Option ra_H := (ra_k1 51 (fun L S h => match L, S with
  | [some (.ref a0), some (.int a1), some (.int a2), some (.int a3)], [] => cs a0 a1 a2 a3 h
  | _, _ => none) (ra_k1 111 (fun L S h => match L, S with
  | [some (.ref a0), _, some (.int a2), _], [] => nX12_readClause_111 N a0 a2 h
  | _, _ => none) ra_k0))
theorem kX12_readClause_51_ok (N : Nat) (cs : Nat → Int32 → Int32 → Int32 → ra_H → Option ra_H) (hcs : ∀ a0 a1 a2 a3 h r, cs a0 a1 a2 a3 h = some r → ra_Ru 8 mX12_readClause 51 [some (.ref a0), some (.int a1), some (.int a2), some (.int a3)] [] h (ra_oV r)) : ra_kok 8 mX12_readClause ra_oV (kX12_readClause_51 N cs) := (ra_k1_ok (by
  intro L S h a e
  split at e
  · exact ra_Ru.weak (hcs _ _ _ _ _ _ e) ⟨rfl, ⟨rfl, ⟨rfl, ⟨rfl, trivial⟩⟩⟩⟩
  · cases e) (ra_k1_ok (by
  intro L S h a e
  split at e
  · exact ra_Ru.weak (nX12_readClause_111_ok N _ _ _ _ e) ⟨rfl, ⟨rfl, trivial⟩⟩
  · cases e) ra_k0_ok))
set_option maxRecDepth 100000 in
theorem nX12_readClause_51_ok (N : Nat) : ∀ n a0 a1 a2 a3 h r, nX12_readClause_51 N n a0 a1 a2 a3 h = some r → ra_Ru 8 mX12_readClause 51 [some (.ref a0), some (.int a1), some (.int a2), some (.int a3)] [] h (ra_oV r) := by
  intro n
  induction n with
  | zero => intro a0 a1 a2 a3 h r e; cases e
  | succ n ih =>
    intro a0 a1 a2 a3 h r e
    exact ra_sound (by omega) rfl ra_rV_ok (kX12_readClause_51_ok N (nX12_readClause_51 N n) ih) (fun m av h h1 e => (tVX12_readClause_ok N) m av h h1 e) (fun m av h x h1 e => (tIX12_readClause_ok N) m av h (x, h1) e) (fun m av h x h1 e => (ra_c0_ok (ro := ra_oJ)) m av h (x, h1) e) (fun m av h x h1 e => (ra_c0_ok (ro := ra_oR)) m av h (x, h1) e) (fun m av h x h1 e => (ra_c0_ok (ro := ra_oN)) m av h (x, h1) e) (fun m av h x h1 e => (ra_c0_ok (ro := ra_oF)) m av h (x, h1) e) 38 lX12_readClause_51 _ _ _ _ lX12_readClause_51_ck (show ra_run ra_rV (kX12_readClause_51 N (nX12_readClause_51 N n)) (tVX12_readClause N) (tIX12_readClause N) ra_c0 ra_c0 ra_c0 ra_c0 38 lX12_readClause_51 [some (.ref a0), some (.int a1), some (.int a2), some (.int a3)] [] h = some r from e) _ _ rfl
def lX12_readClause_30 : List ra_I := [(30, .invokevirtual 260, 3, 239, 2, 0, 0, 0, []),
  (33, .aload_n 0, 1, 0, 0, 0, 0, 0, []),
  (34, .getfield 225, 3, 12, 14, 0, 0, 0, []),
  (37, .ifCond .eq (4), 3, 41, 0, 0, 0, 0, []),
  (40, .return_, 1, 0, 0, 0, 0, 0, []),
  (41, .bipush (8), 2, 0, 0, 0, (8), 0, []),
  (43, .aload_n 0, 1, 0, 0, 0, 0, 0, []),
  (44, .getfield 347, 3, 12, 15, 0, 0, 0, []),
  (47, .imul, 1, 0, 0, 0, 0, 0, []),
  (48, .istore_n 2, 1, 2, 0, 0, 0, 0, []),
  (49, .iconst (0), 1, 0, 0, 0, (0), 0, []),
  (50, .istore_n 3, 1, 3, 0, 0, 0, 0, [])]
set_option maxRecDepth 100000 in
theorem lX12_readClause_30_ck : lX12_readClause_30.all (ra_ck mX12_readClause 12) = true := by decide +kernel
def nX12_readClause_30 (N : Nat) (a0 : Nat) (a1 : Int32) (b0 : Nat) (b1 : Int32) (h : ra_H) : Option ra_H :=
  (fX12_must N b0 b1 h).bind fun h1 =>
  (ra_fI h1 12 a0 14).bind fun x2 =>
  if x2 = 0 then
    (ra_fI h1 12 a0 15).bind fun x3 =>
    let y4 := ((8 : Int32)) * x3
    nX12_readClause_51 N N a0 a1 y4 ((0 : Int32)) h1
  else
    some h1
def kX12_readClause_30 (N : Nat) : Nat → List (Option Value) → List Value → ra_H → Option ra_H := (ra_k1 51 (fun L S h => match L, S with
  | [some (.ref a0), some (.int a1), some (.int a2), some (.int a3)], [] => nX12_readClause_51 N N a0 a1 a2 a3 h
  | _, _ => none) ra_k0)
theorem kX12_readClause_30_ok (N : Nat) : ra_kok 8 mX12_readClause ra_oV (kX12_readClause_30 N) := (ra_k1_ok (by
  intro L S h a e
  split at e
  · exact ra_Ru.weak (nX12_readClause_51_ok N N _ _ _ _ _ _ e) ⟨rfl, ⟨rfl, ⟨rfl, ⟨rfl, trivial⟩⟩⟩⟩
  · cases e) ra_k0_ok)
set_option maxRecDepth 100000 in
theorem nX12_readClause_30_ok (N : Nat) (a0 : Nat) (a1 : Int32) (b0 : Nat) (b1 : Int32) (h : ra_H) (r : ra_H) (e : nX12_readClause_30 N a0 a1 b0 b1 h = some r) : ra_Ru 8 mX12_readClause 30 [some (.ref a0), some (.int a1), none, none] [.int b1, .ref b0] h (ra_oV r) :=
  ra_sound (by omega) rfl ra_rV_ok (kX12_readClause_30_ok N) (fun m av h h1 e => (tVX12_readClause_ok N) m av h h1 e) (fun m av h x h1 e => (tIX12_readClause_ok N) m av h (x, h1) e) (fun m av h x h1 e => (ra_c0_ok (ro := ra_oJ)) m av h (x, h1) e) (fun m av h x h1 e => (ra_c0_ok (ro := ra_oR)) m av h (x, h1) e) (fun m av h x h1 e => (ra_c0_ok (ro := ra_oN)) m av h (x, h1) e) (fun m av h x h1 e => (ra_c0_ok (ro := ra_oF)) m av h (x, h1) e) 13 lX12_readClause_30 _ _ _ _ lX12_readClause_30_ck (show ra_run ra_rV (kX12_readClause_30 N) (tVX12_readClause N) (tIX12_readClause N) ra_c0 ra_c0 ra_c0 ra_c0 13 lX12_readClause_30 [some (.ref a0), some (.int a1), none, none] [.int b1, .ref b0] h = some r from e) _ _ rfl
def lX12_readClause_29 : List ra_I := [(29, .iconst (0), 1, 0, 0, 0, (0), 0, [])]
set_option maxRecDepth 100000 in
theorem lX12_readClause_29_ck : lX12_readClause_29.all (ra_ck mX12_readClause 12) = true := by decide +kernel
def nX12_readClause_29 (N : Nat) (a0 : Nat) (a1 : Int32) (b0 : Nat) (h : ra_H) : Option ra_H :=
  nX12_readClause_30 N a0 a1 b0 ((0 : Int32)) h
def kX12_readClause_29 (N : Nat) : Nat → List (Option Value) → List Value → ra_H → Option ra_H := (ra_k1 30 (fun L S h => match L, S with
  | [some (.ref a0), some (.int a1), _, _], [.int b1, .ref b0] => nX12_readClause_30 N a0 a1 b0 b1 h
  | _, _ => none) ra_k0)
theorem kX12_readClause_29_ok (N : Nat) : ra_kok 8 mX12_readClause ra_oV (kX12_readClause_29 N) := (ra_k1_ok (by
  intro L S h a e
  split at e
  · exact ra_Ru.weak (nX12_readClause_30_ok N _ _ _ _ _ _ e) ⟨rfl, ⟨rfl, trivial⟩⟩
  · cases e) ra_k0_ok)
set_option maxRecDepth 100000 in
theorem nX12_readClause_29_ok (N : Nat) (a0 : Nat) (a1 : Int32) (b0 : Nat) (h : ra_H) (r : ra_H) (e : nX12_readClause_29 N a0 a1 b0 h = some r) : ra_Ru 8 mX12_readClause 29 [some (.ref a0), some (.int a1), none, none] [.ref b0] h (ra_oV r) :=
  ra_sound (by omega) rfl ra_rV_ok (kX12_readClause_29_ok N) (fun m av h h1 e => (tVX12_readClause_ok N) m av h h1 e) (fun m av h x h1 e => (tIX12_readClause_ok N) m av h (x, h1) e) (fun m av h x h1 e => (ra_c0_ok (ro := ra_oJ)) m av h (x, h1) e) (fun m av h x h1 e => (ra_c0_ok (ro := ra_oR)) m av h (x, h1) e) (fun m av h x h1 e => (ra_c0_ok (ro := ra_oN)) m av h (x, h1) e) (fun m av h x h1 e => (ra_c0_ok (ro := ra_oF)) m av h (x, h1) e) 2 lX12_readClause_29 _ _ _ _ lX12_readClause_29_ck (show ra_run ra_rV (kX12_readClause_29 N) (tVX12_readClause N) (tIX12_readClause N) ra_c0 ra_c0 ra_c0 ra_c0 2 lX12_readClause_29 [some (.ref a0), some (.int a1), none, none] [.ref b0] h = some r from e) _ _ rfl
def lX12_readClause_0 : List ra_I := [(0, .aload_n 0, 1, 0, 0, 0, 0, 0, []),
  (1, .aload_n 0, 1, 0, 0, 0, 0, 0, []),
  (2, .getfield 83, 3, 12, 26, 2, 0, 0, []),
  (5, .iconst (5), 1, 0, 0, 0, (5), 0, []),
  (6, .invokevirtual 289, 3, 237, 3, 1, 0, 0, []),
  (9, .istore_n 1, 1, 1, 0, 0, 0, 0, []),
  (10, .aload_n 0, 1, 0, 0, 0, 0, 0, []),
  (11, .iload_n 1, 1, 1, 0, 0, 0, 0, []),
  (12, .iconst (-1), 1, 0, 0, 0, (-1), 0, []),
  (13, .if_icmp .eq (16), 3, 29, 0, 0, 0, 0, []),
  (16, .aload_n 0, 1, 0, 0, 0, 0, 0, []),
  (17, .getfield 347, 3, 12, 15, 0, 0, 0, []),
  (20, .bipush (12), 2, 0, 0, 0, (12), 0, []),
  (22, .if_icmp .ge (7), 3, 29, 0, 0, 0, 0, []),
  (25, .iconst (1), 1, 0, 0, 0, (1), 0, []),
  (26, .goto (4), 3, 30, 0, 0, 0, 0, [])]
set_option maxRecDepth 100000 in
theorem lX12_readClause_0_ck : lX12_readClause_0.all (ra_ck mX12_readClause 12) = true := by decide +kernel
def nX12_readClause_0 (N : Nat) (a0 : Nat) (h : ra_H) : Option ra_H :=
  (ra_fR h 12 a0 26).bind fun x1 =>
  (fX12_which N a0 x1 ((5 : Int32)) h).bind fun q2 =>
  if q2.1 = ((-1 : Int32)) then
    nX12_readClause_29 N a0 q2.1 a0 q2.2
  else
    (ra_fI q2.2 12 a0 15).bind fun x3 =>
    if x3 < ((12 : Int32)) then
      nX12_readClause_30 N a0 q2.1 a0 ((1 : Int32)) q2.2
    else
      nX12_readClause_29 N a0 q2.1 a0 q2.2
def kX12_readClause_0 (N : Nat) : Nat → List (Option Value) → List Value → ra_H → Option ra_H := (ra_k1 29 (fun L S h => match L, S with
  | [some (.ref a0), some (.int a1), _, _], [.ref b0] => nX12_readClause_29 N a0 a1 b0 h
  | _, _ => none) (ra_k1 30 (fun L S h => match L, S with
  | [some (.ref a0), some (.int a1), _, _], [.int b1, .ref b0] => nX12_readClause_30 N a0 a1 b0 b1 h
  | _, _ => none) ra_k0))
theorem kX12_readClause_0_ok (N : Nat) : ra_kok 8 mX12_readClause ra_oV (kX12_readClause_0 N) := (ra_k1_ok (by
  intro L S h a e
  split at e
  · exact ra_Ru.weak (nX12_readClause_29_ok N _ _ _ _ _ e) ⟨rfl, ⟨rfl, trivial⟩⟩
  · cases e) (ra_k1_ok (by
  intro L S h a e
  split at e
  · exact ra_Ru.weak (nX12_readClause_30_ok N _ _ _ _ _ _ e) ⟨rfl, ⟨rfl, trivial⟩⟩
  · cases e) ra_k0_ok))
set_option maxRecDepth 100000 in
theorem nX12_readClause_0_ok (N : Nat) (a0 : Nat) (h : ra_H) (r : ra_H) (e : nX12_readClause_0 N a0 h = some r) : ra_Ru 8 mX12_readClause 0 [some (.ref a0), none, none, none] [] h (ra_oV r) :=
  ra_sound (by omega) rfl ra_rV_ok (kX12_readClause_0_ok N) (fun m av h h1 e => (tVX12_readClause_ok N) m av h h1 e) (fun m av h x h1 e => (tIX12_readClause_ok N) m av h (x, h1) e) (fun m av h x h1 e => (ra_c0_ok (ro := ra_oJ)) m av h (x, h1) e) (fun m av h x h1 e => (ra_c0_ok (ro := ra_oR)) m av h (x, h1) e) (fun m av h x h1 e => (ra_c0_ok (ro := ra_oN)) m av h (x, h1) e) (fun m av h x h1 e => (ra_c0_ok (ro := ra_oF)) m av h (x, h1) e) 17 lX12_readClause_0 _ _ _ _ lX12_readClause_0_ck (show ra_run ra_rV (kX12_readClause_0 N) (tVX12_readClause N) (tIX12_readClause N) ra_c0 ra_c0 ra_c0 ra_c0 17 lX12_readClause_0 [some (.ref a0), none, none, none] [] h = some r from e) _ _ rfl
def fX12_readClause (N : Nat) (p0 : Nat) (h : ra_H) : Option ra_H := match ra_isOb h p0 12 with
  | true => nX12_readClause_0 N p0 h
  | false => none
set_option maxRecDepth 100000 in
theorem mtX12_readClause : ra_MT[236]? = some (mX12_readClause, 1, 0, (1, 13), (7, 210), (0, 69)) := rfl
theorem fX12_readClause_co (N : Nat) (p0 : Nat) (h : ra_H) (r : ra_H) (e : fX12_readClause N p0 h = some r) (D : Nat) (hD : 9 ≤ D) : ra_CO D 236 [.ref p0] h (ra_oV r).1 (ra_oV r).2 := by
  have hw : ra_nw2 [.ref p0] ≤ 4 := Nat.le_of_ble_eq_true rfl
  have hdb : ∀ v ∈ ([.ref p0] : List Value), ∀ x, v ≠ .double x := by
    intro v hv x hx
    simp [hx] at hv
  unfold fX12_readClause at e
  split at e
  · rename_i ho
    have e1 := e
    exact ⟨8, _, mtX12_readClause, hD, ra_ev_of (by decide) hdb hw trivial (ra_Ru.weak (nX12_readClause_0_ok N p0 h _ e1) ⟨rfl, trivial⟩), (fun _ => ⟨_, _, rfl, ra_rcv_of ho (by decide) rfl⟩), (fun h => absurd h (by decide))⟩
  · cases e
/-! RedMarksModel.rebound()I -/
def mX12_rebound : ra_M := (yX12_rebound, cX12_rebound, 1, (some .int))
def lX12_rebound_0 : List ra_I := [(0, .aload_n 0, 1, 0, 0, 0, 0, 0, []),
  (1, .iconst (0), 1, 0, 0, 0, (0), 0, []),
  (2, .putfield 147, 3, 12, 0, 0, 0, 0, []),
  (5, .aload_n 0, 1, 0, 0, 0, 0, 0, []),
  (6, .getfield 215, 3, 12, 6, 0, 0, 0, []),
  (9, .ireturn, 1, 0, 0, 0, 0, 0, [])]
set_option maxRecDepth 100000 in
theorem lX12_rebound_0_ck : lX12_rebound_0.all (ra_ck mX12_rebound 12) = true := by decide +kernel
def nX12_rebound_0 (N : Nat) (a0 : Nat) (h : ra_H) : Option (Int32 × ra_H) :=
  (ra_fW h 12 a0 0 (.int ((0 : Int32)))).bind fun h1 =>
  (ra_fI h1 12 a0 6).bind fun x2 =>
  some (x2, h1)
def kX12_rebound_0 (N : Nat) : Nat → List (Option Value) → List Value → ra_H → Option (Int32 × ra_H) := ra_k0
theorem kX12_rebound_0_ok (N : Nat) : ra_kok 1 mX12_rebound ra_oI (kX12_rebound_0 N) := ra_k0_ok
set_option maxRecDepth 100000 in
theorem nX12_rebound_0_ok (N : Nat) (a0 : Nat) (h : ra_H) (r : (Int32 × ra_H)) (e : nX12_rebound_0 N a0 h = some r) : ra_Ru 1 mX12_rebound 0 [some (.ref a0)] [] h (ra_oI r) :=
  ra_sound (by omega) rfl ra_rI_ok (kX12_rebound_0_ok N) (fun m av h h1 e => (ra_c0_ok (ro := ra_oV)) m av h h1 e) (fun m av h x h1 e => (ra_c0_ok (ro := ra_oI)) m av h (x, h1) e) (fun m av h x h1 e => (ra_c0_ok (ro := ra_oJ)) m av h (x, h1) e) (fun m av h x h1 e => (ra_c0_ok (ro := ra_oR)) m av h (x, h1) e) (fun m av h x h1 e => (ra_c0_ok (ro := ra_oN)) m av h (x, h1) e) (fun m av h x h1 e => (ra_c0_ok (ro := ra_oF)) m av h (x, h1) e) 7 lX12_rebound_0 _ _ _ _ lX12_rebound_0_ck (show ra_run ra_rI (kX12_rebound_0 N) ra_c0 ra_c0 ra_c0 ra_c0 ra_c0 ra_c0 7 lX12_rebound_0 [some (.ref a0)] [] h = some r from e) _ _ rfl
def fX12_rebound (N : Nat) (p0 : Nat) (h : ra_H) : Option (Int32 × ra_H) := match ra_isOb h p0 12 with
  | true => nX12_rebound_0 N p0 h
  | false => none
set_option maxRecDepth 100000 in
theorem mtX12_rebound : ra_MT[226]? = some (mX12_rebound, 1, 0, (1, 13), (7, 165), (7, 166)) := rfl
theorem fX12_rebound_co (N : Nat) (p0 : Nat) (h : ra_H) (r : (Int32 × ra_H)) (e : fX12_rebound N p0 h = some r) (D : Nat) (hD : 2 ≤ D) : ra_CO D 226 [.ref p0] h (ra_oI r).1 (ra_oI r).2 := by
  have hw : ra_nw2 [.ref p0] ≤ 1 := Nat.le_of_ble_eq_true rfl
  have hdb : ∀ v ∈ ([.ref p0] : List Value), ∀ x, v ≠ .double x := by
    intro v hv x hx
    simp [hx] at hv
  unfold fX12_rebound at e
  split at e
  · rename_i ho
    have e1 := e
    exact ⟨1, _, mtX12_rebound, hD, ra_ev_of (by decide) hdb hw trivial (ra_Ru.weak (nX12_rebound_0_ok N p0 h _ e1) ⟨rfl, trivial⟩), (fun _ => ⟨_, _, rfl, ra_rcv_of ho (by decide) rfl⟩), (fun h => absurd h (by decide))⟩
  · cases e
/-! RedMarksModel.row()I -/
def mX12_row : ra_M := (yX12_row, cX12_row, 4, (some .int))
def tVX12_row (N : Nat) : Nat → List Value → ra_H → Option ra_H := (ra_c1 216 (fun av h => match av with
  | [.ref z0, .int z1, .int z2, .int z3, .int z4, .int z5] => fX12_put N z0 z1 z2 z3 z4 z5 h
  | _ => none) ra_c0)
theorem tVX12_row_ok (N : Nat) : ra_cok 4 ra_oV (tVX12_row N) := (ra_c1_ok (by
  intro av h a e
  split at e
  · exact fX12_put_co N _ _ _ _ _ _ _ _ e 4 (by omega)
  · cases e) ra_c0_ok)
def tIX12_row (N : Nat) : Nat → List Value → ra_H → Option (Int32 × ra_H) := (ra_c1 210 (fun av h => match av with
  | [.ref z0, .int z1] => fX12_tell N z0 z1 h
  | _ => none) (ra_c1 213 (fun av h => match av with
  | [.int z0, .int z1, .int z2, .int z3, .int z4] => fX12_isNew N z0 z1 z2 z3 z4 h
  | _ => none) ra_c0))
theorem tIX12_row_ok (N : Nat) : ra_cok 4 ra_oI (tIX12_row N) := (ra_c1_ok (by
  intro av h a e
  split at e
  · exact fX12_tell_co N _ _ _ _ e 4 (by omega)
  · cases e) (ra_c1_ok (by
  intro av h a e
  split at e
  · exact fX12_isNew_co N _ _ _ _ _ _ _ e 4 (by omega)
  · cases e) ra_c0_ok))
def lX12_row_162 : List ra_I := [(162, .iinc 3 (5), 3, 3, 0, 0, (5), 0, []),
  (165, .goto (-130), 3, 35, 0, 0, 0, 0, [])]
set_option maxRecDepth 100000 in
theorem lX12_row_162_ck : lX12_row_162.all (ra_ck mX12_row 12) = true := by decide +kernel
def nX12_row_162 (N : Nat) (c35 : Nat → Int32 → Int32 → Int32 → ra_H → Option (Int32 × ra_H)) (a0 : Nat) (a1 : Int32) (a2 : Int32) (a3 : Int32) (h : ra_H) : Option (Int32 × ra_H) :=
  let y1 := a3 + (5 : Int32)
  c35 a0 a1 a2 y1 h
def kX12_row_162 (N : Nat) (c35 : Nat → Int32 → Int32 → Int32 → ra_H → Option (Int32 × ra_H)) : Nat → List (Option Value) → List Value → ra_H → Option (Int32 × ra_H) := (ra_k1 35 (fun L S h => match L, S with
  | [some (.ref a0), some (.int a1), some (.int a2), some (.int a3)], [] => c35 a0 a1 a2 a3 h
  | _, _ => none) ra_k0)
theorem kX12_row_162_ok (N : Nat) (c35 : Nat → Int32 → Int32 → Int32 → ra_H → Option (Int32 × ra_H)) (hc35 : ∀ a0 a1 a2 a3 h r, c35 a0 a1 a2 a3 h = some r → ra_Ru 4 mX12_row 35 [some (.ref a0), some (.int a1), some (.int a2), some (.int a3)] [] h (ra_oI r)) : ra_kok 4 mX12_row ra_oI (kX12_row_162 N c35) := (ra_k1_ok (by
  intro L S h a e
  split at e
  · exact ra_Ru.weak (hc35 _ _ _ _ _ _ e) ⟨rfl, ⟨rfl, ⟨rfl, ⟨rfl, trivial⟩⟩⟩⟩
  · cases e) ra_k0_ok)
set_option maxRecDepth 100000 in
theorem nX12_row_162_ok (N : Nat) (c35 : Nat → Int32 → Int32 → Int32 → ra_H → Option (Int32 × ra_H)) (hc35 : ∀ a0 a1 a2 a3 h r, c35 a0 a1 a2 a3 h = some r → ra_Ru 4 mX12_row 35 [some (.ref a0), some (.int a1), some (.int a2), some (.int a3)] [] h (ra_oI r)) (a0 : Nat) (a1 : Int32) (a2 : Int32) (a3 : Int32) (h : ra_H) (r : (Int32 × ra_H)) (e : nX12_row_162 N c35 a0 a1 a2 a3 h = some r) : ra_Ru 4 mX12_row 162 [some (.ref a0), some (.int a1), some (.int a2), some (.int a3)] [] h (ra_oI r) :=
  ra_sound (by omega) rfl ra_rI_ok (kX12_row_162_ok N c35 hc35) (fun m av h h1 e => (tVX12_row_ok N) m av h h1 e) (fun m av h x h1 e => (tIX12_row_ok N) m av h (x, h1) e) (fun m av h x h1 e => (ra_c0_ok (ro := ra_oJ)) m av h (x, h1) e) (fun m av h x h1 e => (ra_c0_ok (ro := ra_oR)) m av h (x, h1) e) (fun m av h x h1 e => (ra_c0_ok (ro := ra_oN)) m av h (x, h1) e) (fun m av h x h1 e => (ra_c0_ok (ro := ra_oF)) m av h (x, h1) e) 3 lX12_row_162 _ _ _ _ lX12_row_162_ck (show ra_run ra_rI (kX12_row_162 N c35) (tVX12_row N) (tIX12_row N) ra_c0 ra_c0 ra_c0 ra_c0 3 lX12_row_162 [some (.ref a0), some (.int a1), some (.int a2), some (.int a3)] [] h = some r from e) _ _ rfl
def lX12_row_152 : List ra_I := [(152, .aload_n 0, 1, 0, 0, 0, 0, 0, []),
  (153, .dup, 1, 0, 0, 0, 0, 0, []),
  (154, .getfield 215, 3, 12, 6, 0, 0, 0, []),
  (157, .iconst (1), 1, 0, 0, 0, (1), 0, []),
  (158, .iadd, 1, 0, 0, 0, 0, 0, []),
  (159, .putfield 215, 3, 12, 6, 0, 0, 0, [])]
set_option maxRecDepth 100000 in
theorem lX12_row_152_ck : lX12_row_152.all (ra_ck mX12_row 12) = true := by decide +kernel
def nX12_row_152 (N : Nat) (c35 : Nat → Int32 → Int32 → Int32 → ra_H → Option (Int32 × ra_H)) (a0 : Nat) (a1 : Int32) (a2 : Int32) (a3 : Int32) (h : ra_H) : Option (Int32 × ra_H) :=
  (ra_fI h 12 a0 6).bind fun x1 =>
  (ra_fW h 12 a0 6 (.int (x1 + ((1 : Int32))))).bind fun h2 =>
  nX12_row_162 N c35 a0 a1 a2 a3 h2
def kX12_row_152 (N : Nat) (c35 : Nat → Int32 → Int32 → Int32 → ra_H → Option (Int32 × ra_H)) : Nat → List (Option Value) → List Value → ra_H → Option (Int32 × ra_H) := (ra_k1 162 (fun L S h => match L, S with
  | [some (.ref a0), some (.int a1), some (.int a2), some (.int a3)], [] => nX12_row_162 N c35 a0 a1 a2 a3 h
  | _, _ => none) ra_k0)
theorem kX12_row_152_ok (N : Nat) (c35 : Nat → Int32 → Int32 → Int32 → ra_H → Option (Int32 × ra_H)) (hc35 : ∀ a0 a1 a2 a3 h r, c35 a0 a1 a2 a3 h = some r → ra_Ru 4 mX12_row 35 [some (.ref a0), some (.int a1), some (.int a2), some (.int a3)] [] h (ra_oI r)) : ra_kok 4 mX12_row ra_oI (kX12_row_152 N c35) := (ra_k1_ok (by
  intro L S h a e
  split at e
  · exact ra_Ru.weak (nX12_row_162_ok N c35 hc35 _ _ _ _ _ _ e) ⟨rfl, ⟨rfl, ⟨rfl, ⟨rfl, trivial⟩⟩⟩⟩
  · cases e) ra_k0_ok)
set_option maxRecDepth 100000 in
theorem nX12_row_152_ok (N : Nat) (c35 : Nat → Int32 → Int32 → Int32 → ra_H → Option (Int32 × ra_H)) (hc35 : ∀ a0 a1 a2 a3 h r, c35 a0 a1 a2 a3 h = some r → ra_Ru 4 mX12_row 35 [some (.ref a0), some (.int a1), some (.int a2), some (.int a3)] [] h (ra_oI r)) (a0 : Nat) (a1 : Int32) (a2 : Int32) (a3 : Int32) (h : ra_H) (r : (Int32 × ra_H)) (e : nX12_row_152 N c35 a0 a1 a2 a3 h = some r) : ra_Ru 4 mX12_row 152 [some (.ref a0), some (.int a1), some (.int a2), some (.int a3)] [] h (ra_oI r) :=
  ra_sound (by omega) rfl ra_rI_ok (kX12_row_152_ok N c35 hc35) (fun m av h h1 e => (tVX12_row_ok N) m av h h1 e) (fun m av h x h1 e => (tIX12_row_ok N) m av h (x, h1) e) (fun m av h x h1 e => (ra_c0_ok (ro := ra_oJ)) m av h (x, h1) e) (fun m av h x h1 e => (ra_c0_ok (ro := ra_oR)) m av h (x, h1) e) (fun m av h x h1 e => (ra_c0_ok (ro := ra_oN)) m av h (x, h1) e) (fun m av h x h1 e => (ra_c0_ok (ro := ra_oF)) m av h (x, h1) e) 7 lX12_row_152 _ _ _ _ lX12_row_152_ck (show ra_run ra_rI (kX12_row_152 N c35) (tVX12_row N) (tIX12_row N) ra_c0 ra_c0 ra_c0 ra_c0 7 lX12_row_152 [some (.ref a0), some (.int a1), some (.int a2), some (.int a3)] [] h = some r from e) _ _ rfl
def lX12_row_35 : List ra_I := [(35, .iload_n 3, 1, 3, 0, 0, 0, 0, []),
  (36, .iload_n 1, 1, 1, 0, 0, 0, 0, []),
  (37, .if_icmp .ge (131), 3, 168, 0, 0, 0, 0, []),
  (40, .iload_n 3, 1, 3, 0, 0, 0, 0, []),
  (41, .iconst (4), 1, 0, 0, 0, (4), 0, []),
  (42, .iadd, 1, 0, 0, 0, 0, 0, []),
  (43, .iload_n 1, 1, 1, 0, 0, 0, 0, []),
  (44, .if_icmp .ge (108), 3, 152, 0, 0, 0, 0, []),
  (47, .aload_n 0, 1, 0, 0, 0, 0, 0, []),
  (48, .getfield 13, 3, 12, 3, 2, 0, 0, []),
  (51, .sipush (480), 3, 0, 0, 0, (480), 0, []),
  (54, .iaload, 1, 0, 0, 0, 0, 0, []),
  (55, .bipush (40), 2, 0, 0, 0, (40), 0, []),
  (57, .if_icmp .ge (95), 3, 152, 0, 0, 0, 0, []),
  (60, .aload_n 0, 1, 0, 0, 0, 0, 0, []),
  (61, .getfield 23, 3, 12, 7, 2, 0, 0, []),
  (64, .iload_n 3, 1, 3, 0, 0, 0, 0, []),
  (65, .iaload, 1, 0, 0, 0, 0, 0, []),
  (66, .aload_n 0, 1, 0, 0, 0, 0, 0, []),
  (67, .getfield 23, 3, 12, 7, 2, 0, 0, []),
  (70, .iload_n 3, 1, 3, 0, 0, 0, 0, []),
  (71, .iconst (1), 1, 0, 0, 0, (1), 0, []),
  (72, .iadd, 1, 0, 0, 0, 0, 0, []),
  (73, .iaload, 1, 0, 0, 0, 0, 0, []),
  (74, .aload_n 0, 1, 0, 0, 0, 0, 0, []),
  (75, .getfield 23, 3, 12, 7, 2, 0, 0, []),
  (78, .iload_n 3, 1, 3, 0, 0, 0, 0, []),
  (79, .iconst (2), 1, 0, 0, 0, (2), 0, []),
  (80, .iadd, 1, 0, 0, 0, 0, 0, []),
  (81, .iaload, 1, 0, 0, 0, 0, 0, []),
  (82, .aload_n 0, 1, 0, 0, 0, 0, 0, []),
  (83, .getfield 23, 3, 12, 7, 2, 0, 0, []),
  (86, .iload_n 3, 1, 3, 0, 0, 0, 0, []),
  (87, .iconst (3), 1, 0, 0, 0, (3), 0, []),
  (88, .iadd, 1, 0, 0, 0, 0, 0, []),
  (89, .iaload, 1, 0, 0, 0, 0, 0, []),
  (90, .aload_n 0, 1, 0, 0, 0, 0, 0, []),
  (91, .getfield 23, 3, 12, 7, 2, 0, 0, []),
  (94, .iload_n 3, 1, 3, 0, 0, 0, 0, []),
  (95, .iconst (4), 1, 0, 0, 0, (4), 0, []),
  (96, .iadd, 1, 0, 0, 0, 0, 0, []),
  (97, .iaload, 1, 0, 0, 0, 0, 0, []),
  (98, .invokestatic 190, 3, 213, 5, 1, 0, 0, []),
  (101, .ifCond .eq (51), 3, 152, 0, 0, 0, 0, []),
  (104, .aload_n 0, 1, 0, 0, 0, 0, 0, []),
  (105, .aload_n 0, 1, 0, 0, 0, 0, 0, []),
  (106, .getfield 23, 3, 12, 7, 2, 0, 0, []),
  (109, .iload_n 3, 1, 3, 0, 0, 0, 0, []),
  (110, .iaload, 1, 0, 0, 0, 0, 0, []),
  (111, .aload_n 0, 1, 0, 0, 0, 0, 0, []),
  (112, .getfield 23, 3, 12, 7, 2, 0, 0, []),
  (115, .iload_n 3, 1, 3, 0, 0, 0, 0, []),
  (116, .iconst (1), 1, 0, 0, 0, (1), 0, []),
  (117, .iadd, 1, 0, 0, 0, 0, 0, []),
  (118, .iaload, 1, 0, 0, 0, 0, 0, []),
  (119, .aload_n 0, 1, 0, 0, 0, 0, 0, []),
  (120, .getfield 23, 3, 12, 7, 2, 0, 0, []),
  (123, .iload_n 3, 1, 3, 0, 0, 0, 0, []),
  (124, .iconst (2), 1, 0, 0, 0, (2), 0, []),
  (125, .iadd, 1, 0, 0, 0, 0, 0, []),
  (126, .iaload, 1, 0, 0, 0, 0, 0, []),
  (127, .aload_n 0, 1, 0, 0, 0, 0, 0, []),
  (128, .getfield 23, 3, 12, 7, 2, 0, 0, []),
  (131, .iload_n 3, 1, 3, 0, 0, 0, 0, []),
  (132, .iconst (3), 1, 0, 0, 0, (3), 0, []),
  (133, .iadd, 1, 0, 0, 0, 0, 0, []),
  (134, .iaload, 1, 0, 0, 0, 0, 0, []),
  (135, .aload_n 0, 1, 0, 0, 0, 0, 0, []),
  (136, .getfield 23, 3, 12, 7, 2, 0, 0, []),
  (139, .iload_n 3, 1, 3, 0, 0, 0, 0, []),
  (140, .iconst (4), 1, 0, 0, 0, (4), 0, []),
  (141, .iadd, 1, 0, 0, 0, 0, 0, []),
  (142, .iaload, 1, 0, 0, 0, 0, 0, []),
  (143, .invokevirtual 194, 3, 216, 6, 0, 0, 0, []),
  (146, .iinc 2 (1), 3, 2, 0, 0, (1), 0, []),
  (149, .goto (13), 3, 162, 0, 0, 0, 0, []),
  (168, .aload_n 0, 1, 0, 0, 0, 0, 0, []),
  (169, .iload_n 2, 1, 2, 0, 0, 0, 0, []),
  (170, .invokevirtual 157, 3, 210, 2, 1, 0, 0, []),
  (173, .ireturn, 1, 0, 0, 0, 0, 0, [])]
set_option maxRecDepth 100000 in
theorem lX12_row_35_ck : lX12_row_35.all (ra_ck mX12_row 12) = true := by decide +kernel
def nX12_row_35 (N : Nat) : Nat → Nat → Int32 → Int32 → Int32 → ra_H → Option (Int32 × ra_H)
  | 0, _, _, _, _, _ => none
  | n + 1, a0, a1, a2, a3, h =>
  if a3 < a1 then
    if (a3 + ((4 : Int32))) < a1 then
      (ra_fR h 12 a0 3).bind fun x2 =>
      (ra_aI h 0 x2 ((480 : Int32))).bind fun x3 =>
      if x3 < ((40 : Int32)) then
        (ra_fR h 12 a0 7).bind fun x4 =>
        (ra_aI h 0 x4 a3).bind fun x5 =>
        (ra_fR h 12 a0 7).bind fun x6 =>
        (ra_aI h 0 x6 (a3 + ((1 : Int32)))).bind fun x7 =>
        (ra_fR h 12 a0 7).bind fun x8 =>
        (ra_aI h 0 x8 (a3 + ((2 : Int32)))).bind fun x9 =>
        (ra_fR h 12 a0 7).bind fun x10 =>
        (ra_aI h 0 x10 (a3 + ((3 : Int32)))).bind fun x11 =>
        (ra_fR h 12 a0 7).bind fun x12 =>
        (ra_aI h 0 x12 (a3 + ((4 : Int32)))).bind fun x13 =>
        (fX12_isNew N x5 x7 x9 x11 x13 h).bind fun q14 =>
        if q14.1 = 0 then
          nX12_row_152 N (nX12_row_35 N n) a0 a1 a2 a3 q14.2
        else
          (ra_fR q14.2 12 a0 7).bind fun x15 =>
          (ra_aI q14.2 0 x15 a3).bind fun x16 =>
          (ra_fR q14.2 12 a0 7).bind fun x17 =>
          (ra_aI q14.2 0 x17 (a3 + ((1 : Int32)))).bind fun x18 =>
          (ra_fR q14.2 12 a0 7).bind fun x19 =>
          (ra_aI q14.2 0 x19 (a3 + ((2 : Int32)))).bind fun x20 =>
          (ra_fR q14.2 12 a0 7).bind fun x21 =>
          (ra_aI q14.2 0 x21 (a3 + ((3 : Int32)))).bind fun x22 =>
          (ra_fR q14.2 12 a0 7).bind fun x23 =>
          (ra_aI q14.2 0 x23 (a3 + ((4 : Int32)))).bind fun x24 =>
          (fX12_put N a0 x16 x18 x20 x22 x24 q14.2).bind fun h25 =>
          let y26 := a2 + (1 : Int32)
          nX12_row_162 N (nX12_row_35 N n) a0 a1 y26 a3 h25
      else
        nX12_row_152 N (nX12_row_35 N n) a0 a1 a2 a3 h
    else
      nX12_row_152 N (nX12_row_35 N n) a0 a1 a2 a3 h
  else
    (fX12_tell N a0 a2 h).bind fun q1 =>
    some (q1.1, q1.2)
def kX12_row_35 (N : Nat) (cs : Nat → Int32 → Int32 → Int32 → ra_H → Option (Int32 × ra_H)) : Nat → List (Option Value) → List Value → ra_H → Option (Int32 × ra_H) := (ra_k1 152 (fun L S h => match L, S with
  | [some (.ref a0), some (.int a1), some (.int a2), some (.int a3)], [] => nX12_row_152 N cs a0 a1 a2 a3 h
  | _, _ => none) (ra_k1 162 (fun L S h => match L, S with
  | [some (.ref a0), some (.int a1), some (.int a2), some (.int a3)], [] => nX12_row_162 N cs a0 a1 a2 a3 h
  | _, _ => none) ra_k0))
theorem kX12_row_35_ok (N : Nat) (cs : Nat → Int32 → Int32 → Int32 → ra_H → Option (Int32 × ra_H)) (hcs : ∀ a0 a1 a2 a3 h r, cs a0 a1 a2 a3 h = some r → ra_Ru 4 mX12_row 35 [some (.ref a0), some (.int a1), some (.int a2), some (.int a3)] [] h (ra_oI r)) : ra_kok 4 mX12_row ra_oI (kX12_row_35 N cs) := (ra_k1_ok (by
  intro L S h a e
  split at e
  · exact ra_Ru.weak (nX12_row_152_ok N cs hcs _ _ _ _ _ _ e) ⟨rfl, ⟨rfl, ⟨rfl, ⟨rfl, trivial⟩⟩⟩⟩
  · cases e) (ra_k1_ok (by
  intro L S h a e
  split at e
  · exact ra_Ru.weak (nX12_row_162_ok N cs hcs _ _ _ _ _ _ e) ⟨rfl, ⟨rfl, ⟨rfl, ⟨rfl, trivial⟩⟩⟩⟩
  · cases e) ra_k0_ok))
set_option maxRecDepth 100000 in
theorem nX12_row_35_ok (N : Nat) : ∀ n a0 a1 a2 a3 h r, nX12_row_35 N n a0 a1 a2 a3 h = some r → ra_Ru 4 mX12_row 35 [some (.ref a0), some (.int a1), some (.int a2), some (.int a3)] [] h (ra_oI r) := by
  intro n
  induction n with
  | zero => intro a0 a1 a2 a3 h r e; cases e
  | succ n ih =>
    intro a0 a1 a2 a3 h r e
    exact ra_sound (by omega) rfl ra_rI_ok (kX12_row_35_ok N (nX12_row_35 N n) ih) (fun m av h h1 e => (tVX12_row_ok N) m av h h1 e) (fun m av h x h1 e => (tIX12_row_ok N) m av h (x, h1) e) (fun m av h x h1 e => (ra_c0_ok (ro := ra_oJ)) m av h (x, h1) e) (fun m av h x h1 e => (ra_c0_ok (ro := ra_oR)) m av h (x, h1) e) (fun m av h x h1 e => (ra_c0_ok (ro := ra_oN)) m av h (x, h1) e) (fun m av h x h1 e => (ra_c0_ok (ro := ra_oF)) m av h (x, h1) e) 81 lX12_row_35 _ _ _ _ lX12_row_35_ck (show ra_run ra_rI (kX12_row_35 N (nX12_row_35 N n)) (tVX12_row N) (tIX12_row N) ra_c0 ra_c0 ra_c0 ra_c0 81 lX12_row_35 [some (.ref a0), some (.int a1), some (.int a2), some (.int a3)] [] h = some r from e) _ _ rfl
def lX12_row_0 : List ra_I := [(0, .aload_n 0, 1, 0, 0, 0, 0, 0, []),
  (1, .iconst (0), 1, 0, 0, 0, (0), 0, []),
  (2, .putfield 147, 3, 12, 0, 0, 0, 0, []),
  (5, .aload_n 0, 1, 0, 0, 0, 0, 0, []),
  (6, .getfield 212, 3, 12, 8, 0, 0, 0, []),
  (9, .istore_n 1, 1, 1, 0, 0, 0, 0, []),
  (10, .aload_n 0, 1, 0, 0, 0, 0, 0, []),
  (11, .iconst (0), 1, 0, 0, 0, (0), 0, []),
  (12, .putfield 212, 3, 12, 8, 0, 0, 0, []),
  (15, .iload_n 1, 1, 1, 0, 0, 0, 0, []),
  (16, .ifCond .ne (10), 3, 26, 0, 0, 0, 0, []),
  (19, .aload_n 0, 1, 0, 0, 0, 0, 0, []),
  (20, .bipush (-6), 2, 0, 0, 0, (-6), 0, []),
  (22, .invokevirtual 157, 3, 210, 2, 1, 0, 0, []),
  (25, .ireturn, 1, 0, 0, 0, 0, 0, []),
  (26, .aload_n 0, 1, 0, 0, 0, 0, 0, []),
  (27, .iconst (0), 1, 0, 0, 0, (0), 0, []),
  (28, .putfield 215, 3, 12, 6, 0, 0, 0, []),
  (31, .iconst (0), 1, 0, 0, 0, (0), 0, []),
  (32, .istore_n 2, 1, 2, 0, 0, 0, 0, []),
  (33, .iconst (0), 1, 0, 0, 0, (0), 0, []),
  (34, .istore_n 3, 1, 3, 0, 0, 0, 0, [])]
set_option maxRecDepth 100000 in
theorem lX12_row_0_ck : lX12_row_0.all (ra_ck mX12_row 12) = true := by decide +kernel
def nX12_row_0 (N : Nat) (a0 : Nat) (h : ra_H) : Option (Int32 × ra_H) :=
  (ra_fW h 12 a0 0 (.int ((0 : Int32)))).bind fun h1 =>
  (ra_fI h1 12 a0 8).bind fun x2 =>
  (ra_fW h1 12 a0 8 (.int ((0 : Int32)))).bind fun h3 =>
  if x2 = 0 then
    (fX12_tell N a0 ((-6 : Int32)) h3).bind fun q5 =>
    some (q5.1, q5.2)
  else
    (ra_fW h3 12 a0 6 (.int ((0 : Int32)))).bind fun h4 =>
    nX12_row_35 N N a0 x2 ((0 : Int32)) ((0 : Int32)) h4
def kX12_row_0 (N : Nat) : Nat → List (Option Value) → List Value → ra_H → Option (Int32 × ra_H) := (ra_k1 35 (fun L S h => match L, S with
  | [some (.ref a0), some (.int a1), some (.int a2), some (.int a3)], [] => nX12_row_35 N N a0 a1 a2 a3 h
  | _, _ => none) ra_k0)
theorem kX12_row_0_ok (N : Nat) : ra_kok 4 mX12_row ra_oI (kX12_row_0 N) := (ra_k1_ok (by
  intro L S h a e
  split at e
  · exact ra_Ru.weak (nX12_row_35_ok N N _ _ _ _ _ _ e) ⟨rfl, ⟨rfl, ⟨rfl, ⟨rfl, trivial⟩⟩⟩⟩
  · cases e) ra_k0_ok)
set_option maxRecDepth 100000 in
theorem nX12_row_0_ok (N : Nat) (a0 : Nat) (h : ra_H) (r : (Int32 × ra_H)) (e : nX12_row_0 N a0 h = some r) : ra_Ru 4 mX12_row 0 [some (.ref a0), none, none, none] [] h (ra_oI r) :=
  ra_sound (by omega) rfl ra_rI_ok (kX12_row_0_ok N) (fun m av h h1 e => (tVX12_row_ok N) m av h h1 e) (fun m av h x h1 e => (tIX12_row_ok N) m av h (x, h1) e) (fun m av h x h1 e => (ra_c0_ok (ro := ra_oJ)) m av h (x, h1) e) (fun m av h x h1 e => (ra_c0_ok (ro := ra_oR)) m av h (x, h1) e) (fun m av h x h1 e => (ra_c0_ok (ro := ra_oN)) m av h (x, h1) e) (fun m av h x h1 e => (ra_c0_ok (ro := ra_oF)) m av h (x, h1) e) 23 lX12_row_0 _ _ _ _ lX12_row_0_ck (show ra_run ra_rI (kX12_row_0 N) (tVX12_row N) (tIX12_row N) ra_c0 ra_c0 ra_c0 ra_c0 23 lX12_row_0 [some (.ref a0), none, none, none] [] h = some r from e) _ _ rfl
def fX12_row (N : Nat) (p0 : Nat) (h : ra_H) : Option (Int32 × ra_H) := match ra_isOb h p0 12 with
  | true => nX12_row_0 N p0 h
  | false => none
set_option maxRecDepth 100000 in
theorem mtX12_row : ra_MT[225]? = some (mX12_row, 1, 0, (1, 13), (7, 161), (7, 162)) := rfl
theorem fX12_row_co (N : Nat) (p0 : Nat) (h : ra_H) (r : (Int32 × ra_H)) (e : fX12_row N p0 h = some r) (D : Nat) (hD : 5 ≤ D) : ra_CO D 225 [.ref p0] h (ra_oI r).1 (ra_oI r).2 := by
  have hw : ra_nw2 [.ref p0] ≤ 4 := Nat.le_of_ble_eq_true rfl
  have hdb : ∀ v ∈ ([.ref p0] : List Value), ∀ x, v ≠ .double x := by
    intro v hv x hx
    simp [hx] at hv
  unfold fX12_row at e
  split at e
  · rename_i ho
    have e1 := e
    exact ⟨4, _, mtX12_row, hD, ra_ev_of (by decide) hdb hw trivial (ra_Ru.weak (nX12_row_0_ok N p0 h _ e1) ⟨rfl, trivial⟩), (fun _ => ⟨_, _, rfl, ra_rcv_of ho (by decide) rfl⟩), (fun h => absurd h (by decide))⟩
  · cases e
/-! RedMarksModel.runs(I)I -/
def mX12_runs : ra_M := (yX12_runs, cX12_runs, 7, (some .int))
def tIX12_runs (N : Nat) : Nat → List Value → ra_H → Option (Int32 × ra_H) := (ra_c1 209 (fun av h => match av with
  | [.long z0, .long z1, .long z2] => fX12_in N z0 z1 z2 h
  | _ => none) ra_c0)
theorem tIX12_runs_ok (N : Nat) : ra_cok 2 ra_oI (tIX12_runs N) := (ra_c1_ok (by
  intro av h a e
  split at e
  · exact fX12_in_co N _ _ _ _ _ e 2 (by omega)
  · cases e) ra_c0_ok)
def lX12_runs_191 : List ra_I := [(191, .iinc 4 (1), 3, 4, 0, 0, (1), 0, []),
  (194, .goto (-154), 3, 40, 0, 0, 0, 0, [])]
set_option maxRecDepth 100000 in
theorem lX12_runs_191_ck : lX12_runs_191.all (ra_ck mX12_runs 12) = true := by decide +kernel
def nX12_runs_191 (N : Nat) (c25 : Nat → Int32 → Int32 → Int32 → ra_H → Option (Int32 × ra_H)) (c40 : Nat → Int32 → Int32 → Int32 → Int32 → ra_H → Option (Int32 × ra_H)) (a0 : Nat) (a1 : Int32) (a2 : Int32) (a3 : Int32) (a4 : Int32) (h : ra_H) : Option (Int32 × ra_H) :=
  let y1 := a4 + (1 : Int32)
  c40 a0 a1 a2 a3 y1 h
def kX12_runs_191 (N : Nat) (c25 : Nat → Int32 → Int32 → Int32 → ra_H → Option (Int32 × ra_H)) (c40 : Nat → Int32 → Int32 → Int32 → Int32 → ra_H → Option (Int32 × ra_H)) : Nat → List (Option Value) → List Value → ra_H → Option (Int32 × ra_H) := (ra_k1 40 (fun L S h => match L, S with
  | [some (.ref a0), some (.int a1), some (.int a2), some (.int a3), some (.int a4), _, _], [] => c40 a0 a1 a2 a3 a4 h
  | _, _ => none) ra_k0)
theorem kX12_runs_191_ok (N : Nat) (c25 : Nat → Int32 → Int32 → Int32 → ra_H → Option (Int32 × ra_H)) (c40 : Nat → Int32 → Int32 → Int32 → Int32 → ra_H → Option (Int32 × ra_H)) (hc25 : ∀ a0 a1 a2 a3 h r, c25 a0 a1 a2 a3 h = some r → ra_Ru 2 mX12_runs 25 [some (.ref a0), some (.int a1), some (.int a2), some (.int a3), none, none, none] [] h (ra_oI r)) (hc40 : ∀ a0 a1 a2 a3 a4 h r, c40 a0 a1 a2 a3 a4 h = some r → ra_Ru 2 mX12_runs 40 [some (.ref a0), some (.int a1), some (.int a2), some (.int a3), some (.int a4), none, none] [] h (ra_oI r)) : ra_kok 2 mX12_runs ra_oI (kX12_runs_191 N c25 c40) := (ra_k1_ok (by
  intro L S h a e
  split at e
  · exact ra_Ru.weak (hc40 _ _ _ _ _ _ _ e) ⟨rfl, ⟨rfl, ⟨rfl, ⟨rfl, ⟨rfl, trivial⟩⟩⟩⟩⟩
  · cases e) ra_k0_ok)
set_option maxRecDepth 100000 in
theorem nX12_runs_191_ok (N : Nat) (c25 : Nat → Int32 → Int32 → Int32 → ra_H → Option (Int32 × ra_H)) (c40 : Nat → Int32 → Int32 → Int32 → Int32 → ra_H → Option (Int32 × ra_H)) (hc25 : ∀ a0 a1 a2 a3 h r, c25 a0 a1 a2 a3 h = some r → ra_Ru 2 mX12_runs 25 [some (.ref a0), some (.int a1), some (.int a2), some (.int a3), none, none, none] [] h (ra_oI r)) (hc40 : ∀ a0 a1 a2 a3 a4 h r, c40 a0 a1 a2 a3 a4 h = some r → ra_Ru 2 mX12_runs 40 [some (.ref a0), some (.int a1), some (.int a2), some (.int a3), some (.int a4), none, none] [] h (ra_oI r)) (a0 : Nat) (a1 : Int32) (a2 : Int32) (a3 : Int32) (a4 : Int32) (h : ra_H) (r : (Int32 × ra_H)) (e : nX12_runs_191 N c25 c40 a0 a1 a2 a3 a4 h = some r) : ra_Ru 2 mX12_runs 191 [some (.ref a0), some (.int a1), some (.int a2), some (.int a3), some (.int a4), none, none] [] h (ra_oI r) :=
  ra_sound (by omega) rfl ra_rI_ok (kX12_runs_191_ok N c25 c40 hc25 hc40) (fun m av h h1 e => (ra_c0_ok (ro := ra_oV)) m av h h1 e) (fun m av h x h1 e => (tIX12_runs_ok N) m av h (x, h1) e) (fun m av h x h1 e => (ra_c0_ok (ro := ra_oJ)) m av h (x, h1) e) (fun m av h x h1 e => (ra_c0_ok (ro := ra_oR)) m av h (x, h1) e) (fun m av h x h1 e => (ra_c0_ok (ro := ra_oN)) m av h (x, h1) e) (fun m av h x h1 e => (ra_c0_ok (ro := ra_oF)) m av h (x, h1) e) 3 lX12_runs_191 _ _ _ _ lX12_runs_191_ck (show ra_run ra_rI (kX12_runs_191 N c25 c40) ra_c0 (tIX12_runs N) ra_c0 ra_c0 ra_c0 ra_c0 3 lX12_runs_191 [some (.ref a0), some (.int a1), some (.int a2), some (.int a3), some (.int a4), none, none] [] h = some r from e) _ _ rfl
def lX12_runs_189 : List ra_I := [(189, .iadd, 1, 0, 0, 0, 0, 0, []),
  (190, .istore_n 2, 1, 2, 0, 0, 0, 0, [])]
set_option maxRecDepth 100000 in
theorem lX12_runs_189_ck : lX12_runs_189.all (ra_ck mX12_runs 12) = true := by decide +kernel
def nX12_runs_189 (N : Nat) (c25 : Nat → Int32 → Int32 → Int32 → ra_H → Option (Int32 × ra_H)) (c40 : Nat → Int32 → Int32 → Int32 → Int32 → ra_H → Option (Int32 × ra_H)) (a0 : Nat) (a1 : Int32) (a3 : Int32) (a4 : Int32) (b0 : Int32) (b1 : Int32) (h : ra_H) : Option (Int32 × ra_H) :=
  let y1 := b0 + b1
  nX12_runs_191 N c25 c40 a0 a1 y1 a3 a4 h
def kX12_runs_189 (N : Nat) (c25 : Nat → Int32 → Int32 → Int32 → ra_H → Option (Int32 × ra_H)) (c40 : Nat → Int32 → Int32 → Int32 → Int32 → ra_H → Option (Int32 × ra_H)) : Nat → List (Option Value) → List Value → ra_H → Option (Int32 × ra_H) := (ra_k1 191 (fun L S h => match L, S with
  | [some (.ref a0), some (.int a1), some (.int a2), some (.int a3), some (.int a4), _, _], [] => nX12_runs_191 N c25 c40 a0 a1 a2 a3 a4 h
  | _, _ => none) ra_k0)
theorem kX12_runs_189_ok (N : Nat) (c25 : Nat → Int32 → Int32 → Int32 → ra_H → Option (Int32 × ra_H)) (c40 : Nat → Int32 → Int32 → Int32 → Int32 → ra_H → Option (Int32 × ra_H)) (hc25 : ∀ a0 a1 a2 a3 h r, c25 a0 a1 a2 a3 h = some r → ra_Ru 2 mX12_runs 25 [some (.ref a0), some (.int a1), some (.int a2), some (.int a3), none, none, none] [] h (ra_oI r)) (hc40 : ∀ a0 a1 a2 a3 a4 h r, c40 a0 a1 a2 a3 a4 h = some r → ra_Ru 2 mX12_runs 40 [some (.ref a0), some (.int a1), some (.int a2), some (.int a3), some (.int a4), none, none] [] h (ra_oI r)) : ra_kok 2 mX12_runs ra_oI (kX12_runs_189 N c25 c40) := (ra_k1_ok (by
  intro L S h a e
  split at e
  · exact ra_Ru.weak (nX12_runs_191_ok N c25 c40 hc25 hc40 _ _ _ _ _ _ _ e) ⟨rfl, ⟨rfl, ⟨rfl, ⟨rfl, ⟨rfl, trivial⟩⟩⟩⟩⟩
  · cases e) ra_k0_ok)
set_option maxRecDepth 100000 in
theorem nX12_runs_189_ok (N : Nat) (c25 : Nat → Int32 → Int32 → Int32 → ra_H → Option (Int32 × ra_H)) (c40 : Nat → Int32 → Int32 → Int32 → Int32 → ra_H → Option (Int32 × ra_H)) (hc25 : ∀ a0 a1 a2 a3 h r, c25 a0 a1 a2 a3 h = some r → ra_Ru 2 mX12_runs 25 [some (.ref a0), some (.int a1), some (.int a2), some (.int a3), none, none, none] [] h (ra_oI r)) (hc40 : ∀ a0 a1 a2 a3 a4 h r, c40 a0 a1 a2 a3 a4 h = some r → ra_Ru 2 mX12_runs 40 [some (.ref a0), some (.int a1), some (.int a2), some (.int a3), some (.int a4), none, none] [] h (ra_oI r)) (a0 : Nat) (a1 : Int32) (a3 : Int32) (a4 : Int32) (b0 : Int32) (b1 : Int32) (h : ra_H) (r : (Int32 × ra_H)) (e : nX12_runs_189 N c25 c40 a0 a1 a3 a4 b0 b1 h = some r) : ra_Ru 2 mX12_runs 189 [some (.ref a0), some (.int a1), none, some (.int a3), some (.int a4), none, none] [.int b1, .int b0] h (ra_oI r) :=
  ra_sound (by omega) rfl ra_rI_ok (kX12_runs_189_ok N c25 c40 hc25 hc40) (fun m av h h1 e => (ra_c0_ok (ro := ra_oV)) m av h h1 e) (fun m av h x h1 e => (tIX12_runs_ok N) m av h (x, h1) e) (fun m av h x h1 e => (ra_c0_ok (ro := ra_oJ)) m av h (x, h1) e) (fun m av h x h1 e => (ra_c0_ok (ro := ra_oR)) m av h (x, h1) e) (fun m av h x h1 e => (ra_c0_ok (ro := ra_oN)) m av h (x, h1) e) (fun m av h x h1 e => (ra_c0_ok (ro := ra_oF)) m av h (x, h1) e) 3 lX12_runs_189 _ _ _ _ lX12_runs_189_ck (show ra_run ra_rI (kX12_runs_189 N c25 c40) ra_c0 (tIX12_runs N) ra_c0 ra_c0 ra_c0 ra_c0 3 lX12_runs_189 [some (.ref a0), some (.int a1), none, some (.int a3), some (.int a4), none, none] [.int b1, .int b0] h = some r from e) _ _ rfl
def lX12_runs_40 : List ra_I := [(40, .iload 4, 2, 4, 0, 0, 0, 0, []),
  (42, .aload_n 0, 1, 0, 0, 0, 0, 0, []),
  (43, .getfield 13, 3, 12, 3, 2, 0, 0, []),
  (46, .sipush (480), 3, 0, 0, 0, (480), 0, []),
  (49, .iaload, 1, 0, 0, 0, 0, 0, []),
  (50, .if_icmp .ge (147), 3, 197, 0, 0, 0, 0, []),
  (53, .bipush (12), 2, 0, 0, 0, (12), 0, []),
  (55, .iload_n 3, 1, 3, 0, 0, 0, 0, []),
  (56, .imul, 1, 0, 0, 0, 0, 0, []),
  (57, .istore 5, 2, 5, 0, 0, 0, 0, []),
  (59, .bipush (12), 2, 0, 0, 0, (12), 0, []),
  (61, .iload 4, 2, 4, 0, 0, 0, 0, []),
  (63, .imul, 1, 0, 0, 0, 0, 0, []),
  (64, .istore 6, 2, 6, 0, 0, 0, 0, []),
  (66, .aload_n 0, 1, 0, 0, 0, 0, 0, []),
  (67, .getfield 13, 3, 12, 3, 2, 0, 0, []),
  (70, .iload 5, 2, 5, 0, 0, 0, 0, []),
  (72, .iaload, 1, 0, 0, 0, 0, 0, []),
  (73, .iload_n 1, 1, 1, 0, 0, 0, 0, []),
  (74, .if_icmp .ne (117), 3, 191, 0, 0, 0, 0, []),
  (77, .aload_n 0, 1, 0, 0, 0, 0, 0, []),
  (78, .getfield 13, 3, 12, 3, 2, 0, 0, []),
  (81, .iload 6, 2, 6, 0, 0, 0, 0, []),
  (83, .iaload, 1, 0, 0, 0, 0, 0, []),
  (84, .iload_n 1, 1, 1, 0, 0, 0, 0, []),
  (85, .if_icmp .ne (106), 3, 191, 0, 0, 0, 0, []),
  (88, .aload_n 0, 1, 0, 0, 0, 0, 0, []),
  (89, .getfield 13, 3, 12, 3, 2, 0, 0, []),
  (92, .iload 5, 2, 5, 0, 0, 0, 0, []),
  (94, .iconst (5), 1, 0, 0, 0, (5), 0, []),
  (95, .iadd, 1, 0, 0, 0, 0, 0, []),
  (96, .iaload, 1, 0, 0, 0, 0, 0, []),
  (97, .ifCond .le (94), 3, 191, 0, 0, 0, 0, []),
  (100, .aload_n 0, 1, 0, 0, 0, 0, 0, []),
  (101, .getfield 13, 3, 12, 3, 2, 0, 0, []),
  (104, .iload 6, 2, 6, 0, 0, 0, 0, []),
  (106, .iconst (5), 1, 0, 0, 0, (5), 0, []),
  (107, .iadd, 1, 0, 0, 0, 0, 0, []),
  (108, .iaload, 1, 0, 0, 0, 0, 0, []),
  (109, .ifCond .le (82), 3, 191, 0, 0, 0, 0, []),
  (112, .aload_n 0, 1, 0, 0, 0, 0, 0, []),
  (113, .getfield 13, 3, 12, 3, 2, 0, 0, []),
  (116, .iload 5, 2, 5, 0, 0, 0, 0, []),
  (118, .iconst (1), 1, 0, 0, 0, (1), 0, []),
  (119, .iadd, 1, 0, 0, 0, 0, 0, []),
  (120, .iaload, 1, 0, 0, 0, 0, 0, []),
  (121, .aload_n 0, 1, 0, 0, 0, 0, 0, []),
  (122, .getfield 13, 3, 12, 3, 2, 0, 0, []),
  (125, .iload 6, 2, 6, 0, 0, 0, 0, []),
  (127, .iconst (1), 1, 0, 0, 0, (1), 0, []),
  (128, .iadd, 1, 0, 0, 0, 0, 0, []),
  (129, .iaload, 1, 0, 0, 0, 0, 0, []),
  (130, .if_icmp .le (61), 3, 191, 0, 0, 0, 0, []),
  (133, .iload_n 2, 1, 2, 0, 0, 0, 0, []),
  (134, .aload_n 0, 1, 0, 0, 0, 0, 0, []),
  (135, .getfield 13, 3, 12, 3, 2, 0, 0, []),
  (138, .iload 5, 2, 5, 0, 0, 0, 0, []),
  (140, .bipush (6), 2, 0, 0, 0, (6), 0, []),
  (142, .iadd, 1, 0, 0, 0, 0, 0, []),
  (143, .iaload, 1, 0, 0, 0, 0, 0, []),
  (144, .aload_n 0, 1, 0, 0, 0, 0, 0, []),
  (145, .getfield 13, 3, 12, 3, 2, 0, 0, []),
  (148, .iload 6, 2, 6, 0, 0, 0, 0, []),
  (150, .bipush (6), 2, 0, 0, 0, (6), 0, []),
  (152, .iadd, 1, 0, 0, 0, 0, 0, []),
  (153, .iaload, 1, 0, 0, 0, 0, 0, []),
  (154, .if_icmp .le (7), 3, 161, 0, 0, 0, 0, []),
  (157, .iconst (1), 1, 0, 0, 0, (1), 0, []),
  (158, .goto (31), 3, 189, 0, 0, 0, 0, []),
  (161, .aload_n 0, 1, 0, 0, 0, 0, 0, []),
  (162, .getfield 13, 3, 12, 3, 2, 0, 0, []),
  (165, .iload 5, 2, 5, 0, 0, 0, 0, []),
  (167, .bipush (6), 2, 0, 0, 0, (6), 0, []),
  (169, .iadd, 1, 0, 0, 0, 0, 0, []),
  (170, .iaload, 1, 0, 0, 0, 0, 0, []),
  (171, .aload_n 0, 1, 0, 0, 0, 0, 0, []),
  (172, .getfield 13, 3, 12, 3, 2, 0, 0, []),
  (175, .iload 6, 2, 6, 0, 0, 0, 0, []),
  (177, .bipush (6), 2, 0, 0, 0, (6), 0, []),
  (179, .iadd, 1, 0, 0, 0, 0, 0, []),
  (180, .iaload, 1, 0, 0, 0, 0, 0, []),
  (181, .if_icmp .ge (7), 3, 188, 0, 0, 0, 0, []),
  (184, .iconst (-1), 1, 0, 0, 0, (-1), 0, []),
  (185, .goto (4), 3, 189, 0, 0, 0, 0, []),
  (188, .iconst (0), 1, 0, 0, 0, (0), 0, []),
  (197, .iinc 3 (1), 3, 3, 0, 0, (1), 0, []),
  (200, .goto (-175), 3, 25, 0, 0, 0, 0, [])]
set_option maxRecDepth 100000 in
theorem lX12_runs_40_ck : lX12_runs_40.all (ra_ck mX12_runs 12) = true := by decide +kernel
def nX12_runs_40 (N : Nat) (c25 : Nat → Int32 → Int32 → Int32 → ra_H → Option (Int32 × ra_H)) : Nat → Nat → Int32 → Int32 → Int32 → Int32 → ra_H → Option (Int32 × ra_H)
  | 0, _, _, _, _, _, _ => none
  | n + 1, a0, a1, a2, a3, a4, h =>
  (ra_fR h 12 a0 3).bind fun x1 =>
  (ra_aI h 0 x1 ((480 : Int32))).bind fun x2 =>
  if a4 < x2 then
    let y4 := ((12 : Int32)) * a3
    let y5 := ((12 : Int32)) * a4
    (ra_fR h 12 a0 3).bind fun x6 =>
    (ra_aI h 0 x6 y4).bind fun x7 =>
    if x7 = a1 then
      (ra_fR h 12 a0 3).bind fun x8 =>
      (ra_aI h 0 x8 y5).bind fun x9 =>
      if x9 = a1 then
        (ra_fR h 12 a0 3).bind fun x10 =>
        (ra_aI h 0 x10 (y4 + ((5 : Int32)))).bind fun x11 =>
        if x11 ≤ 0 then
          nX12_runs_191 N c25 (nX12_runs_40 N c25 n) a0 a1 a2 a3 a4 h
        else
          (ra_fR h 12 a0 3).bind fun x12 =>
          (ra_aI h 0 x12 (y5 + ((5 : Int32)))).bind fun x13 =>
          if x13 ≤ 0 then
            nX12_runs_191 N c25 (nX12_runs_40 N c25 n) a0 a1 a2 a3 a4 h
          else
            (ra_fR h 12 a0 3).bind fun x14 =>
            (ra_aI h 0 x14 (y4 + ((1 : Int32)))).bind fun x15 =>
            (ra_fR h 12 a0 3).bind fun x16 =>
            (ra_aI h 0 x16 (y5 + ((1 : Int32)))).bind fun x17 =>
            if x15 ≤ x17 then
              nX12_runs_191 N c25 (nX12_runs_40 N c25 n) a0 a1 a2 a3 a4 h
            else
              (ra_fR h 12 a0 3).bind fun x18 =>
              (ra_aI h 0 x18 (y4 + ((6 : Int32)))).bind fun x19 =>
              (ra_fR h 12 a0 3).bind fun x20 =>
              (ra_aI h 0 x20 (y5 + ((6 : Int32)))).bind fun x21 =>
              if x19 ≤ x21 then
                (ra_fR h 12 a0 3).bind fun x22 =>
                (ra_aI h 0 x22 (y4 + ((6 : Int32)))).bind fun x23 =>
                (ra_fR h 12 a0 3).bind fun x24 =>
                (ra_aI h 0 x24 (y5 + ((6 : Int32)))).bind fun x25 =>
                if x23 < x25 then
                  nX12_runs_189 N c25 (nX12_runs_40 N c25 n) a0 a1 a3 a4 a2 ((-1 : Int32)) h
                else
                  nX12_runs_189 N c25 (nX12_runs_40 N c25 n) a0 a1 a3 a4 a2 ((0 : Int32)) h
              else
                nX12_runs_189 N c25 (nX12_runs_40 N c25 n) a0 a1 a3 a4 a2 ((1 : Int32)) h
      else
        nX12_runs_191 N c25 (nX12_runs_40 N c25 n) a0 a1 a2 a3 a4 h
    else
      nX12_runs_191 N c25 (nX12_runs_40 N c25 n) a0 a1 a2 a3 a4 h
  else
    let y3 := a3 + (1 : Int32)
    c25 a0 a1 a2 y3 h
def kX12_runs_40 (N : Nat) (c25 : Nat → Int32 → Int32 → Int32 → ra_H → Option (Int32 × ra_H)) (cs : Nat → Int32 → Int32 → Int32 → Int32 → ra_H → Option (Int32 × ra_H)) : Nat → List (Option Value) → List Value → ra_H → Option (Int32 × ra_H) := (ra_k1 25 (fun L S h => match L, S with
  | [some (.ref a0), some (.int a1), some (.int a2), some (.int a3), _, _, _], [] => c25 a0 a1 a2 a3 h
  | _, _ => none) (ra_k1 189 (fun L S h => match L, S with
  | [some (.ref a0), some (.int a1), _, some (.int a3), some (.int a4), _, _], [.int b1, .int b0] => nX12_runs_189 N c25 cs a0 a1 a3 a4 b0 b1 h
  | _, _ => none) (ra_k1 191 (fun L S h => match L, S with
  | [some (.ref a0), some (.int a1), some (.int a2), some (.int a3), some (.int a4), _, _], [] => nX12_runs_191 N c25 cs a0 a1 a2 a3 a4 h
  | _, _ => none) ra_k0)))
theorem kX12_runs_40_ok (N : Nat) (c25 : Nat → Int32 → Int32 → Int32 → ra_H → Option (Int32 × ra_H)) (hc25 : ∀ a0 a1 a2 a3 h r, c25 a0 a1 a2 a3 h = some r → ra_Ru 2 mX12_runs 25 [some (.ref a0), some (.int a1), some (.int a2), some (.int a3), none, none, none] [] h (ra_oI r)) (cs : Nat → Int32 → Int32 → Int32 → Int32 → ra_H → Option (Int32 × ra_H)) (hcs : ∀ a0 a1 a2 a3 a4 h r, cs a0 a1 a2 a3 a4 h = some r → ra_Ru 2 mX12_runs 40 [some (.ref a0), some (.int a1), some (.int a2), some (.int a3), some (.int a4), none, none] [] h (ra_oI r)) : ra_kok 2 mX12_runs ra_oI (kX12_runs_40 N c25 cs) := (ra_k1_ok (by
  intro L S h a e
  split at e
  · exact ra_Ru.weak (hc25 _ _ _ _ _ _ e) ⟨rfl, ⟨rfl, ⟨rfl, ⟨rfl, trivial⟩⟩⟩⟩
  · cases e) (ra_k1_ok (by
  intro L S h a e
  split at e
  · exact ra_Ru.weak (nX12_runs_189_ok N c25 cs hc25 hcs _ _ _ _ _ _ _ _ e) ⟨rfl, ⟨rfl, ⟨rfl, ⟨rfl, trivial⟩⟩⟩⟩
  · cases e) (ra_k1_ok (by
  intro L S h a e
  split at e
  · exact ra_Ru.weak (nX12_runs_191_ok N c25 cs hc25 hcs _ _ _ _ _ _ _ e) ⟨rfl, ⟨rfl, ⟨rfl, ⟨rfl, ⟨rfl, trivial⟩⟩⟩⟩⟩
  · cases e) ra_k0_ok)))
set_option maxRecDepth 100000 in
theorem nX12_runs_40_ok (N : Nat) (c25 : Nat → Int32 → Int32 → Int32 → ra_H → Option (Int32 × ra_H)) (hc25 : ∀ a0 a1 a2 a3 h r, c25 a0 a1 a2 a3 h = some r → ra_Ru 2 mX12_runs 25 [some (.ref a0), some (.int a1), some (.int a2), some (.int a3), none, none, none] [] h (ra_oI r)) : ∀ n a0 a1 a2 a3 a4 h r, nX12_runs_40 N c25 n a0 a1 a2 a3 a4 h = some r → ra_Ru 2 mX12_runs 40 [some (.ref a0), some (.int a1), some (.int a2), some (.int a3), some (.int a4), none, none] [] h (ra_oI r) := by
  intro n
  induction n with
  | zero => intro a0 a1 a2 a3 a4 h r e; cases e
  | succ n ih =>
    intro a0 a1 a2 a3 a4 h r e
    exact ra_sound (by omega) rfl ra_rI_ok (kX12_runs_40_ok N c25 hc25 (nX12_runs_40 N c25 n) ih) (fun m av h h1 e => (ra_c0_ok (ro := ra_oV)) m av h h1 e) (fun m av h x h1 e => (tIX12_runs_ok N) m av h (x, h1) e) (fun m av h x h1 e => (ra_c0_ok (ro := ra_oJ)) m av h (x, h1) e) (fun m av h x h1 e => (ra_c0_ok (ro := ra_oR)) m av h (x, h1) e) (fun m av h x h1 e => (ra_c0_ok (ro := ra_oN)) m av h (x, h1) e) (fun m av h x h1 e => (ra_c0_ok (ro := ra_oF)) m av h (x, h1) e) 88 lX12_runs_40 _ _ _ _ lX12_runs_40_ck (show ra_run ra_rI (kX12_runs_40 N c25 (nX12_runs_40 N c25 n)) ra_c0 (tIX12_runs N) ra_c0 ra_c0 ra_c0 ra_c0 88 lX12_runs_40 [some (.ref a0), some (.int a1), some (.int a2), some (.int a3), some (.int a4), none, none] [] h = some r from e) _ _ rfl
def lX12_runs_25 : List ra_I := [(25, .iload_n 3, 1, 3, 0, 0, 0, 0, []),
  (26, .aload_n 0, 1, 0, 0, 0, 0, 0, []),
  (27, .getfield 13, 3, 12, 3, 2, 0, 0, []),
  (30, .sipush (480), 3, 0, 0, 0, (480), 0, []),
  (33, .iaload, 1, 0, 0, 0, 0, 0, []),
  (34, .if_icmp .ge (169), 3, 203, 0, 0, 0, 0, []),
  (37, .iconst (0), 1, 0, 0, 0, (0), 0, []),
  (38, .istore 4, 2, 4, 0, 0, 0, 0, []),
  (203, .iload_n 2, 1, 2, 0, 0, 0, 0, []),
  (204, .ireturn, 1, 0, 0, 0, 0, 0, [])]
set_option maxRecDepth 100000 in
theorem lX12_runs_25_ck : lX12_runs_25.all (ra_ck mX12_runs 12) = true := by decide +kernel
def nX12_runs_25 (N : Nat) : Nat → Nat → Int32 → Int32 → Int32 → ra_H → Option (Int32 × ra_H)
  | 0, _, _, _, _, _ => none
  | n + 1, a0, a1, a2, a3, h =>
  (ra_fR h 12 a0 3).bind fun x1 =>
  (ra_aI h 0 x1 ((480 : Int32))).bind fun x2 =>
  if a3 < x2 then
    nX12_runs_40 N (nX12_runs_25 N n) N a0 a1 a2 a3 ((0 : Int32)) h
  else
    some (a2, h)
def kX12_runs_25 (N : Nat) (cs : Nat → Int32 → Int32 → Int32 → ra_H → Option (Int32 × ra_H)) : Nat → List (Option Value) → List Value → ra_H → Option (Int32 × ra_H) := (ra_k1 40 (fun L S h => match L, S with
  | [some (.ref a0), some (.int a1), some (.int a2), some (.int a3), some (.int a4), _, _], [] => nX12_runs_40 N cs N a0 a1 a2 a3 a4 h
  | _, _ => none) ra_k0)
theorem kX12_runs_25_ok (N : Nat) (cs : Nat → Int32 → Int32 → Int32 → ra_H → Option (Int32 × ra_H)) (hcs : ∀ a0 a1 a2 a3 h r, cs a0 a1 a2 a3 h = some r → ra_Ru 2 mX12_runs 25 [some (.ref a0), some (.int a1), some (.int a2), some (.int a3), none, none, none] [] h (ra_oI r)) : ra_kok 2 mX12_runs ra_oI (kX12_runs_25 N cs) := (ra_k1_ok (by
  intro L S h a e
  split at e
  · exact ra_Ru.weak (nX12_runs_40_ok N cs hcs N _ _ _ _ _ _ _ e) ⟨rfl, ⟨rfl, ⟨rfl, ⟨rfl, ⟨rfl, trivial⟩⟩⟩⟩⟩
  · cases e) ra_k0_ok)
set_option maxRecDepth 100000 in
theorem nX12_runs_25_ok (N : Nat) : ∀ n a0 a1 a2 a3 h r, nX12_runs_25 N n a0 a1 a2 a3 h = some r → ra_Ru 2 mX12_runs 25 [some (.ref a0), some (.int a1), some (.int a2), some (.int a3), none, none, none] [] h (ra_oI r) := by
  intro n
  induction n with
  | zero => intro a0 a1 a2 a3 h r e; cases e
  | succ n ih =>
    intro a0 a1 a2 a3 h r e
    exact ra_sound (by omega) rfl ra_rI_ok (kX12_runs_25_ok N (nX12_runs_25 N n) ih) (fun m av h h1 e => (ra_c0_ok (ro := ra_oV)) m av h h1 e) (fun m av h x h1 e => (tIX12_runs_ok N) m av h (x, h1) e) (fun m av h x h1 e => (ra_c0_ok (ro := ra_oJ)) m av h (x, h1) e) (fun m av h x h1 e => (ra_c0_ok (ro := ra_oR)) m av h (x, h1) e) (fun m av h x h1 e => (ra_c0_ok (ro := ra_oN)) m av h (x, h1) e) (fun m av h x h1 e => (ra_c0_ok (ro := ra_oF)) m av h (x, h1) e) 11 lX12_runs_25 _ _ _ _ lX12_runs_25_ck (show ra_run ra_rI (kX12_runs_25 N (nX12_runs_25 N n)) ra_c0 (tIX12_runs N) ra_c0 ra_c0 ra_c0 ra_c0 11 lX12_runs_25 [some (.ref a0), some (.int a1), some (.int a2), some (.int a3), none, none, none] [] h = some r from e) _ _ rfl
def lX12_runs_0 : List ra_I := [(0, .aload_n 0, 1, 0, 0, 0, 0, 0, []),
  (1, .iconst (0), 1, 0, 0, 0, (0), 0, []),
  (2, .putfield 147, 3, 12, 0, 0, 0, 0, []),
  (5, .iload_n 1, 1, 1, 0, 0, 0, 0, []),
  (6, .i2l, 1, 0, 0, 0, 0, 0, []),
  (7, .lconst 0, 1, 0, 0, 0, 0, 0, []),
  (8, .ldc2_w 161, 3, 0, 0, 0, 0, (8), []),
  (11, .invokestatic 153, 3, 209, 3, 1, 0, 0, []),
  (14, .ifCond .ne (7), 3, 21, 0, 0, 0, 0, []),
  (17, .sipush (-1000), 3, 0, 0, 0, (-1000), 0, []),
  (20, .ireturn, 1, 0, 0, 0, 0, 0, []),
  (21, .iconst (0), 1, 0, 0, 0, (0), 0, []),
  (22, .istore_n 2, 1, 2, 0, 0, 0, 0, []),
  (23, .iconst (0), 1, 0, 0, 0, (0), 0, []),
  (24, .istore_n 3, 1, 3, 0, 0, 0, 0, [])]
set_option maxRecDepth 100000 in
theorem lX12_runs_0_ck : lX12_runs_0.all (ra_ck mX12_runs 12) = true := by decide +kernel
def nX12_runs_0 (N : Nat) (a0 : Nat) (a1 : Int32) (h : ra_H) : Option (Int32 × ra_H) :=
  (ra_fW h 12 a0 0 (.int ((0 : Int32)))).bind fun h1 =>
  (fX12_in N (Int32.toInt64 a1) ((0 : Int64)) ((8 : Int64)) h1).bind fun q2 =>
  if q2.1 = 0 then
    some ((-1000 : Int32), q2.2)
  else
    nX12_runs_25 N N a0 a1 ((0 : Int32)) ((0 : Int32)) q2.2
def kX12_runs_0 (N : Nat) : Nat → List (Option Value) → List Value → ra_H → Option (Int32 × ra_H) := (ra_k1 25 (fun L S h => match L, S with
  | [some (.ref a0), some (.int a1), some (.int a2), some (.int a3), _, _, _], [] => nX12_runs_25 N N a0 a1 a2 a3 h
  | _, _ => none) ra_k0)
theorem kX12_runs_0_ok (N : Nat) : ra_kok 2 mX12_runs ra_oI (kX12_runs_0 N) := (ra_k1_ok (by
  intro L S h a e
  split at e
  · exact ra_Ru.weak (nX12_runs_25_ok N N _ _ _ _ _ _ e) ⟨rfl, ⟨rfl, ⟨rfl, ⟨rfl, trivial⟩⟩⟩⟩
  · cases e) ra_k0_ok)
set_option maxRecDepth 100000 in
theorem nX12_runs_0_ok (N : Nat) (a0 : Nat) (a1 : Int32) (h : ra_H) (r : (Int32 × ra_H)) (e : nX12_runs_0 N a0 a1 h = some r) : ra_Ru 2 mX12_runs 0 [some (.ref a0), some (.int a1), none, none, none, none, none] [] h (ra_oI r) :=
  ra_sound (by omega) rfl ra_rI_ok (kX12_runs_0_ok N) (fun m av h h1 e => (ra_c0_ok (ro := ra_oV)) m av h h1 e) (fun m av h x h1 e => (tIX12_runs_ok N) m av h (x, h1) e) (fun m av h x h1 e => (ra_c0_ok (ro := ra_oJ)) m av h (x, h1) e) (fun m av h x h1 e => (ra_c0_ok (ro := ra_oR)) m av h (x, h1) e) (fun m av h x h1 e => (ra_c0_ok (ro := ra_oN)) m av h (x, h1) e) (fun m av h x h1 e => (ra_c0_ok (ro := ra_oF)) m av h (x, h1) e) 16 lX12_runs_0 _ _ _ _ lX12_runs_0_ck (show ra_run ra_rI (kX12_runs_0 N) ra_c0 (tIX12_runs N) ra_c0 ra_c0 ra_c0 ra_c0 16 lX12_runs_0 [some (.ref a0), some (.int a1), none, none, none, none, none] [] h = some r from e) _ _ rfl
def fX12_runs (N : Nat) (p0 : Nat) (p1 : Int32) (h : ra_H) : Option (Int32 × ra_H) := match ra_isOb h p0 12 with
  | true => nX12_runs_0 N p0 p1 h
  | false => none
set_option maxRecDepth 100000 in
theorem mtX12_runs : ra_MT[296]? = some (mX12_runs, 1, 1, (1, 13), (8, 223), (8, 224)) := rfl
theorem fX12_runs_co (N : Nat) (p0 : Nat) (p1 : Int32) (h : ra_H) (r : (Int32 × ra_H)) (e : fX12_runs N p0 p1 h = some r) (D : Nat) (hD : 3 ≤ D) : ra_CO D 296 [.ref p0, .int p1] h (ra_oI r).1 (ra_oI r).2 := by
  have hw : ra_nw2 [.ref p0, .int p1] ≤ 7 := Nat.le_of_ble_eq_true rfl
  have hdb : ∀ v ∈ ([.ref p0, .int p1] : List Value), ∀ x, v ≠ .double x := by
    intro v hv x hx
    simp [hx] at hv
  unfold fX12_runs at e
  split at e
  · rename_i ho
    have e1 := e
    exact ⟨2, _, mtX12_runs, hD, ra_ev_of (by decide) hdb hw trivial (ra_Ru.weak (nX12_runs_0_ok N p0 p1 h _ e1) ⟨rfl, ⟨rfl, trivial⟩⟩), (fun _ => ⟨_, _, rfl, ra_rcv_of ho (by decide) rfl⟩), (fun h => absurd h (by decide))⟩
  · cases e
/-! RedMarksModel.scatter(II)I -/
def mX12_scatter : ra_M := (yX12_scatter, cX12_scatter, 5, (some .int))
def tIX12_scatter (N : Nat) : Nat → List Value → ra_H → Option (Int32 × ra_H) := (ra_c1 209 (fun av h => match av with
  | [.long z0, .long z1, .long z2] => fX12_in N z0 z1 z2 h
  | _ => none) (ra_c1 210 (fun av h => match av with
  | [.ref z0, .int z1] => fX12_tell N z0 z1 h
  | _ => none) (ra_c1 317 (fun av h => match av with
  | [.ref z0, .int z1] => fX12_draw N z0 z1 h
  | _ => none) ra_c0)))
theorem tIX12_scatter_ok (N : Nat) : ra_cok 2 ra_oI (tIX12_scatter N) := (ra_c1_ok (by
  intro av h a e
  split at e
  · exact fX12_in_co N _ _ _ _ _ e 2 (by omega)
  · cases e) (ra_c1_ok (by
  intro av h a e
  split at e
  · exact fX12_tell_co N _ _ _ _ e 2 (by omega)
  · cases e) (ra_c1_ok (by
  intro av h a e
  split at e
  · exact fX12_draw_co N _ _ _ _ e 2 (by omega)
  · cases e) ra_c0_ok)))
def lX12_scatter_29 : List ra_I := [(29, .aload_n 0, 1, 0, 0, 0, 0, 0, []),
  (30, .iconst (-1), 1, 0, 0, 0, (-1), 0, []),
  (31, .invokevirtual 157, 3, 210, 2, 1, 0, 0, []),
  (34, .ireturn, 1, 0, 0, 0, 0, 0, [])]
set_option maxRecDepth 100000 in
theorem lX12_scatter_29_ck : lX12_scatter_29.all (ra_ck mX12_scatter 12) = true := by decide +kernel
def nX12_scatter_29 (N : Nat) (a0 : Nat) (h : ra_H) : Option (Int32 × ra_H) :=
  (fX12_tell N a0 ((-1 : Int32)) h).bind fun q1 =>
  some (q1.1, q1.2)
def kX12_scatter_29 (N : Nat) : Nat → List (Option Value) → List Value → ra_H → Option (Int32 × ra_H) := ra_k0
theorem kX12_scatter_29_ok (N : Nat) : ra_kok 2 mX12_scatter ra_oI (kX12_scatter_29 N) := ra_k0_ok
set_option maxRecDepth 100000 in
theorem nX12_scatter_29_ok (N : Nat) (a0 : Nat) (h : ra_H) (r : (Int32 × ra_H)) (e : nX12_scatter_29 N a0 h = some r) : ra_Ru 2 mX12_scatter 29 [some (.ref a0), none, none, none, none] [] h (ra_oI r) :=
  ra_sound (by omega) rfl ra_rI_ok (kX12_scatter_29_ok N) (fun m av h h1 e => (ra_c0_ok (ro := ra_oV)) m av h h1 e) (fun m av h x h1 e => (tIX12_scatter_ok N) m av h (x, h1) e) (fun m av h x h1 e => (ra_c0_ok (ro := ra_oJ)) m av h (x, h1) e) (fun m av h x h1 e => (ra_c0_ok (ro := ra_oR)) m av h (x, h1) e) (fun m av h x h1 e => (ra_c0_ok (ro := ra_oN)) m av h (x, h1) e) (fun m av h x h1 e => (ra_c0_ok (ro := ra_oF)) m av h (x, h1) e) 5 lX12_scatter_29 _ _ _ _ lX12_scatter_29_ck (show ra_run ra_rI (kX12_scatter_29 N) ra_c0 (tIX12_scatter N) ra_c0 ra_c0 ra_c0 ra_c0 5 lX12_scatter_29 [some (.ref a0), none, none, none, none] [] h = some r from e) _ _ rfl
def lX12_scatter_111 : List ra_I := [(111, .iadd, 1, 0, 0, 0, 0, 0, []),
  (112, .istore_n 3, 1, 3, 0, 0, 0, 0, []),
  (113, .iinc 4 (1), 3, 4, 0, 0, (1), 0, []),
  (116, .goto (-58), 3, 58, 0, 0, 0, 0, [])]
set_option maxRecDepth 100000 in
theorem lX12_scatter_111_ck : lX12_scatter_111.all (ra_ck mX12_scatter 12) = true := by decide +kernel
def nX12_scatter_111 (N : Nat) (c58 : Nat → Int32 → Int32 → Int32 → ra_H → Option (Int32 × ra_H)) (a0 : Nat) (a2 : Int32) (a4 : Int32) (b0 : Int32) (b1 : Int32) (h : ra_H) : Option (Int32 × ra_H) :=
  let y1 := b0 + b1
  let y2 := a4 + (1 : Int32)
  c58 a0 a2 y1 y2 h
def kX12_scatter_111 (N : Nat) (c58 : Nat → Int32 → Int32 → Int32 → ra_H → Option (Int32 × ra_H)) : Nat → List (Option Value) → List Value → ra_H → Option (Int32 × ra_H) := (ra_k1 58 (fun L S h => match L, S with
  | [some (.ref a0), _, some (.int a2), some (.int a3), some (.int a4)], [] => c58 a0 a2 a3 a4 h
  | _, _ => none) ra_k0)
theorem kX12_scatter_111_ok (N : Nat) (c58 : Nat → Int32 → Int32 → Int32 → ra_H → Option (Int32 × ra_H)) (hc58 : ∀ a0 a2 a3 a4 h r, c58 a0 a2 a3 a4 h = some r → ra_Ru 2 mX12_scatter 58 [some (.ref a0), none, some (.int a2), some (.int a3), some (.int a4)] [] h (ra_oI r)) : ra_kok 2 mX12_scatter ra_oI (kX12_scatter_111 N c58) := (ra_k1_ok (by
  intro L S h a e
  split at e
  · exact ra_Ru.weak (hc58 _ _ _ _ _ _ e) ⟨rfl, ⟨rfl, ⟨rfl, ⟨rfl, trivial⟩⟩⟩⟩
  · cases e) ra_k0_ok)
set_option maxRecDepth 100000 in
theorem nX12_scatter_111_ok (N : Nat) (c58 : Nat → Int32 → Int32 → Int32 → ra_H → Option (Int32 × ra_H)) (hc58 : ∀ a0 a2 a3 a4 h r, c58 a0 a2 a3 a4 h = some r → ra_Ru 2 mX12_scatter 58 [some (.ref a0), none, some (.int a2), some (.int a3), some (.int a4)] [] h (ra_oI r)) (a0 : Nat) (a2 : Int32) (a4 : Int32) (b0 : Int32) (b1 : Int32) (h : ra_H) (r : (Int32 × ra_H)) (e : nX12_scatter_111 N c58 a0 a2 a4 b0 b1 h = some r) : ra_Ru 2 mX12_scatter 111 [some (.ref a0), none, some (.int a2), none, some (.int a4)] [.int b1, .int b0] h (ra_oI r) :=
  ra_sound (by omega) rfl ra_rI_ok (kX12_scatter_111_ok N c58 hc58) (fun m av h h1 e => (ra_c0_ok (ro := ra_oV)) m av h h1 e) (fun m av h x h1 e => (tIX12_scatter_ok N) m av h (x, h1) e) (fun m av h x h1 e => (ra_c0_ok (ro := ra_oJ)) m av h (x, h1) e) (fun m av h x h1 e => (ra_c0_ok (ro := ra_oR)) m av h (x, h1) e) (fun m av h x h1 e => (ra_c0_ok (ro := ra_oN)) m av h (x, h1) e) (fun m av h x h1 e => (ra_c0_ok (ro := ra_oF)) m av h (x, h1) e) 5 lX12_scatter_111 _ _ _ _ lX12_scatter_111_ck (show ra_run ra_rI (kX12_scatter_111 N c58) ra_c0 (tIX12_scatter N) ra_c0 ra_c0 ra_c0 ra_c0 5 lX12_scatter_111 [some (.ref a0), none, some (.int a2), none, some (.int a4)] [.int b1, .int b0] h = some r from e) _ _ rfl
def lX12_scatter_93 : List ra_I := [(93, .iastore, 1, 0, 0, 0, 0, 0, []),
  (94, .iload_n 3, 1, 3, 0, 0, 0, 0, []),
  (95, .aload_n 0, 1, 0, 0, 0, 0, 0, []),
  (96, .getfield 144, 3, 12, 57, 2, 0, 0, []),
  (99, .iload 4, 2, 4, 0, 0, 0, 0, []),
  (101, .iaload, 1, 0, 0, 0, 0, 0, []),
  (102, .iconst (-1), 1, 0, 0, 0, (-1), 0, []),
  (103, .if_icmp .ne (7), 3, 110, 0, 0, 0, 0, []),
  (106, .iconst (1), 1, 0, 0, 0, (1), 0, []),
  (107, .goto (4), 3, 111, 0, 0, 0, 0, []),
  (110, .iconst (0), 1, 0, 0, 0, (0), 0, [])]
set_option maxRecDepth 100000 in
theorem lX12_scatter_93_ck : lX12_scatter_93.all (ra_ck mX12_scatter 12) = true := by decide +kernel
def nX12_scatter_93 (N : Nat) (c58 : Nat → Int32 → Int32 → Int32 → ra_H → Option (Int32 × ra_H)) (a0 : Nat) (a2 : Int32) (a3 : Int32) (a4 : Int32) (b0 : Nat) (b1 : Int32) (b2 : Int32) (h : ra_H) : Option (Int32 × ra_H) :=
  (ra_aW h 0 b0 b1 b2).bind fun h1 =>
  (ra_fR h1 12 a0 57).bind fun x2 =>
  (ra_aI h1 0 x2 a4).bind fun x3 =>
  if x3 = ((-1 : Int32)) then
    nX12_scatter_111 N c58 a0 a2 a4 a3 ((1 : Int32)) h1
  else
    nX12_scatter_111 N c58 a0 a2 a4 a3 ((0 : Int32)) h1
def kX12_scatter_93 (N : Nat) (c58 : Nat → Int32 → Int32 → Int32 → ra_H → Option (Int32 × ra_H)) : Nat → List (Option Value) → List Value → ra_H → Option (Int32 × ra_H) := (ra_k1 111 (fun L S h => match L, S with
  | [some (.ref a0), _, some (.int a2), _, some (.int a4)], [.int b1, .int b0] => nX12_scatter_111 N c58 a0 a2 a4 b0 b1 h
  | _, _ => none) ra_k0)
theorem kX12_scatter_93_ok (N : Nat) (c58 : Nat → Int32 → Int32 → Int32 → ra_H → Option (Int32 × ra_H)) (hc58 : ∀ a0 a2 a3 a4 h r, c58 a0 a2 a3 a4 h = some r → ra_Ru 2 mX12_scatter 58 [some (.ref a0), none, some (.int a2), some (.int a3), some (.int a4)] [] h (ra_oI r)) : ra_kok 2 mX12_scatter ra_oI (kX12_scatter_93 N c58) := (ra_k1_ok (by
  intro L S h a e
  split at e
  · exact ra_Ru.weak (nX12_scatter_111_ok N c58 hc58 _ _ _ _ _ _ _ e) ⟨rfl, ⟨rfl, ⟨rfl, trivial⟩⟩⟩
  · cases e) ra_k0_ok)
set_option maxRecDepth 100000 in
theorem nX12_scatter_93_ok (N : Nat) (c58 : Nat → Int32 → Int32 → Int32 → ra_H → Option (Int32 × ra_H)) (hc58 : ∀ a0 a2 a3 a4 h r, c58 a0 a2 a3 a4 h = some r → ra_Ru 2 mX12_scatter 58 [some (.ref a0), none, some (.int a2), some (.int a3), some (.int a4)] [] h (ra_oI r)) (a0 : Nat) (a2 : Int32) (a3 : Int32) (a4 : Int32) (b0 : Nat) (b1 : Int32) (b2 : Int32) (h : ra_H) (r : (Int32 × ra_H)) (e : nX12_scatter_93 N c58 a0 a2 a3 a4 b0 b1 b2 h = some r) : ra_Ru 2 mX12_scatter 93 [some (.ref a0), none, some (.int a2), some (.int a3), some (.int a4)] [.int b2, .int b1, .ref b0] h (ra_oI r) :=
  ra_sound (by omega) rfl ra_rI_ok (kX12_scatter_93_ok N c58 hc58) (fun m av h h1 e => (ra_c0_ok (ro := ra_oV)) m av h h1 e) (fun m av h x h1 e => (tIX12_scatter_ok N) m av h (x, h1) e) (fun m av h x h1 e => (ra_c0_ok (ro := ra_oJ)) m av h (x, h1) e) (fun m av h x h1 e => (ra_c0_ok (ro := ra_oR)) m av h (x, h1) e) (fun m av h x h1 e => (ra_c0_ok (ro := ra_oN)) m av h (x, h1) e) (fun m av h x h1 e => (ra_c0_ok (ro := ra_oF)) m av h (x, h1) e) 12 lX12_scatter_93 _ _ _ _ lX12_scatter_93_ck (show ra_run ra_rI (kX12_scatter_93 N c58) ra_c0 (tIX12_scatter N) ra_c0 ra_c0 ra_c0 ra_c0 12 lX12_scatter_93 [some (.ref a0), none, some (.int a2), some (.int a3), some (.int a4)] [.int b2, .int b1, .ref b0] h = some r from e) _ _ rfl
def lX12_scatter_58 : List ra_I := [(58, .iload 4, 2, 4, 0, 0, 0, 0, []),
  (60, .aload_n 0, 1, 0, 0, 0, 0, 0, []),
  (61, .getfield 141, 3, 12, 56, 0, 0, 0, []),
  (64, .if_icmp .ge (55), 3, 119, 0, 0, 0, 0, []),
  (67, .aload_n 0, 1, 0, 0, 0, 0, 0, []),
  (68, .getfield 144, 3, 12, 57, 2, 0, 0, []),
  (71, .iload 4, 2, 4, 0, 0, 0, 0, []),
  (73, .aload_n 0, 1, 0, 0, 0, 0, 0, []),
  (74, .bipush (100), 2, 0, 0, 0, (100), 0, []),
  (76, .invokevirtual 509, 3, 317, 2, 1, 0, 0, []),
  (79, .iload_n 2, 1, 2, 0, 0, 0, 0, []),
  (80, .if_icmp .ge (7), 3, 87, 0, 0, 0, 0, []),
  (83, .iconst (-1), 1, 0, 0, 0, (-1), 0, []),
  (84, .goto (9), 3, 93, 0, 0, 0, 0, []),
  (87, .aload_n 0, 1, 0, 0, 0, 0, 0, []),
  (88, .bipush (12), 2, 0, 0, 0, (12), 0, []),
  (90, .invokevirtual 509, 3, 317, 2, 1, 0, 0, []),
  (119, .aload_n 0, 1, 0, 0, 0, 0, 0, []),
  (120, .iload_n 3, 1, 3, 0, 0, 0, 0, []),
  (121, .invokevirtual 157, 3, 210, 2, 1, 0, 0, []),
  (124, .ireturn, 1, 0, 0, 0, 0, 0, [])]
set_option maxRecDepth 100000 in
theorem lX12_scatter_58_ck : lX12_scatter_58.all (ra_ck mX12_scatter 12) = true := by decide +kernel
def nX12_scatter_58 (N : Nat) : Nat → Nat → Int32 → Int32 → Int32 → ra_H → Option (Int32 × ra_H)
  | 0, _, _, _, _, _ => none
  | n + 1, a0, a2, a3, a4, h =>
  (ra_fI h 12 a0 56).bind fun x1 =>
  if a4 < x1 then
    (ra_fR h 12 a0 57).bind fun x3 =>
    (fX12_draw N a0 ((100 : Int32)) h).bind fun q4 =>
    if q4.1 < a2 then
      nX12_scatter_93 N (nX12_scatter_58 N n) a0 a2 a3 a4 x3 a4 ((-1 : Int32)) q4.2
    else
      (fX12_draw N a0 ((12 : Int32)) q4.2).bind fun q5 =>
      nX12_scatter_93 N (nX12_scatter_58 N n) a0 a2 a3 a4 x3 a4 q5.1 q5.2
  else
    (fX12_tell N a0 a3 h).bind fun q2 =>
    some (q2.1, q2.2)
def kX12_scatter_58 (N : Nat) (cs : Nat → Int32 → Int32 → Int32 → ra_H → Option (Int32 × ra_H)) : Nat → List (Option Value) → List Value → ra_H → Option (Int32 × ra_H) := (ra_k1 93 (fun L S h => match L, S with
  | [some (.ref a0), _, some (.int a2), some (.int a3), some (.int a4)], [.int b2, .int b1, .ref b0] => nX12_scatter_93 N cs a0 a2 a3 a4 b0 b1 b2 h
  | _, _ => none) ra_k0)
theorem kX12_scatter_58_ok (N : Nat) (cs : Nat → Int32 → Int32 → Int32 → ra_H → Option (Int32 × ra_H)) (hcs : ∀ a0 a2 a3 a4 h r, cs a0 a2 a3 a4 h = some r → ra_Ru 2 mX12_scatter 58 [some (.ref a0), none, some (.int a2), some (.int a3), some (.int a4)] [] h (ra_oI r)) : ra_kok 2 mX12_scatter ra_oI (kX12_scatter_58 N cs) := (ra_k1_ok (by
  intro L S h a e
  split at e
  · exact ra_Ru.weak (nX12_scatter_93_ok N cs hcs _ _ _ _ _ _ _ _ _ e) ⟨rfl, ⟨rfl, ⟨rfl, ⟨rfl, trivial⟩⟩⟩⟩
  · cases e) ra_k0_ok)
set_option maxRecDepth 100000 in
theorem nX12_scatter_58_ok (N : Nat) : ∀ n a0 a2 a3 a4 h r, nX12_scatter_58 N n a0 a2 a3 a4 h = some r → ra_Ru 2 mX12_scatter 58 [some (.ref a0), none, some (.int a2), some (.int a3), some (.int a4)] [] h (ra_oI r) := by
  intro n
  induction n with
  | zero => intro a0 a2 a3 a4 h r e; cases e
  | succ n ih =>
    intro a0 a2 a3 a4 h r e
    exact ra_sound (by omega) rfl ra_rI_ok (kX12_scatter_58_ok N (nX12_scatter_58 N n) ih) (fun m av h h1 e => (ra_c0_ok (ro := ra_oV)) m av h h1 e) (fun m av h x h1 e => (tIX12_scatter_ok N) m av h (x, h1) e) (fun m av h x h1 e => (ra_c0_ok (ro := ra_oJ)) m av h (x, h1) e) (fun m av h x h1 e => (ra_c0_ok (ro := ra_oR)) m av h (x, h1) e) (fun m av h x h1 e => (ra_c0_ok (ro := ra_oN)) m av h (x, h1) e) (fun m av h x h1 e => (ra_c0_ok (ro := ra_oF)) m av h (x, h1) e) 22 lX12_scatter_58 _ _ _ _ lX12_scatter_58_ck (show ra_run ra_rI (kX12_scatter_58 N (nX12_scatter_58 N n)) ra_c0 (tIX12_scatter N) ra_c0 ra_c0 ra_c0 ra_c0 22 lX12_scatter_58 [some (.ref a0), none, some (.int a2), some (.int a3), some (.int a4)] [] h = some r from e) _ _ rfl
def lX12_scatter_0 : List ra_I := [(0, .aload_n 0, 1, 0, 0, 0, 0, 0, []),
  (1, .iconst (0), 1, 0, 0, 0, (0), 0, []),
  (2, .putfield 147, 3, 12, 0, 0, 0, 0, []),
  (5, .iload_n 1, 1, 1, 0, 0, 0, 0, []),
  (6, .i2l, 1, 0, 0, 0, 0, 0, []),
  (7, .lconst 0, 1, 0, 0, 0, 0, 0, []),
  (8, .ldc2_w 254, 3, 0, 0, 0, 0, (1000000), []),
  (11, .invokestatic 153, 3, 209, 3, 1, 0, 0, []),
  (14, .ifCond .eq (15), 3, 29, 0, 0, 0, 0, []),
  (17, .iload_n 2, 1, 2, 0, 0, 0, 0, []),
  (18, .i2l, 1, 0, 0, 0, 0, 0, []),
  (19, .lconst 0, 1, 0, 0, 0, 0, 0, []),
  (20, .ldc2_w 491, 3, 0, 0, 0, 0, (100), []),
  (23, .invokestatic 153, 3, 209, 3, 1, 0, 0, []),
  (26, .ifCond .ne (9), 3, 35, 0, 0, 0, 0, []),
  (35, .aload_n 0, 1, 0, 0, 0, 0, 0, []),
  (36, .iload_n 1, 1, 1, 0, 0, 0, 0, []),
  (37, .i2l, 1, 0, 0, 0, 0, 0, []),
  (38, .putfield 500, 3, 12, 55, 1, 0, 0, []),
  (41, .iconst (0), 1, 0, 0, 0, (0), 0, []),
  (42, .istore_n 3, 1, 3, 0, 0, 0, 0, []),
  (43, .aload_n 0, 1, 0, 0, 0, 0, 0, []),
  (44, .aload_n 0, 1, 0, 0, 0, 0, 0, []),
  (45, .getfield 13, 3, 12, 3, 2, 0, 0, []),
  (48, .sipush (480), 3, 0, 0, 0, (480), 0, []),
  (51, .iaload, 1, 0, 0, 0, 0, 0, []),
  (52, .putfield 141, 3, 12, 56, 0, 0, 0, []),
  (55, .iconst (0), 1, 0, 0, 0, (0), 0, []),
  (56, .istore 4, 2, 4, 0, 0, 0, 0, [])]
set_option maxRecDepth 100000 in
theorem lX12_scatter_0_ck : lX12_scatter_0.all (ra_ck mX12_scatter 12) = true := by decide +kernel
def nX12_scatter_0 (N : Nat) (a0 : Nat) (a1 : Int32) (a2 : Int32) (h : ra_H) : Option (Int32 × ra_H) :=
  (ra_fW h 12 a0 0 (.int ((0 : Int32)))).bind fun h1 =>
  (fX12_in N (Int32.toInt64 a1) ((0 : Int64)) ((1000000 : Int64)) h1).bind fun q2 =>
  if q2.1 = 0 then
    nX12_scatter_29 N a0 q2.2
  else
    (fX12_in N (Int32.toInt64 a2) ((0 : Int64)) ((100 : Int64)) q2.2).bind fun q3 =>
    if q3.1 = 0 then
      nX12_scatter_29 N a0 q3.2
    else
      (ra_fW q3.2 12 a0 55 (.long (Int32.toInt64 a1))).bind fun h4 =>
      (ra_fR h4 12 a0 3).bind fun x5 =>
      (ra_aI h4 0 x5 ((480 : Int32))).bind fun x6 =>
      (ra_fW h4 12 a0 56 (.int x6)).bind fun h7 =>
      nX12_scatter_58 N N a0 a2 ((0 : Int32)) ((0 : Int32)) h7
def kX12_scatter_0 (N : Nat) : Nat → List (Option Value) → List Value → ra_H → Option (Int32 × ra_H) := (ra_k1 29 (fun L S h => match L, S with
  | [some (.ref a0), _, _, _, _], [] => nX12_scatter_29 N a0 h
  | _, _ => none) (ra_k1 58 (fun L S h => match L, S with
  | [some (.ref a0), _, some (.int a2), some (.int a3), some (.int a4)], [] => nX12_scatter_58 N N a0 a2 a3 a4 h
  | _, _ => none) ra_k0))
theorem kX12_scatter_0_ok (N : Nat) : ra_kok 2 mX12_scatter ra_oI (kX12_scatter_0 N) := (ra_k1_ok (by
  intro L S h a e
  split at e
  · exact ra_Ru.weak (nX12_scatter_29_ok N _ _ _ e) ⟨rfl, trivial⟩
  · cases e) (ra_k1_ok (by
  intro L S h a e
  split at e
  · exact ra_Ru.weak (nX12_scatter_58_ok N N _ _ _ _ _ _ e) ⟨rfl, ⟨rfl, ⟨rfl, ⟨rfl, trivial⟩⟩⟩⟩
  · cases e) ra_k0_ok))
set_option maxRecDepth 100000 in
theorem nX12_scatter_0_ok (N : Nat) (a0 : Nat) (a1 : Int32) (a2 : Int32) (h : ra_H) (r : (Int32 × ra_H)) (e : nX12_scatter_0 N a0 a1 a2 h = some r) : ra_Ru 2 mX12_scatter 0 [some (.ref a0), some (.int a1), some (.int a2), none, none] [] h (ra_oI r) :=
  ra_sound (by omega) rfl ra_rI_ok (kX12_scatter_0_ok N) (fun m av h h1 e => (ra_c0_ok (ro := ra_oV)) m av h h1 e) (fun m av h x h1 e => (tIX12_scatter_ok N) m av h (x, h1) e) (fun m av h x h1 e => (ra_c0_ok (ro := ra_oJ)) m av h (x, h1) e) (fun m av h x h1 e => (ra_c0_ok (ro := ra_oR)) m av h (x, h1) e) (fun m av h x h1 e => (ra_c0_ok (ro := ra_oN)) m av h (x, h1) e) (fun m av h x h1 e => (ra_c0_ok (ro := ra_oF)) m av h (x, h1) e) 30 lX12_scatter_0 _ _ _ _ lX12_scatter_0_ck (show ra_run ra_rI (kX12_scatter_0 N) ra_c0 (tIX12_scatter N) ra_c0 ra_c0 ra_c0 ra_c0 30 lX12_scatter_0 [some (.ref a0), some (.int a1), some (.int a2), none, none] [] h = some r from e) _ _ rfl
def fX12_scatter (N : Nat) (p0 : Nat) (p1 : Int32) (p2 : Int32) (h : ra_H) : Option (Int32 × ra_H) := match ra_isOb h p0 12 with
  | true => nX12_scatter_0 N p0 p1 p2 h
  | false => none
set_option maxRecDepth 100000 in
theorem mtX12_scatter : ra_MT[316]? = some (mX12_scatter, 1, 2, (1, 13), (9, 66), (9, 67)) := rfl
theorem fX12_scatter_co (N : Nat) (p0 : Nat) (p1 : Int32) (p2 : Int32) (h : ra_H) (r : (Int32 × ra_H)) (e : fX12_scatter N p0 p1 p2 h = some r) (D : Nat) (hD : 3 ≤ D) : ra_CO D 316 [.ref p0, .int p1, .int p2] h (ra_oI r).1 (ra_oI r).2 := by
  have hw : ra_nw2 [.ref p0, .int p1, .int p2] ≤ 5 := Nat.le_of_ble_eq_true rfl
  have hdb : ∀ v ∈ ([.ref p0, .int p1, .int p2] : List Value), ∀ x, v ≠ .double x := by
    intro v hv x hx
    simp [hx] at hv
  unfold fX12_scatter at e
  split at e
  · rename_i ho
    have e1 := e
    exact ⟨2, _, mtX12_scatter, hD, ra_ev_of (by decide) hdb hw trivial (ra_Ru.weak (nX12_scatter_0_ok N p0 p1 p2 h _ e1) ⟨rfl, ⟨rfl, ⟨rfl, trivial⟩⟩⟩), (fun _ => ⟨_, _, rfl, ra_rcv_of ho (by decide) rfl⟩), (fun h => absurd h (by decide))⟩
  · cases e
/-! RedMarksModel.seat(III)I -/
def mX12_seat : ra_M := (yX12_seat, cX12_seat, 5, (some .int))
def tVX12_seat (N : Nat) : Nat → List Value → ra_H → Option ra_H := (ra_c1 257 (fun av h => match av with
  | [.ref z0, .int z1, .int z2] => fX12_findSeat N z0 z1 z2 h
  | _ => none) ra_c0)
theorem tVX12_seat_ok (N : Nat) : ra_cok 6 ra_oV (tVX12_seat N) := (ra_c1_ok (by
  intro av h a e
  split at e
  · exact fX12_findSeat_co N _ _ _ _ _ e 6 (by omega)
  · cases e) ra_c0_ok)
def tIX12_seat (N : Nat) : Nat → List Value → ra_H → Option (Int32 × ra_H) := (ra_c1 209 (fun av h => match av with
  | [.long z0, .long z1, .long z2] => fX12_in N z0 z1 z2 h
  | _ => none) (ra_c1 218 (fun av h => match av with
  | [.ref z0, .int z1] => fX12_isBook N z0 z1 h
  | _ => none) (ra_c1 256 (fun av h => match av with
  | [.ref z0, .int z1] => fX12_isText N z0 z1 h
  | _ => none) ra_c0)))
theorem tIX12_seat_ok (N : Nat) : ra_cok 6 ra_oI (tIX12_seat N) := (ra_c1_ok (by
  intro av h a e
  split at e
  · exact fX12_in_co N _ _ _ _ _ e 6 (by omega)
  · cases e) (ra_c1_ok (by
  intro av h a e
  split at e
  · exact fX12_isBook_co N _ _ _ _ e 6 (by omega)
  · cases e) (ra_c1_ok (by
  intro av h a e
  split at e
  · exact fX12_isText_co N _ _ _ _ e 6 (by omega)
  · cases e) ra_c0_ok)))
def lX12_seat_33 : List ra_I := [(33, .iconst (-1), 1, 0, 0, 0, (-1), 0, []),
  (34, .ireturn, 1, 0, 0, 0, 0, 0, [])]
set_option maxRecDepth 100000 in
theorem lX12_seat_33_ck : lX12_seat_33.all (ra_ck mX12_seat 12) = true := by decide +kernel
def nX12_seat_33 (N : Nat) (h : ra_H) : Option (Int32 × ra_H) :=
  some ((-1 : Int32), h)
def kX12_seat_33 (N : Nat) : Nat → List (Option Value) → List Value → ra_H → Option (Int32 × ra_H) := ra_k0
theorem kX12_seat_33_ok (N : Nat) : ra_kok 6 mX12_seat ra_oI (kX12_seat_33 N) := ra_k0_ok
set_option maxRecDepth 100000 in
theorem nX12_seat_33_ok (N : Nat) (h : ra_H) (r : (Int32 × ra_H)) (e : nX12_seat_33 N h = some r) : ra_Ru 6 mX12_seat 33 [none, none, none, none, none] [] h (ra_oI r) :=
  ra_sound (by omega) rfl ra_rI_ok (kX12_seat_33_ok N) (fun m av h h1 e => (tVX12_seat_ok N) m av h h1 e) (fun m av h x h1 e => (tIX12_seat_ok N) m av h (x, h1) e) (fun m av h x h1 e => (ra_c0_ok (ro := ra_oJ)) m av h (x, h1) e) (fun m av h x h1 e => (ra_c0_ok (ro := ra_oR)) m av h (x, h1) e) (fun m av h x h1 e => (ra_c0_ok (ro := ra_oN)) m av h (x, h1) e) (fun m av h x h1 e => (ra_c0_ok (ro := ra_oF)) m av h (x, h1) e) 3 lX12_seat_33 _ _ _ _ lX12_seat_33_ck (show ra_run ra_rI (kX12_seat_33 N) (tVX12_seat N) (tIX12_seat N) ra_c0 ra_c0 ra_c0 ra_c0 3 lX12_seat_33 [none, none, none, none, none] [] h = some r from e) _ _ rfl
def lX12_seat_123 : List ra_I := [(123, .ireturn, 1, 0, 0, 0, 0, 0, [])]
set_option maxRecDepth 100000 in
theorem lX12_seat_123_ck : lX12_seat_123.all (ra_ck mX12_seat 12) = true := by decide +kernel
def nX12_seat_123 (N : Nat) (b0 : Int32) (h : ra_H) : Option (Int32 × ra_H) :=
  some (b0, h)
def kX12_seat_123 (N : Nat) : Nat → List (Option Value) → List Value → ra_H → Option (Int32 × ra_H) := ra_k0
theorem kX12_seat_123_ok (N : Nat) : ra_kok 6 mX12_seat ra_oI (kX12_seat_123 N) := ra_k0_ok
set_option maxRecDepth 100000 in
theorem nX12_seat_123_ok (N : Nat) (b0 : Int32) (h : ra_H) (r : (Int32 × ra_H)) (e : nX12_seat_123 N b0 h = some r) : ra_Ru 6 mX12_seat 123 [none, none, none, none, none] [.int b0] h (ra_oI r) :=
  ra_sound (by omega) rfl ra_rI_ok (kX12_seat_123_ok N) (fun m av h h1 e => (tVX12_seat_ok N) m av h h1 e) (fun m av h x h1 e => (tIX12_seat_ok N) m av h (x, h1) e) (fun m av h x h1 e => (ra_c0_ok (ro := ra_oJ)) m av h (x, h1) e) (fun m av h x h1 e => (ra_c0_ok (ro := ra_oR)) m av h (x, h1) e) (fun m av h x h1 e => (ra_c0_ok (ro := ra_oN)) m av h (x, h1) e) (fun m av h x h1 e => (ra_c0_ok (ro := ra_oF)) m av h (x, h1) e) 2 lX12_seat_123 _ _ _ _ lX12_seat_123_ck (show ra_run ra_rI (kX12_seat_123 N) (tVX12_seat N) (tIX12_seat N) ra_c0 ra_c0 ra_c0 ra_c0 2 lX12_seat_123 [none, none, none, none, none] [.int b0] h = some r from e) _ _ rfl
def lX12_seat_0 : List ra_I := [(0, .aload_n 0, 1, 0, 0, 0, 0, 0, []),
  (1, .iconst (0), 1, 0, 0, 0, (0), 0, []),
  (2, .putfield 147, 3, 12, 0, 0, 0, 0, []),
  (5, .aload_n 0, 1, 0, 0, 0, 0, 0, []),
  (6, .iload_n 1, 1, 1, 0, 0, 0, 0, []),
  (7, .invokevirtual 403, 3, 256, 2, 1, 0, 0, []),
  (10, .ifCond .eq (23), 3, 33, 0, 0, 0, 0, []),
  (13, .aload_n 0, 1, 0, 0, 0, 0, 0, []),
  (14, .iload_n 2, 1, 2, 0, 0, 0, 0, []),
  (15, .invokevirtual 198, 3, 218, 2, 1, 0, 0, []),
  (18, .ifCond .eq (15), 3, 33, 0, 0, 0, 0, []),
  (21, .iload_n 3, 1, 3, 0, 0, 0, 0, []),
  (22, .i2l, 1, 0, 0, 0, 0, 0, []),
  (23, .lconst 0, 1, 0, 0, 0, 0, 0, []),
  (24, .ldc2_w 406, 3, 0, 0, 0, 0, (3), []),
  (27, .invokestatic 153, 3, 209, 3, 1, 0, 0, []),
  (30, .ifCond .ne (5), 3, 35, 0, 0, 0, 0, []),
  (35, .aload_n 0, 1, 0, 0, 0, 0, 0, []),
  (36, .iload_n 1, 1, 1, 0, 0, 0, 0, []),
  (37, .iload_n 2, 1, 2, 0, 0, 0, 0, []),
  (38, .invokevirtual 400, 3, 257, 3, 0, 0, 0, []),
  (41, .aload_n 0, 1, 0, 0, 0, 0, 0, []),
  (42, .getfield 92, 3, 12, 35, 2, 0, 0, []),
  (45, .bipush (40), 2, 0, 0, 0, (40), 0, []),
  (47, .iload_n 1, 1, 1, 0, 0, 0, 0, []),
  (48, .imul, 1, 0, 0, 0, 0, 0, []),
  (49, .iload_n 2, 1, 2, 0, 0, 0, 0, []),
  (50, .iadd, 1, 0, 0, 0, 0, 0, []),
  (51, .iaload, 1, 0, 0, 0, 0, 0, []),
  (52, .istore 4, 2, 4, 0, 0, 0, 0, []),
  (54, .iload 4, 2, 4, 0, 0, 0, 0, []),
  (56, .iconst (-1), 1, 0, 0, 0, (-1), 0, []),
  (57, .if_icmp .ne (5), 3, 62, 0, 0, 0, 0, []),
  (60, .iconst (-1), 1, 0, 0, 0, (-1), 0, []),
  (61, .ireturn, 1, 0, 0, 0, 0, 0, []),
  (62, .iload_n 3, 1, 3, 0, 0, 0, 0, []),
  (63, .ifCond .ne (12), 3, 75, 0, 0, 0, 0, []),
  (66, .iload 4, 2, 4, 0, 0, 0, 0, []),
  (68, .sipush (600), 3, 0, 0, 0, (600), 0, []),
  (71, .idiv, 1, 0, 0, 0, 0, 0, []),
  (72, .goto (51), 3, 123, 0, 0, 0, 0, []),
  (75, .iload_n 3, 1, 3, 0, 0, 0, 0, []),
  (76, .iconst (1), 1, 0, 0, 0, (1), 0, []),
  (77, .if_icmp .ne (14), 3, 91, 0, 0, 0, 0, []),
  (80, .iload 4, 2, 4, 0, 0, 0, 0, []),
  (82, .bipush (100), 2, 0, 0, 0, (100), 0, []),
  (84, .idiv, 1, 0, 0, 0, 0, 0, []),
  (85, .bipush (6), 2, 0, 0, 0, (6), 0, []),
  (87, .irem, 1, 0, 0, 0, 0, 0, []),
  (88, .goto (35), 3, 123, 0, 0, 0, 0, []),
  (91, .iload_n 3, 1, 3, 0, 0, 0, 0, []),
  (92, .iconst (2), 1, 0, 0, 0, (2), 0, []),
  (93, .if_icmp .ne (11), 3, 104, 0, 0, 0, 0, []),
  (96, .iload 4, 2, 4, 0, 0, 0, 0, []),
  (98, .bipush (100), 2, 0, 0, 0, (100), 0, []),
  (100, .irem, 1, 0, 0, 0, 0, 0, []),
  (101, .goto (22), 3, 123, 0, 0, 0, 0, []),
  (104, .aload_n 0, 1, 0, 0, 0, 0, 0, []),
  (105, .getfield 95, 3, 12, 36, 2, 0, 0, []),
  (108, .bipush (40), 2, 0, 0, 0, (40), 0, []),
  (110, .iload_n 1, 1, 1, 0, 0, 0, 0, []),
  (111, .imul, 1, 0, 0, 0, 0, 0, []),
  (112, .iload_n 2, 1, 2, 0, 0, 0, 0, []),
  (113, .iadd, 1, 0, 0, 0, 0, 0, []),
  (114, .baload, 1, 0, 0, 0, 0, 0, []),
  (115, .ifCond .eq (7), 3, 122, 0, 0, 0, 0, []),
  (118, .iconst (1), 1, 0, 0, 0, (1), 0, []),
  (119, .goto (4), 3, 123, 0, 0, 0, 0, []),
  (122, .iconst (0), 1, 0, 0, 0, (0), 0, [])]
set_option maxRecDepth 100000 in
theorem lX12_seat_0_ck : lX12_seat_0.all (ra_ck mX12_seat 12) = true := by decide +kernel
def nX12_seat_0 (N : Nat) (a0 : Nat) (a1 : Int32) (a2 : Int32) (a3 : Int32) (h : ra_H) : Option (Int32 × ra_H) :=
  (ra_fW h 12 a0 0 (.int ((0 : Int32)))).bind fun h1 =>
  (fX12_isText N a0 a1 h1).bind fun q2 =>
  if q2.1 = 0 then
    nX12_seat_33 N q2.2
  else
    (fX12_isBook N a0 a2 q2.2).bind fun q3 =>
    if q3.1 = 0 then
      nX12_seat_33 N q3.2
    else
      (fX12_in N (Int32.toInt64 a3) ((0 : Int64)) ((3 : Int64)) q3.2).bind fun q4 =>
      if q4.1 = 0 then
        nX12_seat_33 N q4.2
      else
        (fX12_findSeat N a0 a1 a2 q4.2).bind fun h5 =>
        (ra_fR h5 12 a0 35).bind fun x6 =>
        (ra_aI h5 0 x6 ((((40 : Int32)) * a1) + a2)).bind fun x7 =>
        if x7 = ((-1 : Int32)) then
          some ((-1 : Int32), h5)
        else
          if a3 = 0 then
            if ((600 : Int32)) = 0 then none else
            nX12_seat_123 N (x7 / ((600 : Int32))) h5
          else
            if a3 = ((1 : Int32)) then
              if ((100 : Int32)) = 0 then none else
              if ((6 : Int32)) = 0 then none else
              nX12_seat_123 N ((x7 / ((100 : Int32))) - (x7 / ((100 : Int32))) / ((6 : Int32)) * ((6 : Int32))) h5
            else
              if a3 = ((2 : Int32)) then
                if ((100 : Int32)) = 0 then none else
                nX12_seat_123 N (x7 - x7 / ((100 : Int32)) * ((100 : Int32))) h5
              else
                (ra_fR h5 12 a0 36).bind fun x8 =>
                (ra_aI h5 2 x8 ((((40 : Int32)) * a1) + a2)).bind fun x9 =>
                if x9 = 0 then
                  nX12_seat_123 N ((0 : Int32)) h5
                else
                  nX12_seat_123 N ((1 : Int32)) h5
def kX12_seat_0 (N : Nat) : Nat → List (Option Value) → List Value → ra_H → Option (Int32 × ra_H) := (ra_k1 33 (fun L S h => match L, S with
  | [_, _, _, _, _], [] => nX12_seat_33 N h
  | _, _ => none) (ra_k1 123 (fun L S h => match L, S with
  | [_, _, _, _, _], [.int b0] => nX12_seat_123 N b0 h
  | _, _ => none) ra_k0))
theorem kX12_seat_0_ok (N : Nat) : ra_kok 6 mX12_seat ra_oI (kX12_seat_0 N) := (ra_k1_ok (by
  intro L S h a e
  split at e
  · exact ra_Ru.weak (nX12_seat_33_ok N _ _ e) trivial
  · cases e) (ra_k1_ok (by
  intro L S h a e
  split at e
  · exact ra_Ru.weak (nX12_seat_123_ok N _ _ _ e) trivial
  · cases e) ra_k0_ok))
set_option maxRecDepth 100000 in
theorem nX12_seat_0_ok (N : Nat) (a0 : Nat) (a1 : Int32) (a2 : Int32) (a3 : Int32) (h : ra_H) (r : (Int32 × ra_H)) (e : nX12_seat_0 N a0 a1 a2 a3 h = some r) : ra_Ru 6 mX12_seat 0 [some (.ref a0), some (.int a1), some (.int a2), some (.int a3), none] [] h (ra_oI r) :=
  ra_sound (by omega) rfl ra_rI_ok (kX12_seat_0_ok N) (fun m av h h1 e => (tVX12_seat_ok N) m av h h1 e) (fun m av h x h1 e => (tIX12_seat_ok N) m av h (x, h1) e) (fun m av h x h1 e => (ra_c0_ok (ro := ra_oJ)) m av h (x, h1) e) (fun m av h x h1 e => (ra_c0_ok (ro := ra_oR)) m av h (x, h1) e) (fun m av h x h1 e => (ra_c0_ok (ro := ra_oN)) m av h (x, h1) e) (fun m av h x h1 e => (ra_c0_ok (ro := ra_oF)) m av h (x, h1) e) 70 lX12_seat_0 _ _ _ _ lX12_seat_0_ck (show ra_run ra_rI (kX12_seat_0 N) (tVX12_seat N) (tIX12_seat N) ra_c0 ra_c0 ra_c0 ra_c0 70 lX12_seat_0 [some (.ref a0), some (.int a1), some (.int a2), some (.int a3), none] [] h = some r from e) _ _ rfl
def fX12_seat (N : Nat) (p0 : Nat) (p1 : Int32) (p2 : Int32) (p3 : Int32) (h : ra_H) : Option (Int32 × ra_H) := match ra_isOb h p0 12 with
  | true => nX12_seat_0 N p0 p1 p2 p3 h
  | false => none
set_option maxRecDepth 100000 in
theorem mtX12_seat : ra_MT[255]? = some (mX12_seat, 1, 3, (1, 13), (8, 53), (8, 54)) := rfl
theorem fX12_seat_co (N : Nat) (p0 : Nat) (p1 : Int32) (p2 : Int32) (p3 : Int32) (h : ra_H) (r : (Int32 × ra_H)) (e : fX12_seat N p0 p1 p2 p3 h = some r) (D : Nat) (hD : 7 ≤ D) : ra_CO D 255 [.ref p0, .int p1, .int p2, .int p3] h (ra_oI r).1 (ra_oI r).2 := by
  have hw : ra_nw2 [.ref p0, .int p1, .int p2, .int p3] ≤ 5 := Nat.le_of_ble_eq_true rfl
  have hdb : ∀ v ∈ ([.ref p0, .int p1, .int p2, .int p3] : List Value), ∀ x, v ≠ .double x := by
    intro v hv x hx
    simp [hx] at hv
  unfold fX12_seat at e
  split at e
  · rename_i ho
    have e1 := e
    exact ⟨6, _, mtX12_seat, hD, ra_ev_of (by decide) hdb hw trivial (ra_Ru.weak (nX12_seat_0_ok N p0 p1 p2 p3 h _ e1) ⟨rfl, ⟨rfl, ⟨rfl, ⟨rfl, trivial⟩⟩⟩⟩), (fun _ => ⟨_, _, rfl, ra_rcv_of ho (by decide) rfl⟩), (fun h => absurd h (by decide))⟩
  · cases e
/-! RedMarksModel.shelf(IIII)I -/
def mX12_shelf : ra_M := (yX12_shelf, cX12_shelf, 5, (some .int))
def tIX12_shelf (N : Nat) : Nat → List Value → ra_H → Option (Int32 × ra_H) := (ra_c1 209 (fun av h => match av with
  | [.long z0, .long z1, .long z2] => fX12_in N z0 z1 z2 h
  | _ => none) (ra_c1 210 (fun av h => match av with
  | [.ref z0, .int z1] => fX12_tell N z0 z1 h
  | _ => none) (ra_c1 224 (fun av h => match av with
  | [.int z0, .int z1] => fX12_isShelf N z0 z1 h
  | _ => none) ra_c0)))
theorem tIX12_shelf_ok (N : Nat) : ra_cok 3 ra_oI (tIX12_shelf N) := (ra_c1_ok (by
  intro av h a e
  split at e
  · exact fX12_in_co N _ _ _ _ _ e 3 (by omega)
  · cases e) (ra_c1_ok (by
  intro av h a e
  split at e
  · exact fX12_tell_co N _ _ _ _ e 3 (by omega)
  · cases e) (ra_c1_ok (by
  intro av h a e
  split at e
  · exact fX12_isShelf_co N _ _ _ _ e 3 (by omega)
  · cases e) ra_c0_ok)))
def lX12_shelf_38 : List ra_I := [(38, .aload_n 0, 1, 0, 0, 0, 0, 0, []),
  (39, .iconst (-1), 1, 0, 0, 0, (-1), 0, []),
  (40, .invokevirtual 157, 3, 210, 2, 1, 0, 0, []),
  (43, .ireturn, 1, 0, 0, 0, 0, 0, [])]
set_option maxRecDepth 100000 in
theorem lX12_shelf_38_ck : lX12_shelf_38.all (ra_ck mX12_shelf 12) = true := by decide +kernel
def nX12_shelf_38 (N : Nat) (a0 : Nat) (h : ra_H) : Option (Int32 × ra_H) :=
  (fX12_tell N a0 ((-1 : Int32)) h).bind fun q1 =>
  some (q1.1, q1.2)
def kX12_shelf_38 (N : Nat) : Nat → List (Option Value) → List Value → ra_H → Option (Int32 × ra_H) := ra_k0
theorem kX12_shelf_38_ok (N : Nat) : ra_kok 3 mX12_shelf ra_oI (kX12_shelf_38 N) := ra_k0_ok
set_option maxRecDepth 100000 in
theorem nX12_shelf_38_ok (N : Nat) (a0 : Nat) (h : ra_H) (r : (Int32 × ra_H)) (e : nX12_shelf_38 N a0 h = some r) : ra_Ru 3 mX12_shelf 38 [some (.ref a0), none, none, none, none] [] h (ra_oI r) :=
  ra_sound (by omega) rfl ra_rI_ok (kX12_shelf_38_ok N) (fun m av h h1 e => (ra_c0_ok (ro := ra_oV)) m av h h1 e) (fun m av h x h1 e => (tIX12_shelf_ok N) m av h (x, h1) e) (fun m av h x h1 e => (ra_c0_ok (ro := ra_oJ)) m av h (x, h1) e) (fun m av h x h1 e => (ra_c0_ok (ro := ra_oR)) m av h (x, h1) e) (fun m av h x h1 e => (ra_c0_ok (ro := ra_oN)) m av h (x, h1) e) (fun m av h x h1 e => (ra_c0_ok (ro := ra_oF)) m av h (x, h1) e) 5 lX12_shelf_38 _ _ _ _ lX12_shelf_38_ck (show ra_run ra_rI (kX12_shelf_38 N) ra_c0 (tIX12_shelf N) ra_c0 ra_c0 ra_c0 ra_c0 5 lX12_shelf_38 [some (.ref a0), none, none, none, none] [] h = some r from e) _ _ rfl
def lX12_shelf_0 : List ra_I := [(0, .aload_n 0, 1, 0, 0, 0, 0, 0, []),
  (1, .iconst (0), 1, 0, 0, 0, (0), 0, []),
  (2, .putfield 147, 3, 12, 0, 0, 0, 0, []),
  (5, .iload_n 1, 1, 1, 0, 0, 0, 0, []),
  (6, .iload_n 2, 1, 2, 0, 0, 0, 0, []),
  (7, .invokestatic 205, 3, 224, 2, 1, 0, 0, []),
  (10, .ifCond .eq (28), 3, 38, 0, 0, 0, 0, []),
  (13, .iload_n 3, 1, 3, 0, 0, 0, 0, []),
  (14, .i2l, 1, 0, 0, 0, 0, 0, []),
  (15, .lconst 1, 1, 0, 0, 0, 0, 1, []),
  (16, .ldc2_w 208, 3, 0, 0, 0, 0, (400), []),
  (19, .invokestatic 153, 3, 209, 3, 1, 0, 0, []),
  (22, .ifCond .eq (16), 3, 38, 0, 0, 0, 0, []),
  (25, .iload 4, 2, 4, 0, 0, 0, 0, []),
  (27, .i2l, 1, 0, 0, 0, 0, 0, []),
  (28, .lconst 1, 1, 0, 0, 0, 0, 1, []),
  (29, .ldc2_w 210, 3, 0, 0, 0, 0, (60), []),
  (32, .invokestatic 153, 3, 209, 3, 1, 0, 0, []),
  (35, .ifCond .ne (9), 3, 44, 0, 0, 0, 0, []),
  (44, .aload_n 0, 1, 0, 0, 0, 0, 0, []),
  (45, .getfield 13, 3, 12, 3, 2, 0, 0, []),
  (48, .sipush (500), 3, 0, 0, 0, (500), 0, []),
  (51, .iconst (2), 1, 0, 0, 0, (2), 0, []),
  (52, .bipush (6), 2, 0, 0, 0, (6), 0, []),
  (54, .iload_n 1, 1, 1, 0, 0, 0, 0, []),
  (55, .imul, 1, 0, 0, 0, 0, 0, []),
  (56, .iload_n 2, 1, 2, 0, 0, 0, 0, []),
  (57, .iadd, 1, 0, 0, 0, 0, 0, []),
  (58, .imul, 1, 0, 0, 0, 0, 0, []),
  (59, .iadd, 1, 0, 0, 0, 0, 0, []),
  (60, .iload_n 3, 1, 3, 0, 0, 0, 0, []),
  (61, .iastore, 1, 0, 0, 0, 0, 0, []),
  (62, .aload_n 0, 1, 0, 0, 0, 0, 0, []),
  (63, .getfield 13, 3, 12, 3, 2, 0, 0, []),
  (66, .sipush (500), 3, 0, 0, 0, (500), 0, []),
  (69, .iconst (2), 1, 0, 0, 0, (2), 0, []),
  (70, .bipush (6), 2, 0, 0, 0, (6), 0, []),
  (72, .iload_n 1, 1, 1, 0, 0, 0, 0, []),
  (73, .imul, 1, 0, 0, 0, 0, 0, []),
  (74, .iload_n 2, 1, 2, 0, 0, 0, 0, []),
  (75, .iadd, 1, 0, 0, 0, 0, 0, []),
  (76, .imul, 1, 0, 0, 0, 0, 0, []),
  (77, .iadd, 1, 0, 0, 0, 0, 0, []),
  (78, .iconst (1), 1, 0, 0, 0, (1), 0, []),
  (79, .iadd, 1, 0, 0, 0, 0, 0, []),
  (80, .iload 4, 2, 4, 0, 0, 0, 0, []),
  (82, .iastore, 1, 0, 0, 0, 0, 0, []),
  (83, .aload_n 0, 1, 0, 0, 0, 0, 0, []),
  (84, .iconst (0), 1, 0, 0, 0, (0), 0, []),
  (85, .invokevirtual 157, 3, 210, 2, 1, 0, 0, []),
  (88, .ireturn, 1, 0, 0, 0, 0, 0, [])]
set_option maxRecDepth 100000 in
theorem lX12_shelf_0_ck : lX12_shelf_0.all (ra_ck mX12_shelf 12) = true := by decide +kernel
def nX12_shelf_0 (N : Nat) (a0 : Nat) (a1 : Int32) (a2 : Int32) (a3 : Int32) (a4 : Int32) (h : ra_H) : Option (Int32 × ra_H) :=
  (ra_fW h 12 a0 0 (.int ((0 : Int32)))).bind fun h1 =>
  (fX12_isShelf N a1 a2 h1).bind fun q2 =>
  if q2.1 = 0 then
    nX12_shelf_38 N a0 q2.2
  else
    (fX12_in N (Int32.toInt64 a3) ((1 : Int64)) ((400 : Int64)) q2.2).bind fun q3 =>
    if q3.1 = 0 then
      nX12_shelf_38 N a0 q3.2
    else
      (fX12_in N (Int32.toInt64 a4) ((1 : Int64)) ((60 : Int64)) q3.2).bind fun q4 =>
      if q4.1 = 0 then
        nX12_shelf_38 N a0 q4.2
      else
        (ra_fR q4.2 12 a0 3).bind fun x5 =>
        (ra_aW q4.2 0 x5 (((500 : Int32)) + (((2 : Int32)) * ((((6 : Int32)) * a1) + a2))) a3).bind fun h6 =>
        (ra_fR h6 12 a0 3).bind fun x7 =>
        (ra_aW h6 0 x7 ((((500 : Int32)) + (((2 : Int32)) * ((((6 : Int32)) * a1) + a2))) + ((1 : Int32))) a4).bind fun h8 =>
        (fX12_tell N a0 ((0 : Int32)) h8).bind fun q9 =>
        some (q9.1, q9.2)
def kX12_shelf_0 (N : Nat) : Nat → List (Option Value) → List Value → ra_H → Option (Int32 × ra_H) := (ra_k1 38 (fun L S h => match L, S with
  | [some (.ref a0), _, _, _, _], [] => nX12_shelf_38 N a0 h
  | _, _ => none) ra_k0)
theorem kX12_shelf_0_ok (N : Nat) : ra_kok 3 mX12_shelf ra_oI (kX12_shelf_0 N) := (ra_k1_ok (by
  intro L S h a e
  split at e
  · exact ra_Ru.weak (nX12_shelf_38_ok N _ _ _ e) ⟨rfl, trivial⟩
  · cases e) ra_k0_ok)
set_option maxRecDepth 100000 in
theorem nX12_shelf_0_ok (N : Nat) (a0 : Nat) (a1 : Int32) (a2 : Int32) (a3 : Int32) (a4 : Int32) (h : ra_H) (r : (Int32 × ra_H)) (e : nX12_shelf_0 N a0 a1 a2 a3 a4 h = some r) : ra_Ru 3 mX12_shelf 0 [some (.ref a0), some (.int a1), some (.int a2), some (.int a3), some (.int a4)] [] h (ra_oI r) :=
  ra_sound (by omega) rfl ra_rI_ok (kX12_shelf_0_ok N) (fun m av h h1 e => (ra_c0_ok (ro := ra_oV)) m av h h1 e) (fun m av h x h1 e => (tIX12_shelf_ok N) m av h (x, h1) e) (fun m av h x h1 e => (ra_c0_ok (ro := ra_oJ)) m av h (x, h1) e) (fun m av h x h1 e => (ra_c0_ok (ro := ra_oR)) m av h (x, h1) e) (fun m av h x h1 e => (ra_c0_ok (ro := ra_oN)) m av h (x, h1) e) (fun m av h x h1 e => (ra_c0_ok (ro := ra_oF)) m av h (x, h1) e) 52 lX12_shelf_0 _ _ _ _ lX12_shelf_0_ck (show ra_run ra_rI (kX12_shelf_0 N) ra_c0 (tIX12_shelf N) ra_c0 ra_c0 ra_c0 ra_c0 52 lX12_shelf_0 [some (.ref a0), some (.int a1), some (.int a2), some (.int a3), some (.int a4)] [] h = some r from e) _ _ rfl
def fX12_shelf (N : Nat) (p0 : Nat) (p1 : Int32) (p2 : Int32) (p3 : Int32) (p4 : Int32) (h : ra_H) : Option (Int32 × ra_H) := match ra_isOb h p0 12 with
  | true => nX12_shelf_0 N p0 p1 p2 p3 p4 h
  | false => none
set_option maxRecDepth 100000 in
theorem mtX12_shelf : ra_MT[223]? = some (mX12_shelf, 1, 4, (1, 13), (7, 151), (7, 152)) := rfl
theorem fX12_shelf_co (N : Nat) (p0 : Nat) (p1 : Int32) (p2 : Int32) (p3 : Int32) (p4 : Int32) (h : ra_H) (r : (Int32 × ra_H)) (e : fX12_shelf N p0 p1 p2 p3 p4 h = some r) (D : Nat) (hD : 4 ≤ D) : ra_CO D 223 [.ref p0, .int p1, .int p2, .int p3, .int p4] h (ra_oI r).1 (ra_oI r).2 := by
  have hw : ra_nw2 [.ref p0, .int p1, .int p2, .int p3, .int p4] ≤ 5 := Nat.le_of_ble_eq_true rfl
  have hdb : ∀ v ∈ ([.ref p0, .int p1, .int p2, .int p3, .int p4] : List Value), ∀ x, v ≠ .double x := by
    intro v hv x hx
    simp [hx] at hv
  unfold fX12_shelf at e
  split at e
  · rename_i ho
    have e1 := e
    exact ⟨3, _, mtX12_shelf, hD, ra_ev_of (by decide) hdb hw trivial (ra_Ru.weak (nX12_shelf_0_ok N p0 p1 p2 p3 p4 h _ e1) ⟨rfl, ⟨rfl, ⟨rfl, ⟨rfl, ⟨rfl, trivial⟩⟩⟩⟩⟩), (fun _ => ⟨_, _, rfl, ra_rcv_of ho (by decide) rfl⟩), (fun h => absurd h (by decide))⟩
  · cases e
/-! RedMarksModel.stack(I)I -/
def mX12_stack : ra_M := (yX12_stack, cX12_stack, 3, (some .int))
def tIX12_stack (N : Nat) : Nat → List Value → ra_H → Option (Int32 × ra_H) := (ra_c1 210 (fun av h => match av with
  | [.ref z0, .int z1] => fX12_tell N z0 z1 h
  | _ => none) (ra_c1 218 (fun av h => match av with
  | [.ref z0, .int z1] => fX12_isBook N z0 z1 h
  | _ => none) ra_c0))
theorem tIX12_stack_ok (N : Nat) : ra_cok 3 ra_oI (tIX12_stack N) := (ra_c1_ok (by
  intro av h a e
  split at e
  · exact fX12_tell_co N _ _ _ _ e 3 (by omega)
  · cases e) (ra_c1_ok (by
  intro av h a e
  split at e
  · exact fX12_isBook_co N _ _ _ _ e 3 (by omega)
  · cases e) ra_c0_ok))
def lX12_stack_22 : List ra_I := [(22, .iload_n 2, 1, 2, 0, 0, 0, 0, []),
  (23, .aload_n 0, 1, 0, 0, 0, 0, 0, []),
  (24, .getfield 13, 3, 12, 3, 2, 0, 0, []),
  (27, .sipush (483), 3, 0, 0, 0, (483), 0, []),
  (30, .iaload, 1, 0, 0, 0, 0, 0, []),
  (31, .if_icmp .ge (30), 3, 61, 0, 0, 0, 0, []),
  (34, .aload_n 0, 1, 0, 0, 0, 0, 0, []),
  (35, .getfield 13, 3, 12, 3, 2, 0, 0, []),
  (38, .sipush (725), 3, 0, 0, 0, (725), 0, []),
  (41, .iload_n 2, 1, 2, 0, 0, 0, 0, []),
  (42, .iadd, 1, 0, 0, 0, 0, 0, []),
  (43, .iaload, 1, 0, 0, 0, 0, 0, []),
  (44, .iload_n 1, 1, 1, 0, 0, 0, 0, []),
  (45, .if_icmp .ne (10), 3, 55, 0, 0, 0, 0, []),
  (48, .aload_n 0, 1, 0, 0, 0, 0, 0, []),
  (49, .bipush (-3), 2, 0, 0, 0, (-3), 0, []),
  (51, .invokevirtual 157, 3, 210, 2, 1, 0, 0, []),
  (54, .ireturn, 1, 0, 0, 0, 0, 0, []),
  (55, .iinc 2 (1), 3, 2, 0, 0, (1), 0, []),
  (58, .goto (-36), 3, 22, 0, 0, 0, 0, []),
  (61, .aload_n 0, 1, 0, 0, 0, 0, 0, []),
  (62, .getfield 13, 3, 12, 3, 2, 0, 0, []),
  (65, .sipush (483), 3, 0, 0, 0, (483), 0, []),
  (68, .iaload, 1, 0, 0, 0, 0, 0, []),
  (69, .bipush (9), 2, 0, 0, 0, (9), 0, []),
  (71, .if_icmp .ne (10), 3, 81, 0, 0, 0, 0, []),
  (74, .aload_n 0, 1, 0, 0, 0, 0, 0, []),
  (75, .bipush (-5), 2, 0, 0, 0, (-5), 0, []),
  (77, .invokevirtual 157, 3, 210, 2, 1, 0, 0, []),
  (80, .ireturn, 1, 0, 0, 0, 0, 0, []),
  (81, .aload_n 0, 1, 0, 0, 0, 0, 0, []),
  (82, .getfield 13, 3, 12, 3, 2, 0, 0, []),
  (85, .sipush (725), 3, 0, 0, 0, (725), 0, []),
  (88, .aload_n 0, 1, 0, 0, 0, 0, 0, []),
  (89, .getfield 13, 3, 12, 3, 2, 0, 0, []),
  (92, .sipush (483), 3, 0, 0, 0, (483), 0, []),
  (95, .iaload, 1, 0, 0, 0, 0, 0, []),
  (96, .iadd, 1, 0, 0, 0, 0, 0, []),
  (97, .iload_n 1, 1, 1, 0, 0, 0, 0, []),
  (98, .iastore, 1, 0, 0, 0, 0, 0, []),
  (99, .aload_n 0, 1, 0, 0, 0, 0, 0, []),
  (100, .getfield 13, 3, 12, 3, 2, 0, 0, []),
  (103, .sipush (483), 3, 0, 0, 0, (483), 0, []),
  (106, .dup2, 1, 0, 0, 0, 0, 0, []),
  (107, .iaload, 1, 0, 0, 0, 0, 0, []),
  (108, .iconst (1), 1, 0, 0, 0, (1), 0, []),
  (109, .iadd, 1, 0, 0, 0, 0, 0, []),
  (110, .iastore, 1, 0, 0, 0, 0, 0, []),
  (111, .aload_n 0, 1, 0, 0, 0, 0, 0, []),
  (112, .aload_n 0, 1, 0, 0, 0, 0, 0, []),
  (113, .getfield 13, 3, 12, 3, 2, 0, 0, []),
  (116, .sipush (483), 3, 0, 0, 0, (483), 0, []),
  (119, .iaload, 1, 0, 0, 0, 0, 0, []),
  (120, .invokevirtual 157, 3, 210, 2, 1, 0, 0, []),
  (123, .ireturn, 1, 0, 0, 0, 0, 0, [])]
set_option maxRecDepth 100000 in
theorem lX12_stack_22_ck : lX12_stack_22.all (ra_ck mX12_stack 12) = true := by decide +kernel
def nX12_stack_22 (N : Nat) : Nat → Nat → Int32 → Int32 → ra_H → Option (Int32 × ra_H)
  | 0, _, _, _, _ => none
  | n + 1, a0, a1, a2, h =>
  (ra_fR h 12 a0 3).bind fun x1 =>
  (ra_aI h 0 x1 ((483 : Int32))).bind fun x2 =>
  if a2 < x2 then
    (ra_fR h 12 a0 3).bind fun x16 =>
    (ra_aI h 0 x16 (((725 : Int32)) + a2)).bind fun x17 =>
    if x17 = a1 then
      (fX12_tell N a0 ((-3 : Int32)) h).bind fun q19 =>
      some (q19.1, q19.2)
    else
      let y18 := a2 + (1 : Int32)
      nX12_stack_22 N n a0 a1 y18 h
  else
    (ra_fR h 12 a0 3).bind fun x3 =>
    (ra_aI h 0 x3 ((483 : Int32))).bind fun x4 =>
    if x4 = ((9 : Int32)) then
      (fX12_tell N a0 ((-5 : Int32)) h).bind fun q15 =>
      some (q15.1, q15.2)
    else
      (ra_fR h 12 a0 3).bind fun x5 =>
      (ra_fR h 12 a0 3).bind fun x6 =>
      (ra_aI h 0 x6 ((483 : Int32))).bind fun x7 =>
      (ra_aW h 0 x5 (((725 : Int32)) + x7) a1).bind fun h8 =>
      (ra_fR h8 12 a0 3).bind fun x9 =>
      (ra_aI h8 0 x9 ((483 : Int32))).bind fun x10 =>
      (ra_aW h8 0 x9 ((483 : Int32)) (x10 + ((1 : Int32)))).bind fun h11 =>
      (ra_fR h11 12 a0 3).bind fun x12 =>
      (ra_aI h11 0 x12 ((483 : Int32))).bind fun x13 =>
      (fX12_tell N a0 x13 h11).bind fun q14 =>
      some (q14.1, q14.2)
def kX12_stack_22 (N : Nat) (cs : Nat → Int32 → Int32 → ra_H → Option (Int32 × ra_H)) : Nat → List (Option Value) → List Value → ra_H → Option (Int32 × ra_H) := (ra_k1 22 (fun L S h => match L, S with
  | [some (.ref a0), some (.int a1), some (.int a2)], [] => cs a0 a1 a2 h
  | _, _ => none) ra_k0)
theorem kX12_stack_22_ok (N : Nat) (cs : Nat → Int32 → Int32 → ra_H → Option (Int32 × ra_H)) (hcs : ∀ a0 a1 a2 h r, cs a0 a1 a2 h = some r → ra_Ru 3 mX12_stack 22 [some (.ref a0), some (.int a1), some (.int a2)] [] h (ra_oI r)) : ra_kok 3 mX12_stack ra_oI (kX12_stack_22 N cs) := (ra_k1_ok (by
  intro L S h a e
  split at e
  · exact ra_Ru.weak (hcs _ _ _ _ _ e) ⟨rfl, ⟨rfl, ⟨rfl, trivial⟩⟩⟩
  · cases e) ra_k0_ok)
set_option maxRecDepth 100000 in
theorem nX12_stack_22_ok (N : Nat) : ∀ n a0 a1 a2 h r, nX12_stack_22 N n a0 a1 a2 h = some r → ra_Ru 3 mX12_stack 22 [some (.ref a0), some (.int a1), some (.int a2)] [] h (ra_oI r) := by
  intro n
  induction n with
  | zero => intro a0 a1 a2 h r e; cases e
  | succ n ih =>
    intro a0 a1 a2 h r e
    exact ra_sound (by omega) rfl ra_rI_ok (kX12_stack_22_ok N (nX12_stack_22 N n) ih) (fun m av h h1 e => (ra_c0_ok (ro := ra_oV)) m av h h1 e) (fun m av h x h1 e => (tIX12_stack_ok N) m av h (x, h1) e) (fun m av h x h1 e => (ra_c0_ok (ro := ra_oJ)) m av h (x, h1) e) (fun m av h x h1 e => (ra_c0_ok (ro := ra_oR)) m av h (x, h1) e) (fun m av h x h1 e => (ra_c0_ok (ro := ra_oN)) m av h (x, h1) e) (fun m av h x h1 e => (ra_c0_ok (ro := ra_oF)) m av h (x, h1) e) 56 lX12_stack_22 _ _ _ _ lX12_stack_22_ck (show ra_run ra_rI (kX12_stack_22 N (nX12_stack_22 N n)) ra_c0 (tIX12_stack N) ra_c0 ra_c0 ra_c0 ra_c0 56 lX12_stack_22 [some (.ref a0), some (.int a1), some (.int a2)] [] h = some r from e) _ _ rfl
def lX12_stack_0 : List ra_I := [(0, .aload_n 0, 1, 0, 0, 0, 0, 0, []),
  (1, .iconst (0), 1, 0, 0, 0, (0), 0, []),
  (2, .putfield 147, 3, 12, 0, 0, 0, 0, []),
  (5, .aload_n 0, 1, 0, 0, 0, 0, 0, []),
  (6, .iload_n 1, 1, 1, 0, 0, 0, 0, []),
  (7, .invokevirtual 198, 3, 218, 2, 1, 0, 0, []),
  (10, .ifCond .ne (10), 3, 20, 0, 0, 0, 0, []),
  (13, .aload_n 0, 1, 0, 0, 0, 0, 0, []),
  (14, .bipush (-2), 2, 0, 0, 0, (-2), 0, []),
  (16, .invokevirtual 157, 3, 210, 2, 1, 0, 0, []),
  (19, .ireturn, 1, 0, 0, 0, 0, 0, []),
  (20, .iconst (0), 1, 0, 0, 0, (0), 0, []),
  (21, .istore_n 2, 1, 2, 0, 0, 0, 0, [])]
set_option maxRecDepth 100000 in
theorem lX12_stack_0_ck : lX12_stack_0.all (ra_ck mX12_stack 12) = true := by decide +kernel
def nX12_stack_0 (N : Nat) (a0 : Nat) (a1 : Int32) (h : ra_H) : Option (Int32 × ra_H) :=
  (ra_fW h 12 a0 0 (.int ((0 : Int32)))).bind fun h1 =>
  (fX12_isBook N a0 a1 h1).bind fun q2 =>
  if q2.1 = 0 then
    (fX12_tell N a0 ((-2 : Int32)) q2.2).bind fun q3 =>
    some (q3.1, q3.2)
  else
    nX12_stack_22 N N a0 a1 ((0 : Int32)) q2.2
def kX12_stack_0 (N : Nat) : Nat → List (Option Value) → List Value → ra_H → Option (Int32 × ra_H) := (ra_k1 22 (fun L S h => match L, S with
  | [some (.ref a0), some (.int a1), some (.int a2)], [] => nX12_stack_22 N N a0 a1 a2 h
  | _, _ => none) ra_k0)
theorem kX12_stack_0_ok (N : Nat) : ra_kok 3 mX12_stack ra_oI (kX12_stack_0 N) := (ra_k1_ok (by
  intro L S h a e
  split at e
  · exact ra_Ru.weak (nX12_stack_22_ok N N _ _ _ _ _ e) ⟨rfl, ⟨rfl, ⟨rfl, trivial⟩⟩⟩
  · cases e) ra_k0_ok)
set_option maxRecDepth 100000 in
theorem nX12_stack_0_ok (N : Nat) (a0 : Nat) (a1 : Int32) (h : ra_H) (r : (Int32 × ra_H)) (e : nX12_stack_0 N a0 a1 h = some r) : ra_Ru 3 mX12_stack 0 [some (.ref a0), some (.int a1), none] [] h (ra_oI r) :=
  ra_sound (by omega) rfl ra_rI_ok (kX12_stack_0_ok N) (fun m av h h1 e => (ra_c0_ok (ro := ra_oV)) m av h h1 e) (fun m av h x h1 e => (tIX12_stack_ok N) m av h (x, h1) e) (fun m av h x h1 e => (ra_c0_ok (ro := ra_oJ)) m av h (x, h1) e) (fun m av h x h1 e => (ra_c0_ok (ro := ra_oR)) m av h (x, h1) e) (fun m av h x h1 e => (ra_c0_ok (ro := ra_oN)) m av h (x, h1) e) (fun m av h x h1 e => (ra_c0_ok (ro := ra_oF)) m av h (x, h1) e) 14 lX12_stack_0 _ _ _ _ lX12_stack_0_ck (show ra_run ra_rI (kX12_stack_0 N) ra_c0 (tIX12_stack N) ra_c0 ra_c0 ra_c0 ra_c0 14 lX12_stack_0 [some (.ref a0), some (.int a1), none] [] h = some r from e) _ _ rfl
def fX12_stack (N : Nat) (p0 : Nat) (p1 : Int32) (h : ra_H) : Option (Int32 × ra_H) := match ra_isOb h p0 12 with
  | true => nX12_stack_0 N p0 p1 h
  | false => none
set_option maxRecDepth 100000 in
theorem mtX12_stack : ra_MT[304]? = some (mX12_stack, 1, 1, (1, 13), (9, 15), (9, 16)) := rfl
theorem fX12_stack_co (N : Nat) (p0 : Nat) (p1 : Int32) (h : ra_H) (r : (Int32 × ra_H)) (e : fX12_stack N p0 p1 h = some r) (D : Nat) (hD : 4 ≤ D) : ra_CO D 304 [.ref p0, .int p1] h (ra_oI r).1 (ra_oI r).2 := by
  have hw : ra_nw2 [.ref p0, .int p1] ≤ 3 := Nat.le_of_ble_eq_true rfl
  have hdb : ∀ v ∈ ([.ref p0, .int p1] : List Value), ∀ x, v ≠ .double x := by
    intro v hv x hx
    simp [hx] at hv
  unfold fX12_stack at e
  split at e
  · rename_i ho
    have e1 := e
    exact ⟨3, _, mtX12_stack, hD, ra_ev_of (by decide) hdb hw trivial (ra_Ru.weak (nX12_stack_0_ok N p0 p1 h _ e1) ⟨rfl, ⟨rfl, trivial⟩⟩), (fun _ => ⟨_, _, rfl, ra_rcv_of ho (by decide) rfl⟩), (fun h => absurd h (by decide))⟩
  · cases e
/-! RedMarksModel.stand(III)I -/
def mX12_stand : ra_M := (yX12_stand, cX12_stand, 4, (some .int))
def tVX12_stand (N : Nat) : Nat → List Value → ra_H → Option ra_H := (ra_c1 264 (fun av h => match av with
  | [.ref z0] => fX12_findSeats N z0 h
  | _ => none) ra_c0)
theorem tVX12_stand_ok (N : Nat) : ra_cok 7 ra_oV (tVX12_stand N) := (ra_c1_ok (by
  intro av h a e
  split at e
  · exact fX12_findSeats_co N _ _ _ e 7 (by omega)
  · cases e) ra_c0_ok)
def tIX12_stand (N : Nat) : Nat → List Value → ra_H → Option (Int32 × ra_H) := (ra_c1 209 (fun av h => match av with
  | [.long z0, .long z1, .long z2] => fX12_in N z0 z1 z2 h
  | _ => none) (ra_c1 256 (fun av h => match av with
  | [.ref z0, .int z1] => fX12_isText N z0 z1 h
  | _ => none) (ra_c1 265 (fun av h => match av with
  | [.ref z0, .int z1, .int z2, .int z3] => fX12_standing N z0 z1 z2 z3 h
  | _ => none) ra_c0)))
theorem tIX12_stand_ok (N : Nat) : ra_cok 7 ra_oI (tIX12_stand N) := (ra_c1_ok (by
  intro av h a e
  split at e
  · exact fX12_in_co N _ _ _ _ _ e 7 (by omega)
  · cases e) (ra_c1_ok (by
  intro av h a e
  split at e
  · exact fX12_isText_co N _ _ _ _ e 7 (by omega)
  · cases e) (ra_c1_ok (by
  intro av h a e
  split at e
  · exact fX12_standing_co N _ _ _ _ _ _ e 7 (by omega)
  · cases e) ra_c0_ok)))
def lX12_stand_33 : List ra_I := [(33, .iconst (-1), 1, 0, 0, 0, (-1), 0, []),
  (34, .ireturn, 1, 0, 0, 0, 0, 0, [])]
set_option maxRecDepth 100000 in
theorem lX12_stand_33_ck : lX12_stand_33.all (ra_ck mX12_stand 12) = true := by decide +kernel
def nX12_stand_33 (N : Nat) (h : ra_H) : Option (Int32 × ra_H) :=
  some ((-1 : Int32), h)
def kX12_stand_33 (N : Nat) : Nat → List (Option Value) → List Value → ra_H → Option (Int32 × ra_H) := ra_k0
theorem kX12_stand_33_ok (N : Nat) : ra_kok 7 mX12_stand ra_oI (kX12_stand_33 N) := ra_k0_ok
set_option maxRecDepth 100000 in
theorem nX12_stand_33_ok (N : Nat) (h : ra_H) (r : (Int32 × ra_H)) (e : nX12_stand_33 N h = some r) : ra_Ru 7 mX12_stand 33 [none, none, none, none] [] h (ra_oI r) :=
  ra_sound (by omega) rfl ra_rI_ok (kX12_stand_33_ok N) (fun m av h h1 e => (tVX12_stand_ok N) m av h h1 e) (fun m av h x h1 e => (tIX12_stand_ok N) m av h (x, h1) e) (fun m av h x h1 e => (ra_c0_ok (ro := ra_oJ)) m av h (x, h1) e) (fun m av h x h1 e => (ra_c0_ok (ro := ra_oR)) m av h (x, h1) e) (fun m av h x h1 e => (ra_c0_ok (ro := ra_oN)) m av h (x, h1) e) (fun m av h x h1 e => (ra_c0_ok (ro := ra_oF)) m av h (x, h1) e) 3 lX12_stand_33 _ _ _ _ lX12_stand_33_ck (show ra_run ra_rI (kX12_stand_33 N) (tVX12_stand N) (tIX12_stand N) ra_c0 ra_c0 ra_c0 ra_c0 3 lX12_stand_33 [none, none, none, none] [] h = some r from e) _ _ rfl
def lX12_stand_0 : List ra_I := [(0, .aload_n 0, 1, 0, 0, 0, 0, 0, []),
  (1, .iconst (0), 1, 0, 0, 0, (0), 0, []),
  (2, .putfield 147, 3, 12, 0, 0, 0, 0, []),
  (5, .aload_n 0, 1, 0, 0, 0, 0, 0, []),
  (6, .iload_n 1, 1, 1, 0, 0, 0, 0, []),
  (7, .invokevirtual 403, 3, 256, 2, 1, 0, 0, []),
  (10, .ifCond .eq (23), 3, 33, 0, 0, 0, 0, []),
  (13, .aload_n 0, 1, 0, 0, 0, 0, 0, []),
  (14, .iload_n 2, 1, 2, 0, 0, 0, 0, []),
  (15, .invokevirtual 403, 3, 256, 2, 1, 0, 0, []),
  (18, .ifCond .eq (15), 3, 33, 0, 0, 0, 0, []),
  (21, .iload_n 3, 1, 3, 0, 0, 0, 0, []),
  (22, .i2l, 1, 0, 0, 0, 0, 0, []),
  (23, .lconst 0, 1, 0, 0, 0, 0, 0, []),
  (24, .ldc2_w 411, 3, 0, 0, 0, 0, (200), []),
  (27, .invokestatic 153, 3, 209, 3, 1, 0, 0, []),
  (30, .ifCond .ne (5), 3, 35, 0, 0, 0, 0, []),
  (35, .aload_n 0, 1, 0, 0, 0, 0, 0, []),
  (36, .invokevirtual 413, 3, 264, 1, 0, 0, 0, []),
  (39, .aload_n 0, 1, 0, 0, 0, 0, 0, []),
  (40, .iload_n 1, 1, 1, 0, 0, 0, 0, []),
  (41, .iload_n 2, 1, 2, 0, 0, 0, 0, []),
  (42, .iload_n 3, 1, 3, 0, 0, 0, 0, []),
  (43, .invokevirtual 416, 3, 265, 4, 1, 0, 0, []),
  (46, .ireturn, 1, 0, 0, 0, 0, 0, [])]
set_option maxRecDepth 100000 in
theorem lX12_stand_0_ck : lX12_stand_0.all (ra_ck mX12_stand 12) = true := by decide +kernel
def nX12_stand_0 (N : Nat) (a0 : Nat) (a1 : Int32) (a2 : Int32) (a3 : Int32) (h : ra_H) : Option (Int32 × ra_H) :=
  (ra_fW h 12 a0 0 (.int ((0 : Int32)))).bind fun h1 =>
  (fX12_isText N a0 a1 h1).bind fun q2 =>
  if q2.1 = 0 then
    nX12_stand_33 N q2.2
  else
    (fX12_isText N a0 a2 q2.2).bind fun q3 =>
    if q3.1 = 0 then
      nX12_stand_33 N q3.2
    else
      (fX12_in N (Int32.toInt64 a3) ((0 : Int64)) ((200 : Int64)) q3.2).bind fun q4 =>
      if q4.1 = 0 then
        nX12_stand_33 N q4.2
      else
        (fX12_findSeats N a0 q4.2).bind fun h5 =>
        (fX12_standing N a0 a1 a2 a3 h5).bind fun q6 =>
        some (q6.1, q6.2)
def kX12_stand_0 (N : Nat) : Nat → List (Option Value) → List Value → ra_H → Option (Int32 × ra_H) := (ra_k1 33 (fun L S h => match L, S with
  | [_, _, _, _], [] => nX12_stand_33 N h
  | _, _ => none) ra_k0)
theorem kX12_stand_0_ok (N : Nat) : ra_kok 7 mX12_stand ra_oI (kX12_stand_0 N) := (ra_k1_ok (by
  intro L S h a e
  split at e
  · exact ra_Ru.weak (nX12_stand_33_ok N _ _ e) trivial
  · cases e) ra_k0_ok)
set_option maxRecDepth 100000 in
theorem nX12_stand_0_ok (N : Nat) (a0 : Nat) (a1 : Int32) (a2 : Int32) (a3 : Int32) (h : ra_H) (r : (Int32 × ra_H)) (e : nX12_stand_0 N a0 a1 a2 a3 h = some r) : ra_Ru 7 mX12_stand 0 [some (.ref a0), some (.int a1), some (.int a2), some (.int a3)] [] h (ra_oI r) :=
  ra_sound (by omega) rfl ra_rI_ok (kX12_stand_0_ok N) (fun m av h h1 e => (tVX12_stand_ok N) m av h h1 e) (fun m av h x h1 e => (tIX12_stand_ok N) m av h (x, h1) e) (fun m av h x h1 e => (ra_c0_ok (ro := ra_oJ)) m av h (x, h1) e) (fun m av h x h1 e => (ra_c0_ok (ro := ra_oR)) m av h (x, h1) e) (fun m av h x h1 e => (ra_c0_ok (ro := ra_oN)) m av h (x, h1) e) (fun m av h x h1 e => (ra_c0_ok (ro := ra_oF)) m av h (x, h1) e) 26 lX12_stand_0 _ _ _ _ lX12_stand_0_ck (show ra_run ra_rI (kX12_stand_0 N) (tVX12_stand N) (tIX12_stand N) ra_c0 ra_c0 ra_c0 ra_c0 26 lX12_stand_0 [some (.ref a0), some (.int a1), some (.int a2), some (.int a3)] [] h = some r from e) _ _ rfl
def fX12_stand (N : Nat) (p0 : Nat) (p1 : Int32) (p2 : Int32) (p3 : Int32) (h : ra_H) : Option (Int32 × ra_H) := match ra_isOb h p0 12 with
  | true => nX12_stand_0 N p0 p1 p2 p3 h
  | false => none
set_option maxRecDepth 100000 in
theorem mtX12_stand : ra_MT[263]? = some (mX12_stand, 1, 3, (1, 13), (8, 88), (8, 89)) := rfl
theorem fX12_stand_co (N : Nat) (p0 : Nat) (p1 : Int32) (p2 : Int32) (p3 : Int32) (h : ra_H) (r : (Int32 × ra_H)) (e : fX12_stand N p0 p1 p2 p3 h = some r) (D : Nat) (hD : 8 ≤ D) : ra_CO D 263 [.ref p0, .int p1, .int p2, .int p3] h (ra_oI r).1 (ra_oI r).2 := by
  have hw : ra_nw2 [.ref p0, .int p1, .int p2, .int p3] ≤ 4 := Nat.le_of_ble_eq_true rfl
  have hdb : ∀ v ∈ ([.ref p0, .int p1, .int p2, .int p3] : List Value), ∀ x, v ≠ .double x := by
    intro v hv x hx
    simp [hx] at hv
  unfold fX12_stand at e
  split at e
  · rename_i ho
    have e1 := e
    exact ⟨7, _, mtX12_stand, hD, ra_ev_of (by decide) hdb hw trivial (ra_Ru.weak (nX12_stand_0_ok N p0 p1 p2 p3 h _ e1) ⟨rfl, ⟨rfl, ⟨rfl, ⟨rfl, trivial⟩⟩⟩⟩), (fun _ => ⟨_, _, rfl, ra_rcv_of ho (by decide) rfl⟩), (fun h => absurd h (by decide))⟩
  · cases e
/-! RedMarksModel.status()I -/
def mX12_status : ra_M := (yX12_status, cX12_status, 1, (some .int))
def lX12_status_0 : List ra_I := [(0, .aload_n 0, 1, 0, 0, 0, 0, 0, []),
  (1, .iconst (0), 1, 0, 0, 0, (0), 0, []),
  (2, .putfield 147, 3, 12, 0, 0, 0, 0, []),
  (5, .aload_n 0, 1, 0, 0, 0, 0, 0, []),
  (6, .getfield 150, 3, 12, 1, 0, 0, 0, []),
  (9, .ireturn, 1, 0, 0, 0, 0, 0, [])]
set_option maxRecDepth 100000 in
theorem lX12_status_0_ck : lX12_status_0.all (ra_ck mX12_status 12) = true := by decide +kernel
def nX12_status_0 (N : Nat) (a0 : Nat) (h : ra_H) : Option (Int32 × ra_H) :=
  (ra_fW h 12 a0 0 (.int ((0 : Int32)))).bind fun h1 =>
  (ra_fI h1 12 a0 1).bind fun x2 =>
  some (x2, h1)
def kX12_status_0 (N : Nat) : Nat → List (Option Value) → List Value → ra_H → Option (Int32 × ra_H) := ra_k0
theorem kX12_status_0_ok (N : Nat) : ra_kok 1 mX12_status ra_oI (kX12_status_0 N) := ra_k0_ok
set_option maxRecDepth 100000 in
theorem nX12_status_0_ok (N : Nat) (a0 : Nat) (h : ra_H) (r : (Int32 × ra_H)) (e : nX12_status_0 N a0 h = some r) : ra_Ru 1 mX12_status 0 [some (.ref a0)] [] h (ra_oI r) :=
  ra_sound (by omega) rfl ra_rI_ok (kX12_status_0_ok N) (fun m av h h1 e => (ra_c0_ok (ro := ra_oV)) m av h h1 e) (fun m av h x h1 e => (ra_c0_ok (ro := ra_oI)) m av h (x, h1) e) (fun m av h x h1 e => (ra_c0_ok (ro := ra_oJ)) m av h (x, h1) e) (fun m av h x h1 e => (ra_c0_ok (ro := ra_oR)) m av h (x, h1) e) (fun m av h x h1 e => (ra_c0_ok (ro := ra_oN)) m av h (x, h1) e) (fun m av h x h1 e => (ra_c0_ok (ro := ra_oF)) m av h (x, h1) e) 7 lX12_status_0 _ _ _ _ lX12_status_0_ck (show ra_run ra_rI (kX12_status_0 N) ra_c0 ra_c0 ra_c0 ra_c0 ra_c0 ra_c0 7 lX12_status_0 [some (.ref a0)] [] h = some r from e) _ _ rfl
def fX12_status (N : Nat) (p0 : Nat) (h : ra_H) : Option (Int32 × ra_H) := match ra_isOb h p0 12 with
  | true => nX12_status_0 N p0 h
  | false => none
set_option maxRecDepth 100000 in
theorem mtX12_status : ra_MT[322]? = some (mX12_status, 1, 0, (1, 13), (9, 93), (9, 94)) := rfl
theorem fX12_status_co (N : Nat) (p0 : Nat) (h : ra_H) (r : (Int32 × ra_H)) (e : fX12_status N p0 h = some r) (D : Nat) (hD : 2 ≤ D) : ra_CO D 322 [.ref p0] h (ra_oI r).1 (ra_oI r).2 := by
  have hw : ra_nw2 [.ref p0] ≤ 1 := Nat.le_of_ble_eq_true rfl
  have hdb : ∀ v ∈ ([.ref p0] : List Value), ∀ x, v ≠ .double x := by
    intro v hv x hx
    simp [hx] at hv
  unfold fX12_status at e
  split at e
  · rename_i ho
    have e1 := e
    exact ⟨1, _, mtX12_status, hD, ra_ev_of (by decide) hdb hw trivial (ra_Ru.weak (nX12_status_0_ok N p0 h _ e1) ⟨rfl, trivial⟩), (fun _ => ⟨_, _, rfl, ra_rcv_of ho (by decide) rfl⟩), (fun h => absurd h (by decide))⟩
  · cases e
/-! RedMarksModel.text()I -/
def mX12_text : ra_M := (yX12_text, cX12_text, 3, (some .int))
def tVX12_text (N : Nat) : Nat → List Value → ra_H → Option ra_H := (ra_c1 232 (fun av h => match av with
  | [.ref z0] => fX12_begin N z0 h
  | _ => none) (ra_c1 233 (fun av h => match av with
  | [.ref z0] => fX12_goOn N z0 h
  | _ => none) (ra_c1 236 (fun av h => match av with
  | [.ref z0] => fX12_readClause N z0 h
  | _ => none) (ra_c1 239 (fun av h => match av with
  | [.ref z0, .int z1] => fX12_must N z0 z1 h
  | _ => none) ra_c0))))
theorem tVX12_text_ok (N : Nat) : ra_cok 9 ra_oV (tVX12_text N) := (ra_c1_ok (by
  intro av h a e
  split at e
  · exact fX12_begin_co N _ _ _ e 9 (by omega)
  · cases e) (ra_c1_ok (by
  intro av h a e
  split at e
  · exact fX12_goOn_co N _ _ _ e 9 (by omega)
  · cases e) (ra_c1_ok (by
  intro av h a e
  split at e
  · exact fX12_readClause_co N _ _ _ e 9 (by omega)
  · cases e) (ra_c1_ok (by
  intro av h a e
  split at e
  · exact fX12_must_co N _ _ _ _ e 9 (by omega)
  · cases e) ra_c0_ok))))
def tIX12_text (N : Nat) : Nat → List Value → ra_H → Option (Int32 × ra_H) := (ra_c1 210 (fun av h => match av with
  | [.ref z0, .int z1] => fX12_tell N z0 z1 h
  | _ => none) (ra_c1 243 (fun av h => match av with
  | [.ref z0, .int z1] => fX12_isSign N z0 z1 h
  | _ => none) ra_c0))
theorem tIX12_text_ok (N : Nat) : ra_cok 9 ra_oI (tIX12_text N) := (ra_c1_ok (by
  intro av h a e
  split at e
  · exact fX12_tell_co N _ _ _ _ e 9 (by omega)
  · cases e) (ra_c1_ok (by
  intro av h a e
  split at e
  · exact fX12_isSign_co N _ _ _ _ e 9 (by omega)
  · cases e) ra_c0_ok))
def lX12_text_184 : List ra_I := [(184, .iload_n 2, 1, 2, 0, 0, 0, 0, []),
  (185, .aload_n 0, 1, 0, 0, 0, 0, 0, []),
  (186, .getfield 264, 3, 12, 17, 0, 0, 0, []),
  (189, .if_icmp .ge (49), 3, 238, 0, 0, 0, 0, []),
  (192, .aload_n 0, 1, 0, 0, 0, 0, 0, []),
  (193, .getfield 13, 3, 12, 3, 2, 0, 0, []),
  (196, .iload_n 1, 1, 1, 0, 0, 0, 0, []),
  (197, .bipush (98), 2, 0, 0, 0, (98), 0, []),
  (199, .iadd, 1, 0, 0, 0, 0, 0, []),
  (200, .iconst (2), 1, 0, 0, 0, (2), 0, []),
  (201, .iload_n 2, 1, 2, 0, 0, 0, 0, []),
  (202, .imul, 1, 0, 0, 0, 0, 0, []),
  (203, .iadd, 1, 0, 0, 0, 0, 0, []),
  (204, .aload_n 0, 1, 0, 0, 0, 0, 0, []),
  (205, .getfield 33, 3, 12, 18, 2, 0, 0, []),
  (208, .iload_n 2, 1, 2, 0, 0, 0, 0, []),
  (209, .iaload, 1, 0, 0, 0, 0, 0, []),
  (210, .iastore, 1, 0, 0, 0, 0, 0, []),
  (211, .aload_n 0, 1, 0, 0, 0, 0, 0, []),
  (212, .getfield 13, 3, 12, 3, 2, 0, 0, []),
  (215, .iload_n 1, 1, 1, 0, 0, 0, 0, []),
  (216, .bipush (98), 2, 0, 0, 0, (98), 0, []),
  (218, .iadd, 1, 0, 0, 0, 0, 0, []),
  (219, .iconst (2), 1, 0, 0, 0, (2), 0, []),
  (220, .iload_n 2, 1, 2, 0, 0, 0, 0, []),
  (221, .imul, 1, 0, 0, 0, 0, 0, []),
  (222, .iadd, 1, 0, 0, 0, 0, 0, []),
  (223, .iconst (1), 1, 0, 0, 0, (1), 0, []),
  (224, .iadd, 1, 0, 0, 0, 0, 0, []),
  (225, .aload_n 0, 1, 0, 0, 0, 0, 0, []),
  (226, .getfield 36, 3, 12, 19, 2, 0, 0, []),
  (229, .iload_n 2, 1, 2, 0, 0, 0, 0, []),
  (230, .iaload, 1, 0, 0, 0, 0, 0, []),
  (231, .iastore, 1, 0, 0, 0, 0, 0, []),
  (232, .iinc 2 (1), 3, 2, 0, 0, (1), 0, []),
  (235, .goto (-51), 3, 184, 0, 0, 0, 0, []),
  (238, .aload_n 0, 1, 0, 0, 0, 0, 0, []),
  (239, .getfield 13, 3, 12, 3, 2, 0, 0, []),
  (242, .sipush (481), 3, 0, 0, 0, (481), 0, []),
  (245, .dup2, 1, 0, 0, 0, 0, 0, []),
  (246, .iaload, 1, 0, 0, 0, 0, 0, []),
  (247, .iconst (1), 1, 0, 0, 0, (1), 0, []),
  (248, .iadd, 1, 0, 0, 0, 0, 0, []),
  (249, .iastore, 1, 0, 0, 0, 0, 0, []),
  (250, .aload_n 0, 1, 0, 0, 0, 0, 0, []),
  (251, .aload_n 0, 1, 0, 0, 0, 0, 0, []),
  (252, .getfield 13, 3, 12, 3, 2, 0, 0, []),
  (255, .sipush (481), 3, 0, 0, 0, (481), 0, []),
  (258, .iaload, 1, 0, 0, 0, 0, 0, []),
  (259, .iconst (1), 1, 0, 0, 0, (1), 0, []),
  (260, .isub, 1, 0, 0, 0, 0, 0, []),
  (261, .invokevirtual 157, 3, 210, 2, 1, 0, 0, []),
  (264, .ireturn, 1, 0, 0, 0, 0, 0, [])]
set_option maxRecDepth 100000 in
theorem lX12_text_184_ck : lX12_text_184.all (ra_ck mX12_text 12) = true := by decide +kernel
def nX12_text_184 (N : Nat) : Nat → Nat → Int32 → Int32 → ra_H → Option (Int32 × ra_H)
  | 0, _, _, _, _ => none
  | n + 1, a0, a1, a2, h =>
  (ra_fI h 12 a0 17).bind fun x1 =>
  if a2 < x1 then
    (ra_fR h 12 a0 3).bind fun x8 =>
    (ra_fR h 12 a0 18).bind fun x9 =>
    (ra_aI h 0 x9 a2).bind fun x10 =>
    (ra_aW h 0 x8 ((a1 + ((98 : Int32))) + (((2 : Int32)) * a2)) x10).bind fun h11 =>
    (ra_fR h11 12 a0 3).bind fun x12 =>
    (ra_fR h11 12 a0 19).bind fun x13 =>
    (ra_aI h11 0 x13 a2).bind fun x14 =>
    (ra_aW h11 0 x12 (((a1 + ((98 : Int32))) + (((2 : Int32)) * a2)) + ((1 : Int32))) x14).bind fun h15 =>
    let y16 := a2 + (1 : Int32)
    nX12_text_184 N n a0 a1 y16 h15
  else
    (ra_fR h 12 a0 3).bind fun x2 =>
    (ra_aI h 0 x2 ((481 : Int32))).bind fun x3 =>
    (ra_aW h 0 x2 ((481 : Int32)) (x3 + ((1 : Int32)))).bind fun h4 =>
    (ra_fR h4 12 a0 3).bind fun x5 =>
    (ra_aI h4 0 x5 ((481 : Int32))).bind fun x6 =>
    (fX12_tell N a0 (x6 - ((1 : Int32))) h4).bind fun q7 =>
    some (q7.1, q7.2)
def kX12_text_184 (N : Nat) (cs : Nat → Int32 → Int32 → ra_H → Option (Int32 × ra_H)) : Nat → List (Option Value) → List Value → ra_H → Option (Int32 × ra_H) := (ra_k1 184 (fun L S h => match L, S with
  | [some (.ref a0), some (.int a1), some (.int a2)], [] => cs a0 a1 a2 h
  | _, _ => none) ra_k0)
theorem kX12_text_184_ok (N : Nat) (cs : Nat → Int32 → Int32 → ra_H → Option (Int32 × ra_H)) (hcs : ∀ a0 a1 a2 h r, cs a0 a1 a2 h = some r → ra_Ru 9 mX12_text 184 [some (.ref a0), some (.int a1), some (.int a2)] [] h (ra_oI r)) : ra_kok 9 mX12_text ra_oI (kX12_text_184 N cs) := (ra_k1_ok (by
  intro L S h a e
  split at e
  · exact ra_Ru.weak (hcs _ _ _ _ _ e) ⟨rfl, ⟨rfl, ⟨rfl, trivial⟩⟩⟩
  · cases e) ra_k0_ok)
set_option maxRecDepth 100000 in
theorem nX12_text_184_ok (N : Nat) : ∀ n a0 a1 a2 h r, nX12_text_184 N n a0 a1 a2 h = some r → ra_Ru 9 mX12_text 184 [some (.ref a0), some (.int a1), some (.int a2)] [] h (ra_oI r) := by
  intro n
  induction n with
  | zero => intro a0 a1 a2 h r e; cases e
  | succ n ih =>
    intro a0 a1 a2 h r e
    exact ra_sound (by omega) rfl ra_rI_ok (kX12_text_184_ok N (nX12_text_184 N n) ih) (fun m av h h1 e => (tVX12_text_ok N) m av h h1 e) (fun m av h x h1 e => (tIX12_text_ok N) m av h (x, h1) e) (fun m av h x h1 e => (ra_c0_ok (ro := ra_oJ)) m av h (x, h1) e) (fun m av h x h1 e => (ra_c0_ok (ro := ra_oR)) m av h (x, h1) e) (fun m av h x h1 e => (ra_c0_ok (ro := ra_oN)) m av h (x, h1) e) (fun m av h x h1 e => (ra_c0_ok (ro := ra_oF)) m av h (x, h1) e) 54 lX12_text_184 _ _ _ _ lX12_text_184_ck (show ra_run ra_rI (kX12_text_184 N (nX12_text_184 N n)) (tVX12_text N) (tIX12_text N) ra_c0 ra_c0 ra_c0 ra_c0 54 lX12_text_184 [some (.ref a0), some (.int a1), some (.int a2)] [] h = some r from e) _ _ rfl
def lX12_text_149 : List ra_I := [(149, .iload_n 2, 1, 2, 0, 0, 0, 0, []),
  (150, .bipush (8), 2, 0, 0, 0, (8), 0, []),
  (152, .aload_n 0, 1, 0, 0, 0, 0, 0, []),
  (153, .getfield 347, 3, 12, 15, 0, 0, 0, []),
  (156, .imul, 1, 0, 0, 0, 0, 0, []),
  (157, .if_icmp .ge (25), 3, 182, 0, 0, 0, 0, []),
  (160, .aload_n 0, 1, 0, 0, 0, 0, 0, []),
  (161, .getfield 13, 3, 12, 3, 2, 0, 0, []),
  (164, .iload_n 1, 1, 1, 0, 0, 0, 0, []),
  (165, .iconst (2), 1, 0, 0, 0, (2), 0, []),
  (166, .iadd, 1, 0, 0, 0, 0, 0, []),
  (167, .iload_n 2, 1, 2, 0, 0, 0, 0, []),
  (168, .iadd, 1, 0, 0, 0, 0, 0, []),
  (169, .aload_n 0, 1, 0, 0, 0, 0, 0, []),
  (170, .getfield 30, 3, 12, 16, 2, 0, 0, []),
  (173, .iload_n 2, 1, 2, 0, 0, 0, 0, []),
  (174, .iaload, 1, 0, 0, 0, 0, 0, []),
  (175, .iastore, 1, 0, 0, 0, 0, 0, []),
  (176, .iinc 2 (1), 3, 2, 0, 0, (1), 0, []),
  (179, .goto (-30), 3, 149, 0, 0, 0, 0, []),
  (182, .iconst (0), 1, 0, 0, 0, (0), 0, []),
  (183, .istore_n 2, 1, 2, 0, 0, 0, 0, [])]
set_option maxRecDepth 100000 in
theorem lX12_text_149_ck : lX12_text_149.all (ra_ck mX12_text 12) = true := by decide +kernel
def nX12_text_149 (N : Nat) : Nat → Nat → Int32 → Int32 → ra_H → Option (Int32 × ra_H)
  | 0, _, _, _, _ => none
  | n + 1, a0, a1, a2, h =>
  (ra_fI h 12 a0 15).bind fun x1 =>
  if a2 < (((8 : Int32)) * x1) then
    (ra_fR h 12 a0 3).bind fun x2 =>
    (ra_fR h 12 a0 16).bind fun x3 =>
    (ra_aI h 0 x3 a2).bind fun x4 =>
    (ra_aW h 0 x2 ((a1 + ((2 : Int32))) + a2) x4).bind fun h5 =>
    let y6 := a2 + (1 : Int32)
    nX12_text_149 N n a0 a1 y6 h5
  else
    nX12_text_184 N N a0 a1 ((0 : Int32)) h
def kX12_text_149 (N : Nat) (cs : Nat → Int32 → Int32 → ra_H → Option (Int32 × ra_H)) : Nat → List (Option Value) → List Value → ra_H → Option (Int32 × ra_H) := (ra_k1 149 (fun L S h => match L, S with
  | [some (.ref a0), some (.int a1), some (.int a2)], [] => cs a0 a1 a2 h
  | _, _ => none) (ra_k1 184 (fun L S h => match L, S with
  | [some (.ref a0), some (.int a1), some (.int a2)], [] => nX12_text_184 N N a0 a1 a2 h
  | _, _ => none) ra_k0))
theorem kX12_text_149_ok (N : Nat) (cs : Nat → Int32 → Int32 → ra_H → Option (Int32 × ra_H)) (hcs : ∀ a0 a1 a2 h r, cs a0 a1 a2 h = some r → ra_Ru 9 mX12_text 149 [some (.ref a0), some (.int a1), some (.int a2)] [] h (ra_oI r)) : ra_kok 9 mX12_text ra_oI (kX12_text_149 N cs) := (ra_k1_ok (by
  intro L S h a e
  split at e
  · exact ra_Ru.weak (hcs _ _ _ _ _ e) ⟨rfl, ⟨rfl, ⟨rfl, trivial⟩⟩⟩
  · cases e) (ra_k1_ok (by
  intro L S h a e
  split at e
  · exact ra_Ru.weak (nX12_text_184_ok N N _ _ _ _ _ e) ⟨rfl, ⟨rfl, ⟨rfl, trivial⟩⟩⟩
  · cases e) ra_k0_ok))
set_option maxRecDepth 100000 in
theorem nX12_text_149_ok (N : Nat) : ∀ n a0 a1 a2 h r, nX12_text_149 N n a0 a1 a2 h = some r → ra_Ru 9 mX12_text 149 [some (.ref a0), some (.int a1), some (.int a2)] [] h (ra_oI r) := by
  intro n
  induction n with
  | zero => intro a0 a1 a2 h r e; cases e
  | succ n ih =>
    intro a0 a1 a2 h r e
    exact ra_sound (by omega) rfl ra_rI_ok (kX12_text_149_ok N (nX12_text_149 N n) ih) (fun m av h h1 e => (tVX12_text_ok N) m av h h1 e) (fun m av h x h1 e => (tIX12_text_ok N) m av h (x, h1) e) (fun m av h x h1 e => (ra_c0_ok (ro := ra_oJ)) m av h (x, h1) e) (fun m av h x h1 e => (ra_c0_ok (ro := ra_oR)) m av h (x, h1) e) (fun m av h x h1 e => (ra_c0_ok (ro := ra_oN)) m av h (x, h1) e) (fun m av h x h1 e => (ra_c0_ok (ro := ra_oF)) m av h (x, h1) e) 23 lX12_text_149 _ _ _ _ lX12_text_149_ck (show ra_run ra_rI (kX12_text_149 N (nX12_text_149 N n)) (tVX12_text N) (tIX12_text N) ra_c0 ra_c0 ra_c0 ra_c0 23 lX12_text_149 [some (.ref a0), some (.int a1), some (.int a2)] [] h = some r from e) _ _ rfl
def lX12_text_99 : List ra_I := [(99, .aload_n 0, 1, 0, 0, 0, 0, 0, []),
  (100, .iconst (0), 1, 0, 0, 0, (0), 0, []),
  (101, .putfield 212, 3, 12, 8, 0, 0, 0, []),
  (104, .aload_n 0, 1, 0, 0, 0, 0, 0, []),
  (105, .getfield 225, 3, 12, 14, 0, 0, 0, []),
  (108, .ifCond .eq (10), 3, 118, 0, 0, 0, 0, []),
  (111, .aload_n 0, 1, 0, 0, 0, 0, 0, []),
  (112, .bipush (-6), 2, 0, 0, 0, (-6), 0, []),
  (114, .invokevirtual 157, 3, 210, 2, 1, 0, 0, []),
  (117, .ireturn, 1, 0, 0, 0, 0, 0, []),
  (118, .sipush (760), 3, 0, 0, 0, (760), 0, []),
  (121, .sipush (900), 3, 0, 0, 0, (900), 0, []),
  (124, .aload_n 0, 1, 0, 0, 0, 0, 0, []),
  (125, .getfield 13, 3, 12, 3, 2, 0, 0, []),
  (128, .sipush (481), 3, 0, 0, 0, (481), 0, []),
  (131, .iaload, 1, 0, 0, 0, 0, 0, []),
  (132, .imul, 1, 0, 0, 0, 0, 0, []),
  (133, .iadd, 1, 0, 0, 0, 0, 0, []),
  (134, .istore_n 1, 1, 1, 0, 0, 0, 0, []),
  (135, .aload_n 0, 1, 0, 0, 0, 0, 0, []),
  (136, .getfield 13, 3, 12, 3, 2, 0, 0, []),
  (139, .iload_n 1, 1, 1, 0, 0, 0, 0, []),
  (140, .iconst (1), 1, 0, 0, 0, (1), 0, []),
  (141, .iadd, 1, 0, 0, 0, 0, 0, []),
  (142, .aload_n 0, 1, 0, 0, 0, 0, 0, []),
  (143, .getfield 347, 3, 12, 15, 0, 0, 0, []),
  (146, .iastore, 1, 0, 0, 0, 0, 0, []),
  (147, .iconst (0), 1, 0, 0, 0, (0), 0, []),
  (148, .istore_n 2, 1, 2, 0, 0, 0, 0, [])]
set_option maxRecDepth 100000 in
theorem lX12_text_99_ck : lX12_text_99.all (ra_ck mX12_text 12) = true := by decide +kernel
def nX12_text_99 (N : Nat) (a0 : Nat) (h : ra_H) : Option (Int32 × ra_H) :=
  (ra_fW h 12 a0 8 (.int ((0 : Int32)))).bind fun h1 =>
  (ra_fI h1 12 a0 14).bind fun x2 =>
  if x2 = 0 then
    (ra_fR h1 12 a0 3).bind fun x3 =>
    (ra_aI h1 0 x3 ((481 : Int32))).bind fun x4 =>
    let y5 := ((760 : Int32)) + (((900 : Int32)) * x4)
    (ra_fR h1 12 a0 3).bind fun x6 =>
    (ra_fI h1 12 a0 15).bind fun x7 =>
    (ra_aW h1 0 x6 (y5 + ((1 : Int32))) x7).bind fun h8 =>
    nX12_text_149 N N a0 y5 ((0 : Int32)) h8
  else
    (fX12_tell N a0 ((-6 : Int32)) h1).bind fun q9 =>
    some (q9.1, q9.2)
def kX12_text_99 (N : Nat) : Nat → List (Option Value) → List Value → ra_H → Option (Int32 × ra_H) := (ra_k1 149 (fun L S h => match L, S with
  | [some (.ref a0), some (.int a1), some (.int a2)], [] => nX12_text_149 N N a0 a1 a2 h
  | _, _ => none) ra_k0)
theorem kX12_text_99_ok (N : Nat) : ra_kok 9 mX12_text ra_oI (kX12_text_99 N) := (ra_k1_ok (by
  intro L S h a e
  split at e
  · exact ra_Ru.weak (nX12_text_149_ok N N _ _ _ _ _ e) ⟨rfl, ⟨rfl, ⟨rfl, trivial⟩⟩⟩
  · cases e) ra_k0_ok)
set_option maxRecDepth 100000 in
theorem nX12_text_99_ok (N : Nat) (a0 : Nat) (h : ra_H) (r : (Int32 × ra_H)) (e : nX12_text_99 N a0 h = some r) : ra_Ru 9 mX12_text 99 [some (.ref a0), none, none] [] h (ra_oI r) :=
  ra_sound (by omega) rfl ra_rI_ok (kX12_text_99_ok N) (fun m av h h1 e => (tVX12_text_ok N) m av h h1 e) (fun m av h x h1 e => (tIX12_text_ok N) m av h (x, h1) e) (fun m av h x h1 e => (ra_c0_ok (ro := ra_oJ)) m av h (x, h1) e) (fun m av h x h1 e => (ra_c0_ok (ro := ra_oR)) m av h (x, h1) e) (fun m av h x h1 e => (ra_c0_ok (ro := ra_oN)) m av h (x, h1) e) (fun m av h x h1 e => (ra_c0_ok (ro := ra_oF)) m av h (x, h1) e) 30 lX12_text_99 _ _ _ _ lX12_text_99_ck (show ra_run ra_rI (kX12_text_99 N) (tVX12_text N) (tIX12_text N) ra_c0 ra_c0 ra_c0 ra_c0 30 lX12_text_99 [some (.ref a0), none, none] [] h = some r from e) _ _ rfl
def lX12_text_80 : List ra_I := [(80, .aload_n 0, 1, 0, 0, 0, 0, 0, []),
  (81, .getfield 225, 3, 12, 14, 0, 0, 0, []),
  (84, .ifCond .ne (15), 3, 99, 0, 0, 0, 0, []),
  (87, .aload_n 0, 1, 0, 0, 0, 0, 0, []),
  (88, .getfield 245, 3, 12, 11, 0, 0, 0, []),
  (91, .ifCond .eq (8), 3, 99, 0, 0, 0, 0, []),
  (94, .aload_n 0, 1, 0, 0, 0, 0, 0, []),
  (95, .iconst (0), 1, 0, 0, 0, (0), 0, []),
  (96, .invokevirtual 260, 3, 239, 2, 0, 0, 0, [])]
set_option maxRecDepth 100000 in
theorem lX12_text_80_ck : lX12_text_80.all (ra_ck mX12_text 12) = true := by decide +kernel
def nX12_text_80 (N : Nat) (a0 : Nat) (h : ra_H) : Option (Int32 × ra_H) :=
  (ra_fI h 12 a0 14).bind fun x1 =>
  if x1 = 0 then
    (ra_fI h 12 a0 11).bind fun x2 =>
    if x2 = 0 then
      nX12_text_99 N a0 h
    else
      (fX12_must N a0 ((0 : Int32)) h).bind fun h3 =>
      nX12_text_99 N a0 h3
  else
    nX12_text_99 N a0 h
def kX12_text_80 (N : Nat) : Nat → List (Option Value) → List Value → ra_H → Option (Int32 × ra_H) := (ra_k1 99 (fun L S h => match L, S with
  | [some (.ref a0), _, _], [] => nX12_text_99 N a0 h
  | _, _ => none) ra_k0)
theorem kX12_text_80_ok (N : Nat) : ra_kok 9 mX12_text ra_oI (kX12_text_80 N) := (ra_k1_ok (by
  intro L S h a e
  split at e
  · exact ra_Ru.weak (nX12_text_99_ok N _ _ _ e) ⟨rfl, trivial⟩
  · cases e) ra_k0_ok)
set_option maxRecDepth 100000 in
theorem nX12_text_80_ok (N : Nat) (a0 : Nat) (h : ra_H) (r : (Int32 × ra_H)) (e : nX12_text_80 N a0 h = some r) : ra_Ru 9 mX12_text 80 [some (.ref a0), none, none] [] h (ra_oI r) :=
  ra_sound (by omega) rfl ra_rI_ok (kX12_text_80_ok N) (fun m av h h1 e => (tVX12_text_ok N) m av h h1 e) (fun m av h x h1 e => (tIX12_text_ok N) m av h (x, h1) e) (fun m av h x h1 e => (ra_c0_ok (ro := ra_oJ)) m av h (x, h1) e) (fun m av h x h1 e => (ra_c0_ok (ro := ra_oR)) m av h (x, h1) e) (fun m av h x h1 e => (ra_c0_ok (ro := ra_oN)) m av h (x, h1) e) (fun m av h x h1 e => (ra_c0_ok (ro := ra_oF)) m av h (x, h1) e) 10 lX12_text_80 _ _ _ _ lX12_text_80_ck (show ra_run ra_rI (kX12_text_80 N) (tVX12_text N) (tIX12_text N) ra_c0 ra_c0 ra_c0 ra_c0 10 lX12_text_80 [some (.ref a0), none, none] [] h = some r from e) _ _ rfl
def lX12_text_53 : List ra_I := [(53, .aload_n 0, 1, 0, 0, 0, 0, 0, []),
  (54, .getfield 225, 3, 12, 14, 0, 0, 0, []),
  (57, .ifCond .ne (23), 3, 80, 0, 0, 0, 0, []),
  (60, .aload_n 0, 1, 0, 0, 0, 0, 0, []),
  (61, .bipush (59), 2, 0, 0, 0, (59), 0, []),
  (63, .invokevirtual 302, 3, 243, 2, 1, 0, 0, []),
  (66, .ifCond .eq (14), 3, 80, 0, 0, 0, 0, []),
  (69, .aload_n 0, 1, 0, 0, 0, 0, 0, []),
  (70, .invokevirtual 229, 3, 233, 1, 0, 0, 0, []),
  (73, .aload_n 0, 1, 0, 0, 0, 0, 0, []),
  (74, .invokevirtual 358, 3, 236, 1, 0, 0, 0, []),
  (77, .goto (-24), 3, 53, 0, 0, 0, 0, [])]
set_option maxRecDepth 100000 in
theorem lX12_text_53_ck : lX12_text_53.all (ra_ck mX12_text 12) = true := by decide +kernel
def nX12_text_53 (N : Nat) : Nat → Nat → ra_H → Option (Int32 × ra_H)
  | 0, _, _ => none
  | n + 1, a0, h =>
  (ra_fI h 12 a0 14).bind fun x1 =>
  if x1 = 0 then
    (fX12_isSign N a0 ((59 : Int32)) h).bind fun q2 =>
    if q2.1 = 0 then
      nX12_text_80 N a0 q2.2
    else
      (fX12_goOn N a0 q2.2).bind fun h3 =>
      (fX12_readClause N a0 h3).bind fun h4 =>
      nX12_text_53 N n a0 h4
  else
    nX12_text_80 N a0 h
def kX12_text_53 (N : Nat) (cs : Nat → ra_H → Option (Int32 × ra_H)) : Nat → List (Option Value) → List Value → ra_H → Option (Int32 × ra_H) := (ra_k1 53 (fun L S h => match L, S with
  | [some (.ref a0), _, _], [] => cs a0 h
  | _, _ => none) (ra_k1 80 (fun L S h => match L, S with
  | [some (.ref a0), _, _], [] => nX12_text_80 N a0 h
  | _, _ => none) ra_k0))
theorem kX12_text_53_ok (N : Nat) (cs : Nat → ra_H → Option (Int32 × ra_H)) (hcs : ∀ a0 h r, cs a0 h = some r → ra_Ru 9 mX12_text 53 [some (.ref a0), none, none] [] h (ra_oI r)) : ra_kok 9 mX12_text ra_oI (kX12_text_53 N cs) := (ra_k1_ok (by
  intro L S h a e
  split at e
  · exact ra_Ru.weak (hcs _ _ _ e) ⟨rfl, trivial⟩
  · cases e) (ra_k1_ok (by
  intro L S h a e
  split at e
  · exact ra_Ru.weak (nX12_text_80_ok N _ _ _ e) ⟨rfl, trivial⟩
  · cases e) ra_k0_ok))
set_option maxRecDepth 100000 in
theorem nX12_text_53_ok (N : Nat) : ∀ n a0 h r, nX12_text_53 N n a0 h = some r → ra_Ru 9 mX12_text 53 [some (.ref a0), none, none] [] h (ra_oI r) := by
  intro n
  induction n with
  | zero => intro a0 h r e; cases e
  | succ n ih =>
    intro a0 h r e
    exact ra_sound (by omega) rfl ra_rI_ok (kX12_text_53_ok N (nX12_text_53 N n) ih) (fun m av h h1 e => (tVX12_text_ok N) m av h h1 e) (fun m av h x h1 e => (tIX12_text_ok N) m av h (x, h1) e) (fun m av h x h1 e => (ra_c0_ok (ro := ra_oJ)) m av h (x, h1) e) (fun m av h x h1 e => (ra_c0_ok (ro := ra_oR)) m av h (x, h1) e) (fun m av h x h1 e => (ra_c0_ok (ro := ra_oN)) m av h (x, h1) e) (fun m av h x h1 e => (ra_c0_ok (ro := ra_oF)) m av h (x, h1) e) 13 lX12_text_53 _ _ _ _ lX12_text_53_ck (show ra_run ra_rI (kX12_text_53 N (nX12_text_53 N n)) (tVX12_text N) (tIX12_text N) ra_c0 ra_c0 ra_c0 ra_c0 13 lX12_text_53 [some (.ref a0), none, none] [] h = some r from e) _ _ rfl
def lX12_text_0 : List ra_I := [(0, .aload_n 0, 1, 0, 0, 0, 0, 0, []),
  (1, .iconst (0), 1, 0, 0, 0, (0), 0, []),
  (2, .putfield 147, 3, 12, 0, 0, 0, 0, []),
  (5, .aload_n 0, 1, 0, 0, 0, 0, 0, []),
  (6, .getfield 13, 3, 12, 3, 2, 0, 0, []),
  (9, .sipush (481), 3, 0, 0, 0, (481), 0, []),
  (12, .iaload, 1, 0, 0, 0, 0, 0, []),
  (13, .bipush (8), 2, 0, 0, 0, (8), 0, []),
  (15, .if_icmp .ne (15), 3, 30, 0, 0, 0, 0, []),
  (18, .aload_n 0, 1, 0, 0, 0, 0, 0, []),
  (19, .iconst (0), 1, 0, 0, 0, (0), 0, []),
  (20, .putfield 212, 3, 12, 8, 0, 0, 0, []),
  (23, .aload_n 0, 1, 0, 0, 0, 0, 0, []),
  (24, .bipush (-5), 2, 0, 0, 0, (-5), 0, []),
  (26, .invokevirtual 157, 3, 210, 2, 1, 0, 0, []),
  (29, .ireturn, 1, 0, 0, 0, 0, 0, []),
  (30, .aload_n 0, 1, 0, 0, 0, 0, 0, []),
  (31, .invokevirtual 355, 3, 232, 1, 0, 0, 0, []),
  (34, .aload_n 0, 1, 0, 0, 0, 0, 0, []),
  (35, .iconst (0), 1, 0, 0, 0, (0), 0, []),
  (36, .putfield 347, 3, 12, 15, 0, 0, 0, []),
  (39, .aload_n 0, 1, 0, 0, 0, 0, 0, []),
  (40, .iconst (0), 1, 0, 0, 0, (0), 0, []),
  (41, .putfield 264, 3, 12, 17, 0, 0, 0, []),
  (44, .aload_n 0, 1, 0, 0, 0, 0, 0, []),
  (45, .iconst (0), 1, 0, 0, 0, (0), 0, []),
  (46, .putfield 299, 3, 12, 20, 0, 0, 0, []),
  (49, .aload_n 0, 1, 0, 0, 0, 0, 0, []),
  (50, .invokevirtual 358, 3, 236, 1, 0, 0, 0, [])]
set_option maxRecDepth 100000 in
theorem lX12_text_0_ck : lX12_text_0.all (ra_ck mX12_text 12) = true := by decide +kernel
def nX12_text_0 (N : Nat) (a0 : Nat) (h : ra_H) : Option (Int32 × ra_H) :=
  (ra_fW h 12 a0 0 (.int ((0 : Int32)))).bind fun h1 =>
  (ra_fR h1 12 a0 3).bind fun x2 =>
  (ra_aI h1 0 x2 ((481 : Int32))).bind fun x3 =>
  if x3 = ((8 : Int32)) then
    (ra_fW h1 12 a0 8 (.int ((0 : Int32)))).bind fun h9 =>
    (fX12_tell N a0 ((-5 : Int32)) h9).bind fun q10 =>
    some (q10.1, q10.2)
  else
    (fX12_begin N a0 h1).bind fun h4 =>
    (ra_fW h4 12 a0 15 (.int ((0 : Int32)))).bind fun h5 =>
    (ra_fW h5 12 a0 17 (.int ((0 : Int32)))).bind fun h6 =>
    (ra_fW h6 12 a0 20 (.int ((0 : Int32)))).bind fun h7 =>
    (fX12_readClause N a0 h7).bind fun h8 =>
    nX12_text_53 N N a0 h8
def kX12_text_0 (N : Nat) : Nat → List (Option Value) → List Value → ra_H → Option (Int32 × ra_H) := (ra_k1 53 (fun L S h => match L, S with
  | [some (.ref a0), _, _], [] => nX12_text_53 N N a0 h
  | _, _ => none) ra_k0)
theorem kX12_text_0_ok (N : Nat) : ra_kok 9 mX12_text ra_oI (kX12_text_0 N) := (ra_k1_ok (by
  intro L S h a e
  split at e
  · exact ra_Ru.weak (nX12_text_53_ok N N _ _ _ e) ⟨rfl, trivial⟩
  · cases e) ra_k0_ok)
set_option maxRecDepth 100000 in
theorem nX12_text_0_ok (N : Nat) (a0 : Nat) (h : ra_H) (r : (Int32 × ra_H)) (e : nX12_text_0 N a0 h = some r) : ra_Ru 9 mX12_text 0 [some (.ref a0), none, none] [] h (ra_oI r) :=
  ra_sound (by omega) rfl ra_rI_ok (kX12_text_0_ok N) (fun m av h h1 e => (tVX12_text_ok N) m av h h1 e) (fun m av h x h1 e => (tIX12_text_ok N) m av h (x, h1) e) (fun m av h x h1 e => (ra_c0_ok (ro := ra_oJ)) m av h (x, h1) e) (fun m av h x h1 e => (ra_c0_ok (ro := ra_oR)) m av h (x, h1) e) (fun m av h x h1 e => (ra_c0_ok (ro := ra_oN)) m av h (x, h1) e) (fun m av h x h1 e => (ra_c0_ok (ro := ra_oF)) m av h (x, h1) e) 30 lX12_text_0 _ _ _ _ lX12_text_0_ck (show ra_run ra_rI (kX12_text_0 N) (tVX12_text N) (tIX12_text N) ra_c0 ra_c0 ra_c0 ra_c0 30 lX12_text_0 [some (.ref a0), none, none] [] h = some r from e) _ _ rfl
def fX12_text (N : Nat) (p0 : Nat) (h : ra_H) : Option (Int32 × ra_H) := match ra_isOb h p0 12 with
  | true => nX12_text_0 N p0 h
  | false => none
set_option maxRecDepth 100000 in
theorem mtX12_text : ra_MT[231]? = some (mX12_text, 1, 0, (1, 13), (7, 185), (7, 186)) := rfl
theorem fX12_text_co (N : Nat) (p0 : Nat) (h : ra_H) (r : (Int32 × ra_H)) (e : fX12_text N p0 h = some r) (D : Nat) (hD : 10 ≤ D) : ra_CO D 231 [.ref p0] h (ra_oI r).1 (ra_oI r).2 := by
  have hw : ra_nw2 [.ref p0] ≤ 3 := Nat.le_of_ble_eq_true rfl
  have hdb : ∀ v ∈ ([.ref p0] : List Value), ∀ x, v ≠ .double x := by
    intro v hv x hx
    simp [hx] at hv
  unfold fX12_text at e
  split at e
  · rename_i ho
    have e1 := e
    exact ⟨9, _, mtX12_text, hD, ra_ev_of (by decide) hdb hw trivial (ra_Ru.weak (nX12_text_0_ok N p0 h _ e1) ⟨rfl, trivial⟩), (fun _ => ⟨_, _, rfl, ra_rcv_of ho (by decide) rfl⟩), (fun h => absurd h (by decide))⟩
  · cases e
/-! RedMarksModel.wentTo(I)I -/
def mX12_wentTo : ra_M := (yX12_wentTo, cX12_wentTo, 2, (some .int))
def lX12_wentTo_18 : List ra_I := [(18, .ireturn, 1, 0, 0, 0, 0, 0, [])]
set_option maxRecDepth 100000 in
theorem lX12_wentTo_18_ck : lX12_wentTo_18.all (ra_ck mX12_wentTo 12) = true := by decide +kernel
def nX12_wentTo_18 (N : Nat) (b0 : Int32) (h : ra_H) : Option (Int32 × ra_H) :=
  some (b0, h)
def kX12_wentTo_18 (N : Nat) : Nat → List (Option Value) → List Value → ra_H → Option (Int32 × ra_H) := ra_k0
theorem kX12_wentTo_18_ok (N : Nat) : ra_kok 1 mX12_wentTo ra_oI (kX12_wentTo_18 N) := ra_k0_ok
set_option maxRecDepth 100000 in
theorem nX12_wentTo_18_ok (N : Nat) (b0 : Int32) (h : ra_H) (r : (Int32 × ra_H)) (e : nX12_wentTo_18 N b0 h = some r) : ra_Ru 1 mX12_wentTo 18 [none, none] [.int b0] h (ra_oI r) :=
  ra_sound (by omega) rfl ra_rI_ok (kX12_wentTo_18_ok N) (fun m av h h1 e => (ra_c0_ok (ro := ra_oV)) m av h h1 e) (fun m av h x h1 e => (ra_c0_ok (ro := ra_oI)) m av h (x, h1) e) (fun m av h x h1 e => (ra_c0_ok (ro := ra_oJ)) m av h (x, h1) e) (fun m av h x h1 e => (ra_c0_ok (ro := ra_oR)) m av h (x, h1) e) (fun m av h x h1 e => (ra_c0_ok (ro := ra_oN)) m av h (x, h1) e) (fun m av h x h1 e => (ra_c0_ok (ro := ra_oF)) m av h (x, h1) e) 2 lX12_wentTo_18 _ _ _ _ lX12_wentTo_18_ck (show ra_run ra_rI (kX12_wentTo_18 N) ra_c0 ra_c0 ra_c0 ra_c0 ra_c0 ra_c0 2 lX12_wentTo_18 [none, none] [.int b0] h = some r from e) _ _ rfl
def lX12_wentTo_0 : List ra_I := [(0, .iload_n 1, 1, 1, 0, 0, 0, 0, []),
  (1, .aload_n 0, 1, 0, 0, 0, 0, 0, []),
  (2, .getfield 141, 3, 12, 56, 0, 0, 0, []),
  (5, .if_icmp .ge (12), 3, 17, 0, 0, 0, 0, []),
  (8, .aload_n 0, 1, 0, 0, 0, 0, 0, []),
  (9, .getfield 144, 3, 12, 57, 2, 0, 0, []),
  (12, .iload_n 1, 1, 1, 0, 0, 0, 0, []),
  (13, .iaload, 1, 0, 0, 0, 0, 0, []),
  (14, .goto (4), 3, 18, 0, 0, 0, 0, []),
  (17, .iconst (-1), 1, 0, 0, 0, (-1), 0, [])]
set_option maxRecDepth 100000 in
theorem lX12_wentTo_0_ck : lX12_wentTo_0.all (ra_ck mX12_wentTo 12) = true := by decide +kernel
def nX12_wentTo_0 (N : Nat) (a0 : Nat) (a1 : Int32) (h : ra_H) : Option (Int32 × ra_H) :=
  (ra_fI h 12 a0 56).bind fun x1 =>
  if a1 < x1 then
    (ra_fR h 12 a0 57).bind fun x2 =>
    (ra_aI h 0 x2 a1).bind fun x3 =>
    nX12_wentTo_18 N x3 h
  else
    nX12_wentTo_18 N ((-1 : Int32)) h
def kX12_wentTo_0 (N : Nat) : Nat → List (Option Value) → List Value → ra_H → Option (Int32 × ra_H) := (ra_k1 18 (fun L S h => match L, S with
  | [_, _], [.int b0] => nX12_wentTo_18 N b0 h
  | _, _ => none) ra_k0)
theorem kX12_wentTo_0_ok (N : Nat) : ra_kok 1 mX12_wentTo ra_oI (kX12_wentTo_0 N) := (ra_k1_ok (by
  intro L S h a e
  split at e
  · exact ra_Ru.weak (nX12_wentTo_18_ok N _ _ _ e) trivial
  · cases e) ra_k0_ok)
set_option maxRecDepth 100000 in
theorem nX12_wentTo_0_ok (N : Nat) (a0 : Nat) (a1 : Int32) (h : ra_H) (r : (Int32 × ra_H)) (e : nX12_wentTo_0 N a0 a1 h = some r) : ra_Ru 1 mX12_wentTo 0 [some (.ref a0), some (.int a1)] [] h (ra_oI r) :=
  ra_sound (by omega) rfl ra_rI_ok (kX12_wentTo_0_ok N) (fun m av h h1 e => (ra_c0_ok (ro := ra_oV)) m av h h1 e) (fun m av h x h1 e => (ra_c0_ok (ro := ra_oI)) m av h (x, h1) e) (fun m av h x h1 e => (ra_c0_ok (ro := ra_oJ)) m av h (x, h1) e) (fun m av h x h1 e => (ra_c0_ok (ro := ra_oR)) m av h (x, h1) e) (fun m av h x h1 e => (ra_c0_ok (ro := ra_oN)) m av h (x, h1) e) (fun m av h x h1 e => (ra_c0_ok (ro := ra_oF)) m av h (x, h1) e) 11 lX12_wentTo_0 _ _ _ _ lX12_wentTo_0_ck (show ra_run ra_rI (kX12_wentTo_0 N) ra_c0 ra_c0 ra_c0 ra_c0 ra_c0 ra_c0 11 lX12_wentTo_0 [some (.ref a0), some (.int a1)] [] h = some r from e) _ _ rfl
def fX12_wentTo (N : Nat) (p0 : Nat) (p1 : Int32) (h : ra_H) : Option (Int32 × ra_H) := match ra_isOb h p0 12 with
  | true => nX12_wentTo_0 N p0 p1 h
  | false => none
set_option maxRecDepth 100000 in
theorem mtX12_wentTo : ra_MT[320]? = some (mX12_wentTo, 1, 1, (1, 13), (9, 86), (0, 117)) := rfl
theorem fX12_wentTo_co (N : Nat) (p0 : Nat) (p1 : Int32) (h : ra_H) (r : (Int32 × ra_H)) (e : fX12_wentTo N p0 p1 h = some r) (D : Nat) (hD : 2 ≤ D) : ra_CO D 320 [.ref p0, .int p1] h (ra_oI r).1 (ra_oI r).2 := by
  have hw : ra_nw2 [.ref p0, .int p1] ≤ 2 := Nat.le_of_ble_eq_true rfl
  have hdb : ∀ v ∈ ([.ref p0, .int p1] : List Value), ∀ x, v ≠ .double x := by
    intro v hv x hx
    simp [hx] at hv
  unfold fX12_wentTo at e
  split at e
  · rename_i ho
    have e1 := e
    exact ⟨1, _, mtX12_wentTo, hD, ra_ev_of (by decide) hdb hw trivial (ra_Ru.weak (nX12_wentTo_0_ok N p0 p1 h _ e1) ⟨rfl, ⟨rfl, trivial⟩⟩), (fun _ => ⟨_, _, rfl, ra_rcv_of ho (by decide) rfl⟩), (fun h => absurd h (by decide))⟩
  · cases e
/-! RedMarksModel.together(II)I -/
def mX12_together : ra_M := (yX12_together, cX12_together, 7, (some .int))
def tVX12_together (N : Nat) : Nat → List Value → ra_H → Option ra_H := (ra_c1 271 (fun av h => match av with
  | [.ref z0, .int z1] => fX12_lookAt N z0 z1 h
  | _ => none) ra_c0)
theorem tVX12_together_ok (N : Nat) : ra_cok 8 ra_oV (tVX12_together N) := (ra_c1_ok (by
  intro av h a e
  split at e
  · exact fX12_lookAt_co N _ _ _ _ e 8 (by omega)
  · cases e) ra_c0_ok)
def tIX12_together (N : Nat) : Nat → List Value → ra_H → Option (Int32 × ra_H) := (ra_c1 224 (fun av h => match av with
  | [.int z0, .int z1] => fX12_isShelf N z0 z1 h
  | _ => none) (ra_c1 269 (fun av h => match av with
  | [.ref z0] => fX12_lookKept N z0 h
  | _ => none) (ra_c1 320 (fun av h => match av with
  | [.ref z0, .int z1] => fX12_wentTo N z0 z1 h
  | _ => none) ra_c0)))
theorem tIX12_together_ok (N : Nat) : ra_cok 8 ra_oI (tIX12_together N) := (ra_c1_ok (by
  intro av h a e
  split at e
  · exact fX12_isShelf_co N _ _ _ _ e 8 (by omega)
  · cases e) (ra_c1_ok (by
  intro av h a e
  split at e
  · exact fX12_lookKept_co N _ _ _ e 8 (by omega)
  · cases e) (ra_c1_ok (by
  intro av h a e
  split at e
  · exact fX12_wentTo_co N _ _ _ _ e 8 (by omega)
  · cases e) ra_c0_ok)))
def lX12_together_28 : List ra_I := [(28, .iconst (-1), 1, 0, 0, 0, (-1), 0, []),
  (29, .ireturn, 1, 0, 0, 0, 0, 0, [])]
set_option maxRecDepth 100000 in
theorem lX12_together_28_ck : lX12_together_28.all (ra_ck mX12_together 12) = true := by decide +kernel
def nX12_together_28 (N : Nat) (h : ra_H) : Option (Int32 × ra_H) :=
  some ((-1 : Int32), h)
def kX12_together_28 (N : Nat) : Nat → List (Option Value) → List Value → ra_H → Option (Int32 × ra_H) := ra_k0
theorem kX12_together_28_ok (N : Nat) : ra_kok 8 mX12_together ra_oI (kX12_together_28 N) := ra_k0_ok
set_option maxRecDepth 100000 in
theorem nX12_together_28_ok (N : Nat) (h : ra_H) (r : (Int32 × ra_H)) (e : nX12_together_28 N h = some r) : ra_Ru 8 mX12_together 28 [none, none, none, none, none, none, none] [] h (ra_oI r) :=
  ra_sound (by omega) rfl ra_rI_ok (kX12_together_28_ok N) (fun m av h h1 e => (tVX12_together_ok N) m av h h1 e) (fun m av h x h1 e => (tIX12_together_ok N) m av h (x, h1) e) (fun m av h x h1 e => (ra_c0_ok (ro := ra_oJ)) m av h (x, h1) e) (fun m av h x h1 e => (ra_c0_ok (ro := ra_oR)) m av h (x, h1) e) (fun m av h x h1 e => (ra_c0_ok (ro := ra_oN)) m av h (x, h1) e) (fun m av h x h1 e => (ra_c0_ok (ro := ra_oF)) m av h (x, h1) e) 3 lX12_together_28 _ _ _ _ lX12_together_28_ck (show ra_run ra_rI (kX12_together_28 N) (tVX12_together N) (tIX12_together N) ra_c0 ra_c0 ra_c0 ra_c0 3 lX12_together_28 [none, none, none, none, none, none, none] [] h = some r from e) _ _ rfl
def lX12_together_126 : List ra_I := [(126, .istore 5, 2, 5, 0, 0, 0, 0, []),
  (128, .iinc 6 (1), 3, 6, 0, 0, (1), 0, []),
  (131, .goto (-71), 3, 60, 0, 0, 0, 0, [])]
set_option maxRecDepth 100000 in
theorem lX12_together_126_ck : lX12_together_126.all (ra_ck mX12_together 12) = true := by decide +kernel
def nX12_together_126 (N : Nat) (c45 : Nat → Int32 → Int32 → ra_H → Option (Int32 × ra_H)) (c60 : Nat → Int32 → Int32 → Int32 → Int32 → ra_H → Option (Int32 × ra_H)) (a0 : Nat) (a3 : Int32) (a4 : Int32) (a6 : Int32) (b0 : Int32) (h : ra_H) : Option (Int32 × ra_H) :=
  let y1 := a6 + (1 : Int32)
  c60 a0 a3 a4 b0 y1 h
def kX12_together_126 (N : Nat) (c45 : Nat → Int32 → Int32 → ra_H → Option (Int32 × ra_H)) (c60 : Nat → Int32 → Int32 → Int32 → Int32 → ra_H → Option (Int32 × ra_H)) : Nat → List (Option Value) → List Value → ra_H → Option (Int32 × ra_H) := (ra_k1 60 (fun L S h => match L, S with
  | [some (.ref a0), _, _, some (.int a3), some (.int a4), some (.int a5), some (.int a6)], [] => c60 a0 a3 a4 a5 a6 h
  | _, _ => none) ra_k0)
theorem kX12_together_126_ok (N : Nat) (c45 : Nat → Int32 → Int32 → ra_H → Option (Int32 × ra_H)) (c60 : Nat → Int32 → Int32 → Int32 → Int32 → ra_H → Option (Int32 × ra_H)) (hc45 : ∀ a0 a3 a4 h r, c45 a0 a3 a4 h = some r → ra_Ru 8 mX12_together 45 [some (.ref a0), none, none, some (.int a3), some (.int a4), none, none] [] h (ra_oI r)) (hc60 : ∀ a0 a3 a4 a5 a6 h r, c60 a0 a3 a4 a5 a6 h = some r → ra_Ru 8 mX12_together 60 [some (.ref a0), none, none, some (.int a3), some (.int a4), some (.int a5), some (.int a6)] [] h (ra_oI r)) : ra_kok 8 mX12_together ra_oI (kX12_together_126 N c45 c60) := (ra_k1_ok (by
  intro L S h a e
  split at e
  · exact ra_Ru.weak (hc60 _ _ _ _ _ _ _ e) ⟨rfl, ⟨rfl, ⟨rfl, ⟨rfl, ⟨rfl, trivial⟩⟩⟩⟩⟩
  · cases e) ra_k0_ok)
set_option maxRecDepth 100000 in
theorem nX12_together_126_ok (N : Nat) (c45 : Nat → Int32 → Int32 → ra_H → Option (Int32 × ra_H)) (c60 : Nat → Int32 → Int32 → Int32 → Int32 → ra_H → Option (Int32 × ra_H)) (hc45 : ∀ a0 a3 a4 h r, c45 a0 a3 a4 h = some r → ra_Ru 8 mX12_together 45 [some (.ref a0), none, none, some (.int a3), some (.int a4), none, none] [] h (ra_oI r)) (hc60 : ∀ a0 a3 a4 a5 a6 h r, c60 a0 a3 a4 a5 a6 h = some r → ra_Ru 8 mX12_together 60 [some (.ref a0), none, none, some (.int a3), some (.int a4), some (.int a5), some (.int a6)] [] h (ra_oI r)) (a0 : Nat) (a3 : Int32) (a4 : Int32) (a6 : Int32) (b0 : Int32) (h : ra_H) (r : (Int32 × ra_H)) (e : nX12_together_126 N c45 c60 a0 a3 a4 a6 b0 h = some r) : ra_Ru 8 mX12_together 126 [some (.ref a0), none, none, some (.int a3), some (.int a4), none, some (.int a6)] [.int b0] h (ra_oI r) :=
  ra_sound (by omega) rfl ra_rI_ok (kX12_together_126_ok N c45 c60 hc45 hc60) (fun m av h h1 e => (tVX12_together_ok N) m av h h1 e) (fun m av h x h1 e => (tIX12_together_ok N) m av h (x, h1) e) (fun m av h x h1 e => (ra_c0_ok (ro := ra_oJ)) m av h (x, h1) e) (fun m av h x h1 e => (ra_c0_ok (ro := ra_oR)) m av h (x, h1) e) (fun m av h x h1 e => (ra_c0_ok (ro := ra_oN)) m av h (x, h1) e) (fun m av h x h1 e => (ra_c0_ok (ro := ra_oF)) m av h (x, h1) e) 4 lX12_together_126 _ _ _ _ lX12_together_126_ck (show ra_run ra_rI (kX12_together_126 N c45 c60) (tVX12_together N) (tIX12_together N) ra_c0 ra_c0 ra_c0 ra_c0 4 lX12_together_126 [some (.ref a0), none, none, some (.int a3), some (.int a4), none, some (.int a6)] [.int b0] h = some r from e) _ _ rfl
def lX12_together_121 : List ra_I := [(121, .iconst (1), 1, 0, 0, 0, (1), 0, []),
  (122, .goto (4), 3, 126, 0, 0, 0, 0, [])]
set_option maxRecDepth 100000 in
theorem lX12_together_121_ck : lX12_together_121.all (ra_ck mX12_together 12) = true := by decide +kernel
def nX12_together_121 (N : Nat) (c45 : Nat → Int32 → Int32 → ra_H → Option (Int32 × ra_H)) (c60 : Nat → Int32 → Int32 → Int32 → Int32 → ra_H → Option (Int32 × ra_H)) (a0 : Nat) (a3 : Int32) (a4 : Int32) (a6 : Int32) (h : ra_H) : Option (Int32 × ra_H) :=
  nX12_together_126 N c45 c60 a0 a3 a4 a6 ((1 : Int32)) h
def kX12_together_121 (N : Nat) (c45 : Nat → Int32 → Int32 → ra_H → Option (Int32 × ra_H)) (c60 : Nat → Int32 → Int32 → Int32 → Int32 → ra_H → Option (Int32 × ra_H)) : Nat → List (Option Value) → List Value → ra_H → Option (Int32 × ra_H) := (ra_k1 126 (fun L S h => match L, S with
  | [some (.ref a0), _, _, some (.int a3), some (.int a4), _, some (.int a6)], [.int b0] => nX12_together_126 N c45 c60 a0 a3 a4 a6 b0 h
  | _, _ => none) ra_k0)
theorem kX12_together_121_ok (N : Nat) (c45 : Nat → Int32 → Int32 → ra_H → Option (Int32 × ra_H)) (c60 : Nat → Int32 → Int32 → Int32 → Int32 → ra_H → Option (Int32 × ra_H)) (hc45 : ∀ a0 a3 a4 h r, c45 a0 a3 a4 h = some r → ra_Ru 8 mX12_together 45 [some (.ref a0), none, none, some (.int a3), some (.int a4), none, none] [] h (ra_oI r)) (hc60 : ∀ a0 a3 a4 a5 a6 h r, c60 a0 a3 a4 a5 a6 h = some r → ra_Ru 8 mX12_together 60 [some (.ref a0), none, none, some (.int a3), some (.int a4), some (.int a5), some (.int a6)] [] h (ra_oI r)) : ra_kok 8 mX12_together ra_oI (kX12_together_121 N c45 c60) := (ra_k1_ok (by
  intro L S h a e
  split at e
  · exact ra_Ru.weak (nX12_together_126_ok N c45 c60 hc45 hc60 _ _ _ _ _ _ _ e) ⟨rfl, ⟨rfl, ⟨rfl, ⟨rfl, trivial⟩⟩⟩⟩
  · cases e) ra_k0_ok)
set_option maxRecDepth 100000 in
theorem nX12_together_121_ok (N : Nat) (c45 : Nat → Int32 → Int32 → ra_H → Option (Int32 × ra_H)) (c60 : Nat → Int32 → Int32 → Int32 → Int32 → ra_H → Option (Int32 × ra_H)) (hc45 : ∀ a0 a3 a4 h r, c45 a0 a3 a4 h = some r → ra_Ru 8 mX12_together 45 [some (.ref a0), none, none, some (.int a3), some (.int a4), none, none] [] h (ra_oI r)) (hc60 : ∀ a0 a3 a4 a5 a6 h r, c60 a0 a3 a4 a5 a6 h = some r → ra_Ru 8 mX12_together 60 [some (.ref a0), none, none, some (.int a3), some (.int a4), some (.int a5), some (.int a6)] [] h (ra_oI r)) (a0 : Nat) (a3 : Int32) (a4 : Int32) (a6 : Int32) (h : ra_H) (r : (Int32 × ra_H)) (e : nX12_together_121 N c45 c60 a0 a3 a4 a6 h = some r) : ra_Ru 8 mX12_together 121 [some (.ref a0), none, none, some (.int a3), some (.int a4), none, some (.int a6)] [] h (ra_oI r) :=
  ra_sound (by omega) rfl ra_rI_ok (kX12_together_121_ok N c45 c60 hc45 hc60) (fun m av h h1 e => (tVX12_together_ok N) m av h h1 e) (fun m av h x h1 e => (tIX12_together_ok N) m av h (x, h1) e) (fun m av h x h1 e => (ra_c0_ok (ro := ra_oJ)) m av h (x, h1) e) (fun m av h x h1 e => (ra_c0_ok (ro := ra_oR)) m av h (x, h1) e) (fun m av h x h1 e => (ra_c0_ok (ro := ra_oN)) m av h (x, h1) e) (fun m av h x h1 e => (ra_c0_ok (ro := ra_oF)) m av h (x, h1) e) 3 lX12_together_121 _ _ _ _ lX12_together_121_ck (show ra_run ra_rI (kX12_together_121 N c45 c60) (tVX12_together N) (tIX12_together N) ra_c0 ra_c0 ra_c0 ra_c0 3 lX12_together_121 [some (.ref a0), none, none, some (.int a3), some (.int a4), none, some (.int a6)] [] h = some r from e) _ _ rfl
def lX12_together_125 : List ra_I := [(125, .iconst (0), 1, 0, 0, 0, (0), 0, [])]
set_option maxRecDepth 100000 in
theorem lX12_together_125_ck : lX12_together_125.all (ra_ck mX12_together 12) = true := by decide +kernel
def nX12_together_125 (N : Nat) (c45 : Nat → Int32 → Int32 → ra_H → Option (Int32 × ra_H)) (c60 : Nat → Int32 → Int32 → Int32 → Int32 → ra_H → Option (Int32 × ra_H)) (a0 : Nat) (a3 : Int32) (a4 : Int32) (a6 : Int32) (h : ra_H) : Option (Int32 × ra_H) :=
  nX12_together_126 N c45 c60 a0 a3 a4 a6 ((0 : Int32)) h
def kX12_together_125 (N : Nat) (c45 : Nat → Int32 → Int32 → ra_H → Option (Int32 × ra_H)) (c60 : Nat → Int32 → Int32 → Int32 → Int32 → ra_H → Option (Int32 × ra_H)) : Nat → List (Option Value) → List Value → ra_H → Option (Int32 × ra_H) := (ra_k1 126 (fun L S h => match L, S with
  | [some (.ref a0), _, _, some (.int a3), some (.int a4), _, some (.int a6)], [.int b0] => nX12_together_126 N c45 c60 a0 a3 a4 a6 b0 h
  | _, _ => none) ra_k0)
theorem kX12_together_125_ok (N : Nat) (c45 : Nat → Int32 → Int32 → ra_H → Option (Int32 × ra_H)) (c60 : Nat → Int32 → Int32 → Int32 → Int32 → ra_H → Option (Int32 × ra_H)) (hc45 : ∀ a0 a3 a4 h r, c45 a0 a3 a4 h = some r → ra_Ru 8 mX12_together 45 [some (.ref a0), none, none, some (.int a3), some (.int a4), none, none] [] h (ra_oI r)) (hc60 : ∀ a0 a3 a4 a5 a6 h r, c60 a0 a3 a4 a5 a6 h = some r → ra_Ru 8 mX12_together 60 [some (.ref a0), none, none, some (.int a3), some (.int a4), some (.int a5), some (.int a6)] [] h (ra_oI r)) : ra_kok 8 mX12_together ra_oI (kX12_together_125 N c45 c60) := (ra_k1_ok (by
  intro L S h a e
  split at e
  · exact ra_Ru.weak (nX12_together_126_ok N c45 c60 hc45 hc60 _ _ _ _ _ _ _ e) ⟨rfl, ⟨rfl, ⟨rfl, ⟨rfl, trivial⟩⟩⟩⟩
  · cases e) ra_k0_ok)
set_option maxRecDepth 100000 in
theorem nX12_together_125_ok (N : Nat) (c45 : Nat → Int32 → Int32 → ra_H → Option (Int32 × ra_H)) (c60 : Nat → Int32 → Int32 → Int32 → Int32 → ra_H → Option (Int32 × ra_H)) (hc45 : ∀ a0 a3 a4 h r, c45 a0 a3 a4 h = some r → ra_Ru 8 mX12_together 45 [some (.ref a0), none, none, some (.int a3), some (.int a4), none, none] [] h (ra_oI r)) (hc60 : ∀ a0 a3 a4 a5 a6 h r, c60 a0 a3 a4 a5 a6 h = some r → ra_Ru 8 mX12_together 60 [some (.ref a0), none, none, some (.int a3), some (.int a4), some (.int a5), some (.int a6)] [] h (ra_oI r)) (a0 : Nat) (a3 : Int32) (a4 : Int32) (a6 : Int32) (h : ra_H) (r : (Int32 × ra_H)) (e : nX12_together_125 N c45 c60 a0 a3 a4 a6 h = some r) : ra_Ru 8 mX12_together 125 [some (.ref a0), none, none, some (.int a3), some (.int a4), none, some (.int a6)] [] h (ra_oI r) :=
  ra_sound (by omega) rfl ra_rI_ok (kX12_together_125_ok N c45 c60 hc45 hc60) (fun m av h h1 e => (tVX12_together_ok N) m av h h1 e) (fun m av h x h1 e => (tIX12_together_ok N) m av h (x, h1) e) (fun m av h x h1 e => (ra_c0_ok (ro := ra_oJ)) m av h (x, h1) e) (fun m av h x h1 e => (ra_c0_ok (ro := ra_oR)) m av h (x, h1) e) (fun m av h x h1 e => (ra_c0_ok (ro := ra_oN)) m av h (x, h1) e) (fun m av h x h1 e => (ra_c0_ok (ro := ra_oF)) m av h (x, h1) e) 2 lX12_together_125 _ _ _ _ lX12_together_125_ck (show ra_run ra_rI (kX12_together_125 N c45 c60) (tVX12_together N) (tIX12_together N) ra_c0 ra_c0 ra_c0 ra_c0 2 lX12_together_125 [some (.ref a0), none, none, some (.int a3), some (.int a4), none, some (.int a6)] [] h = some r from e) _ _ rfl
def lX12_together_145 : List ra_I := [(145, .iadd, 1, 0, 0, 0, 0, 0, []),
  (146, .istore_n 3, 1, 3, 0, 0, 0, 0, []),
  (147, .iinc 4 (1), 3, 4, 0, 0, (1), 0, []),
  (150, .goto (-105), 3, 45, 0, 0, 0, 0, [])]
set_option maxRecDepth 100000 in
theorem lX12_together_145_ck : lX12_together_145.all (ra_ck mX12_together 12) = true := by decide +kernel
def nX12_together_145 (N : Nat) (c45 : Nat → Int32 → Int32 → ra_H → Option (Int32 × ra_H)) (a0 : Nat) (a4 : Int32) (b0 : Int32) (b1 : Int32) (h : ra_H) : Option (Int32 × ra_H) :=
  let y1 := b0 + b1
  let y2 := a4 + (1 : Int32)
  c45 a0 y1 y2 h
def kX12_together_145 (N : Nat) (c45 : Nat → Int32 → Int32 → ra_H → Option (Int32 × ra_H)) : Nat → List (Option Value) → List Value → ra_H → Option (Int32 × ra_H) := (ra_k1 45 (fun L S h => match L, S with
  | [some (.ref a0), _, _, some (.int a3), some (.int a4), _, _], [] => c45 a0 a3 a4 h
  | _, _ => none) ra_k0)
theorem kX12_together_145_ok (N : Nat) (c45 : Nat → Int32 → Int32 → ra_H → Option (Int32 × ra_H)) (hc45 : ∀ a0 a3 a4 h r, c45 a0 a3 a4 h = some r → ra_Ru 8 mX12_together 45 [some (.ref a0), none, none, some (.int a3), some (.int a4), none, none] [] h (ra_oI r)) : ra_kok 8 mX12_together ra_oI (kX12_together_145 N c45) := (ra_k1_ok (by
  intro L S h a e
  split at e
  · exact ra_Ru.weak (hc45 _ _ _ _ _ e) ⟨rfl, ⟨rfl, ⟨rfl, trivial⟩⟩⟩
  · cases e) ra_k0_ok)
set_option maxRecDepth 100000 in
theorem nX12_together_145_ok (N : Nat) (c45 : Nat → Int32 → Int32 → ra_H → Option (Int32 × ra_H)) (hc45 : ∀ a0 a3 a4 h r, c45 a0 a3 a4 h = some r → ra_Ru 8 mX12_together 45 [some (.ref a0), none, none, some (.int a3), some (.int a4), none, none] [] h (ra_oI r)) (a0 : Nat) (a4 : Int32) (b0 : Int32) (b1 : Int32) (h : ra_H) (r : (Int32 × ra_H)) (e : nX12_together_145 N c45 a0 a4 b0 b1 h = some r) : ra_Ru 8 mX12_together 145 [some (.ref a0), none, none, none, some (.int a4), none, none] [.int b1, .int b0] h (ra_oI r) :=
  ra_sound (by omega) rfl ra_rI_ok (kX12_together_145_ok N c45 hc45) (fun m av h h1 e => (tVX12_together_ok N) m av h h1 e) (fun m av h x h1 e => (tIX12_together_ok N) m av h (x, h1) e) (fun m av h x h1 e => (ra_c0_ok (ro := ra_oJ)) m av h (x, h1) e) (fun m av h x h1 e => (ra_c0_ok (ro := ra_oR)) m av h (x, h1) e) (fun m av h x h1 e => (ra_c0_ok (ro := ra_oN)) m av h (x, h1) e) (fun m av h x h1 e => (ra_c0_ok (ro := ra_oF)) m av h (x, h1) e) 5 lX12_together_145 _ _ _ _ lX12_together_145_ck (show ra_run ra_rI (kX12_together_145 N c45) (tVX12_together N) (tIX12_together N) ra_c0 ra_c0 ra_c0 ra_c0 5 lX12_together_145 [some (.ref a0), none, none, none, some (.int a4), none, none] [.int b1, .int b0] h = some r from e) _ _ rfl
def lX12_together_60 : List ra_I := [(60, .iload 6, 2, 6, 0, 0, 0, 0, []),
  (62, .aload_n 0, 1, 0, 0, 0, 0, 0, []),
  (63, .getfield 428, 3, 12, 43, 0, 0, 0, []),
  (66, .if_icmp .ge (68), 3, 134, 0, 0, 0, 0, []),
  (69, .iload 5, 2, 5, 0, 0, 0, 0, []),
  (71, .ifCond .ne (50), 3, 121, 0, 0, 0, 0, []),
  (74, .iload 4, 2, 4, 0, 0, 0, 0, []),
  (76, .iload 6, 2, 6, 0, 0, 0, 0, []),
  (78, .if_icmp .eq (47), 3, 125, 0, 0, 0, 0, []),
  (81, .aload_n 0, 1, 0, 0, 0, 0, 0, []),
  (82, .aload_n 0, 1, 0, 0, 0, 0, 0, []),
  (83, .getfield 107, 3, 12, 42, 2, 0, 0, []),
  (86, .iload 4, 2, 4, 0, 0, 0, 0, []),
  (88, .iaload, 1, 0, 0, 0, 0, 0, []),
  (89, .invokevirtual 512, 3, 320, 2, 1, 0, 0, []),
  (92, .iconst (-1), 1, 0, 0, 0, (-1), 0, []),
  (93, .if_icmp .eq (32), 3, 125, 0, 0, 0, 0, []),
  (96, .aload_n 0, 1, 0, 0, 0, 0, 0, []),
  (97, .aload_n 0, 1, 0, 0, 0, 0, 0, []),
  (98, .getfield 107, 3, 12, 42, 2, 0, 0, []),
  (101, .iload 4, 2, 4, 0, 0, 0, 0, []),
  (103, .iaload, 1, 0, 0, 0, 0, 0, []),
  (104, .invokevirtual 512, 3, 320, 2, 1, 0, 0, []),
  (107, .aload_n 0, 1, 0, 0, 0, 0, 0, []),
  (108, .aload_n 0, 1, 0, 0, 0, 0, 0, []),
  (109, .getfield 107, 3, 12, 42, 2, 0, 0, []),
  (112, .iload 6, 2, 6, 0, 0, 0, 0, []),
  (114, .iaload, 1, 0, 0, 0, 0, 0, []),
  (115, .invokevirtual 512, 3, 320, 2, 1, 0, 0, []),
  (118, .if_icmp .ne (7), 3, 125, 0, 0, 0, 0, []),
  (134, .iload_n 3, 1, 3, 0, 0, 0, 0, []),
  (135, .iload 5, 2, 5, 0, 0, 0, 0, []),
  (137, .ifCond .eq (7), 3, 144, 0, 0, 0, 0, []),
  (140, .iconst (1), 1, 0, 0, 0, (1), 0, []),
  (141, .goto (4), 3, 145, 0, 0, 0, 0, []),
  (144, .iconst (0), 1, 0, 0, 0, (0), 0, [])]
set_option maxRecDepth 100000 in
theorem lX12_together_60_ck : lX12_together_60.all (ra_ck mX12_together 12) = true := by decide +kernel
def nX12_together_60 (N : Nat) (c45 : Nat → Int32 → Int32 → ra_H → Option (Int32 × ra_H)) : Nat → Nat → Int32 → Int32 → Int32 → Int32 → ra_H → Option (Int32 × ra_H)
  | 0, _, _, _, _, _, _ => none
  | n + 1, a0, a3, a4, a5, a6, h =>
  (ra_fI h 12 a0 43).bind fun x1 =>
  if a6 < x1 then
    if a5 = 0 then
      if a4 = a6 then
        nX12_together_125 N c45 (nX12_together_60 N c45 n) a0 a3 a4 a6 h
      else
        (ra_fR h 12 a0 42).bind fun x2 =>
        (ra_aI h 0 x2 a4).bind fun x3 =>
        (fX12_wentTo N a0 x3 h).bind fun q4 =>
        if q4.1 = ((-1 : Int32)) then
          nX12_together_125 N c45 (nX12_together_60 N c45 n) a0 a3 a4 a6 q4.2
        else
          (ra_fR q4.2 12 a0 42).bind fun x5 =>
          (ra_aI q4.2 0 x5 a4).bind fun x6 =>
          (fX12_wentTo N a0 x6 q4.2).bind fun q7 =>
          (ra_fR q7.2 12 a0 42).bind fun x8 =>
          (ra_aI q7.2 0 x8 a6).bind fun x9 =>
          (fX12_wentTo N a0 x9 q7.2).bind fun q10 =>
          if q7.1 = q10.1 then
            nX12_together_121 N c45 (nX12_together_60 N c45 n) a0 a3 a4 a6 q10.2
          else
            nX12_together_125 N c45 (nX12_together_60 N c45 n) a0 a3 a4 a6 q10.2
    else
      nX12_together_121 N c45 (nX12_together_60 N c45 n) a0 a3 a4 a6 h
  else
    if a5 = 0 then
      nX12_together_145 N c45 a0 a4 a3 ((0 : Int32)) h
    else
      nX12_together_145 N c45 a0 a4 a3 ((1 : Int32)) h
def kX12_together_60 (N : Nat) (c45 : Nat → Int32 → Int32 → ra_H → Option (Int32 × ra_H)) (cs : Nat → Int32 → Int32 → Int32 → Int32 → ra_H → Option (Int32 × ra_H)) : Nat → List (Option Value) → List Value → ra_H → Option (Int32 × ra_H) := (ra_k1 121 (fun L S h => match L, S with
  | [some (.ref a0), _, _, some (.int a3), some (.int a4), _, some (.int a6)], [] => nX12_together_121 N c45 cs a0 a3 a4 a6 h
  | _, _ => none) (ra_k1 125 (fun L S h => match L, S with
  | [some (.ref a0), _, _, some (.int a3), some (.int a4), _, some (.int a6)], [] => nX12_together_125 N c45 cs a0 a3 a4 a6 h
  | _, _ => none) (ra_k1 145 (fun L S h => match L, S with
  | [some (.ref a0), _, _, _, some (.int a4), _, _], [.int b1, .int b0] => nX12_together_145 N c45 a0 a4 b0 b1 h
  | _, _ => none) ra_k0)))
theorem kX12_together_60_ok (N : Nat) (c45 : Nat → Int32 → Int32 → ra_H → Option (Int32 × ra_H)) (hc45 : ∀ a0 a3 a4 h r, c45 a0 a3 a4 h = some r → ra_Ru 8 mX12_together 45 [some (.ref a0), none, none, some (.int a3), some (.int a4), none, none] [] h (ra_oI r)) (cs : Nat → Int32 → Int32 → Int32 → Int32 → ra_H → Option (Int32 × ra_H)) (hcs : ∀ a0 a3 a4 a5 a6 h r, cs a0 a3 a4 a5 a6 h = some r → ra_Ru 8 mX12_together 60 [some (.ref a0), none, none, some (.int a3), some (.int a4), some (.int a5), some (.int a6)] [] h (ra_oI r)) : ra_kok 8 mX12_together ra_oI (kX12_together_60 N c45 cs) := (ra_k1_ok (by
  intro L S h a e
  split at e
  · exact ra_Ru.weak (nX12_together_121_ok N c45 cs hc45 hcs _ _ _ _ _ _ e) ⟨rfl, ⟨rfl, ⟨rfl, ⟨rfl, trivial⟩⟩⟩⟩
  · cases e) (ra_k1_ok (by
  intro L S h a e
  split at e
  · exact ra_Ru.weak (nX12_together_125_ok N c45 cs hc45 hcs _ _ _ _ _ _ e) ⟨rfl, ⟨rfl, ⟨rfl, ⟨rfl, trivial⟩⟩⟩⟩
  · cases e) (ra_k1_ok (by
  intro L S h a e
  split at e
  · exact ra_Ru.weak (nX12_together_145_ok N c45 hc45 _ _ _ _ _ _ e) ⟨rfl, ⟨rfl, trivial⟩⟩
  · cases e) ra_k0_ok)))
set_option maxRecDepth 100000 in
theorem nX12_together_60_ok (N : Nat) (c45 : Nat → Int32 → Int32 → ra_H → Option (Int32 × ra_H)) (hc45 : ∀ a0 a3 a4 h r, c45 a0 a3 a4 h = some r → ra_Ru 8 mX12_together 45 [some (.ref a0), none, none, some (.int a3), some (.int a4), none, none] [] h (ra_oI r)) : ∀ n a0 a3 a4 a5 a6 h r, nX12_together_60 N c45 n a0 a3 a4 a5 a6 h = some r → ra_Ru 8 mX12_together 60 [some (.ref a0), none, none, some (.int a3), some (.int a4), some (.int a5), some (.int a6)] [] h (ra_oI r) := by
  intro n
  induction n with
  | zero => intro a0 a3 a4 a5 a6 h r e; cases e
  | succ n ih =>
    intro a0 a3 a4 a5 a6 h r e
    exact ra_sound (by omega) rfl ra_rI_ok (kX12_together_60_ok N c45 hc45 (nX12_together_60 N c45 n) ih) (fun m av h h1 e => (tVX12_together_ok N) m av h h1 e) (fun m av h x h1 e => (tIX12_together_ok N) m av h (x, h1) e) (fun m av h x h1 e => (ra_c0_ok (ro := ra_oJ)) m av h (x, h1) e) (fun m av h x h1 e => (ra_c0_ok (ro := ra_oR)) m av h (x, h1) e) (fun m av h x h1 e => (ra_c0_ok (ro := ra_oN)) m av h (x, h1) e) (fun m av h x h1 e => (ra_c0_ok (ro := ra_oF)) m av h (x, h1) e) 37 lX12_together_60 _ _ _ _ lX12_together_60_ck (show ra_run ra_rI (kX12_together_60 N c45 (nX12_together_60 N c45 n)) (tVX12_together N) (tIX12_together N) ra_c0 ra_c0 ra_c0 ra_c0 37 lX12_together_60 [some (.ref a0), none, none, some (.int a3), some (.int a4), some (.int a5), some (.int a6)] [] h = some r from e) _ _ rfl
def lX12_together_45 : List ra_I := [(45, .iload 4, 2, 4, 0, 0, 0, 0, []),
  (47, .aload_n 0, 1, 0, 0, 0, 0, 0, []),
  (48, .getfield 428, 3, 12, 43, 0, 0, 0, []),
  (51, .if_icmp .ge (102), 3, 153, 0, 0, 0, 0, []),
  (54, .iconst (0), 1, 0, 0, 0, (0), 0, []),
  (55, .istore 5, 2, 5, 0, 0, 0, 0, []),
  (57, .iconst (0), 1, 0, 0, 0, (0), 0, []),
  (58, .istore 6, 2, 6, 0, 0, 0, 0, []),
  (153, .iload_n 3, 1, 3, 0, 0, 0, 0, []),
  (154, .ireturn, 1, 0, 0, 0, 0, 0, [])]
set_option maxRecDepth 100000 in
theorem lX12_together_45_ck : lX12_together_45.all (ra_ck mX12_together 12) = true := by decide +kernel
def nX12_together_45 (N : Nat) : Nat → Nat → Int32 → Int32 → ra_H → Option (Int32 × ra_H)
  | 0, _, _, _, _ => none
  | n + 1, a0, a3, a4, h =>
  (ra_fI h 12 a0 43).bind fun x1 =>
  if a4 < x1 then
    nX12_together_60 N (nX12_together_45 N n) N a0 a3 a4 ((0 : Int32)) ((0 : Int32)) h
  else
    some (a3, h)
def kX12_together_45 (N : Nat) (cs : Nat → Int32 → Int32 → ra_H → Option (Int32 × ra_H)) : Nat → List (Option Value) → List Value → ra_H → Option (Int32 × ra_H) := (ra_k1 60 (fun L S h => match L, S with
  | [some (.ref a0), _, _, some (.int a3), some (.int a4), some (.int a5), some (.int a6)], [] => nX12_together_60 N cs N a0 a3 a4 a5 a6 h
  | _, _ => none) ra_k0)
theorem kX12_together_45_ok (N : Nat) (cs : Nat → Int32 → Int32 → ra_H → Option (Int32 × ra_H)) (hcs : ∀ a0 a3 a4 h r, cs a0 a3 a4 h = some r → ra_Ru 8 mX12_together 45 [some (.ref a0), none, none, some (.int a3), some (.int a4), none, none] [] h (ra_oI r)) : ra_kok 8 mX12_together ra_oI (kX12_together_45 N cs) := (ra_k1_ok (by
  intro L S h a e
  split at e
  · exact ra_Ru.weak (nX12_together_60_ok N cs hcs N _ _ _ _ _ _ _ e) ⟨rfl, ⟨rfl, ⟨rfl, ⟨rfl, ⟨rfl, trivial⟩⟩⟩⟩⟩
  · cases e) ra_k0_ok)
set_option maxRecDepth 100000 in
theorem nX12_together_45_ok (N : Nat) : ∀ n a0 a3 a4 h r, nX12_together_45 N n a0 a3 a4 h = some r → ra_Ru 8 mX12_together 45 [some (.ref a0), none, none, some (.int a3), some (.int a4), none, none] [] h (ra_oI r) := by
  intro n
  induction n with
  | zero => intro a0 a3 a4 h r e; cases e
  | succ n ih =>
    intro a0 a3 a4 h r e
    exact ra_sound (by omega) rfl ra_rI_ok (kX12_together_45_ok N (nX12_together_45 N n) ih) (fun m av h h1 e => (tVX12_together_ok N) m av h h1 e) (fun m av h x h1 e => (tIX12_together_ok N) m av h (x, h1) e) (fun m av h x h1 e => (ra_c0_ok (ro := ra_oJ)) m av h (x, h1) e) (fun m av h x h1 e => (ra_c0_ok (ro := ra_oR)) m av h (x, h1) e) (fun m av h x h1 e => (ra_c0_ok (ro := ra_oN)) m av h (x, h1) e) (fun m av h x h1 e => (ra_c0_ok (ro := ra_oF)) m av h (x, h1) e) 11 lX12_together_45 _ _ _ _ lX12_together_45_ck (show ra_run ra_rI (kX12_together_45 N (nX12_together_45 N n)) (tVX12_together N) (tIX12_together N) ra_c0 ra_c0 ra_c0 ra_c0 11 lX12_together_45 [some (.ref a0), none, none, some (.int a3), some (.int a4), none, none] [] h = some r from e) _ _ rfl
def lX12_together_0 : List ra_I := [(0, .aload_n 0, 1, 0, 0, 0, 0, 0, []),
  (1, .iconst (0), 1, 0, 0, 0, (0), 0, []),
  (2, .putfield 147, 3, 12, 0, 0, 0, 0, []),
  (5, .iload_n 1, 1, 1, 0, 0, 0, 0, []),
  (6, .iload_n 2, 1, 2, 0, 0, 0, 0, []),
  (7, .invokestatic 205, 3, 224, 2, 1, 0, 0, []),
  (10, .ifCond .eq (18), 3, 28, 0, 0, 0, 0, []),
  (13, .aload_n 0, 1, 0, 0, 0, 0, 0, []),
  (14, .getfield 141, 3, 12, 56, 0, 0, 0, []),
  (17, .iconst (-1), 1, 0, 0, 0, (-1), 0, []),
  (18, .if_icmp .eq (10), 3, 28, 0, 0, 0, 0, []),
  (21, .aload_n 0, 1, 0, 0, 0, 0, 0, []),
  (22, .invokevirtual 425, 3, 269, 1, 1, 0, 0, []),
  (25, .ifCond .ne (5), 3, 30, 0, 0, 0, 0, []),
  (30, .aload_n 0, 1, 0, 0, 0, 0, 0, []),
  (31, .bipush (6), 2, 0, 0, 0, (6), 0, []),
  (33, .iload_n 1, 1, 1, 0, 0, 0, 0, []),
  (34, .imul, 1, 0, 0, 0, 0, 0, []),
  (35, .iload_n 2, 1, 2, 0, 0, 0, 0, []),
  (36, .iadd, 1, 0, 0, 0, 0, 0, []),
  (37, .invokevirtual 431, 3, 271, 2, 0, 0, 0, []),
  (40, .iconst (0), 1, 0, 0, 0, (0), 0, []),
  (41, .istore_n 3, 1, 3, 0, 0, 0, 0, []),
  (42, .iconst (0), 1, 0, 0, 0, (0), 0, []),
  (43, .istore 4, 2, 4, 0, 0, 0, 0, [])]
set_option maxRecDepth 100000 in
theorem lX12_together_0_ck : lX12_together_0.all (ra_ck mX12_together 12) = true := by decide +kernel
def nX12_together_0 (N : Nat) (a0 : Nat) (a1 : Int32) (a2 : Int32) (h : ra_H) : Option (Int32 × ra_H) :=
  (ra_fW h 12 a0 0 (.int ((0 : Int32)))).bind fun h1 =>
  (fX12_isShelf N a1 a2 h1).bind fun q2 =>
  if q2.1 = 0 then
    nX12_together_28 N q2.2
  else
    (ra_fI q2.2 12 a0 56).bind fun x3 =>
    if x3 = ((-1 : Int32)) then
      nX12_together_28 N q2.2
    else
      (fX12_lookKept N a0 q2.2).bind fun q4 =>
      if q4.1 = 0 then
        nX12_together_28 N q4.2
      else
        (fX12_lookAt N a0 ((((6 : Int32)) * a1) + a2) q4.2).bind fun h5 =>
        nX12_together_45 N N a0 ((0 : Int32)) ((0 : Int32)) h5
def kX12_together_0 (N : Nat) : Nat → List (Option Value) → List Value → ra_H → Option (Int32 × ra_H) := (ra_k1 28 (fun L S h => match L, S with
  | [_, _, _, _, _, _, _], [] => nX12_together_28 N h
  | _, _ => none) (ra_k1 45 (fun L S h => match L, S with
  | [some (.ref a0), _, _, some (.int a3), some (.int a4), _, _], [] => nX12_together_45 N N a0 a3 a4 h
  | _, _ => none) ra_k0))
theorem kX12_together_0_ok (N : Nat) : ra_kok 8 mX12_together ra_oI (kX12_together_0 N) := (ra_k1_ok (by
  intro L S h a e
  split at e
  · exact ra_Ru.weak (nX12_together_28_ok N _ _ e) trivial
  · cases e) (ra_k1_ok (by
  intro L S h a e
  split at e
  · exact ra_Ru.weak (nX12_together_45_ok N N _ _ _ _ _ e) ⟨rfl, ⟨rfl, ⟨rfl, trivial⟩⟩⟩
  · cases e) ra_k0_ok))
set_option maxRecDepth 100000 in
theorem nX12_together_0_ok (N : Nat) (a0 : Nat) (a1 : Int32) (a2 : Int32) (h : ra_H) (r : (Int32 × ra_H)) (e : nX12_together_0 N a0 a1 a2 h = some r) : ra_Ru 8 mX12_together 0 [some (.ref a0), some (.int a1), some (.int a2), none, none, none, none] [] h (ra_oI r) :=
  ra_sound (by omega) rfl ra_rI_ok (kX12_together_0_ok N) (fun m av h h1 e => (tVX12_together_ok N) m av h h1 e) (fun m av h x h1 e => (tIX12_together_ok N) m av h (x, h1) e) (fun m av h x h1 e => (ra_c0_ok (ro := ra_oJ)) m av h (x, h1) e) (fun m av h x h1 e => (ra_c0_ok (ro := ra_oR)) m av h (x, h1) e) (fun m av h x h1 e => (ra_c0_ok (ro := ra_oN)) m av h (x, h1) e) (fun m av h x h1 e => (ra_c0_ok (ro := ra_oF)) m av h (x, h1) e) 26 lX12_together_0 _ _ _ _ lX12_together_0_ck (show ra_run ra_rI (kX12_together_0 N) (tVX12_together N) (tIX12_together N) ra_c0 ra_c0 ra_c0 ra_c0 26 lX12_together_0 [some (.ref a0), some (.int a1), some (.int a2), none, none, none, none] [] h = some r from e) _ _ rfl
def fX12_together (N : Nat) (p0 : Nat) (p1 : Int32) (p2 : Int32) (h : ra_H) : Option (Int32 × ra_H) := match ra_isOb h p0 12 with
  | true => nX12_together_0 N p0 p1 p2 h
  | false => none
set_option maxRecDepth 100000 in
theorem mtX12_together : ra_MT[319]? = some (mX12_together, 1, 2, (1, 13), (9, 81), (9, 82)) := rfl
theorem fX12_together_co (N : Nat) (p0 : Nat) (p1 : Int32) (p2 : Int32) (h : ra_H) (r : (Int32 × ra_H)) (e : fX12_together N p0 p1 p2 h = some r) (D : Nat) (hD : 9 ≤ D) : ra_CO D 319 [.ref p0, .int p1, .int p2] h (ra_oI r).1 (ra_oI r).2 := by
  have hw : ra_nw2 [.ref p0, .int p1, .int p2] ≤ 7 := Nat.le_of_ble_eq_true rfl
  have hdb : ∀ v ∈ ([.ref p0, .int p1, .int p2] : List Value), ∀ x, v ≠ .double x := by
    intro v hv x hx
    simp [hx] at hv
  unfold fX12_together at e
  split at e
  · rename_i ho
    have e1 := e
    exact ⟨8, _, mtX12_together, hD, ra_ev_of (by decide) hdb hw trivial (ra_Ru.weak (nX12_together_0_ok N p0 p1 p2 h _ e1) ⟨rfl, ⟨rfl, ⟨rfl, trivial⟩⟩⟩), (fun _ => ⟨_, _, rfl, ra_rcv_of ho (by decide) rfl⟩), (fun h => absurd h (by decide))⟩
  · cases e
/-! RedMarksModel.twice(II)I -/
def mX12_twice : ra_M := (yX12_twice, cX12_twice, 7, (some .int))
def tIX12_twice (N : Nat) : Nat → List Value → ra_H → Option (Int32 × ra_H) := (ra_c1 209 (fun av h => match av with
  | [.long z0, .long z1, .long z2] => fX12_in N z0 z1 z2 h
  | _ => none) (ra_c1 258 (fun av h => match av with
  | [.ref z0, .int z1] => fX12_hasMark N z0 z1 h
  | _ => none) ra_c0))
theorem tIX12_twice_ok (N : Nat) : ra_cok 2 ra_oI (tIX12_twice N) := (ra_c1_ok (by
  intro av h a e
  split at e
  · exact fX12_in_co N _ _ _ _ _ e 2 (by omega)
  · cases e) (ra_c1_ok (by
  intro av h a e
  split at e
  · exact fX12_hasMark_co N _ _ _ _ e 2 (by omega)
  · cases e) ra_c0_ok))
def lX12_twice_145 : List ra_I := [(145, .iinc 6 (1), 3, 6, 0, 0, (1), 0, []),
  (148, .goto (-102), 3, 46, 0, 0, 0, 0, [])]
set_option maxRecDepth 100000 in
theorem lX12_twice_145_ck : lX12_twice_145.all (ra_ck mX12_twice 12) = true := by decide +kernel
def nX12_twice_145 (N : Nat) (c27 : Nat → Int32 → Int32 → Int32 → Int32 → Int32 → ra_H → Option (Int32 × ra_H)) (c46 : Nat → Int32 → Int32 → Int32 → Int32 → Int32 → Int32 → ra_H → Option (Int32 × ra_H)) (a0 : Nat) (a1 : Int32) (a2 : Int32) (a3 : Int32) (a4 : Int32) (a5 : Int32) (a6 : Int32) (h : ra_H) : Option (Int32 × ra_H) :=
  let y1 := a6 + (1 : Int32)
  c46 a0 a1 a2 a3 a4 a5 y1 h
def kX12_twice_145 (N : Nat) (c27 : Nat → Int32 → Int32 → Int32 → Int32 → Int32 → ra_H → Option (Int32 × ra_H)) (c46 : Nat → Int32 → Int32 → Int32 → Int32 → Int32 → Int32 → ra_H → Option (Int32 × ra_H)) : Nat → List (Option Value) → List Value → ra_H → Option (Int32 × ra_H) := (ra_k1 46 (fun L S h => match L, S with
  | [some (.ref a0), some (.int a1), some (.int a2), some (.int a3), some (.int a4), some (.int a5), some (.int a6)], [] => c46 a0 a1 a2 a3 a4 a5 a6 h
  | _, _ => none) ra_k0)
theorem kX12_twice_145_ok (N : Nat) (c27 : Nat → Int32 → Int32 → Int32 → Int32 → Int32 → ra_H → Option (Int32 × ra_H)) (c46 : Nat → Int32 → Int32 → Int32 → Int32 → Int32 → Int32 → ra_H → Option (Int32 × ra_H)) (hc27 : ∀ a0 a1 a2 a3 a4 a5 h r, c27 a0 a1 a2 a3 a4 a5 h = some r → ra_Ru 2 mX12_twice 27 [some (.ref a0), some (.int a1), some (.int a2), some (.int a3), some (.int a4), some (.int a5), none] [] h (ra_oI r)) (hc46 : ∀ a0 a1 a2 a3 a4 a5 a6 h r, c46 a0 a1 a2 a3 a4 a5 a6 h = some r → ra_Ru 2 mX12_twice 46 [some (.ref a0), some (.int a1), some (.int a2), some (.int a3), some (.int a4), some (.int a5), some (.int a6)] [] h (ra_oI r)) : ra_kok 2 mX12_twice ra_oI (kX12_twice_145 N c27 c46) := (ra_k1_ok (by
  intro L S h a e
  split at e
  · exact ra_Ru.weak (hc46 _ _ _ _ _ _ _ _ _ e) ⟨rfl, ⟨rfl, ⟨rfl, ⟨rfl, ⟨rfl, ⟨rfl, ⟨rfl, trivial⟩⟩⟩⟩⟩⟩⟩
  · cases e) ra_k0_ok)
set_option maxRecDepth 100000 in
theorem nX12_twice_145_ok (N : Nat) (c27 : Nat → Int32 → Int32 → Int32 → Int32 → Int32 → ra_H → Option (Int32 × ra_H)) (c46 : Nat → Int32 → Int32 → Int32 → Int32 → Int32 → Int32 → ra_H → Option (Int32 × ra_H)) (hc27 : ∀ a0 a1 a2 a3 a4 a5 h r, c27 a0 a1 a2 a3 a4 a5 h = some r → ra_Ru 2 mX12_twice 27 [some (.ref a0), some (.int a1), some (.int a2), some (.int a3), some (.int a4), some (.int a5), none] [] h (ra_oI r)) (hc46 : ∀ a0 a1 a2 a3 a4 a5 a6 h r, c46 a0 a1 a2 a3 a4 a5 a6 h = some r → ra_Ru 2 mX12_twice 46 [some (.ref a0), some (.int a1), some (.int a2), some (.int a3), some (.int a4), some (.int a5), some (.int a6)] [] h (ra_oI r)) (a0 : Nat) (a1 : Int32) (a2 : Int32) (a3 : Int32) (a4 : Int32) (a5 : Int32) (a6 : Int32) (h : ra_H) (r : (Int32 × ra_H)) (e : nX12_twice_145 N c27 c46 a0 a1 a2 a3 a4 a5 a6 h = some r) : ra_Ru 2 mX12_twice 145 [some (.ref a0), some (.int a1), some (.int a2), some (.int a3), some (.int a4), some (.int a5), some (.int a6)] [] h (ra_oI r) :=
  ra_sound (by omega) rfl ra_rI_ok (kX12_twice_145_ok N c27 c46 hc27 hc46) (fun m av h h1 e => (ra_c0_ok (ro := ra_oV)) m av h h1 e) (fun m av h x h1 e => (tIX12_twice_ok N) m av h (x, h1) e) (fun m av h x h1 e => (ra_c0_ok (ro := ra_oJ)) m av h (x, h1) e) (fun m av h x h1 e => (ra_c0_ok (ro := ra_oR)) m av h (x, h1) e) (fun m av h x h1 e => (ra_c0_ok (ro := ra_oN)) m av h (x, h1) e) (fun m av h x h1 e => (ra_c0_ok (ro := ra_oF)) m av h (x, h1) e) 3 lX12_twice_145 _ _ _ _ lX12_twice_145_ck (show ra_run ra_rI (kX12_twice_145 N c27 c46) ra_c0 (tIX12_twice N) ra_c0 ra_c0 ra_c0 ra_c0 3 lX12_twice_145 [some (.ref a0), some (.int a1), some (.int a2), some (.int a3), some (.int a4), some (.int a5), some (.int a6)] [] h = some r from e) _ _ rfl
def lX12_twice_140 : List ra_I := [(140, .istore 4, 2, 4, 0, 0, 0, 0, []),
  (142, .iinc 3 (1), 3, 3, 0, 0, (1), 0, [])]
set_option maxRecDepth 100000 in
theorem lX12_twice_140_ck : lX12_twice_140.all (ra_ck mX12_twice 12) = true := by decide +kernel
def nX12_twice_140 (N : Nat) (c27 : Nat → Int32 → Int32 → Int32 → Int32 → Int32 → ra_H → Option (Int32 × ra_H)) (c46 : Nat → Int32 → Int32 → Int32 → Int32 → Int32 → Int32 → ra_H → Option (Int32 × ra_H)) (a0 : Nat) (a1 : Int32) (a2 : Int32) (a3 : Int32) (a5 : Int32) (a6 : Int32) (b0 : Int32) (h : ra_H) : Option (Int32 × ra_H) :=
  let y1 := a3 + (1 : Int32)
  nX12_twice_145 N c27 c46 a0 a1 a2 y1 b0 a5 a6 h
def kX12_twice_140 (N : Nat) (c27 : Nat → Int32 → Int32 → Int32 → Int32 → Int32 → ra_H → Option (Int32 × ra_H)) (c46 : Nat → Int32 → Int32 → Int32 → Int32 → Int32 → Int32 → ra_H → Option (Int32 × ra_H)) : Nat → List (Option Value) → List Value → ra_H → Option (Int32 × ra_H) := (ra_k1 145 (fun L S h => match L, S with
  | [some (.ref a0), some (.int a1), some (.int a2), some (.int a3), some (.int a4), some (.int a5), some (.int a6)], [] => nX12_twice_145 N c27 c46 a0 a1 a2 a3 a4 a5 a6 h
  | _, _ => none) ra_k0)
theorem kX12_twice_140_ok (N : Nat) (c27 : Nat → Int32 → Int32 → Int32 → Int32 → Int32 → ra_H → Option (Int32 × ra_H)) (c46 : Nat → Int32 → Int32 → Int32 → Int32 → Int32 → Int32 → ra_H → Option (Int32 × ra_H)) (hc27 : ∀ a0 a1 a2 a3 a4 a5 h r, c27 a0 a1 a2 a3 a4 a5 h = some r → ra_Ru 2 mX12_twice 27 [some (.ref a0), some (.int a1), some (.int a2), some (.int a3), some (.int a4), some (.int a5), none] [] h (ra_oI r)) (hc46 : ∀ a0 a1 a2 a3 a4 a5 a6 h r, c46 a0 a1 a2 a3 a4 a5 a6 h = some r → ra_Ru 2 mX12_twice 46 [some (.ref a0), some (.int a1), some (.int a2), some (.int a3), some (.int a4), some (.int a5), some (.int a6)] [] h (ra_oI r)) : ra_kok 2 mX12_twice ra_oI (kX12_twice_140 N c27 c46) := (ra_k1_ok (by
  intro L S h a e
  split at e
  · exact ra_Ru.weak (nX12_twice_145_ok N c27 c46 hc27 hc46 _ _ _ _ _ _ _ _ _ e) ⟨rfl, ⟨rfl, ⟨rfl, ⟨rfl, ⟨rfl, ⟨rfl, ⟨rfl, trivial⟩⟩⟩⟩⟩⟩⟩
  · cases e) ra_k0_ok)
set_option maxRecDepth 100000 in
theorem nX12_twice_140_ok (N : Nat) (c27 : Nat → Int32 → Int32 → Int32 → Int32 → Int32 → ra_H → Option (Int32 × ra_H)) (c46 : Nat → Int32 → Int32 → Int32 → Int32 → Int32 → Int32 → ra_H → Option (Int32 × ra_H)) (hc27 : ∀ a0 a1 a2 a3 a4 a5 h r, c27 a0 a1 a2 a3 a4 a5 h = some r → ra_Ru 2 mX12_twice 27 [some (.ref a0), some (.int a1), some (.int a2), some (.int a3), some (.int a4), some (.int a5), none] [] h (ra_oI r)) (hc46 : ∀ a0 a1 a2 a3 a4 a5 a6 h r, c46 a0 a1 a2 a3 a4 a5 a6 h = some r → ra_Ru 2 mX12_twice 46 [some (.ref a0), some (.int a1), some (.int a2), some (.int a3), some (.int a4), some (.int a5), some (.int a6)] [] h (ra_oI r)) (a0 : Nat) (a1 : Int32) (a2 : Int32) (a3 : Int32) (a5 : Int32) (a6 : Int32) (b0 : Int32) (h : ra_H) (r : (Int32 × ra_H)) (e : nX12_twice_140 N c27 c46 a0 a1 a2 a3 a5 a6 b0 h = some r) : ra_Ru 2 mX12_twice 140 [some (.ref a0), some (.int a1), some (.int a2), some (.int a3), none, some (.int a5), some (.int a6)] [.int b0] h (ra_oI r) :=
  ra_sound (by omega) rfl ra_rI_ok (kX12_twice_140_ok N c27 c46 hc27 hc46) (fun m av h h1 e => (ra_c0_ok (ro := ra_oV)) m av h h1 e) (fun m av h x h1 e => (tIX12_twice_ok N) m av h (x, h1) e) (fun m av h x h1 e => (ra_c0_ok (ro := ra_oJ)) m av h (x, h1) e) (fun m av h x h1 e => (ra_c0_ok (ro := ra_oR)) m av h (x, h1) e) (fun m av h x h1 e => (ra_c0_ok (ro := ra_oN)) m av h (x, h1) e) (fun m av h x h1 e => (ra_c0_ok (ro := ra_oF)) m av h (x, h1) e) 3 lX12_twice_140 _ _ _ _ lX12_twice_140_ck (show ra_run ra_rI (kX12_twice_140 N c27 c46) ra_c0 (tIX12_twice N) ra_c0 ra_c0 ra_c0 ra_c0 3 lX12_twice_140 [some (.ref a0), some (.int a1), some (.int a2), some (.int a3), none, some (.int a5), some (.int a6)] [.int b0] h = some r from e) _ _ rfl
def lX12_twice_46 : List ra_I := [(46, .iload 6, 2, 6, 0, 0, 0, 0, []),
  (48, .aload_n 0, 1, 0, 0, 0, 0, 0, []),
  (49, .getfield 13, 3, 12, 3, 2, 0, 0, []),
  (52, .sipush (480), 3, 0, 0, 0, (480), 0, []),
  (55, .iaload, 1, 0, 0, 0, 0, 0, []),
  (56, .if_icmp .ge (95), 3, 151, 0, 0, 0, 0, []),
  (59, .aload_n 0, 1, 0, 0, 0, 0, 0, []),
  (60, .iload 5, 2, 5, 0, 0, 0, 0, []),
  (62, .invokevirtual 393, 3, 258, 2, 1, 0, 0, []),
  (65, .ifCond .eq (80), 3, 145, 0, 0, 0, 0, []),
  (68, .aload_n 0, 1, 0, 0, 0, 0, 0, []),
  (69, .getfield 13, 3, 12, 3, 2, 0, 0, []),
  (72, .bipush (12), 2, 0, 0, 0, (12), 0, []),
  (74, .iload 5, 2, 5, 0, 0, 0, 0, []),
  (76, .imul, 1, 0, 0, 0, 0, 0, []),
  (77, .iaload, 1, 0, 0, 0, 0, 0, []),
  (78, .aload_n 0, 1, 0, 0, 0, 0, 0, []),
  (79, .getfield 13, 3, 12, 3, 2, 0, 0, []),
  (82, .bipush (12), 2, 0, 0, 0, (12), 0, []),
  (84, .iload 6, 2, 6, 0, 0, 0, 0, []),
  (86, .imul, 1, 0, 0, 0, 0, 0, []),
  (87, .iaload, 1, 0, 0, 0, 0, 0, []),
  (88, .if_icmp .ne (57), 3, 145, 0, 0, 0, 0, []),
  (91, .aload_n 0, 1, 0, 0, 0, 0, 0, []),
  (92, .getfield 13, 3, 12, 3, 2, 0, 0, []),
  (95, .bipush (12), 2, 0, 0, 0, (12), 0, []),
  (97, .iload 5, 2, 5, 0, 0, 0, 0, []),
  (99, .imul, 1, 0, 0, 0, 0, 0, []),
  (100, .iconst (1), 1, 0, 0, 0, (1), 0, []),
  (101, .iadd, 1, 0, 0, 0, 0, 0, []),
  (102, .iaload, 1, 0, 0, 0, 0, 0, []),
  (103, .aload_n 0, 1, 0, 0, 0, 0, 0, []),
  (104, .getfield 13, 3, 12, 3, 2, 0, 0, []),
  (107, .bipush (12), 2, 0, 0, 0, (12), 0, []),
  (109, .iload 6, 2, 6, 0, 0, 0, 0, []),
  (111, .imul, 1, 0, 0, 0, 0, 0, []),
  (112, .iconst (1), 1, 0, 0, 0, (1), 0, []),
  (113, .iadd, 1, 0, 0, 0, 0, 0, []),
  (114, .iaload, 1, 0, 0, 0, 0, 0, []),
  (115, .if_icmp .ne (30), 3, 145, 0, 0, 0, 0, []),
  (118, .iload_n 3, 1, 3, 0, 0, 0, 0, []),
  (119, .iload_n 2, 1, 2, 0, 0, 0, 0, []),
  (120, .if_icmp .ne (18), 3, 138, 0, 0, 0, 0, []),
  (123, .iload_n 1, 1, 1, 0, 0, 0, 0, []),
  (124, .iconst (1), 1, 0, 0, 0, (1), 0, []),
  (125, .if_icmp .ne (8), 3, 133, 0, 0, 0, 0, []),
  (128, .iload 5, 2, 5, 0, 0, 0, 0, []),
  (130, .goto (10), 3, 140, 0, 0, 0, 0, []),
  (133, .iload 6, 2, 6, 0, 0, 0, 0, []),
  (135, .goto (5), 3, 140, 0, 0, 0, 0, []),
  (138, .iload 4, 2, 4, 0, 0, 0, 0, []),
  (151, .iinc 5 (1), 3, 5, 0, 0, (1), 0, []),
  (154, .goto (-127), 3, 27, 0, 0, 0, 0, [])]
set_option maxRecDepth 100000 in
theorem lX12_twice_46_ck : lX12_twice_46.all (ra_ck mX12_twice 12) = true := by decide +kernel
def nX12_twice_46 (N : Nat) (c27 : Nat → Int32 → Int32 → Int32 → Int32 → Int32 → ra_H → Option (Int32 × ra_H)) : Nat → Nat → Int32 → Int32 → Int32 → Int32 → Int32 → Int32 → ra_H → Option (Int32 × ra_H)
  | 0, _, _, _, _, _, _, _, _ => none
  | n + 1, a0, a1, a2, a3, a4, a5, a6, h =>
  (ra_fR h 12 a0 3).bind fun x1 =>
  (ra_aI h 0 x1 ((480 : Int32))).bind fun x2 =>
  if a6 < x2 then
    (fX12_hasMark N a0 a5 h).bind fun q4 =>
    if q4.1 = 0 then
      nX12_twice_145 N c27 (nX12_twice_46 N c27 n) a0 a1 a2 a3 a4 a5 a6 q4.2
    else
      (ra_fR q4.2 12 a0 3).bind fun x5 =>
      (ra_aI q4.2 0 x5 (((12 : Int32)) * a5)).bind fun x6 =>
      (ra_fR q4.2 12 a0 3).bind fun x7 =>
      (ra_aI q4.2 0 x7 (((12 : Int32)) * a6)).bind fun x8 =>
      if x6 = x8 then
        (ra_fR q4.2 12 a0 3).bind fun x9 =>
        (ra_aI q4.2 0 x9 ((((12 : Int32)) * a5) + ((1 : Int32)))).bind fun x10 =>
        (ra_fR q4.2 12 a0 3).bind fun x11 =>
        (ra_aI q4.2 0 x11 ((((12 : Int32)) * a6) + ((1 : Int32)))).bind fun x12 =>
        if x10 = x12 then
          if a3 = a2 then
            if a1 = ((1 : Int32)) then
              nX12_twice_140 N c27 (nX12_twice_46 N c27 n) a0 a1 a2 a3 a5 a6 a5 q4.2
            else
              nX12_twice_140 N c27 (nX12_twice_46 N c27 n) a0 a1 a2 a3 a5 a6 a6 q4.2
          else
            nX12_twice_140 N c27 (nX12_twice_46 N c27 n) a0 a1 a2 a3 a5 a6 a4 q4.2
        else
          nX12_twice_145 N c27 (nX12_twice_46 N c27 n) a0 a1 a2 a3 a4 a5 a6 q4.2
      else
        nX12_twice_145 N c27 (nX12_twice_46 N c27 n) a0 a1 a2 a3 a4 a5 a6 q4.2
  else
    let y3 := a5 + (1 : Int32)
    c27 a0 a1 a2 a3 a4 y3 h
def kX12_twice_46 (N : Nat) (c27 : Nat → Int32 → Int32 → Int32 → Int32 → Int32 → ra_H → Option (Int32 × ra_H)) (cs : Nat → Int32 → Int32 → Int32 → Int32 → Int32 → Int32 → ra_H → Option (Int32 × ra_H)) : Nat → List (Option Value) → List Value → ra_H → Option (Int32 × ra_H) := (ra_k1 27 (fun L S h => match L, S with
  | [some (.ref a0), some (.int a1), some (.int a2), some (.int a3), some (.int a4), some (.int a5), _], [] => c27 a0 a1 a2 a3 a4 a5 h
  | _, _ => none) (ra_k1 140 (fun L S h => match L, S with
  | [some (.ref a0), some (.int a1), some (.int a2), some (.int a3), _, some (.int a5), some (.int a6)], [.int b0] => nX12_twice_140 N c27 cs a0 a1 a2 a3 a5 a6 b0 h
  | _, _ => none) (ra_k1 145 (fun L S h => match L, S with
  | [some (.ref a0), some (.int a1), some (.int a2), some (.int a3), some (.int a4), some (.int a5), some (.int a6)], [] => nX12_twice_145 N c27 cs a0 a1 a2 a3 a4 a5 a6 h
  | _, _ => none) ra_k0)))
theorem kX12_twice_46_ok (N : Nat) (c27 : Nat → Int32 → Int32 → Int32 → Int32 → Int32 → ra_H → Option (Int32 × ra_H)) (hc27 : ∀ a0 a1 a2 a3 a4 a5 h r, c27 a0 a1 a2 a3 a4 a5 h = some r → ra_Ru 2 mX12_twice 27 [some (.ref a0), some (.int a1), some (.int a2), some (.int a3), some (.int a4), some (.int a5), none] [] h (ra_oI r)) (cs : Nat → Int32 → Int32 → Int32 → Int32 → Int32 → Int32 → ra_H → Option (Int32 × ra_H)) (hcs : ∀ a0 a1 a2 a3 a4 a5 a6 h r, cs a0 a1 a2 a3 a4 a5 a6 h = some r → ra_Ru 2 mX12_twice 46 [some (.ref a0), some (.int a1), some (.int a2), some (.int a3), some (.int a4), some (.int a5), some (.int a6)] [] h (ra_oI r)) : ra_kok 2 mX12_twice ra_oI (kX12_twice_46 N c27 cs) := (ra_k1_ok (by
  intro L S h a e
  split at e
  · exact ra_Ru.weak (hc27 _ _ _ _ _ _ _ _ e) ⟨rfl, ⟨rfl, ⟨rfl, ⟨rfl, ⟨rfl, ⟨rfl, trivial⟩⟩⟩⟩⟩⟩
  · cases e) (ra_k1_ok (by
  intro L S h a e
  split at e
  · exact ra_Ru.weak (nX12_twice_140_ok N c27 cs hc27 hcs _ _ _ _ _ _ _ _ _ e) ⟨rfl, ⟨rfl, ⟨rfl, ⟨rfl, ⟨rfl, ⟨rfl, trivial⟩⟩⟩⟩⟩⟩
  · cases e) (ra_k1_ok (by
  intro L S h a e
  split at e
  · exact ra_Ru.weak (nX12_twice_145_ok N c27 cs hc27 hcs _ _ _ _ _ _ _ _ _ e) ⟨rfl, ⟨rfl, ⟨rfl, ⟨rfl, ⟨rfl, ⟨rfl, ⟨rfl, trivial⟩⟩⟩⟩⟩⟩⟩
  · cases e) ra_k0_ok)))
set_option maxRecDepth 100000 in
theorem nX12_twice_46_ok (N : Nat) (c27 : Nat → Int32 → Int32 → Int32 → Int32 → Int32 → ra_H → Option (Int32 × ra_H)) (hc27 : ∀ a0 a1 a2 a3 a4 a5 h r, c27 a0 a1 a2 a3 a4 a5 h = some r → ra_Ru 2 mX12_twice 27 [some (.ref a0), some (.int a1), some (.int a2), some (.int a3), some (.int a4), some (.int a5), none] [] h (ra_oI r)) : ∀ n a0 a1 a2 a3 a4 a5 a6 h r, nX12_twice_46 N c27 n a0 a1 a2 a3 a4 a5 a6 h = some r → ra_Ru 2 mX12_twice 46 [some (.ref a0), some (.int a1), some (.int a2), some (.int a3), some (.int a4), some (.int a5), some (.int a6)] [] h (ra_oI r) := by
  intro n
  induction n with
  | zero => intro a0 a1 a2 a3 a4 a5 a6 h r e; cases e
  | succ n ih =>
    intro a0 a1 a2 a3 a4 a5 a6 h r e
    exact ra_sound (by omega) rfl ra_rI_ok (kX12_twice_46_ok N c27 hc27 (nX12_twice_46 N c27 n) ih) (fun m av h h1 e => (ra_c0_ok (ro := ra_oV)) m av h h1 e) (fun m av h x h1 e => (tIX12_twice_ok N) m av h (x, h1) e) (fun m av h x h1 e => (ra_c0_ok (ro := ra_oJ)) m av h (x, h1) e) (fun m av h x h1 e => (ra_c0_ok (ro := ra_oR)) m av h (x, h1) e) (fun m av h x h1 e => (ra_c0_ok (ro := ra_oN)) m av h (x, h1) e) (fun m av h x h1 e => (ra_c0_ok (ro := ra_oF)) m av h (x, h1) e) 54 lX12_twice_46 _ _ _ _ lX12_twice_46_ck (show ra_run ra_rI (kX12_twice_46 N c27 (nX12_twice_46 N c27 n)) ra_c0 (tIX12_twice N) ra_c0 ra_c0 ra_c0 ra_c0 54 lX12_twice_46 [some (.ref a0), some (.int a1), some (.int a2), some (.int a3), some (.int a4), some (.int a5), some (.int a6)] [] h = some r from e) _ _ rfl
def lX12_twice_167 : List ra_I := [(167, .ireturn, 1, 0, 0, 0, 0, 0, [])]
set_option maxRecDepth 100000 in
theorem lX12_twice_167_ck : lX12_twice_167.all (ra_ck mX12_twice 12) = true := by decide +kernel
def nX12_twice_167 (N : Nat) (b0 : Int32) (h : ra_H) : Option (Int32 × ra_H) :=
  some (b0, h)
def kX12_twice_167 (N : Nat) : Nat → List (Option Value) → List Value → ra_H → Option (Int32 × ra_H) := ra_k0
theorem kX12_twice_167_ok (N : Nat) : ra_kok 2 mX12_twice ra_oI (kX12_twice_167 N) := ra_k0_ok
set_option maxRecDepth 100000 in
theorem nX12_twice_167_ok (N : Nat) (b0 : Int32) (h : ra_H) (r : (Int32 × ra_H)) (e : nX12_twice_167 N b0 h = some r) : ra_Ru 2 mX12_twice 167 [none, none, none, none, none, none, none] [.int b0] h (ra_oI r) :=
  ra_sound (by omega) rfl ra_rI_ok (kX12_twice_167_ok N) (fun m av h h1 e => (ra_c0_ok (ro := ra_oV)) m av h h1 e) (fun m av h x h1 e => (tIX12_twice_ok N) m av h (x, h1) e) (fun m av h x h1 e => (ra_c0_ok (ro := ra_oJ)) m av h (x, h1) e) (fun m av h x h1 e => (ra_c0_ok (ro := ra_oR)) m av h (x, h1) e) (fun m av h x h1 e => (ra_c0_ok (ro := ra_oN)) m av h (x, h1) e) (fun m av h x h1 e => (ra_c0_ok (ro := ra_oF)) m av h (x, h1) e) 2 lX12_twice_167 _ _ _ _ lX12_twice_167_ck (show ra_run ra_rI (kX12_twice_167 N) ra_c0 (tIX12_twice N) ra_c0 ra_c0 ra_c0 ra_c0 2 lX12_twice_167 [none, none, none, none, none, none, none] [.int b0] h = some r from e) _ _ rfl
def lX12_twice_27 : List ra_I := [(27, .iload 5, 2, 5, 0, 0, 0, 0, []),
  (29, .aload_n 0, 1, 0, 0, 0, 0, 0, []),
  (30, .getfield 13, 3, 12, 3, 2, 0, 0, []),
  (33, .sipush (480), 3, 0, 0, 0, (480), 0, []),
  (36, .iaload, 1, 0, 0, 0, 0, 0, []),
  (37, .if_icmp .ge (120), 3, 157, 0, 0, 0, 0, []),
  (40, .iload 5, 2, 5, 0, 0, 0, 0, []),
  (42, .iconst (1), 1, 0, 0, 0, (1), 0, []),
  (43, .iadd, 1, 0, 0, 0, 0, 0, []),
  (44, .istore 6, 2, 6, 0, 0, 0, 0, []),
  (157, .iload_n 1, 1, 1, 0, 0, 0, 0, []),
  (158, .ifCond .ne (7), 3, 165, 0, 0, 0, 0, []),
  (161, .iload_n 3, 1, 3, 0, 0, 0, 0, []),
  (162, .goto (5), 3, 167, 0, 0, 0, 0, []),
  (165, .iload 4, 2, 4, 0, 0, 0, 0, [])]
set_option maxRecDepth 100000 in
theorem lX12_twice_27_ck : lX12_twice_27.all (ra_ck mX12_twice 12) = true := by decide +kernel
def nX12_twice_27 (N : Nat) : Nat → Nat → Int32 → Int32 → Int32 → Int32 → Int32 → ra_H → Option (Int32 × ra_H)
  | 0, _, _, _, _, _, _, _ => none
  | n + 1, a0, a1, a2, a3, a4, a5, h =>
  (ra_fR h 12 a0 3).bind fun x1 =>
  (ra_aI h 0 x1 ((480 : Int32))).bind fun x2 =>
  if a5 < x2 then
    let y3 := a5 + ((1 : Int32))
    nX12_twice_46 N (nX12_twice_27 N n) N a0 a1 a2 a3 a4 a5 y3 h
  else
    if a1 = 0 then
      nX12_twice_167 N a3 h
    else
      nX12_twice_167 N a4 h
def kX12_twice_27 (N : Nat) (cs : Nat → Int32 → Int32 → Int32 → Int32 → Int32 → ra_H → Option (Int32 × ra_H)) : Nat → List (Option Value) → List Value → ra_H → Option (Int32 × ra_H) := (ra_k1 46 (fun L S h => match L, S with
  | [some (.ref a0), some (.int a1), some (.int a2), some (.int a3), some (.int a4), some (.int a5), some (.int a6)], [] => nX12_twice_46 N cs N a0 a1 a2 a3 a4 a5 a6 h
  | _, _ => none) (ra_k1 167 (fun L S h => match L, S with
  | [_, _, _, _, _, _, _], [.int b0] => nX12_twice_167 N b0 h
  | _, _ => none) ra_k0))
theorem kX12_twice_27_ok (N : Nat) (cs : Nat → Int32 → Int32 → Int32 → Int32 → Int32 → ra_H → Option (Int32 × ra_H)) (hcs : ∀ a0 a1 a2 a3 a4 a5 h r, cs a0 a1 a2 a3 a4 a5 h = some r → ra_Ru 2 mX12_twice 27 [some (.ref a0), some (.int a1), some (.int a2), some (.int a3), some (.int a4), some (.int a5), none] [] h (ra_oI r)) : ra_kok 2 mX12_twice ra_oI (kX12_twice_27 N cs) := (ra_k1_ok (by
  intro L S h a e
  split at e
  · exact ra_Ru.weak (nX12_twice_46_ok N cs hcs N _ _ _ _ _ _ _ _ _ e) ⟨rfl, ⟨rfl, ⟨rfl, ⟨rfl, ⟨rfl, ⟨rfl, ⟨rfl, trivial⟩⟩⟩⟩⟩⟩⟩
  · cases e) (ra_k1_ok (by
  intro L S h a e
  split at e
  · exact ra_Ru.weak (nX12_twice_167_ok N _ _ _ e) trivial
  · cases e) ra_k0_ok))
set_option maxRecDepth 100000 in
theorem nX12_twice_27_ok (N : Nat) : ∀ n a0 a1 a2 a3 a4 a5 h r, nX12_twice_27 N n a0 a1 a2 a3 a4 a5 h = some r → ra_Ru 2 mX12_twice 27 [some (.ref a0), some (.int a1), some (.int a2), some (.int a3), some (.int a4), some (.int a5), none] [] h (ra_oI r) := by
  intro n
  induction n with
  | zero => intro a0 a1 a2 a3 a4 a5 h r e; cases e
  | succ n ih =>
    intro a0 a1 a2 a3 a4 a5 h r e
    exact ra_sound (by omega) rfl ra_rI_ok (kX12_twice_27_ok N (nX12_twice_27 N n) ih) (fun m av h h1 e => (ra_c0_ok (ro := ra_oV)) m av h h1 e) (fun m av h x h1 e => (tIX12_twice_ok N) m av h (x, h1) e) (fun m av h x h1 e => (ra_c0_ok (ro := ra_oJ)) m av h (x, h1) e) (fun m av h x h1 e => (ra_c0_ok (ro := ra_oR)) m av h (x, h1) e) (fun m av h x h1 e => (ra_c0_ok (ro := ra_oN)) m av h (x, h1) e) (fun m av h x h1 e => (ra_c0_ok (ro := ra_oF)) m av h (x, h1) e) 16 lX12_twice_27 _ _ _ _ lX12_twice_27_ck (show ra_run ra_rI (kX12_twice_27 N (nX12_twice_27 N n)) ra_c0 (tIX12_twice N) ra_c0 ra_c0 ra_c0 ra_c0 16 lX12_twice_27 [some (.ref a0), some (.int a1), some (.int a2), some (.int a3), some (.int a4), some (.int a5), none] [] h = some r from e) _ _ rfl
def lX12_twice_0 : List ra_I := [(0, .aload_n 0, 1, 0, 0, 0, 0, 0, []),
  (1, .iconst (0), 1, 0, 0, 0, (0), 0, []),
  (2, .putfield 147, 3, 12, 0, 0, 0, 0, []),
  (5, .iload_n 1, 1, 1, 0, 0, 0, 0, []),
  (6, .i2l, 1, 0, 0, 0, 0, 0, []),
  (7, .lconst 0, 1, 0, 0, 0, 0, 0, []),
  (8, .ldc2_w 173, 3, 0, 0, 0, 0, (2), []),
  (11, .invokestatic 153, 3, 209, 3, 1, 0, 0, []),
  (14, .ifCond .ne (5), 3, 19, 0, 0, 0, 0, []),
  (17, .iconst (-1), 1, 0, 0, 0, (-1), 0, []),
  (18, .ireturn, 1, 0, 0, 0, 0, 0, []),
  (19, .iconst (0), 1, 0, 0, 0, (0), 0, []),
  (20, .istore_n 3, 1, 3, 0, 0, 0, 0, []),
  (21, .iconst (-1), 1, 0, 0, 0, (-1), 0, []),
  (22, .istore 4, 2, 4, 0, 0, 0, 0, []),
  (24, .iconst (0), 1, 0, 0, 0, (0), 0, []),
  (25, .istore 5, 2, 5, 0, 0, 0, 0, [])]
set_option maxRecDepth 100000 in
theorem lX12_twice_0_ck : lX12_twice_0.all (ra_ck mX12_twice 12) = true := by decide +kernel
def nX12_twice_0 (N : Nat) (a0 : Nat) (a1 : Int32) (a2 : Int32) (h : ra_H) : Option (Int32 × ra_H) :=
  (ra_fW h 12 a0 0 (.int ((0 : Int32)))).bind fun h1 =>
  (fX12_in N (Int32.toInt64 a1) ((0 : Int64)) ((2 : Int64)) h1).bind fun q2 =>
  if q2.1 = 0 then
    some ((-1 : Int32), q2.2)
  else
    nX12_twice_27 N N a0 a1 a2 ((0 : Int32)) ((-1 : Int32)) ((0 : Int32)) q2.2
def kX12_twice_0 (N : Nat) : Nat → List (Option Value) → List Value → ra_H → Option (Int32 × ra_H) := (ra_k1 27 (fun L S h => match L, S with
  | [some (.ref a0), some (.int a1), some (.int a2), some (.int a3), some (.int a4), some (.int a5), _], [] => nX12_twice_27 N N a0 a1 a2 a3 a4 a5 h
  | _, _ => none) ra_k0)
theorem kX12_twice_0_ok (N : Nat) : ra_kok 2 mX12_twice ra_oI (kX12_twice_0 N) := (ra_k1_ok (by
  intro L S h a e
  split at e
  · exact ra_Ru.weak (nX12_twice_27_ok N N _ _ _ _ _ _ _ _ e) ⟨rfl, ⟨rfl, ⟨rfl, ⟨rfl, ⟨rfl, ⟨rfl, trivial⟩⟩⟩⟩⟩⟩
  · cases e) ra_k0_ok)
set_option maxRecDepth 100000 in
theorem nX12_twice_0_ok (N : Nat) (a0 : Nat) (a1 : Int32) (a2 : Int32) (h : ra_H) (r : (Int32 × ra_H)) (e : nX12_twice_0 N a0 a1 a2 h = some r) : ra_Ru 2 mX12_twice 0 [some (.ref a0), some (.int a1), some (.int a2), none, none, none, none] [] h (ra_oI r) :=
  ra_sound (by omega) rfl ra_rI_ok (kX12_twice_0_ok N) (fun m av h h1 e => (ra_c0_ok (ro := ra_oV)) m av h h1 e) (fun m av h x h1 e => (tIX12_twice_ok N) m av h (x, h1) e) (fun m av h x h1 e => (ra_c0_ok (ro := ra_oJ)) m av h (x, h1) e) (fun m av h x h1 e => (ra_c0_ok (ro := ra_oR)) m av h (x, h1) e) (fun m av h x h1 e => (ra_c0_ok (ro := ra_oN)) m av h (x, h1) e) (fun m av h x h1 e => (ra_c0_ok (ro := ra_oF)) m av h (x, h1) e) 18 lX12_twice_0 _ _ _ _ lX12_twice_0_ck (show ra_run ra_rI (kX12_twice_0 N) ra_c0 (tIX12_twice N) ra_c0 ra_c0 ra_c0 ra_c0 18 lX12_twice_0 [some (.ref a0), some (.int a1), some (.int a2), none, none, none, none] [] h = some r from e) _ _ rfl
def fX12_twice (N : Nat) (p0 : Nat) (p1 : Int32) (p2 : Int32) (h : ra_H) : Option (Int32 × ra_H) := match ra_isOb h p0 12 with
  | true => nX12_twice_0 N p0 p1 p2 h
  | false => none
set_option maxRecDepth 100000 in
theorem mtX12_twice : ra_MT[303]? = some (mX12_twice, 1, 2, (1, 13), (9, 11), (9, 12)) := rfl
theorem fX12_twice_co (N : Nat) (p0 : Nat) (p1 : Int32) (p2 : Int32) (h : ra_H) (r : (Int32 × ra_H)) (e : fX12_twice N p0 p1 p2 h = some r) (D : Nat) (hD : 3 ≤ D) : ra_CO D 303 [.ref p0, .int p1, .int p2] h (ra_oI r).1 (ra_oI r).2 := by
  have hw : ra_nw2 [.ref p0, .int p1, .int p2] ≤ 7 := Nat.le_of_ble_eq_true rfl
  have hdb : ∀ v ∈ ([.ref p0, .int p1, .int p2] : List Value), ∀ x, v ≠ .double x := by
    intro v hv x hx
    simp [hx] at hv
  unfold fX12_twice at e
  split at e
  · rename_i ho
    have e1 := e
    exact ⟨2, _, mtX12_twice, hD, ra_ev_of (by decide) hdb hw trivial (ra_Ru.weak (nX12_twice_0_ok N p0 p1 p2 h _ e1) ⟨rfl, ⟨rfl, ⟨rfl, trivial⟩⟩⟩), (fun _ => ⟨_, _, rfl, ra_rcv_of ho (by decide) rfl⟩), (fun h => absurd h (by decide))⟩
  · cases e
/-! RedMarksModel.untrue(III)I -/
def mX12_untrue : ra_M := (yX12_untrue, cX12_untrue, 7, (some .int))
def tVX12_untrue (N : Nat) : Nat → List Value → ra_H → Option ra_H := (ra_c1 259 (fun av h => match av with
  | [.ref z0, .int z1, .int z2, .int z3] => fX12_ask N z0 z1 z2 z3 h
  | _ => none) ra_c0)
theorem tVX12_untrue_ok (N : Nat) : ra_cok 5 ra_oV (tVX12_untrue N) := (ra_c1_ok (by
  intro av h a e
  split at e
  · exact fX12_ask_co N _ _ _ _ _ _ e 5 (by omega)
  · cases e) ra_c0_ok)
def tIX12_untrue (N : Nat) : Nat → List Value → ra_H → Option (Int32 × ra_H) := (ra_c1 209 (fun av h => match av with
  | [.long z0, .long z1, .long z2] => fX12_in N z0 z1 z2 h
  | _ => none) (ra_c1 256 (fun av h => match av with
  | [.ref z0, .int z1] => fX12_isText N z0 z1 h
  | _ => none) ra_c0))
theorem tIX12_untrue_ok (N : Nat) : ra_cok 5 ra_oI (tIX12_untrue N) := (ra_c1_ok (by
  intro av h a e
  split at e
  · exact fX12_in_co N _ _ _ _ _ e 5 (by omega)
  · cases e) (ra_c1_ok (by
  intro av h a e
  split at e
  · exact fX12_isText_co N _ _ _ _ e 5 (by omega)
  · cases e) ra_c0_ok))
def lX12_untrue_23 : List ra_I := [(23, .iconst (-1), 1, 0, 0, 0, (-1), 0, []),
  (24, .ireturn, 1, 0, 0, 0, 0, 0, [])]
set_option maxRecDepth 100000 in
theorem lX12_untrue_23_ck : lX12_untrue_23.all (ra_ck mX12_untrue 12) = true := by decide +kernel
def nX12_untrue_23 (N : Nat) (h : ra_H) : Option (Int32 × ra_H) :=
  some ((-1 : Int32), h)
def kX12_untrue_23 (N : Nat) : Nat → List (Option Value) → List Value → ra_H → Option (Int32 × ra_H) := ra_k0
theorem kX12_untrue_23_ok (N : Nat) : ra_kok 5 mX12_untrue ra_oI (kX12_untrue_23 N) := ra_k0_ok
set_option maxRecDepth 100000 in
theorem nX12_untrue_23_ok (N : Nat) (h : ra_H) (r : (Int32 × ra_H)) (e : nX12_untrue_23 N h = some r) : ra_Ru 5 mX12_untrue 23 [none, none, none, none, none, none, none] [] h (ra_oI r) :=
  ra_sound (by omega) rfl ra_rI_ok (kX12_untrue_23_ok N) (fun m av h h1 e => (tVX12_untrue_ok N) m av h h1 e) (fun m av h x h1 e => (tIX12_untrue_ok N) m av h (x, h1) e) (fun m av h x h1 e => (ra_c0_ok (ro := ra_oJ)) m av h (x, h1) e) (fun m av h x h1 e => (ra_c0_ok (ro := ra_oR)) m av h (x, h1) e) (fun m av h x h1 e => (ra_c0_ok (ro := ra_oN)) m av h (x, h1) e) (fun m av h x h1 e => (ra_c0_ok (ro := ra_oF)) m av h (x, h1) e) 3 lX12_untrue_23 _ _ _ _ lX12_untrue_23_ck (show ra_run ra_rI (kX12_untrue_23 N) (tVX12_untrue N) (tIX12_untrue N) ra_c0 ra_c0 ra_c0 ra_c0 3 lX12_untrue_23 [none, none, none, none, none, none, none] [] h = some r from e) _ _ rfl
def lX12_untrue_80 : List ra_I := [(80, .iinc 6 (1), 3, 6, 0, 0, (1), 0, []),
  (83, .goto (-49), 3, 34, 0, 0, 0, 0, [])]
set_option maxRecDepth 100000 in
theorem lX12_untrue_80_ck : lX12_untrue_80.all (ra_ck mX12_untrue 12) = true := by decide +kernel
def nX12_untrue_80 (N : Nat) (c34 : Nat → Int32 → Int32 → Int32 → Int32 → Int32 → Int32 → ra_H → Option (Int32 × ra_H)) (a0 : Nat) (a1 : Int32) (a2 : Int32) (a3 : Int32) (a4 : Int32) (a5 : Int32) (a6 : Int32) (h : ra_H) : Option (Int32 × ra_H) :=
  let y1 := a6 + (1 : Int32)
  c34 a0 a1 a2 a3 a4 a5 y1 h
def kX12_untrue_80 (N : Nat) (c34 : Nat → Int32 → Int32 → Int32 → Int32 → Int32 → Int32 → ra_H → Option (Int32 × ra_H)) : Nat → List (Option Value) → List Value → ra_H → Option (Int32 × ra_H) := (ra_k1 34 (fun L S h => match L, S with
  | [some (.ref a0), some (.int a1), some (.int a2), some (.int a3), some (.int a4), some (.int a5), some (.int a6)], [] => c34 a0 a1 a2 a3 a4 a5 a6 h
  | _, _ => none) ra_k0)
theorem kX12_untrue_80_ok (N : Nat) (c34 : Nat → Int32 → Int32 → Int32 → Int32 → Int32 → Int32 → ra_H → Option (Int32 × ra_H)) (hc34 : ∀ a0 a1 a2 a3 a4 a5 a6 h r, c34 a0 a1 a2 a3 a4 a5 a6 h = some r → ra_Ru 5 mX12_untrue 34 [some (.ref a0), some (.int a1), some (.int a2), some (.int a3), some (.int a4), some (.int a5), some (.int a6)] [] h (ra_oI r)) : ra_kok 5 mX12_untrue ra_oI (kX12_untrue_80 N c34) := (ra_k1_ok (by
  intro L S h a e
  split at e
  · exact ra_Ru.weak (hc34 _ _ _ _ _ _ _ _ _ e) ⟨rfl, ⟨rfl, ⟨rfl, ⟨rfl, ⟨rfl, ⟨rfl, ⟨rfl, trivial⟩⟩⟩⟩⟩⟩⟩
  · cases e) ra_k0_ok)
set_option maxRecDepth 100000 in
theorem nX12_untrue_80_ok (N : Nat) (c34 : Nat → Int32 → Int32 → Int32 → Int32 → Int32 → Int32 → ra_H → Option (Int32 × ra_H)) (hc34 : ∀ a0 a1 a2 a3 a4 a5 a6 h r, c34 a0 a1 a2 a3 a4 a5 a6 h = some r → ra_Ru 5 mX12_untrue 34 [some (.ref a0), some (.int a1), some (.int a2), some (.int a3), some (.int a4), some (.int a5), some (.int a6)] [] h (ra_oI r)) (a0 : Nat) (a1 : Int32) (a2 : Int32) (a3 : Int32) (a4 : Int32) (a5 : Int32) (a6 : Int32) (h : ra_H) (r : (Int32 × ra_H)) (e : nX12_untrue_80 N c34 a0 a1 a2 a3 a4 a5 a6 h = some r) : ra_Ru 5 mX12_untrue 80 [some (.ref a0), some (.int a1), some (.int a2), some (.int a3), some (.int a4), some (.int a5), some (.int a6)] [] h (ra_oI r) :=
  ra_sound (by omega) rfl ra_rI_ok (kX12_untrue_80_ok N c34 hc34) (fun m av h h1 e => (tVX12_untrue_ok N) m av h h1 e) (fun m av h x h1 e => (tIX12_untrue_ok N) m av h (x, h1) e) (fun m av h x h1 e => (ra_c0_ok (ro := ra_oJ)) m av h (x, h1) e) (fun m av h x h1 e => (ra_c0_ok (ro := ra_oR)) m av h (x, h1) e) (fun m av h x h1 e => (ra_c0_ok (ro := ra_oN)) m av h (x, h1) e) (fun m av h x h1 e => (ra_c0_ok (ro := ra_oF)) m av h (x, h1) e) 3 lX12_untrue_80 _ _ _ _ lX12_untrue_80_ck (show ra_run ra_rI (kX12_untrue_80 N c34) (tVX12_untrue N) (tIX12_untrue N) ra_c0 ra_c0 ra_c0 ra_c0 3 lX12_untrue_80 [some (.ref a0), some (.int a1), some (.int a2), some (.int a3), some (.int a4), some (.int a5), some (.int a6)] [] h = some r from e) _ _ rfl
def lX12_untrue_75 : List ra_I := [(75, .istore 5, 2, 5, 0, 0, 0, 0, []),
  (77, .iinc 4 (1), 3, 4, 0, 0, (1), 0, [])]
set_option maxRecDepth 100000 in
theorem lX12_untrue_75_ck : lX12_untrue_75.all (ra_ck mX12_untrue 12) = true := by decide +kernel
def nX12_untrue_75 (N : Nat) (c34 : Nat → Int32 → Int32 → Int32 → Int32 → Int32 → Int32 → ra_H → Option (Int32 × ra_H)) (a0 : Nat) (a1 : Int32) (a2 : Int32) (a3 : Int32) (a4 : Int32) (a6 : Int32) (b0 : Int32) (h : ra_H) : Option (Int32 × ra_H) :=
  let y1 := a4 + (1 : Int32)
  nX12_untrue_80 N c34 a0 a1 a2 a3 y1 b0 a6 h
def kX12_untrue_75 (N : Nat) (c34 : Nat → Int32 → Int32 → Int32 → Int32 → Int32 → Int32 → ra_H → Option (Int32 × ra_H)) : Nat → List (Option Value) → List Value → ra_H → Option (Int32 × ra_H) := (ra_k1 80 (fun L S h => match L, S with
  | [some (.ref a0), some (.int a1), some (.int a2), some (.int a3), some (.int a4), some (.int a5), some (.int a6)], [] => nX12_untrue_80 N c34 a0 a1 a2 a3 a4 a5 a6 h
  | _, _ => none) ra_k0)
theorem kX12_untrue_75_ok (N : Nat) (c34 : Nat → Int32 → Int32 → Int32 → Int32 → Int32 → Int32 → ra_H → Option (Int32 × ra_H)) (hc34 : ∀ a0 a1 a2 a3 a4 a5 a6 h r, c34 a0 a1 a2 a3 a4 a5 a6 h = some r → ra_Ru 5 mX12_untrue 34 [some (.ref a0), some (.int a1), some (.int a2), some (.int a3), some (.int a4), some (.int a5), some (.int a6)] [] h (ra_oI r)) : ra_kok 5 mX12_untrue ra_oI (kX12_untrue_75 N c34) := (ra_k1_ok (by
  intro L S h a e
  split at e
  · exact ra_Ru.weak (nX12_untrue_80_ok N c34 hc34 _ _ _ _ _ _ _ _ _ e) ⟨rfl, ⟨rfl, ⟨rfl, ⟨rfl, ⟨rfl, ⟨rfl, ⟨rfl, trivial⟩⟩⟩⟩⟩⟩⟩
  · cases e) ra_k0_ok)
set_option maxRecDepth 100000 in
theorem nX12_untrue_75_ok (N : Nat) (c34 : Nat → Int32 → Int32 → Int32 → Int32 → Int32 → Int32 → ra_H → Option (Int32 × ra_H)) (hc34 : ∀ a0 a1 a2 a3 a4 a5 a6 h r, c34 a0 a1 a2 a3 a4 a5 a6 h = some r → ra_Ru 5 mX12_untrue 34 [some (.ref a0), some (.int a1), some (.int a2), some (.int a3), some (.int a4), some (.int a5), some (.int a6)] [] h (ra_oI r)) (a0 : Nat) (a1 : Int32) (a2 : Int32) (a3 : Int32) (a4 : Int32) (a6 : Int32) (b0 : Int32) (h : ra_H) (r : (Int32 × ra_H)) (e : nX12_untrue_75 N c34 a0 a1 a2 a3 a4 a6 b0 h = some r) : ra_Ru 5 mX12_untrue 75 [some (.ref a0), some (.int a1), some (.int a2), some (.int a3), some (.int a4), none, some (.int a6)] [.int b0] h (ra_oI r) :=
  ra_sound (by omega) rfl ra_rI_ok (kX12_untrue_75_ok N c34 hc34) (fun m av h h1 e => (tVX12_untrue_ok N) m av h h1 e) (fun m av h x h1 e => (tIX12_untrue_ok N) m av h (x, h1) e) (fun m av h x h1 e => (ra_c0_ok (ro := ra_oJ)) m av h (x, h1) e) (fun m av h x h1 e => (ra_c0_ok (ro := ra_oR)) m av h (x, h1) e) (fun m av h x h1 e => (ra_c0_ok (ro := ra_oN)) m av h (x, h1) e) (fun m av h x h1 e => (ra_c0_ok (ro := ra_oF)) m av h (x, h1) e) 3 lX12_untrue_75 _ _ _ _ lX12_untrue_75_ck (show ra_run ra_rI (kX12_untrue_75 N c34) (tVX12_untrue N) (tIX12_untrue N) ra_c0 ra_c0 ra_c0 ra_c0 3 lX12_untrue_75 [some (.ref a0), some (.int a1), some (.int a2), some (.int a3), some (.int a4), none, some (.int a6)] [.int b0] h = some r from e) _ _ rfl
def lX12_untrue_97 : List ra_I := [(97, .ireturn, 1, 0, 0, 0, 0, 0, [])]
set_option maxRecDepth 100000 in
theorem lX12_untrue_97_ck : lX12_untrue_97.all (ra_ck mX12_untrue 12) = true := by decide +kernel
def nX12_untrue_97 (N : Nat) (b0 : Int32) (h : ra_H) : Option (Int32 × ra_H) :=
  some (b0, h)
def kX12_untrue_97 (N : Nat) : Nat → List (Option Value) → List Value → ra_H → Option (Int32 × ra_H) := ra_k0
theorem kX12_untrue_97_ok (N : Nat) : ra_kok 5 mX12_untrue ra_oI (kX12_untrue_97 N) := ra_k0_ok
set_option maxRecDepth 100000 in
theorem nX12_untrue_97_ok (N : Nat) (b0 : Int32) (h : ra_H) (r : (Int32 × ra_H)) (e : nX12_untrue_97 N b0 h = some r) : ra_Ru 5 mX12_untrue 97 [none, none, none, none, none, none, none] [.int b0] h (ra_oI r) :=
  ra_sound (by omega) rfl ra_rI_ok (kX12_untrue_97_ok N) (fun m av h h1 e => (tVX12_untrue_ok N) m av h h1 e) (fun m av h x h1 e => (tIX12_untrue_ok N) m av h (x, h1) e) (fun m av h x h1 e => (ra_c0_ok (ro := ra_oJ)) m av h (x, h1) e) (fun m av h x h1 e => (ra_c0_ok (ro := ra_oR)) m av h (x, h1) e) (fun m av h x h1 e => (ra_c0_ok (ro := ra_oN)) m av h (x, h1) e) (fun m av h x h1 e => (ra_c0_ok (ro := ra_oF)) m av h (x, h1) e) 2 lX12_untrue_97 _ _ _ _ lX12_untrue_97_ck (show ra_run ra_rI (kX12_untrue_97 N) (tVX12_untrue N) (tIX12_untrue N) ra_c0 ra_c0 ra_c0 ra_c0 2 lX12_untrue_97 [none, none, none, none, none, none, none] [.int b0] h = some r from e) _ _ rfl
def lX12_untrue_34 : List ra_I := [(34, .iload 6, 2, 6, 0, 0, 0, 0, []),
  (36, .aload_n 0, 1, 0, 0, 0, 0, 0, []),
  (37, .getfield 13, 3, 12, 3, 2, 0, 0, []),
  (40, .sipush (480), 3, 0, 0, 0, (480), 0, []),
  (43, .iaload, 1, 0, 0, 0, 0, 0, []),
  (44, .if_icmp .ge (42), 3, 86, 0, 0, 0, 0, []),
  (47, .aload_n 0, 1, 0, 0, 0, 0, 0, []),
  (48, .iload_n 1, 1, 1, 0, 0, 0, 0, []),
  (49, .iload 6, 2, 6, 0, 0, 0, 0, []),
  (51, .iconst (4), 1, 0, 0, 0, (4), 0, []),
  (52, .invokevirtual 396, 3, 259, 4, 0, 0, 0, []),
  (55, .aload_n 0, 1, 0, 0, 0, 0, 0, []),
  (56, .getfield 384, 3, 12, 33, 0, 0, 0, []),
  (59, .ifCond .eq (21), 3, 80, 0, 0, 0, 0, []),
  (62, .iload 4, 2, 4, 0, 0, 0, 0, []),
  (64, .iload_n 3, 1, 3, 0, 0, 0, 0, []),
  (65, .if_icmp .ne (8), 3, 73, 0, 0, 0, 0, []),
  (68, .iload 6, 2, 6, 0, 0, 0, 0, []),
  (70, .goto (5), 3, 75, 0, 0, 0, 0, []),
  (73, .iload 5, 2, 5, 0, 0, 0, 0, []),
  (86, .iload_n 2, 1, 2, 0, 0, 0, 0, []),
  (87, .ifCond .ne (8), 3, 95, 0, 0, 0, 0, []),
  (90, .iload 4, 2, 4, 0, 0, 0, 0, []),
  (92, .goto (5), 3, 97, 0, 0, 0, 0, []),
  (95, .iload 5, 2, 5, 0, 0, 0, 0, [])]
set_option maxRecDepth 100000 in
theorem lX12_untrue_34_ck : lX12_untrue_34.all (ra_ck mX12_untrue 12) = true := by decide +kernel
def nX12_untrue_34 (N : Nat) : Nat → Nat → Int32 → Int32 → Int32 → Int32 → Int32 → Int32 → ra_H → Option (Int32 × ra_H)
  | 0, _, _, _, _, _, _, _, _ => none
  | n + 1, a0, a1, a2, a3, a4, a5, a6, h =>
  (ra_fR h 12 a0 3).bind fun x1 =>
  (ra_aI h 0 x1 ((480 : Int32))).bind fun x2 =>
  if a6 < x2 then
    (fX12_ask N a0 a1 a6 ((4 : Int32)) h).bind fun h3 =>
    (ra_fI h3 12 a0 33).bind fun x4 =>
    if x4 = 0 then
      nX12_untrue_80 N (nX12_untrue_34 N n) a0 a1 a2 a3 a4 a5 a6 h3
    else
      if a4 = a3 then
        nX12_untrue_75 N (nX12_untrue_34 N n) a0 a1 a2 a3 a4 a6 a6 h3
      else
        nX12_untrue_75 N (nX12_untrue_34 N n) a0 a1 a2 a3 a4 a6 a5 h3
  else
    if a2 = 0 then
      nX12_untrue_97 N a4 h
    else
      nX12_untrue_97 N a5 h
def kX12_untrue_34 (N : Nat) (cs : Nat → Int32 → Int32 → Int32 → Int32 → Int32 → Int32 → ra_H → Option (Int32 × ra_H)) : Nat → List (Option Value) → List Value → ra_H → Option (Int32 × ra_H) := (ra_k1 75 (fun L S h => match L, S with
  | [some (.ref a0), some (.int a1), some (.int a2), some (.int a3), some (.int a4), _, some (.int a6)], [.int b0] => nX12_untrue_75 N cs a0 a1 a2 a3 a4 a6 b0 h
  | _, _ => none) (ra_k1 80 (fun L S h => match L, S with
  | [some (.ref a0), some (.int a1), some (.int a2), some (.int a3), some (.int a4), some (.int a5), some (.int a6)], [] => nX12_untrue_80 N cs a0 a1 a2 a3 a4 a5 a6 h
  | _, _ => none) (ra_k1 97 (fun L S h => match L, S with
  | [_, _, _, _, _, _, _], [.int b0] => nX12_untrue_97 N b0 h
  | _, _ => none) ra_k0)))
theorem kX12_untrue_34_ok (N : Nat) (cs : Nat → Int32 → Int32 → Int32 → Int32 → Int32 → Int32 → ra_H → Option (Int32 × ra_H)) (hcs : ∀ a0 a1 a2 a3 a4 a5 a6 h r, cs a0 a1 a2 a3 a4 a5 a6 h = some r → ra_Ru 5 mX12_untrue 34 [some (.ref a0), some (.int a1), some (.int a2), some (.int a3), some (.int a4), some (.int a5), some (.int a6)] [] h (ra_oI r)) : ra_kok 5 mX12_untrue ra_oI (kX12_untrue_34 N cs) := (ra_k1_ok (by
  intro L S h a e
  split at e
  · exact ra_Ru.weak (nX12_untrue_75_ok N cs hcs _ _ _ _ _ _ _ _ _ e) ⟨rfl, ⟨rfl, ⟨rfl, ⟨rfl, ⟨rfl, ⟨rfl, trivial⟩⟩⟩⟩⟩⟩
  · cases e) (ra_k1_ok (by
  intro L S h a e
  split at e
  · exact ra_Ru.weak (nX12_untrue_80_ok N cs hcs _ _ _ _ _ _ _ _ _ e) ⟨rfl, ⟨rfl, ⟨rfl, ⟨rfl, ⟨rfl, ⟨rfl, ⟨rfl, trivial⟩⟩⟩⟩⟩⟩⟩
  · cases e) (ra_k1_ok (by
  intro L S h a e
  split at e
  · exact ra_Ru.weak (nX12_untrue_97_ok N _ _ _ e) trivial
  · cases e) ra_k0_ok)))
set_option maxRecDepth 100000 in
theorem nX12_untrue_34_ok (N : Nat) : ∀ n a0 a1 a2 a3 a4 a5 a6 h r, nX12_untrue_34 N n a0 a1 a2 a3 a4 a5 a6 h = some r → ra_Ru 5 mX12_untrue 34 [some (.ref a0), some (.int a1), some (.int a2), some (.int a3), some (.int a4), some (.int a5), some (.int a6)] [] h (ra_oI r) := by
  intro n
  induction n with
  | zero => intro a0 a1 a2 a3 a4 a5 a6 h r e; cases e
  | succ n ih =>
    intro a0 a1 a2 a3 a4 a5 a6 h r e
    exact ra_sound (by omega) rfl ra_rI_ok (kX12_untrue_34_ok N (nX12_untrue_34 N n) ih) (fun m av h h1 e => (tVX12_untrue_ok N) m av h h1 e) (fun m av h x h1 e => (tIX12_untrue_ok N) m av h (x, h1) e) (fun m av h x h1 e => (ra_c0_ok (ro := ra_oJ)) m av h (x, h1) e) (fun m av h x h1 e => (ra_c0_ok (ro := ra_oR)) m av h (x, h1) e) (fun m av h x h1 e => (ra_c0_ok (ro := ra_oN)) m av h (x, h1) e) (fun m av h x h1 e => (ra_c0_ok (ro := ra_oF)) m av h (x, h1) e) 26 lX12_untrue_34 _ _ _ _ lX12_untrue_34_ck (show ra_run ra_rI (kX12_untrue_34 N (nX12_untrue_34 N n)) (tVX12_untrue N) (tIX12_untrue N) ra_c0 ra_c0 ra_c0 ra_c0 26 lX12_untrue_34 [some (.ref a0), some (.int a1), some (.int a2), some (.int a3), some (.int a4), some (.int a5), some (.int a6)] [] h = some r from e) _ _ rfl
def lX12_untrue_0 : List ra_I := [(0, .aload_n 0, 1, 0, 0, 0, 0, 0, []),
  (1, .iconst (0), 1, 0, 0, 0, (0), 0, []),
  (2, .putfield 147, 3, 12, 0, 0, 0, 0, []),
  (5, .aload_n 0, 1, 0, 0, 0, 0, 0, []),
  (6, .iload_n 1, 1, 1, 0, 0, 0, 0, []),
  (7, .invokevirtual 403, 3, 256, 2, 1, 0, 0, []),
  (10, .ifCond .eq (13), 3, 23, 0, 0, 0, 0, []),
  (13, .iload_n 2, 1, 2, 0, 0, 0, 0, []),
  (14, .i2l, 1, 0, 0, 0, 0, 0, []),
  (15, .lconst 0, 1, 0, 0, 0, 0, 0, []),
  (16, .lconst 1, 1, 0, 0, 0, 0, 1, []),
  (17, .invokestatic 153, 3, 209, 3, 1, 0, 0, []),
  (20, .ifCond .ne (5), 3, 25, 0, 0, 0, 0, []),
  (25, .iconst (0), 1, 0, 0, 0, (0), 0, []),
  (26, .istore 4, 2, 4, 0, 0, 0, 0, []),
  (28, .iconst (-1), 1, 0, 0, 0, (-1), 0, []),
  (29, .istore 5, 2, 5, 0, 0, 0, 0, []),
  (31, .iconst (0), 1, 0, 0, 0, (0), 0, []),
  (32, .istore 6, 2, 6, 0, 0, 0, 0, [])]
set_option maxRecDepth 100000 in
theorem lX12_untrue_0_ck : lX12_untrue_0.all (ra_ck mX12_untrue 12) = true := by decide +kernel
def nX12_untrue_0 (N : Nat) (a0 : Nat) (a1 : Int32) (a2 : Int32) (a3 : Int32) (h : ra_H) : Option (Int32 × ra_H) :=
  (ra_fW h 12 a0 0 (.int ((0 : Int32)))).bind fun h1 =>
  (fX12_isText N a0 a1 h1).bind fun q2 =>
  if q2.1 = 0 then
    nX12_untrue_23 N q2.2
  else
    (fX12_in N (Int32.toInt64 a2) ((0 : Int64)) ((1 : Int64)) q2.2).bind fun q3 =>
    if q3.1 = 0 then
      nX12_untrue_23 N q3.2
    else
      nX12_untrue_34 N N a0 a1 a2 a3 ((0 : Int32)) ((-1 : Int32)) ((0 : Int32)) q3.2
def kX12_untrue_0 (N : Nat) : Nat → List (Option Value) → List Value → ra_H → Option (Int32 × ra_H) := (ra_k1 23 (fun L S h => match L, S with
  | [_, _, _, _, _, _, _], [] => nX12_untrue_23 N h
  | _, _ => none) (ra_k1 34 (fun L S h => match L, S with
  | [some (.ref a0), some (.int a1), some (.int a2), some (.int a3), some (.int a4), some (.int a5), some (.int a6)], [] => nX12_untrue_34 N N a0 a1 a2 a3 a4 a5 a6 h
  | _, _ => none) ra_k0))
theorem kX12_untrue_0_ok (N : Nat) : ra_kok 5 mX12_untrue ra_oI (kX12_untrue_0 N) := (ra_k1_ok (by
  intro L S h a e
  split at e
  · exact ra_Ru.weak (nX12_untrue_23_ok N _ _ e) trivial
  · cases e) (ra_k1_ok (by
  intro L S h a e
  split at e
  · exact ra_Ru.weak (nX12_untrue_34_ok N N _ _ _ _ _ _ _ _ _ e) ⟨rfl, ⟨rfl, ⟨rfl, ⟨rfl, ⟨rfl, ⟨rfl, ⟨rfl, trivial⟩⟩⟩⟩⟩⟩⟩
  · cases e) ra_k0_ok))
set_option maxRecDepth 100000 in
theorem nX12_untrue_0_ok (N : Nat) (a0 : Nat) (a1 : Int32) (a2 : Int32) (a3 : Int32) (h : ra_H) (r : (Int32 × ra_H)) (e : nX12_untrue_0 N a0 a1 a2 a3 h = some r) : ra_Ru 5 mX12_untrue 0 [some (.ref a0), some (.int a1), some (.int a2), some (.int a3), none, none, none] [] h (ra_oI r) :=
  ra_sound (by omega) rfl ra_rI_ok (kX12_untrue_0_ok N) (fun m av h h1 e => (tVX12_untrue_ok N) m av h h1 e) (fun m av h x h1 e => (tIX12_untrue_ok N) m av h (x, h1) e) (fun m av h x h1 e => (ra_c0_ok (ro := ra_oJ)) m av h (x, h1) e) (fun m av h x h1 e => (ra_c0_ok (ro := ra_oR)) m av h (x, h1) e) (fun m av h x h1 e => (ra_c0_ok (ro := ra_oN)) m av h (x, h1) e) (fun m av h x h1 e => (ra_c0_ok (ro := ra_oF)) m av h (x, h1) e) 20 lX12_untrue_0 _ _ _ _ lX12_untrue_0_ck (show ra_run ra_rI (kX12_untrue_0 N) (tVX12_untrue N) (tIX12_untrue N) ra_c0 ra_c0 ra_c0 ra_c0 20 lX12_untrue_0 [some (.ref a0), some (.int a1), some (.int a2), some (.int a3), none, none, none] [] h = some r from e) _ _ rfl
def fX12_untrue (N : Nat) (p0 : Nat) (p1 : Int32) (p2 : Int32) (p3 : Int32) (h : ra_H) : Option (Int32 × ra_H) := match ra_isOb h p0 12 with
  | true => nX12_untrue_0 N p0 p1 p2 p3 h
  | false => none
set_option maxRecDepth 100000 in
theorem mtX12_untrue : ra_MT[302]? = some (mX12_untrue, 1, 3, (1, 13), (9, 7), (9, 8)) := rfl
theorem fX12_untrue_co (N : Nat) (p0 : Nat) (p1 : Int32) (p2 : Int32) (p3 : Int32) (h : ra_H) (r : (Int32 × ra_H)) (e : fX12_untrue N p0 p1 p2 p3 h = some r) (D : Nat) (hD : 6 ≤ D) : ra_CO D 302 [.ref p0, .int p1, .int p2, .int p3] h (ra_oI r).1 (ra_oI r).2 := by
  have hw : ra_nw2 [.ref p0, .int p1, .int p2, .int p3] ≤ 7 := Nat.le_of_ble_eq_true rfl
  have hdb : ∀ v ∈ ([.ref p0, .int p1, .int p2, .int p3] : List Value), ∀ x, v ≠ .double x := by
    intro v hv x hx
    simp [hx] at hv
  unfold fX12_untrue at e
  split at e
  · rename_i ho
    have e1 := e
    exact ⟨5, _, mtX12_untrue, hD, ra_ev_of (by decide) hdb hw trivial (ra_Ru.weak (nX12_untrue_0_ok N p0 p1 p2 p3 h _ e1) ⟨rfl, ⟨rfl, ⟨rfl, ⟨rfl, trivial⟩⟩⟩⟩), (fun _ => ⟨_, _, rfl, ra_rcv_of ho (by decide) rfl⟩), (fun h => absurd h (by decide))⟩
  · cases e
/-! RedMarksModel.wanting(III)I -/
def mX12_wanting : ra_M := (yX12_wanting, cX12_wanting, 11, (some .int))
def tIX12_wanting (N : Nat) : Nat → List Value → ra_H → Option (Int32 × ra_H) := (ra_c1 209 (fun av h => match av with
  | [.long z0, .long z1, .long z2] => fX12_in N z0 z1 z2 h
  | _ => none) ra_c0)
theorem tIX12_wanting_ok (N : Nat) : ra_cok 2 ra_oI (tIX12_wanting N) := (ra_c1_ok (by
  intro av h a e
  split at e
  · exact fX12_in_co N _ _ _ _ _ e 2 (by omega)
  · cases e) ra_c0_ok)
def lX12_wanting_29 : List ra_I := [(29, .iconst (-1), 1, 0, 0, 0, (-1), 0, []),
  (30, .ireturn, 1, 0, 0, 0, 0, 0, [])]
set_option maxRecDepth 100000 in
theorem lX12_wanting_29_ck : lX12_wanting_29.all (ra_ck mX12_wanting 12) = true := by decide +kernel
def nX12_wanting_29 (N : Nat) (h : ra_H) : Option (Int32 × ra_H) :=
  some ((-1 : Int32), h)
def kX12_wanting_29 (N : Nat) : Nat → List (Option Value) → List Value → ra_H → Option (Int32 × ra_H) := ra_k0
theorem kX12_wanting_29_ok (N : Nat) : ra_kok 2 mX12_wanting ra_oI (kX12_wanting_29 N) := ra_k0_ok
set_option maxRecDepth 100000 in
theorem nX12_wanting_29_ok (N : Nat) (h : ra_H) (r : (Int32 × ra_H)) (e : nX12_wanting_29 N h = some r) : ra_Ru 2 mX12_wanting 29 [none, none, none, none, none, none, none, none, none, none, none] [] h (ra_oI r) :=
  ra_sound (by omega) rfl ra_rI_ok (kX12_wanting_29_ok N) (fun m av h h1 e => (ra_c0_ok (ro := ra_oV)) m av h h1 e) (fun m av h x h1 e => (tIX12_wanting_ok N) m av h (x, h1) e) (fun m av h x h1 e => (ra_c0_ok (ro := ra_oJ)) m av h (x, h1) e) (fun m av h x h1 e => (ra_c0_ok (ro := ra_oR)) m av h (x, h1) e) (fun m av h x h1 e => (ra_c0_ok (ro := ra_oN)) m av h (x, h1) e) (fun m av h x h1 e => (ra_c0_ok (ro := ra_oF)) m av h (x, h1) e) 3 lX12_wanting_29 _ _ _ _ lX12_wanting_29_ck (show ra_run ra_rI (kX12_wanting_29 N) ra_c0 (tIX12_wanting N) ra_c0 ra_c0 ra_c0 ra_c0 3 lX12_wanting_29 [none, none, none, none, none, none, none, none, none, none, none] [] h = some r from e) _ _ rfl
def lX12_wanting_106 : List ra_I := [(106, .iinc 6 (1), 3, 6, 0, 0, (1), 0, []),
  (109, .goto (-69), 3, 40, 0, 0, 0, 0, [])]
set_option maxRecDepth 100000 in
theorem lX12_wanting_106_ck : lX12_wanting_106.all (ra_ck mX12_wanting 12) = true := by decide +kernel
def nX12_wanting_106 (N : Nat) (c40 : Nat → Int32 → Int32 → Int32 → Int32 → Int32 → Int32 → ra_H → Option (Int32 × ra_H)) (a0 : Nat) (a1 : Int32) (a2 : Int32) (a3 : Int32) (a4 : Int32) (a5 : Int32) (a6 : Int32) (h : ra_H) : Option (Int32 × ra_H) :=
  let y1 := a6 + (1 : Int32)
  c40 a0 a1 a2 a3 a4 a5 y1 h
def kX12_wanting_106 (N : Nat) (c40 : Nat → Int32 → Int32 → Int32 → Int32 → Int32 → Int32 → ra_H → Option (Int32 × ra_H)) : Nat → List (Option Value) → List Value → ra_H → Option (Int32 × ra_H) := (ra_k1 40 (fun L S h => match L, S with
  | [some (.ref a0), some (.int a1), some (.int a2), some (.int a3), some (.int a4), some (.int a5), some (.int a6), _, _, _, _], [] => c40 a0 a1 a2 a3 a4 a5 a6 h
  | _, _ => none) ra_k0)
theorem kX12_wanting_106_ok (N : Nat) (c40 : Nat → Int32 → Int32 → Int32 → Int32 → Int32 → Int32 → ra_H → Option (Int32 × ra_H)) (hc40 : ∀ a0 a1 a2 a3 a4 a5 a6 h r, c40 a0 a1 a2 a3 a4 a5 a6 h = some r → ra_Ru 2 mX12_wanting 40 [some (.ref a0), some (.int a1), some (.int a2), some (.int a3), some (.int a4), some (.int a5), some (.int a6), none, none, none, none] [] h (ra_oI r)) : ra_kok 2 mX12_wanting ra_oI (kX12_wanting_106 N c40) := (ra_k1_ok (by
  intro L S h a e
  split at e
  · exact ra_Ru.weak (hc40 _ _ _ _ _ _ _ _ _ e) ⟨rfl, ⟨rfl, ⟨rfl, ⟨rfl, ⟨rfl, ⟨rfl, ⟨rfl, trivial⟩⟩⟩⟩⟩⟩⟩
  · cases e) ra_k0_ok)
set_option maxRecDepth 100000 in
theorem nX12_wanting_106_ok (N : Nat) (c40 : Nat → Int32 → Int32 → Int32 → Int32 → Int32 → Int32 → ra_H → Option (Int32 × ra_H)) (hc40 : ∀ a0 a1 a2 a3 a4 a5 a6 h r, c40 a0 a1 a2 a3 a4 a5 a6 h = some r → ra_Ru 2 mX12_wanting 40 [some (.ref a0), some (.int a1), some (.int a2), some (.int a3), some (.int a4), some (.int a5), some (.int a6), none, none, none, none] [] h (ra_oI r)) (a0 : Nat) (a1 : Int32) (a2 : Int32) (a3 : Int32) (a4 : Int32) (a5 : Int32) (a6 : Int32) (h : ra_H) (r : (Int32 × ra_H)) (e : nX12_wanting_106 N c40 a0 a1 a2 a3 a4 a5 a6 h = some r) : ra_Ru 2 mX12_wanting 106 [some (.ref a0), some (.int a1), some (.int a2), some (.int a3), some (.int a4), some (.int a5), some (.int a6), none, none, none, none] [] h (ra_oI r) :=
  ra_sound (by omega) rfl ra_rI_ok (kX12_wanting_106_ok N c40 hc40) (fun m av h h1 e => (ra_c0_ok (ro := ra_oV)) m av h h1 e) (fun m av h x h1 e => (tIX12_wanting_ok N) m av h (x, h1) e) (fun m av h x h1 e => (ra_c0_ok (ro := ra_oJ)) m av h (x, h1) e) (fun m av h x h1 e => (ra_c0_ok (ro := ra_oR)) m av h (x, h1) e) (fun m av h x h1 e => (ra_c0_ok (ro := ra_oN)) m av h (x, h1) e) (fun m av h x h1 e => (ra_c0_ok (ro := ra_oF)) m av h (x, h1) e) 3 lX12_wanting_106 _ _ _ _ lX12_wanting_106_ck (show ra_run ra_rI (kX12_wanting_106 N c40) ra_c0 (tIX12_wanting N) ra_c0 ra_c0 ra_c0 ra_c0 3 lX12_wanting_106 [some (.ref a0), some (.int a1), some (.int a2), some (.int a3), some (.int a4), some (.int a5), some (.int a6), none, none, none, none] [] h = some r from e) _ _ rfl
def lX12_wanting_104 : List ra_I := [(104, .istore 4, 2, 4, 0, 0, 0, 0, [])]
set_option maxRecDepth 100000 in
theorem lX12_wanting_104_ck : lX12_wanting_104.all (ra_ck mX12_wanting 12) = true := by decide +kernel
def nX12_wanting_104 (N : Nat) (c40 : Nat → Int32 → Int32 → Int32 → Int32 → Int32 → Int32 → ra_H → Option (Int32 × ra_H)) (a0 : Nat) (a1 : Int32) (a2 : Int32) (a3 : Int32) (a5 : Int32) (a6 : Int32) (b0 : Int32) (h : ra_H) : Option (Int32 × ra_H) :=
  nX12_wanting_106 N c40 a0 a1 a2 a3 b0 a5 a6 h
def kX12_wanting_104 (N : Nat) (c40 : Nat → Int32 → Int32 → Int32 → Int32 → Int32 → Int32 → ra_H → Option (Int32 × ra_H)) : Nat → List (Option Value) → List Value → ra_H → Option (Int32 × ra_H) := (ra_k1 106 (fun L S h => match L, S with
  | [some (.ref a0), some (.int a1), some (.int a2), some (.int a3), some (.int a4), some (.int a5), some (.int a6), _, _, _, _], [] => nX12_wanting_106 N c40 a0 a1 a2 a3 a4 a5 a6 h
  | _, _ => none) ra_k0)
theorem kX12_wanting_104_ok (N : Nat) (c40 : Nat → Int32 → Int32 → Int32 → Int32 → Int32 → Int32 → ra_H → Option (Int32 × ra_H)) (hc40 : ∀ a0 a1 a2 a3 a4 a5 a6 h r, c40 a0 a1 a2 a3 a4 a5 a6 h = some r → ra_Ru 2 mX12_wanting 40 [some (.ref a0), some (.int a1), some (.int a2), some (.int a3), some (.int a4), some (.int a5), some (.int a6), none, none, none, none] [] h (ra_oI r)) : ra_kok 2 mX12_wanting ra_oI (kX12_wanting_104 N c40) := (ra_k1_ok (by
  intro L S h a e
  split at e
  · exact ra_Ru.weak (nX12_wanting_106_ok N c40 hc40 _ _ _ _ _ _ _ _ _ e) ⟨rfl, ⟨rfl, ⟨rfl, ⟨rfl, ⟨rfl, ⟨rfl, ⟨rfl, trivial⟩⟩⟩⟩⟩⟩⟩
  · cases e) ra_k0_ok)
set_option maxRecDepth 100000 in
theorem nX12_wanting_104_ok (N : Nat) (c40 : Nat → Int32 → Int32 → Int32 → Int32 → Int32 → Int32 → ra_H → Option (Int32 × ra_H)) (hc40 : ∀ a0 a1 a2 a3 a4 a5 a6 h r, c40 a0 a1 a2 a3 a4 a5 a6 h = some r → ra_Ru 2 mX12_wanting 40 [some (.ref a0), some (.int a1), some (.int a2), some (.int a3), some (.int a4), some (.int a5), some (.int a6), none, none, none, none] [] h (ra_oI r)) (a0 : Nat) (a1 : Int32) (a2 : Int32) (a3 : Int32) (a5 : Int32) (a6 : Int32) (b0 : Int32) (h : ra_H) (r : (Int32 × ra_H)) (e : nX12_wanting_104 N c40 a0 a1 a2 a3 a5 a6 b0 h = some r) : ra_Ru 2 mX12_wanting 104 [some (.ref a0), some (.int a1), some (.int a2), some (.int a3), none, some (.int a5), some (.int a6), none, none, none, none] [.int b0] h (ra_oI r) :=
  ra_sound (by omega) rfl ra_rI_ok (kX12_wanting_104_ok N c40 hc40) (fun m av h h1 e => (ra_c0_ok (ro := ra_oV)) m av h h1 e) (fun m av h x h1 e => (tIX12_wanting_ok N) m av h (x, h1) e) (fun m av h x h1 e => (ra_c0_ok (ro := ra_oJ)) m av h (x, h1) e) (fun m av h x h1 e => (ra_c0_ok (ro := ra_oR)) m av h (x, h1) e) (fun m av h x h1 e => (ra_c0_ok (ro := ra_oN)) m av h (x, h1) e) (fun m av h x h1 e => (ra_c0_ok (ro := ra_oF)) m av h (x, h1) e) 2 lX12_wanting_104 _ _ _ _ lX12_wanting_104_ck (show ra_run ra_rI (kX12_wanting_104 N c40) ra_c0 (tIX12_wanting N) ra_c0 ra_c0 ra_c0 ra_c0 2 lX12_wanting_104 [some (.ref a0), some (.int a1), some (.int a2), some (.int a3), none, some (.int a5), some (.int a6), none, none, none, none] [.int b0] h = some r from e) _ _ rfl
def lX12_wanting_188 : List ra_I := [(188, .istore 9, 2, 9, 0, 0, 0, 0, []),
  (190, .iinc 10 (1), 3, 10, 0, 0, (1), 0, []),
  (193, .goto (-59), 3, 134, 0, 0, 0, 0, [])]
set_option maxRecDepth 100000 in
theorem lX12_wanting_188_ck : lX12_wanting_188.all (ra_ck mX12_wanting 12) = true := by decide +kernel
def nX12_wanting_188 (N : Nat) (c121 : Nat → Int32 → Int32 → Int32 → Int32 → Int32 → Int32 → Int32 → Int32 → ra_H → Option (Int32 × ra_H)) (c134 : Nat → Int32 → Int32 → Int32 → Int32 → Int32 → Int32 → Int32 → Int32 → Int32 → Int32 → ra_H → Option (Int32 × ra_H)) (a0 : Nat) (a1 : Int32) (a2 : Int32) (a3 : Int32) (a4 : Int32) (a5 : Int32) (a6 : Int32) (a7 : Int32) (a8 : Int32) (a10 : Int32) (b0 : Int32) (h : ra_H) : Option (Int32 × ra_H) :=
  let y1 := a10 + (1 : Int32)
  c134 a0 a1 a2 a3 a4 a5 a6 a7 a8 b0 y1 h
def kX12_wanting_188 (N : Nat) (c121 : Nat → Int32 → Int32 → Int32 → Int32 → Int32 → Int32 → Int32 → Int32 → ra_H → Option (Int32 × ra_H)) (c134 : Nat → Int32 → Int32 → Int32 → Int32 → Int32 → Int32 → Int32 → Int32 → Int32 → Int32 → ra_H → Option (Int32 × ra_H)) : Nat → List (Option Value) → List Value → ra_H → Option (Int32 × ra_H) := (ra_k1 134 (fun L S h => match L, S with
  | [some (.ref a0), some (.int a1), some (.int a2), some (.int a3), some (.int a4), some (.int a5), some (.int a6), some (.int a7), some (.int a8), some (.int a9), some (.int a10)], [] => c134 a0 a1 a2 a3 a4 a5 a6 a7 a8 a9 a10 h
  | _, _ => none) ra_k0)
theorem kX12_wanting_188_ok (N : Nat) (c121 : Nat → Int32 → Int32 → Int32 → Int32 → Int32 → Int32 → Int32 → Int32 → ra_H → Option (Int32 × ra_H)) (c134 : Nat → Int32 → Int32 → Int32 → Int32 → Int32 → Int32 → Int32 → Int32 → Int32 → Int32 → ra_H → Option (Int32 × ra_H)) (hc121 : ∀ a0 a1 a2 a3 a4 a5 a6 a7 a8 h r, c121 a0 a1 a2 a3 a4 a5 a6 a7 a8 h = some r → ra_Ru 2 mX12_wanting 121 [some (.ref a0), some (.int a1), some (.int a2), some (.int a3), some (.int a4), some (.int a5), some (.int a6), some (.int a7), some (.int a8), none, none] [] h (ra_oI r)) (hc134 : ∀ a0 a1 a2 a3 a4 a5 a6 a7 a8 a9 a10 h r, c134 a0 a1 a2 a3 a4 a5 a6 a7 a8 a9 a10 h = some r → ra_Ru 2 mX12_wanting 134 [some (.ref a0), some (.int a1), some (.int a2), some (.int a3), some (.int a4), some (.int a5), some (.int a6), some (.int a7), some (.int a8), some (.int a9), some (.int a10)] [] h (ra_oI r)) : ra_kok 2 mX12_wanting ra_oI (kX12_wanting_188 N c121 c134) := (ra_k1_ok (by
  intro L S h a e
  split at e
  · exact ra_Ru.weak (hc134 _ _ _ _ _ _ _ _ _ _ _ _ _ e) ⟨rfl, ⟨rfl, ⟨rfl, ⟨rfl, ⟨rfl, ⟨rfl, ⟨rfl, ⟨rfl, ⟨rfl, ⟨rfl, ⟨rfl, trivial⟩⟩⟩⟩⟩⟩⟩⟩⟩⟩⟩
  · cases e) ra_k0_ok)
set_option maxRecDepth 100000 in
theorem nX12_wanting_188_ok (N : Nat) (c121 : Nat → Int32 → Int32 → Int32 → Int32 → Int32 → Int32 → Int32 → Int32 → ra_H → Option (Int32 × ra_H)) (c134 : Nat → Int32 → Int32 → Int32 → Int32 → Int32 → Int32 → Int32 → Int32 → Int32 → Int32 → ra_H → Option (Int32 × ra_H)) (hc121 : ∀ a0 a1 a2 a3 a4 a5 a6 a7 a8 h r, c121 a0 a1 a2 a3 a4 a5 a6 a7 a8 h = some r → ra_Ru 2 mX12_wanting 121 [some (.ref a0), some (.int a1), some (.int a2), some (.int a3), some (.int a4), some (.int a5), some (.int a6), some (.int a7), some (.int a8), none, none] [] h (ra_oI r)) (hc134 : ∀ a0 a1 a2 a3 a4 a5 a6 a7 a8 a9 a10 h r, c134 a0 a1 a2 a3 a4 a5 a6 a7 a8 a9 a10 h = some r → ra_Ru 2 mX12_wanting 134 [some (.ref a0), some (.int a1), some (.int a2), some (.int a3), some (.int a4), some (.int a5), some (.int a6), some (.int a7), some (.int a8), some (.int a9), some (.int a10)] [] h (ra_oI r)) (a0 : Nat) (a1 : Int32) (a2 : Int32) (a3 : Int32) (a4 : Int32) (a5 : Int32) (a6 : Int32) (a7 : Int32) (a8 : Int32) (a10 : Int32) (b0 : Int32) (h : ra_H) (r : (Int32 × ra_H)) (e : nX12_wanting_188 N c121 c134 a0 a1 a2 a3 a4 a5 a6 a7 a8 a10 b0 h = some r) : ra_Ru 2 mX12_wanting 188 [some (.ref a0), some (.int a1), some (.int a2), some (.int a3), some (.int a4), some (.int a5), some (.int a6), some (.int a7), some (.int a8), none, some (.int a10)] [.int b0] h (ra_oI r) :=
  ra_sound (by omega) rfl ra_rI_ok (kX12_wanting_188_ok N c121 c134 hc121 hc134) (fun m av h h1 e => (ra_c0_ok (ro := ra_oV)) m av h h1 e) (fun m av h x h1 e => (tIX12_wanting_ok N) m av h (x, h1) e) (fun m av h x h1 e => (ra_c0_ok (ro := ra_oJ)) m av h (x, h1) e) (fun m av h x h1 e => (ra_c0_ok (ro := ra_oR)) m av h (x, h1) e) (fun m av h x h1 e => (ra_c0_ok (ro := ra_oN)) m av h (x, h1) e) (fun m av h x h1 e => (ra_c0_ok (ro := ra_oF)) m av h (x, h1) e) 4 lX12_wanting_188 _ _ _ _ lX12_wanting_188_ck (show ra_run ra_rI (kX12_wanting_188 N c121 c134) ra_c0 (tIX12_wanting N) ra_c0 ra_c0 ra_c0 ra_c0 4 lX12_wanting_188 [some (.ref a0), some (.int a1), some (.int a2), some (.int a3), some (.int a4), some (.int a5), some (.int a6), some (.int a7), some (.int a8), none, some (.int a10)] [.int b0] h = some r from e) _ _ rfl
def lX12_wanting_183 : List ra_I := [(183, .iconst (1), 1, 0, 0, 0, (1), 0, []),
  (184, .goto (4), 3, 188, 0, 0, 0, 0, [])]
set_option maxRecDepth 100000 in
theorem lX12_wanting_183_ck : lX12_wanting_183.all (ra_ck mX12_wanting 12) = true := by decide +kernel
def nX12_wanting_183 (N : Nat) (c121 : Nat → Int32 → Int32 → Int32 → Int32 → Int32 → Int32 → Int32 → Int32 → ra_H → Option (Int32 × ra_H)) (c134 : Nat → Int32 → Int32 → Int32 → Int32 → Int32 → Int32 → Int32 → Int32 → Int32 → Int32 → ra_H → Option (Int32 × ra_H)) (a0 : Nat) (a1 : Int32) (a2 : Int32) (a3 : Int32) (a4 : Int32) (a5 : Int32) (a6 : Int32) (a7 : Int32) (a8 : Int32) (a10 : Int32) (h : ra_H) : Option (Int32 × ra_H) :=
  nX12_wanting_188 N c121 c134 a0 a1 a2 a3 a4 a5 a6 a7 a8 a10 ((1 : Int32)) h
def kX12_wanting_183 (N : Nat) (c121 : Nat → Int32 → Int32 → Int32 → Int32 → Int32 → Int32 → Int32 → Int32 → ra_H → Option (Int32 × ra_H)) (c134 : Nat → Int32 → Int32 → Int32 → Int32 → Int32 → Int32 → Int32 → Int32 → Int32 → Int32 → ra_H → Option (Int32 × ra_H)) : Nat → List (Option Value) → List Value → ra_H → Option (Int32 × ra_H) := (ra_k1 188 (fun L S h => match L, S with
  | [some (.ref a0), some (.int a1), some (.int a2), some (.int a3), some (.int a4), some (.int a5), some (.int a6), some (.int a7), some (.int a8), _, some (.int a10)], [.int b0] => nX12_wanting_188 N c121 c134 a0 a1 a2 a3 a4 a5 a6 a7 a8 a10 b0 h
  | _, _ => none) ra_k0)
theorem kX12_wanting_183_ok (N : Nat) (c121 : Nat → Int32 → Int32 → Int32 → Int32 → Int32 → Int32 → Int32 → Int32 → ra_H → Option (Int32 × ra_H)) (c134 : Nat → Int32 → Int32 → Int32 → Int32 → Int32 → Int32 → Int32 → Int32 → Int32 → Int32 → ra_H → Option (Int32 × ra_H)) (hc121 : ∀ a0 a1 a2 a3 a4 a5 a6 a7 a8 h r, c121 a0 a1 a2 a3 a4 a5 a6 a7 a8 h = some r → ra_Ru 2 mX12_wanting 121 [some (.ref a0), some (.int a1), some (.int a2), some (.int a3), some (.int a4), some (.int a5), some (.int a6), some (.int a7), some (.int a8), none, none] [] h (ra_oI r)) (hc134 : ∀ a0 a1 a2 a3 a4 a5 a6 a7 a8 a9 a10 h r, c134 a0 a1 a2 a3 a4 a5 a6 a7 a8 a9 a10 h = some r → ra_Ru 2 mX12_wanting 134 [some (.ref a0), some (.int a1), some (.int a2), some (.int a3), some (.int a4), some (.int a5), some (.int a6), some (.int a7), some (.int a8), some (.int a9), some (.int a10)] [] h (ra_oI r)) : ra_kok 2 mX12_wanting ra_oI (kX12_wanting_183 N c121 c134) := (ra_k1_ok (by
  intro L S h a e
  split at e
  · exact ra_Ru.weak (nX12_wanting_188_ok N c121 c134 hc121 hc134 _ _ _ _ _ _ _ _ _ _ _ _ _ e) ⟨rfl, ⟨rfl, ⟨rfl, ⟨rfl, ⟨rfl, ⟨rfl, ⟨rfl, ⟨rfl, ⟨rfl, ⟨rfl, trivial⟩⟩⟩⟩⟩⟩⟩⟩⟩⟩
  · cases e) ra_k0_ok)
set_option maxRecDepth 100000 in
theorem nX12_wanting_183_ok (N : Nat) (c121 : Nat → Int32 → Int32 → Int32 → Int32 → Int32 → Int32 → Int32 → Int32 → ra_H → Option (Int32 × ra_H)) (c134 : Nat → Int32 → Int32 → Int32 → Int32 → Int32 → Int32 → Int32 → Int32 → Int32 → Int32 → ra_H → Option (Int32 × ra_H)) (hc121 : ∀ a0 a1 a2 a3 a4 a5 a6 a7 a8 h r, c121 a0 a1 a2 a3 a4 a5 a6 a7 a8 h = some r → ra_Ru 2 mX12_wanting 121 [some (.ref a0), some (.int a1), some (.int a2), some (.int a3), some (.int a4), some (.int a5), some (.int a6), some (.int a7), some (.int a8), none, none] [] h (ra_oI r)) (hc134 : ∀ a0 a1 a2 a3 a4 a5 a6 a7 a8 a9 a10 h r, c134 a0 a1 a2 a3 a4 a5 a6 a7 a8 a9 a10 h = some r → ra_Ru 2 mX12_wanting 134 [some (.ref a0), some (.int a1), some (.int a2), some (.int a3), some (.int a4), some (.int a5), some (.int a6), some (.int a7), some (.int a8), some (.int a9), some (.int a10)] [] h (ra_oI r)) (a0 : Nat) (a1 : Int32) (a2 : Int32) (a3 : Int32) (a4 : Int32) (a5 : Int32) (a6 : Int32) (a7 : Int32) (a8 : Int32) (a10 : Int32) (h : ra_H) (r : (Int32 × ra_H)) (e : nX12_wanting_183 N c121 c134 a0 a1 a2 a3 a4 a5 a6 a7 a8 a10 h = some r) : ra_Ru 2 mX12_wanting 183 [some (.ref a0), some (.int a1), some (.int a2), some (.int a3), some (.int a4), some (.int a5), some (.int a6), some (.int a7), some (.int a8), none, some (.int a10)] [] h (ra_oI r) :=
  ra_sound (by omega) rfl ra_rI_ok (kX12_wanting_183_ok N c121 c134 hc121 hc134) (fun m av h h1 e => (ra_c0_ok (ro := ra_oV)) m av h h1 e) (fun m av h x h1 e => (tIX12_wanting_ok N) m av h (x, h1) e) (fun m av h x h1 e => (ra_c0_ok (ro := ra_oJ)) m av h (x, h1) e) (fun m av h x h1 e => (ra_c0_ok (ro := ra_oR)) m av h (x, h1) e) (fun m av h x h1 e => (ra_c0_ok (ro := ra_oN)) m av h (x, h1) e) (fun m av h x h1 e => (ra_c0_ok (ro := ra_oF)) m av h (x, h1) e) 3 lX12_wanting_183 _ _ _ _ lX12_wanting_183_ck (show ra_run ra_rI (kX12_wanting_183 N c121 c134) ra_c0 (tIX12_wanting N) ra_c0 ra_c0 ra_c0 ra_c0 3 lX12_wanting_183 [some (.ref a0), some (.int a1), some (.int a2), some (.int a3), some (.int a4), some (.int a5), some (.int a6), some (.int a7), some (.int a8), none, some (.int a10)] [] h = some r from e) _ _ rfl
def lX12_wanting_187 : List ra_I := [(187, .iconst (0), 1, 0, 0, 0, (0), 0, [])]
set_option maxRecDepth 100000 in
theorem lX12_wanting_187_ck : lX12_wanting_187.all (ra_ck mX12_wanting 12) = true := by decide +kernel
def nX12_wanting_187 (N : Nat) (c121 : Nat → Int32 → Int32 → Int32 → Int32 → Int32 → Int32 → Int32 → Int32 → ra_H → Option (Int32 × ra_H)) (c134 : Nat → Int32 → Int32 → Int32 → Int32 → Int32 → Int32 → Int32 → Int32 → Int32 → Int32 → ra_H → Option (Int32 × ra_H)) (a0 : Nat) (a1 : Int32) (a2 : Int32) (a3 : Int32) (a4 : Int32) (a5 : Int32) (a6 : Int32) (a7 : Int32) (a8 : Int32) (a10 : Int32) (h : ra_H) : Option (Int32 × ra_H) :=
  nX12_wanting_188 N c121 c134 a0 a1 a2 a3 a4 a5 a6 a7 a8 a10 ((0 : Int32)) h
def kX12_wanting_187 (N : Nat) (c121 : Nat → Int32 → Int32 → Int32 → Int32 → Int32 → Int32 → Int32 → Int32 → ra_H → Option (Int32 × ra_H)) (c134 : Nat → Int32 → Int32 → Int32 → Int32 → Int32 → Int32 → Int32 → Int32 → Int32 → Int32 → ra_H → Option (Int32 × ra_H)) : Nat → List (Option Value) → List Value → ra_H → Option (Int32 × ra_H) := (ra_k1 188 (fun L S h => match L, S with
  | [some (.ref a0), some (.int a1), some (.int a2), some (.int a3), some (.int a4), some (.int a5), some (.int a6), some (.int a7), some (.int a8), _, some (.int a10)], [.int b0] => nX12_wanting_188 N c121 c134 a0 a1 a2 a3 a4 a5 a6 a7 a8 a10 b0 h
  | _, _ => none) ra_k0)
theorem kX12_wanting_187_ok (N : Nat) (c121 : Nat → Int32 → Int32 → Int32 → Int32 → Int32 → Int32 → Int32 → Int32 → ra_H → Option (Int32 × ra_H)) (c134 : Nat → Int32 → Int32 → Int32 → Int32 → Int32 → Int32 → Int32 → Int32 → Int32 → Int32 → ra_H → Option (Int32 × ra_H)) (hc121 : ∀ a0 a1 a2 a3 a4 a5 a6 a7 a8 h r, c121 a0 a1 a2 a3 a4 a5 a6 a7 a8 h = some r → ra_Ru 2 mX12_wanting 121 [some (.ref a0), some (.int a1), some (.int a2), some (.int a3), some (.int a4), some (.int a5), some (.int a6), some (.int a7), some (.int a8), none, none] [] h (ra_oI r)) (hc134 : ∀ a0 a1 a2 a3 a4 a5 a6 a7 a8 a9 a10 h r, c134 a0 a1 a2 a3 a4 a5 a6 a7 a8 a9 a10 h = some r → ra_Ru 2 mX12_wanting 134 [some (.ref a0), some (.int a1), some (.int a2), some (.int a3), some (.int a4), some (.int a5), some (.int a6), some (.int a7), some (.int a8), some (.int a9), some (.int a10)] [] h (ra_oI r)) : ra_kok 2 mX12_wanting ra_oI (kX12_wanting_187 N c121 c134) := (ra_k1_ok (by
  intro L S h a e
  split at e
  · exact ra_Ru.weak (nX12_wanting_188_ok N c121 c134 hc121 hc134 _ _ _ _ _ _ _ _ _ _ _ _ _ e) ⟨rfl, ⟨rfl, ⟨rfl, ⟨rfl, ⟨rfl, ⟨rfl, ⟨rfl, ⟨rfl, ⟨rfl, ⟨rfl, trivial⟩⟩⟩⟩⟩⟩⟩⟩⟩⟩
  · cases e) ra_k0_ok)
set_option maxRecDepth 100000 in
theorem nX12_wanting_187_ok (N : Nat) (c121 : Nat → Int32 → Int32 → Int32 → Int32 → Int32 → Int32 → Int32 → Int32 → ra_H → Option (Int32 × ra_H)) (c134 : Nat → Int32 → Int32 → Int32 → Int32 → Int32 → Int32 → Int32 → Int32 → Int32 → Int32 → ra_H → Option (Int32 × ra_H)) (hc121 : ∀ a0 a1 a2 a3 a4 a5 a6 a7 a8 h r, c121 a0 a1 a2 a3 a4 a5 a6 a7 a8 h = some r → ra_Ru 2 mX12_wanting 121 [some (.ref a0), some (.int a1), some (.int a2), some (.int a3), some (.int a4), some (.int a5), some (.int a6), some (.int a7), some (.int a8), none, none] [] h (ra_oI r)) (hc134 : ∀ a0 a1 a2 a3 a4 a5 a6 a7 a8 a9 a10 h r, c134 a0 a1 a2 a3 a4 a5 a6 a7 a8 a9 a10 h = some r → ra_Ru 2 mX12_wanting 134 [some (.ref a0), some (.int a1), some (.int a2), some (.int a3), some (.int a4), some (.int a5), some (.int a6), some (.int a7), some (.int a8), some (.int a9), some (.int a10)] [] h (ra_oI r)) (a0 : Nat) (a1 : Int32) (a2 : Int32) (a3 : Int32) (a4 : Int32) (a5 : Int32) (a6 : Int32) (a7 : Int32) (a8 : Int32) (a10 : Int32) (h : ra_H) (r : (Int32 × ra_H)) (e : nX12_wanting_187 N c121 c134 a0 a1 a2 a3 a4 a5 a6 a7 a8 a10 h = some r) : ra_Ru 2 mX12_wanting 187 [some (.ref a0), some (.int a1), some (.int a2), some (.int a3), some (.int a4), some (.int a5), some (.int a6), some (.int a7), some (.int a8), none, some (.int a10)] [] h (ra_oI r) :=
  ra_sound (by omega) rfl ra_rI_ok (kX12_wanting_187_ok N c121 c134 hc121 hc134) (fun m av h h1 e => (ra_c0_ok (ro := ra_oV)) m av h h1 e) (fun m av h x h1 e => (tIX12_wanting_ok N) m av h (x, h1) e) (fun m av h x h1 e => (ra_c0_ok (ro := ra_oJ)) m av h (x, h1) e) (fun m av h x h1 e => (ra_c0_ok (ro := ra_oR)) m av h (x, h1) e) (fun m av h x h1 e => (ra_c0_ok (ro := ra_oN)) m av h (x, h1) e) (fun m av h x h1 e => (ra_c0_ok (ro := ra_oF)) m av h (x, h1) e) 2 lX12_wanting_187 _ _ _ _ lX12_wanting_187_ck (show ra_run ra_rI (kX12_wanting_187 N c121 c134) ra_c0 (tIX12_wanting N) ra_c0 ra_c0 ra_c0 ra_c0 2 lX12_wanting_187 [some (.ref a0), some (.int a1), some (.int a2), some (.int a3), some (.int a4), some (.int a5), some (.int a6), some (.int a7), some (.int a8), none, some (.int a10)] [] h = some r from e) _ _ rfl
def lX12_wanting_219 : List ra_I := [(219, .iinc 8 (1), 3, 8, 0, 0, (1), 0, []),
  (222, .goto (-101), 3, 121, 0, 0, 0, 0, [])]
set_option maxRecDepth 100000 in
theorem lX12_wanting_219_ck : lX12_wanting_219.all (ra_ck mX12_wanting 12) = true := by decide +kernel
def nX12_wanting_219 (N : Nat) (c121 : Nat → Int32 → Int32 → Int32 → Int32 → Int32 → Int32 → Int32 → Int32 → ra_H → Option (Int32 × ra_H)) (a0 : Nat) (a1 : Int32) (a2 : Int32) (a3 : Int32) (a4 : Int32) (a5 : Int32) (a6 : Int32) (a7 : Int32) (a8 : Int32) (h : ra_H) : Option (Int32 × ra_H) :=
  let y1 := a8 + (1 : Int32)
  c121 a0 a1 a2 a3 a4 a5 a6 a7 y1 h
def kX12_wanting_219 (N : Nat) (c121 : Nat → Int32 → Int32 → Int32 → Int32 → Int32 → Int32 → Int32 → Int32 → ra_H → Option (Int32 × ra_H)) : Nat → List (Option Value) → List Value → ra_H → Option (Int32 × ra_H) := (ra_k1 121 (fun L S h => match L, S with
  | [some (.ref a0), some (.int a1), some (.int a2), some (.int a3), some (.int a4), some (.int a5), some (.int a6), some (.int a7), some (.int a8), _, _], [] => c121 a0 a1 a2 a3 a4 a5 a6 a7 a8 h
  | _, _ => none) ra_k0)
theorem kX12_wanting_219_ok (N : Nat) (c121 : Nat → Int32 → Int32 → Int32 → Int32 → Int32 → Int32 → Int32 → Int32 → ra_H → Option (Int32 × ra_H)) (hc121 : ∀ a0 a1 a2 a3 a4 a5 a6 a7 a8 h r, c121 a0 a1 a2 a3 a4 a5 a6 a7 a8 h = some r → ra_Ru 2 mX12_wanting 121 [some (.ref a0), some (.int a1), some (.int a2), some (.int a3), some (.int a4), some (.int a5), some (.int a6), some (.int a7), some (.int a8), none, none] [] h (ra_oI r)) : ra_kok 2 mX12_wanting ra_oI (kX12_wanting_219 N c121) := (ra_k1_ok (by
  intro L S h a e
  split at e
  · exact ra_Ru.weak (hc121 _ _ _ _ _ _ _ _ _ _ _ e) ⟨rfl, ⟨rfl, ⟨rfl, ⟨rfl, ⟨rfl, ⟨rfl, ⟨rfl, ⟨rfl, ⟨rfl, trivial⟩⟩⟩⟩⟩⟩⟩⟩⟩
  · cases e) ra_k0_ok)
set_option maxRecDepth 100000 in
theorem nX12_wanting_219_ok (N : Nat) (c121 : Nat → Int32 → Int32 → Int32 → Int32 → Int32 → Int32 → Int32 → Int32 → ra_H → Option (Int32 × ra_H)) (hc121 : ∀ a0 a1 a2 a3 a4 a5 a6 a7 a8 h r, c121 a0 a1 a2 a3 a4 a5 a6 a7 a8 h = some r → ra_Ru 2 mX12_wanting 121 [some (.ref a0), some (.int a1), some (.int a2), some (.int a3), some (.int a4), some (.int a5), some (.int a6), some (.int a7), some (.int a8), none, none] [] h (ra_oI r)) (a0 : Nat) (a1 : Int32) (a2 : Int32) (a3 : Int32) (a4 : Int32) (a5 : Int32) (a6 : Int32) (a7 : Int32) (a8 : Int32) (h : ra_H) (r : (Int32 × ra_H)) (e : nX12_wanting_219 N c121 a0 a1 a2 a3 a4 a5 a6 a7 a8 h = some r) : ra_Ru 2 mX12_wanting 219 [some (.ref a0), some (.int a1), some (.int a2), some (.int a3), some (.int a4), some (.int a5), some (.int a6), some (.int a7), some (.int a8), none, none] [] h (ra_oI r) :=
  ra_sound (by omega) rfl ra_rI_ok (kX12_wanting_219_ok N c121 hc121) (fun m av h h1 e => (ra_c0_ok (ro := ra_oV)) m av h h1 e) (fun m av h x h1 e => (tIX12_wanting_ok N) m av h (x, h1) e) (fun m av h x h1 e => (ra_c0_ok (ro := ra_oJ)) m av h (x, h1) e) (fun m av h x h1 e => (ra_c0_ok (ro := ra_oR)) m av h (x, h1) e) (fun m av h x h1 e => (ra_c0_ok (ro := ra_oN)) m av h (x, h1) e) (fun m av h x h1 e => (ra_c0_ok (ro := ra_oF)) m av h (x, h1) e) 3 lX12_wanting_219 _ _ _ _ lX12_wanting_219_ck (show ra_run ra_rI (kX12_wanting_219 N c121) ra_c0 (tIX12_wanting N) ra_c0 ra_c0 ra_c0 ra_c0 3 lX12_wanting_219 [some (.ref a0), some (.int a1), some (.int a2), some (.int a3), some (.int a4), some (.int a5), some (.int a6), some (.int a7), some (.int a8), none, none] [] h = some r from e) _ _ rfl
def lX12_wanting_214 : List ra_I := [(214, .istore 7, 2, 7, 0, 0, 0, 0, []),
  (216, .iinc 6 (1), 3, 6, 0, 0, (1), 0, [])]
set_option maxRecDepth 100000 in
theorem lX12_wanting_214_ck : lX12_wanting_214.all (ra_ck mX12_wanting 12) = true := by decide +kernel
def nX12_wanting_214 (N : Nat) (c121 : Nat → Int32 → Int32 → Int32 → Int32 → Int32 → Int32 → Int32 → Int32 → ra_H → Option (Int32 × ra_H)) (a0 : Nat) (a1 : Int32) (a2 : Int32) (a3 : Int32) (a4 : Int32) (a5 : Int32) (a6 : Int32) (a8 : Int32) (b0 : Int32) (h : ra_H) : Option (Int32 × ra_H) :=
  let y1 := a6 + (1 : Int32)
  nX12_wanting_219 N c121 a0 a1 a2 a3 a4 a5 y1 b0 a8 h
def kX12_wanting_214 (N : Nat) (c121 : Nat → Int32 → Int32 → Int32 → Int32 → Int32 → Int32 → Int32 → Int32 → ra_H → Option (Int32 × ra_H)) : Nat → List (Option Value) → List Value → ra_H → Option (Int32 × ra_H) := (ra_k1 219 (fun L S h => match L, S with
  | [some (.ref a0), some (.int a1), some (.int a2), some (.int a3), some (.int a4), some (.int a5), some (.int a6), some (.int a7), some (.int a8), _, _], [] => nX12_wanting_219 N c121 a0 a1 a2 a3 a4 a5 a6 a7 a8 h
  | _, _ => none) ra_k0)
theorem kX12_wanting_214_ok (N : Nat) (c121 : Nat → Int32 → Int32 → Int32 → Int32 → Int32 → Int32 → Int32 → Int32 → ra_H → Option (Int32 × ra_H)) (hc121 : ∀ a0 a1 a2 a3 a4 a5 a6 a7 a8 h r, c121 a0 a1 a2 a3 a4 a5 a6 a7 a8 h = some r → ra_Ru 2 mX12_wanting 121 [some (.ref a0), some (.int a1), some (.int a2), some (.int a3), some (.int a4), some (.int a5), some (.int a6), some (.int a7), some (.int a8), none, none] [] h (ra_oI r)) : ra_kok 2 mX12_wanting ra_oI (kX12_wanting_214 N c121) := (ra_k1_ok (by
  intro L S h a e
  split at e
  · exact ra_Ru.weak (nX12_wanting_219_ok N c121 hc121 _ _ _ _ _ _ _ _ _ _ _ e) ⟨rfl, ⟨rfl, ⟨rfl, ⟨rfl, ⟨rfl, ⟨rfl, ⟨rfl, ⟨rfl, ⟨rfl, trivial⟩⟩⟩⟩⟩⟩⟩⟩⟩
  · cases e) ra_k0_ok)
set_option maxRecDepth 100000 in
theorem nX12_wanting_214_ok (N : Nat) (c121 : Nat → Int32 → Int32 → Int32 → Int32 → Int32 → Int32 → Int32 → Int32 → ra_H → Option (Int32 × ra_H)) (hc121 : ∀ a0 a1 a2 a3 a4 a5 a6 a7 a8 h r, c121 a0 a1 a2 a3 a4 a5 a6 a7 a8 h = some r → ra_Ru 2 mX12_wanting 121 [some (.ref a0), some (.int a1), some (.int a2), some (.int a3), some (.int a4), some (.int a5), some (.int a6), some (.int a7), some (.int a8), none, none] [] h (ra_oI r)) (a0 : Nat) (a1 : Int32) (a2 : Int32) (a3 : Int32) (a4 : Int32) (a5 : Int32) (a6 : Int32) (a8 : Int32) (b0 : Int32) (h : ra_H) (r : (Int32 × ra_H)) (e : nX12_wanting_214 N c121 a0 a1 a2 a3 a4 a5 a6 a8 b0 h = some r) : ra_Ru 2 mX12_wanting 214 [some (.ref a0), some (.int a1), some (.int a2), some (.int a3), some (.int a4), some (.int a5), some (.int a6), none, some (.int a8), none, none] [.int b0] h (ra_oI r) :=
  ra_sound (by omega) rfl ra_rI_ok (kX12_wanting_214_ok N c121 hc121) (fun m av h h1 e => (ra_c0_ok (ro := ra_oV)) m av h h1 e) (fun m av h x h1 e => (tIX12_wanting_ok N) m av h (x, h1) e) (fun m av h x h1 e => (ra_c0_ok (ro := ra_oJ)) m av h (x, h1) e) (fun m av h x h1 e => (ra_c0_ok (ro := ra_oR)) m av h (x, h1) e) (fun m av h x h1 e => (ra_c0_ok (ro := ra_oN)) m av h (x, h1) e) (fun m av h x h1 e => (ra_c0_ok (ro := ra_oF)) m av h (x, h1) e) 3 lX12_wanting_214 _ _ _ _ lX12_wanting_214_ck (show ra_run ra_rI (kX12_wanting_214 N c121) ra_c0 (tIX12_wanting N) ra_c0 ra_c0 ra_c0 ra_c0 3 lX12_wanting_214 [some (.ref a0), some (.int a1), some (.int a2), some (.int a3), some (.int a4), some (.int a5), some (.int a6), none, some (.int a8), none, none] [.int b0] h = some r from e) _ _ rfl
def lX12_wanting_134 : List ra_I := [(134, .iload 10, 2, 10, 0, 0, 0, 0, []),
  (136, .aload_n 0, 1, 0, 0, 0, 0, 0, []),
  (137, .getfield 13, 3, 12, 3, 2, 0, 0, []),
  (140, .sipush (480), 3, 0, 0, 0, (480), 0, []),
  (143, .iaload, 1, 0, 0, 0, 0, 0, []),
  (144, .if_icmp .ge (52), 3, 196, 0, 0, 0, 0, []),
  (147, .iload 9, 2, 9, 0, 0, 0, 0, []),
  (149, .ifCond .ne (34), 3, 183, 0, 0, 0, 0, []),
  (152, .aload_n 0, 1, 0, 0, 0, 0, 0, []),
  (153, .getfield 13, 3, 12, 3, 2, 0, 0, []),
  (156, .bipush (12), 2, 0, 0, 0, (12), 0, []),
  (158, .iload 10, 2, 10, 0, 0, 0, 0, []),
  (160, .imul, 1, 0, 0, 0, 0, 0, []),
  (161, .iaload, 1, 0, 0, 0, 0, 0, []),
  (162, .iload_n 1, 1, 1, 0, 0, 0, 0, []),
  (163, .if_icmp .ne (24), 3, 187, 0, 0, 0, 0, []),
  (166, .aload_n 0, 1, 0, 0, 0, 0, 0, []),
  (167, .getfield 13, 3, 12, 3, 2, 0, 0, []),
  (170, .bipush (12), 2, 0, 0, 0, (12), 0, []),
  (172, .iload 10, 2, 10, 0, 0, 0, 0, []),
  (174, .imul, 1, 0, 0, 0, 0, 0, []),
  (175, .iconst (1), 1, 0, 0, 0, (1), 0, []),
  (176, .iadd, 1, 0, 0, 0, 0, 0, []),
  (177, .iaload, 1, 0, 0, 0, 0, 0, []),
  (178, .iload 8, 2, 8, 0, 0, 0, 0, []),
  (180, .if_icmp .ne (7), 3, 187, 0, 0, 0, 0, []),
  (196, .iload 9, 2, 9, 0, 0, 0, 0, []),
  (198, .ifCond .ne (21), 3, 219, 0, 0, 0, 0, []),
  (201, .iload 6, 2, 6, 0, 0, 0, 0, []),
  (203, .iload_n 3, 1, 3, 0, 0, 0, 0, []),
  (204, .if_icmp .ne (8), 3, 212, 0, 0, 0, 0, []),
  (207, .iload 8, 2, 8, 0, 0, 0, 0, []),
  (209, .goto (5), 3, 214, 0, 0, 0, 0, []),
  (212, .iload 7, 2, 7, 0, 0, 0, 0, [])]
set_option maxRecDepth 100000 in
theorem lX12_wanting_134_ck : lX12_wanting_134.all (ra_ck mX12_wanting 12) = true := by decide +kernel
def nX12_wanting_134 (N : Nat) (c121 : Nat → Int32 → Int32 → Int32 → Int32 → Int32 → Int32 → Int32 → Int32 → ra_H → Option (Int32 × ra_H)) : Nat → Nat → Int32 → Int32 → Int32 → Int32 → Int32 → Int32 → Int32 → Int32 → Int32 → Int32 → ra_H → Option (Int32 × ra_H)
  | 0, _, _, _, _, _, _, _, _, _, _, _, _ => none
  | n + 1, a0, a1, a2, a3, a4, a5, a6, a7, a8, a9, a10, h =>
  (ra_fR h 12 a0 3).bind fun x1 =>
  (ra_aI h 0 x1 ((480 : Int32))).bind fun x2 =>
  if a10 < x2 then
    if a9 = 0 then
      (ra_fR h 12 a0 3).bind fun x3 =>
      (ra_aI h 0 x3 (((12 : Int32)) * a10)).bind fun x4 =>
      if x4 = a1 then
        (ra_fR h 12 a0 3).bind fun x5 =>
        (ra_aI h 0 x5 ((((12 : Int32)) * a10) + ((1 : Int32)))).bind fun x6 =>
        if x6 = a8 then
          nX12_wanting_183 N c121 (nX12_wanting_134 N c121 n) a0 a1 a2 a3 a4 a5 a6 a7 a8 a10 h
        else
          nX12_wanting_187 N c121 (nX12_wanting_134 N c121 n) a0 a1 a2 a3 a4 a5 a6 a7 a8 a10 h
      else
        nX12_wanting_187 N c121 (nX12_wanting_134 N c121 n) a0 a1 a2 a3 a4 a5 a6 a7 a8 a10 h
    else
      nX12_wanting_183 N c121 (nX12_wanting_134 N c121 n) a0 a1 a2 a3 a4 a5 a6 a7 a8 a10 h
  else
    if a9 = 0 then
      if a6 = a3 then
        nX12_wanting_214 N c121 a0 a1 a2 a3 a4 a5 a6 a8 a8 h
      else
        nX12_wanting_214 N c121 a0 a1 a2 a3 a4 a5 a6 a8 a7 h
    else
      nX12_wanting_219 N c121 a0 a1 a2 a3 a4 a5 a6 a7 a8 h
def kX12_wanting_134 (N : Nat) (c121 : Nat → Int32 → Int32 → Int32 → Int32 → Int32 → Int32 → Int32 → Int32 → ra_H → Option (Int32 × ra_H)) (cs : Nat → Int32 → Int32 → Int32 → Int32 → Int32 → Int32 → Int32 → Int32 → Int32 → Int32 → ra_H → Option (Int32 × ra_H)) : Nat → List (Option Value) → List Value → ra_H → Option (Int32 × ra_H) := (ra_k1 183 (fun L S h => match L, S with
  | [some (.ref a0), some (.int a1), some (.int a2), some (.int a3), some (.int a4), some (.int a5), some (.int a6), some (.int a7), some (.int a8), _, some (.int a10)], [] => nX12_wanting_183 N c121 cs a0 a1 a2 a3 a4 a5 a6 a7 a8 a10 h
  | _, _ => none) (ra_k1 187 (fun L S h => match L, S with
  | [some (.ref a0), some (.int a1), some (.int a2), some (.int a3), some (.int a4), some (.int a5), some (.int a6), some (.int a7), some (.int a8), _, some (.int a10)], [] => nX12_wanting_187 N c121 cs a0 a1 a2 a3 a4 a5 a6 a7 a8 a10 h
  | _, _ => none) (ra_k1 214 (fun L S h => match L, S with
  | [some (.ref a0), some (.int a1), some (.int a2), some (.int a3), some (.int a4), some (.int a5), some (.int a6), _, some (.int a8), _, _], [.int b0] => nX12_wanting_214 N c121 a0 a1 a2 a3 a4 a5 a6 a8 b0 h
  | _, _ => none) (ra_k1 219 (fun L S h => match L, S with
  | [some (.ref a0), some (.int a1), some (.int a2), some (.int a3), some (.int a4), some (.int a5), some (.int a6), some (.int a7), some (.int a8), _, _], [] => nX12_wanting_219 N c121 a0 a1 a2 a3 a4 a5 a6 a7 a8 h
  | _, _ => none) ra_k0))))
theorem kX12_wanting_134_ok (N : Nat) (c121 : Nat → Int32 → Int32 → Int32 → Int32 → Int32 → Int32 → Int32 → Int32 → ra_H → Option (Int32 × ra_H)) (hc121 : ∀ a0 a1 a2 a3 a4 a5 a6 a7 a8 h r, c121 a0 a1 a2 a3 a4 a5 a6 a7 a8 h = some r → ra_Ru 2 mX12_wanting 121 [some (.ref a0), some (.int a1), some (.int a2), some (.int a3), some (.int a4), some (.int a5), some (.int a6), some (.int a7), some (.int a8), none, none] [] h (ra_oI r)) (cs : Nat → Int32 → Int32 → Int32 → Int32 → Int32 → Int32 → Int32 → Int32 → Int32 → Int32 → ra_H → Option (Int32 × ra_H)) (hcs : ∀ a0 a1 a2 a3 a4 a5 a6 a7 a8 a9 a10 h r, cs a0 a1 a2 a3 a4 a5 a6 a7 a8 a9 a10 h = some r → ra_Ru 2 mX12_wanting 134 [some (.ref a0), some (.int a1), some (.int a2), some (.int a3), some (.int a4), some (.int a5), some (.int a6), some (.int a7), some (.int a8), some (.int a9), some (.int a10)] [] h (ra_oI r)) : ra_kok 2 mX12_wanting ra_oI (kX12_wanting_134 N c121 cs) := (ra_k1_ok (by
  intro L S h a e
  split at e
  · exact ra_Ru.weak (nX12_wanting_183_ok N c121 cs hc121 hcs _ _ _ _ _ _ _ _ _ _ _ _ e) ⟨rfl, ⟨rfl, ⟨rfl, ⟨rfl, ⟨rfl, ⟨rfl, ⟨rfl, ⟨rfl, ⟨rfl, ⟨rfl, trivial⟩⟩⟩⟩⟩⟩⟩⟩⟩⟩
  · cases e) (ra_k1_ok (by
  intro L S h a e
  split at e
  · exact ra_Ru.weak (nX12_wanting_187_ok N c121 cs hc121 hcs _ _ _ _ _ _ _ _ _ _ _ _ e) ⟨rfl, ⟨rfl, ⟨rfl, ⟨rfl, ⟨rfl, ⟨rfl, ⟨rfl, ⟨rfl, ⟨rfl, ⟨rfl, trivial⟩⟩⟩⟩⟩⟩⟩⟩⟩⟩
  · cases e) (ra_k1_ok (by
  intro L S h a e
  split at e
  · exact ra_Ru.weak (nX12_wanting_214_ok N c121 hc121 _ _ _ _ _ _ _ _ _ _ _ e) ⟨rfl, ⟨rfl, ⟨rfl, ⟨rfl, ⟨rfl, ⟨rfl, ⟨rfl, ⟨rfl, trivial⟩⟩⟩⟩⟩⟩⟩⟩
  · cases e) (ra_k1_ok (by
  intro L S h a e
  split at e
  · exact ra_Ru.weak (nX12_wanting_219_ok N c121 hc121 _ _ _ _ _ _ _ _ _ _ _ e) ⟨rfl, ⟨rfl, ⟨rfl, ⟨rfl, ⟨rfl, ⟨rfl, ⟨rfl, ⟨rfl, ⟨rfl, trivial⟩⟩⟩⟩⟩⟩⟩⟩⟩
  · cases e) ra_k0_ok))))
set_option maxRecDepth 100000 in
theorem nX12_wanting_134_ok (N : Nat) (c121 : Nat → Int32 → Int32 → Int32 → Int32 → Int32 → Int32 → Int32 → Int32 → ra_H → Option (Int32 × ra_H)) (hc121 : ∀ a0 a1 a2 a3 a4 a5 a6 a7 a8 h r, c121 a0 a1 a2 a3 a4 a5 a6 a7 a8 h = some r → ra_Ru 2 mX12_wanting 121 [some (.ref a0), some (.int a1), some (.int a2), some (.int a3), some (.int a4), some (.int a5), some (.int a6), some (.int a7), some (.int a8), none, none] [] h (ra_oI r)) : ∀ n a0 a1 a2 a3 a4 a5 a6 a7 a8 a9 a10 h r, nX12_wanting_134 N c121 n a0 a1 a2 a3 a4 a5 a6 a7 a8 a9 a10 h = some r → ra_Ru 2 mX12_wanting 134 [some (.ref a0), some (.int a1), some (.int a2), some (.int a3), some (.int a4), some (.int a5), some (.int a6), some (.int a7), some (.int a8), some (.int a9), some (.int a10)] [] h (ra_oI r) := by
  intro n
  induction n with
  | zero => intro a0 a1 a2 a3 a4 a5 a6 a7 a8 a9 a10 h r e; cases e
  | succ n ih =>
    intro a0 a1 a2 a3 a4 a5 a6 a7 a8 a9 a10 h r e
    exact ra_sound (by omega) rfl ra_rI_ok (kX12_wanting_134_ok N c121 hc121 (nX12_wanting_134 N c121 n) ih) (fun m av h h1 e => (ra_c0_ok (ro := ra_oV)) m av h h1 e) (fun m av h x h1 e => (tIX12_wanting_ok N) m av h (x, h1) e) (fun m av h x h1 e => (ra_c0_ok (ro := ra_oJ)) m av h (x, h1) e) (fun m av h x h1 e => (ra_c0_ok (ro := ra_oR)) m av h (x, h1) e) (fun m av h x h1 e => (ra_c0_ok (ro := ra_oN)) m av h (x, h1) e) (fun m av h x h1 e => (ra_c0_ok (ro := ra_oF)) m av h (x, h1) e) 35 lX12_wanting_134 _ _ _ _ lX12_wanting_134_ck (show ra_run ra_rI (kX12_wanting_134 N c121 (nX12_wanting_134 N c121 n)) ra_c0 (tIX12_wanting N) ra_c0 ra_c0 ra_c0 ra_c0 35 lX12_wanting_134 [some (.ref a0), some (.int a1), some (.int a2), some (.int a3), some (.int a4), some (.int a5), some (.int a6), some (.int a7), some (.int a8), some (.int a9), some (.int a10)] [] h = some r from e) _ _ rfl
def lX12_wanting_246 : List ra_I := [(246, .ireturn, 1, 0, 0, 0, 0, 0, [])]
set_option maxRecDepth 100000 in
theorem lX12_wanting_246_ck : lX12_wanting_246.all (ra_ck mX12_wanting 12) = true := by decide +kernel
def nX12_wanting_246 (N : Nat) (b0 : Int32) (h : ra_H) : Option (Int32 × ra_H) :=
  some (b0, h)
def kX12_wanting_246 (N : Nat) : Nat → List (Option Value) → List Value → ra_H → Option (Int32 × ra_H) := ra_k0
theorem kX12_wanting_246_ok (N : Nat) : ra_kok 2 mX12_wanting ra_oI (kX12_wanting_246 N) := ra_k0_ok
set_option maxRecDepth 100000 in
theorem nX12_wanting_246_ok (N : Nat) (b0 : Int32) (h : ra_H) (r : (Int32 × ra_H)) (e : nX12_wanting_246 N b0 h = some r) : ra_Ru 2 mX12_wanting 246 [none, none, none, none, none, none, none, none, none, none, none] [.int b0] h (ra_oI r) :=
  ra_sound (by omega) rfl ra_rI_ok (kX12_wanting_246_ok N) (fun m av h h1 e => (ra_c0_ok (ro := ra_oV)) m av h h1 e) (fun m av h x h1 e => (tIX12_wanting_ok N) m av h (x, h1) e) (fun m av h x h1 e => (ra_c0_ok (ro := ra_oJ)) m av h (x, h1) e) (fun m av h x h1 e => (ra_c0_ok (ro := ra_oR)) m av h (x, h1) e) (fun m av h x h1 e => (ra_c0_ok (ro := ra_oN)) m av h (x, h1) e) (fun m av h x h1 e => (ra_c0_ok (ro := ra_oF)) m av h (x, h1) e) 2 lX12_wanting_246 _ _ _ _ lX12_wanting_246_ck (show ra_run ra_rI (kX12_wanting_246 N) ra_c0 (tIX12_wanting N) ra_c0 ra_c0 ra_c0 ra_c0 2 lX12_wanting_246 [none, none, none, none, none, none, none, none, none, none, none] [.int b0] h = some r from e) _ _ rfl
def lX12_wanting_121 : List ra_I := [(121, .iload 8, 2, 8, 0, 0, 0, 0, []),
  (123, .iload 4, 2, 4, 0, 0, 0, 0, []),
  (125, .if_icmp .gt (100), 3, 225, 0, 0, 0, 0, []),
  (128, .iconst (0), 1, 0, 0, 0, (0), 0, []),
  (129, .istore 9, 2, 9, 0, 0, 0, 0, []),
  (131, .iconst (0), 1, 0, 0, 0, (0), 0, []),
  (132, .istore 10, 2, 10, 0, 0, 0, 0, []),
  (225, .iload_n 2, 1, 2, 0, 0, 0, 0, []),
  (226, .ifCond .ne (8), 3, 234, 0, 0, 0, 0, []),
  (229, .iload 6, 2, 6, 0, 0, 0, 0, []),
  (231, .goto (15), 3, 246, 0, 0, 0, 0, []),
  (234, .iload_n 2, 1, 2, 0, 0, 0, 0, []),
  (235, .iconst (1), 1, 0, 0, 0, (1), 0, []),
  (236, .if_icmp .ne (8), 3, 244, 0, 0, 0, 0, []),
  (239, .iload 7, 2, 7, 0, 0, 0, 0, []),
  (241, .goto (5), 3, 246, 0, 0, 0, 0, []),
  (244, .iload 5, 2, 5, 0, 0, 0, 0, [])]
set_option maxRecDepth 100000 in
theorem lX12_wanting_121_ck : lX12_wanting_121.all (ra_ck mX12_wanting 12) = true := by decide +kernel
def nX12_wanting_121 (N : Nat) : Nat → Nat → Int32 → Int32 → Int32 → Int32 → Int32 → Int32 → Int32 → Int32 → ra_H → Option (Int32 × ra_H)
  | 0, _, _, _, _, _, _, _, _, _, _ => none
  | n + 1, a0, a1, a2, a3, a4, a5, a6, a7, a8, h =>
  if a8 ≤ a4 then
    nX12_wanting_134 N (nX12_wanting_121 N n) N a0 a1 a2 a3 a4 a5 a6 a7 a8 ((0 : Int32)) ((0 : Int32)) h
  else
    if a2 = 0 then
      nX12_wanting_246 N a6 h
    else
      if a2 = ((1 : Int32)) then
        nX12_wanting_246 N a7 h
      else
        nX12_wanting_246 N a5 h
def kX12_wanting_121 (N : Nat) (cs : Nat → Int32 → Int32 → Int32 → Int32 → Int32 → Int32 → Int32 → Int32 → ra_H → Option (Int32 × ra_H)) : Nat → List (Option Value) → List Value → ra_H → Option (Int32 × ra_H) := (ra_k1 134 (fun L S h => match L, S with
  | [some (.ref a0), some (.int a1), some (.int a2), some (.int a3), some (.int a4), some (.int a5), some (.int a6), some (.int a7), some (.int a8), some (.int a9), some (.int a10)], [] => nX12_wanting_134 N cs N a0 a1 a2 a3 a4 a5 a6 a7 a8 a9 a10 h
  | _, _ => none) (ra_k1 246 (fun L S h => match L, S with
  | [_, _, _, _, _, _, _, _, _, _, _], [.int b0] => nX12_wanting_246 N b0 h
  | _, _ => none) ra_k0))
theorem kX12_wanting_121_ok (N : Nat) (cs : Nat → Int32 → Int32 → Int32 → Int32 → Int32 → Int32 → Int32 → Int32 → ra_H → Option (Int32 × ra_H)) (hcs : ∀ a0 a1 a2 a3 a4 a5 a6 a7 a8 h r, cs a0 a1 a2 a3 a4 a5 a6 a7 a8 h = some r → ra_Ru 2 mX12_wanting 121 [some (.ref a0), some (.int a1), some (.int a2), some (.int a3), some (.int a4), some (.int a5), some (.int a6), some (.int a7), some (.int a8), none, none] [] h (ra_oI r)) : ra_kok 2 mX12_wanting ra_oI (kX12_wanting_121 N cs) := (ra_k1_ok (by
  intro L S h a e
  split at e
  · exact ra_Ru.weak (nX12_wanting_134_ok N cs hcs N _ _ _ _ _ _ _ _ _ _ _ _ _ e) ⟨rfl, ⟨rfl, ⟨rfl, ⟨rfl, ⟨rfl, ⟨rfl, ⟨rfl, ⟨rfl, ⟨rfl, ⟨rfl, ⟨rfl, trivial⟩⟩⟩⟩⟩⟩⟩⟩⟩⟩⟩
  · cases e) (ra_k1_ok (by
  intro L S h a e
  split at e
  · exact ra_Ru.weak (nX12_wanting_246_ok N _ _ _ e) trivial
  · cases e) ra_k0_ok))
set_option maxRecDepth 100000 in
theorem nX12_wanting_121_ok (N : Nat) : ∀ n a0 a1 a2 a3 a4 a5 a6 a7 a8 h r, nX12_wanting_121 N n a0 a1 a2 a3 a4 a5 a6 a7 a8 h = some r → ra_Ru 2 mX12_wanting 121 [some (.ref a0), some (.int a1), some (.int a2), some (.int a3), some (.int a4), some (.int a5), some (.int a6), some (.int a7), some (.int a8), none, none] [] h (ra_oI r) := by
  intro n
  induction n with
  | zero => intro a0 a1 a2 a3 a4 a5 a6 a7 a8 h r e; cases e
  | succ n ih =>
    intro a0 a1 a2 a3 a4 a5 a6 a7 a8 h r e
    exact ra_sound (by omega) rfl ra_rI_ok (kX12_wanting_121_ok N (nX12_wanting_121 N n) ih) (fun m av h h1 e => (ra_c0_ok (ro := ra_oV)) m av h h1 e) (fun m av h x h1 e => (tIX12_wanting_ok N) m av h (x, h1) e) (fun m av h x h1 e => (ra_c0_ok (ro := ra_oJ)) m av h (x, h1) e) (fun m av h x h1 e => (ra_c0_ok (ro := ra_oR)) m av h (x, h1) e) (fun m av h x h1 e => (ra_c0_ok (ro := ra_oN)) m av h (x, h1) e) (fun m av h x h1 e => (ra_c0_ok (ro := ra_oF)) m av h (x, h1) e) 18 lX12_wanting_121 _ _ _ _ lX12_wanting_121_ck (show ra_run ra_rI (kX12_wanting_121 N (nX12_wanting_121 N n)) ra_c0 (tIX12_wanting N) ra_c0 ra_c0 ra_c0 ra_c0 18 lX12_wanting_121 [some (.ref a0), some (.int a1), some (.int a2), some (.int a3), some (.int a4), some (.int a5), some (.int a6), some (.int a7), some (.int a8), none, none] [] h = some r from e) _ _ rfl
def lX12_wanting_40 : List ra_I := [(40, .iload 6, 2, 6, 0, 0, 0, 0, []),
  (42, .aload_n 0, 1, 0, 0, 0, 0, 0, []),
  (43, .getfield 13, 3, 12, 3, 2, 0, 0, []),
  (46, .sipush (480), 3, 0, 0, 0, (480), 0, []),
  (49, .iaload, 1, 0, 0, 0, 0, 0, []),
  (50, .if_icmp .ge (62), 3, 112, 0, 0, 0, 0, []),
  (53, .aload_n 0, 1, 0, 0, 0, 0, 0, []),
  (54, .getfield 13, 3, 12, 3, 2, 0, 0, []),
  (57, .bipush (12), 2, 0, 0, 0, (12), 0, []),
  (59, .iload 6, 2, 6, 0, 0, 0, 0, []),
  (61, .imul, 1, 0, 0, 0, 0, 0, []),
  (62, .iaload, 1, 0, 0, 0, 0, 0, []),
  (63, .iload_n 1, 1, 1, 0, 0, 0, 0, []),
  (64, .if_icmp .ne (42), 3, 106, 0, 0, 0, 0, []),
  (67, .iinc 5 (1), 3, 5, 0, 0, (1), 0, []),
  (70, .aload_n 0, 1, 0, 0, 0, 0, 0, []),
  (71, .getfield 13, 3, 12, 3, 2, 0, 0, []),
  (74, .bipush (12), 2, 0, 0, 0, (12), 0, []),
  (76, .iload 6, 2, 6, 0, 0, 0, 0, []),
  (78, .imul, 1, 0, 0, 0, 0, 0, []),
  (79, .iconst (1), 1, 0, 0, 0, (1), 0, []),
  (80, .iadd, 1, 0, 0, 0, 0, 0, []),
  (81, .iaload, 1, 0, 0, 0, 0, 0, []),
  (82, .iload 4, 2, 4, 0, 0, 0, 0, []),
  (84, .if_icmp .le (18), 3, 102, 0, 0, 0, 0, []),
  (87, .aload_n 0, 1, 0, 0, 0, 0, 0, []),
  (88, .getfield 13, 3, 12, 3, 2, 0, 0, []),
  (91, .bipush (12), 2, 0, 0, 0, (12), 0, []),
  (93, .iload 6, 2, 6, 0, 0, 0, 0, []),
  (95, .imul, 1, 0, 0, 0, 0, 0, []),
  (96, .iconst (1), 1, 0, 0, 0, (1), 0, []),
  (97, .iadd, 1, 0, 0, 0, 0, 0, []),
  (98, .iaload, 1, 0, 0, 0, 0, 0, []),
  (99, .goto (5), 3, 104, 0, 0, 0, 0, []),
  (102, .iload 4, 2, 4, 0, 0, 0, 0, []),
  (112, .iconst (0), 1, 0, 0, 0, (0), 0, []),
  (113, .istore 6, 2, 6, 0, 0, 0, 0, []),
  (115, .iconst (-1), 1, 0, 0, 0, (-1), 0, []),
  (116, .istore 7, 2, 7, 0, 0, 0, 0, []),
  (118, .iconst (1), 1, 0, 0, 0, (1), 0, []),
  (119, .istore 8, 2, 8, 0, 0, 0, 0, [])]
set_option maxRecDepth 100000 in
theorem lX12_wanting_40_ck : lX12_wanting_40.all (ra_ck mX12_wanting 12) = true := by decide +kernel
def nX12_wanting_40 (N : Nat) : Nat → Nat → Int32 → Int32 → Int32 → Int32 → Int32 → Int32 → ra_H → Option (Int32 × ra_H)
  | 0, _, _, _, _, _, _, _, _ => none
  | n + 1, a0, a1, a2, a3, a4, a5, a6, h =>
  (ra_fR h 12 a0 3).bind fun x1 =>
  (ra_aI h 0 x1 ((480 : Int32))).bind fun x2 =>
  if a6 < x2 then
    (ra_fR h 12 a0 3).bind fun x3 =>
    (ra_aI h 0 x3 (((12 : Int32)) * a6)).bind fun x4 =>
    if x4 = a1 then
      let y5 := a5 + (1 : Int32)
      (ra_fR h 12 a0 3).bind fun x6 =>
      (ra_aI h 0 x6 ((((12 : Int32)) * a6) + ((1 : Int32)))).bind fun x7 =>
      if x7 ≤ a4 then
        nX12_wanting_104 N (nX12_wanting_40 N n) a0 a1 a2 a3 y5 a6 a4 h
      else
        (ra_fR h 12 a0 3).bind fun x8 =>
        (ra_aI h 0 x8 ((((12 : Int32)) * a6) + ((1 : Int32)))).bind fun x9 =>
        nX12_wanting_104 N (nX12_wanting_40 N n) a0 a1 a2 a3 y5 a6 x9 h
    else
      nX12_wanting_106 N (nX12_wanting_40 N n) a0 a1 a2 a3 a4 a5 a6 h
  else
    nX12_wanting_121 N N a0 a1 a2 a3 a4 a5 ((0 : Int32)) ((-1 : Int32)) ((1 : Int32)) h
def kX12_wanting_40 (N : Nat) (cs : Nat → Int32 → Int32 → Int32 → Int32 → Int32 → Int32 → ra_H → Option (Int32 × ra_H)) : Nat → List (Option Value) → List Value → ra_H → Option (Int32 × ra_H) := (ra_k1 104 (fun L S h => match L, S with
  | [some (.ref a0), some (.int a1), some (.int a2), some (.int a3), _, some (.int a5), some (.int a6), _, _, _, _], [.int b0] => nX12_wanting_104 N cs a0 a1 a2 a3 a5 a6 b0 h
  | _, _ => none) (ra_k1 106 (fun L S h => match L, S with
  | [some (.ref a0), some (.int a1), some (.int a2), some (.int a3), some (.int a4), some (.int a5), some (.int a6), _, _, _, _], [] => nX12_wanting_106 N cs a0 a1 a2 a3 a4 a5 a6 h
  | _, _ => none) (ra_k1 121 (fun L S h => match L, S with
  | [some (.ref a0), some (.int a1), some (.int a2), some (.int a3), some (.int a4), some (.int a5), some (.int a6), some (.int a7), some (.int a8), _, _], [] => nX12_wanting_121 N N a0 a1 a2 a3 a4 a5 a6 a7 a8 h
  | _, _ => none) ra_k0)))
theorem kX12_wanting_40_ok (N : Nat) (cs : Nat → Int32 → Int32 → Int32 → Int32 → Int32 → Int32 → ra_H → Option (Int32 × ra_H)) (hcs : ∀ a0 a1 a2 a3 a4 a5 a6 h r, cs a0 a1 a2 a3 a4 a5 a6 h = some r → ra_Ru 2 mX12_wanting 40 [some (.ref a0), some (.int a1), some (.int a2), some (.int a3), some (.int a4), some (.int a5), some (.int a6), none, none, none, none] [] h (ra_oI r)) : ra_kok 2 mX12_wanting ra_oI (kX12_wanting_40 N cs) := (ra_k1_ok (by
  intro L S h a e
  split at e
  · exact ra_Ru.weak (nX12_wanting_104_ok N cs hcs _ _ _ _ _ _ _ _ _ e) ⟨rfl, ⟨rfl, ⟨rfl, ⟨rfl, ⟨rfl, ⟨rfl, trivial⟩⟩⟩⟩⟩⟩
  · cases e) (ra_k1_ok (by
  intro L S h a e
  split at e
  · exact ra_Ru.weak (nX12_wanting_106_ok N cs hcs _ _ _ _ _ _ _ _ _ e) ⟨rfl, ⟨rfl, ⟨rfl, ⟨rfl, ⟨rfl, ⟨rfl, ⟨rfl, trivial⟩⟩⟩⟩⟩⟩⟩
  · cases e) (ra_k1_ok (by
  intro L S h a e
  split at e
  · exact ra_Ru.weak (nX12_wanting_121_ok N N _ _ _ _ _ _ _ _ _ _ _ e) ⟨rfl, ⟨rfl, ⟨rfl, ⟨rfl, ⟨rfl, ⟨rfl, ⟨rfl, ⟨rfl, ⟨rfl, trivial⟩⟩⟩⟩⟩⟩⟩⟩⟩
  · cases e) ra_k0_ok)))
set_option maxRecDepth 100000 in
theorem nX12_wanting_40_ok (N : Nat) : ∀ n a0 a1 a2 a3 a4 a5 a6 h r, nX12_wanting_40 N n a0 a1 a2 a3 a4 a5 a6 h = some r → ra_Ru 2 mX12_wanting 40 [some (.ref a0), some (.int a1), some (.int a2), some (.int a3), some (.int a4), some (.int a5), some (.int a6), none, none, none, none] [] h (ra_oI r) := by
  intro n
  induction n with
  | zero => intro a0 a1 a2 a3 a4 a5 a6 h r e; cases e
  | succ n ih =>
    intro a0 a1 a2 a3 a4 a5 a6 h r e
    exact ra_sound (by omega) rfl ra_rI_ok (kX12_wanting_40_ok N (nX12_wanting_40 N n) ih) (fun m av h h1 e => (ra_c0_ok (ro := ra_oV)) m av h h1 e) (fun m av h x h1 e => (tIX12_wanting_ok N) m av h (x, h1) e) (fun m av h x h1 e => (ra_c0_ok (ro := ra_oJ)) m av h (x, h1) e) (fun m av h x h1 e => (ra_c0_ok (ro := ra_oR)) m av h (x, h1) e) (fun m av h x h1 e => (ra_c0_ok (ro := ra_oN)) m av h (x, h1) e) (fun m av h x h1 e => (ra_c0_ok (ro := ra_oF)) m av h (x, h1) e) 42 lX12_wanting_40 _ _ _ _ lX12_wanting_40_ck (show ra_run ra_rI (kX12_wanting_40 N (nX12_wanting_40 N n)) ra_c0 (tIX12_wanting N) ra_c0 ra_c0 ra_c0 ra_c0 42 lX12_wanting_40 [some (.ref a0), some (.int a1), some (.int a2), some (.int a3), some (.int a4), some (.int a5), some (.int a6), none, none, none, none] [] h = some r from e) _ _ rfl
def lX12_wanting_0 : List ra_I := [(0, .aload_n 0, 1, 0, 0, 0, 0, 0, []),
  (1, .iconst (0), 1, 0, 0, 0, (0), 0, []),
  (2, .putfield 147, 3, 12, 0, 0, 0, 0, []),
  (5, .iload_n 1, 1, 1, 0, 0, 0, 0, []),
  (6, .i2l, 1, 0, 0, 0, 0, 0, []),
  (7, .lconst 0, 1, 0, 0, 0, 0, 0, []),
  (8, .ldc2_w 161, 3, 0, 0, 0, 0, (8), []),
  (11, .invokestatic 153, 3, 209, 3, 1, 0, 0, []),
  (14, .ifCond .eq (15), 3, 29, 0, 0, 0, 0, []),
  (17, .iload_n 2, 1, 2, 0, 0, 0, 0, []),
  (18, .i2l, 1, 0, 0, 0, 0, 0, []),
  (19, .lconst 0, 1, 0, 0, 0, 0, 0, []),
  (20, .ldc2_w 173, 3, 0, 0, 0, 0, (2), []),
  (23, .invokestatic 153, 3, 209, 3, 1, 0, 0, []),
  (26, .ifCond .ne (5), 3, 31, 0, 0, 0, 0, []),
  (31, .iconst (0), 1, 0, 0, 0, (0), 0, []),
  (32, .istore 4, 2, 4, 0, 0, 0, 0, []),
  (34, .iconst (0), 1, 0, 0, 0, (0), 0, []),
  (35, .istore 5, 2, 5, 0, 0, 0, 0, []),
  (37, .iconst (0), 1, 0, 0, 0, (0), 0, []),
  (38, .istore 6, 2, 6, 0, 0, 0, 0, [])]
set_option maxRecDepth 100000 in
theorem lX12_wanting_0_ck : lX12_wanting_0.all (ra_ck mX12_wanting 12) = true := by decide +kernel
def nX12_wanting_0 (N : Nat) (a0 : Nat) (a1 : Int32) (a2 : Int32) (a3 : Int32) (h : ra_H) : Option (Int32 × ra_H) :=
  (ra_fW h 12 a0 0 (.int ((0 : Int32)))).bind fun h1 =>
  (fX12_in N (Int32.toInt64 a1) ((0 : Int64)) ((8 : Int64)) h1).bind fun q2 =>
  if q2.1 = 0 then
    nX12_wanting_29 N q2.2
  else
    (fX12_in N (Int32.toInt64 a2) ((0 : Int64)) ((2 : Int64)) q2.2).bind fun q3 =>
    if q3.1 = 0 then
      nX12_wanting_29 N q3.2
    else
      nX12_wanting_40 N N a0 a1 a2 a3 ((0 : Int32)) ((0 : Int32)) ((0 : Int32)) q3.2
def kX12_wanting_0 (N : Nat) : Nat → List (Option Value) → List Value → ra_H → Option (Int32 × ra_H) := (ra_k1 29 (fun L S h => match L, S with
  | [_, _, _, _, _, _, _, _, _, _, _], [] => nX12_wanting_29 N h
  | _, _ => none) (ra_k1 40 (fun L S h => match L, S with
  | [some (.ref a0), some (.int a1), some (.int a2), some (.int a3), some (.int a4), some (.int a5), some (.int a6), _, _, _, _], [] => nX12_wanting_40 N N a0 a1 a2 a3 a4 a5 a6 h
  | _, _ => none) ra_k0))
theorem kX12_wanting_0_ok (N : Nat) : ra_kok 2 mX12_wanting ra_oI (kX12_wanting_0 N) := (ra_k1_ok (by
  intro L S h a e
  split at e
  · exact ra_Ru.weak (nX12_wanting_29_ok N _ _ e) trivial
  · cases e) (ra_k1_ok (by
  intro L S h a e
  split at e
  · exact ra_Ru.weak (nX12_wanting_40_ok N N _ _ _ _ _ _ _ _ _ e) ⟨rfl, ⟨rfl, ⟨rfl, ⟨rfl, ⟨rfl, ⟨rfl, ⟨rfl, trivial⟩⟩⟩⟩⟩⟩⟩
  · cases e) ra_k0_ok))
set_option maxRecDepth 100000 in
theorem nX12_wanting_0_ok (N : Nat) (a0 : Nat) (a1 : Int32) (a2 : Int32) (a3 : Int32) (h : ra_H) (r : (Int32 × ra_H)) (e : nX12_wanting_0 N a0 a1 a2 a3 h = some r) : ra_Ru 2 mX12_wanting 0 [some (.ref a0), some (.int a1), some (.int a2), some (.int a3), none, none, none, none, none, none, none] [] h (ra_oI r) :=
  ra_sound (by omega) rfl ra_rI_ok (kX12_wanting_0_ok N) (fun m av h h1 e => (ra_c0_ok (ro := ra_oV)) m av h h1 e) (fun m av h x h1 e => (tIX12_wanting_ok N) m av h (x, h1) e) (fun m av h x h1 e => (ra_c0_ok (ro := ra_oJ)) m av h (x, h1) e) (fun m av h x h1 e => (ra_c0_ok (ro := ra_oR)) m av h (x, h1) e) (fun m av h x h1 e => (ra_c0_ok (ro := ra_oN)) m av h (x, h1) e) (fun m av h x h1 e => (ra_c0_ok (ro := ra_oF)) m av h (x, h1) e) 22 lX12_wanting_0 _ _ _ _ lX12_wanting_0_ck (show ra_run ra_rI (kX12_wanting_0 N) ra_c0 (tIX12_wanting N) ra_c0 ra_c0 ra_c0 ra_c0 22 lX12_wanting_0 [some (.ref a0), some (.int a1), some (.int a2), some (.int a3), none, none, none, none, none, none, none] [] h = some r from e) _ _ rfl
def fX12_wanting (N : Nat) (p0 : Nat) (p1 : Int32) (p2 : Int32) (p3 : Int32) (h : ra_H) : Option (Int32 × ra_H) := match ra_isOb h p0 12 with
  | true => nX12_wanting_0 N p0 p1 p2 p3 h
  | false => none
set_option maxRecDepth 100000 in
theorem mtX12_wanting : ra_MT[295]? = some (mX12_wanting, 1, 3, (1, 13), (8, 219), (8, 220)) := rfl
theorem fX12_wanting_co (N : Nat) (p0 : Nat) (p1 : Int32) (p2 : Int32) (p3 : Int32) (h : ra_H) (r : (Int32 × ra_H)) (e : fX12_wanting N p0 p1 p2 p3 h = some r) (D : Nat) (hD : 3 ≤ D) : ra_CO D 295 [.ref p0, .int p1, .int p2, .int p3] h (ra_oI r).1 (ra_oI r).2 := by
  have hw : ra_nw2 [.ref p0, .int p1, .int p2, .int p3] ≤ 11 := Nat.le_of_ble_eq_true rfl
  have hdb : ∀ v ∈ ([.ref p0, .int p1, .int p2, .int p3] : List Value), ∀ x, v ≠ .double x := by
    intro v hv x hx
    simp [hx] at hv
  unfold fX12_wanting at e
  split at e
  · rename_i ho
    have e1 := e
    exact ⟨2, _, mtX12_wanting, hD, ra_ev_of (by decide) hdb hw trivial (ra_Ru.weak (nX12_wanting_0_ok N p0 p1 p2 p3 h _ e1) ⟨rfl, ⟨rfl, ⟨rfl, ⟨rfl, trivial⟩⟩⟩⟩), (fun _ => ⟨_, _, rfl, ra_rcv_of ho (by decide) rfl⟩), (fun h => absurd h (by decide))⟩
  · cases e
/-! RedMarksModel.went(I)I -/
def mX12_went : ra_M := (yX12_went, cX12_went, 2, (some .int))
def tIX12_went (N : Nat) : Nat → List Value → ra_H → Option (Int32 × ra_H) := (ra_c1 209 (fun av h => match av with
  | [.long z0, .long z1, .long z2] => fX12_in N z0 z1 z2 h
  | _ => none) ra_c0)
theorem tIX12_went_ok (N : Nat) : ra_cok 2 ra_oI (tIX12_went N) := (ra_c1_ok (by
  intro av h a e
  split at e
  · exact fX12_in_co N _ _ _ _ _ e 2 (by omega)
  · cases e) ra_c0_ok)
def lX12_went_31 : List ra_I := [(31, .ireturn, 1, 0, 0, 0, 0, 0, [])]
set_option maxRecDepth 100000 in
theorem lX12_went_31_ck : lX12_went_31.all (ra_ck mX12_went 12) = true := by decide +kernel
def nX12_went_31 (N : Nat) (b0 : Int32) (h : ra_H) : Option (Int32 × ra_H) :=
  some (b0, h)
def kX12_went_31 (N : Nat) : Nat → List (Option Value) → List Value → ra_H → Option (Int32 × ra_H) := ra_k0
theorem kX12_went_31_ok (N : Nat) : ra_kok 2 mX12_went ra_oI (kX12_went_31 N) := ra_k0_ok
set_option maxRecDepth 100000 in
theorem nX12_went_31_ok (N : Nat) (b0 : Int32) (h : ra_H) (r : (Int32 × ra_H)) (e : nX12_went_31 N b0 h = some r) : ra_Ru 2 mX12_went 31 [none, none] [.int b0] h (ra_oI r) :=
  ra_sound (by omega) rfl ra_rI_ok (kX12_went_31_ok N) (fun m av h h1 e => (ra_c0_ok (ro := ra_oV)) m av h h1 e) (fun m av h x h1 e => (tIX12_went_ok N) m av h (x, h1) e) (fun m av h x h1 e => (ra_c0_ok (ro := ra_oJ)) m av h (x, h1) e) (fun m av h x h1 e => (ra_c0_ok (ro := ra_oR)) m av h (x, h1) e) (fun m av h x h1 e => (ra_c0_ok (ro := ra_oN)) m av h (x, h1) e) (fun m av h x h1 e => (ra_c0_ok (ro := ra_oF)) m av h (x, h1) e) 2 lX12_went_31 _ _ _ _ lX12_went_31_ck (show ra_run ra_rI (kX12_went_31 N) ra_c0 (tIX12_went N) ra_c0 ra_c0 ra_c0 ra_c0 2 lX12_went_31 [none, none] [.int b0] h = some r from e) _ _ rfl
def lX12_went_0 : List ra_I := [(0, .aload_n 0, 1, 0, 0, 0, 0, 0, []),
  (1, .iconst (0), 1, 0, 0, 0, (0), 0, []),
  (2, .putfield 147, 3, 12, 0, 0, 0, 0, []),
  (5, .iload_n 1, 1, 1, 0, 0, 0, 0, []),
  (6, .i2l, 1, 0, 0, 0, 0, 0, []),
  (7, .lconst 0, 1, 0, 0, 0, 0, 0, []),
  (8, .aload_n 0, 1, 0, 0, 0, 0, 0, []),
  (9, .getfield 141, 3, 12, 56, 0, 0, 0, []),
  (12, .i2l, 1, 0, 0, 0, 0, 0, []),
  (13, .lconst 1, 1, 0, 0, 0, 0, 1, []),
  (14, .lsub, 1, 0, 0, 0, 0, 0, []),
  (15, .invokestatic 153, 3, 209, 3, 1, 0, 0, []),
  (18, .ifCond .eq (12), 3, 30, 0, 0, 0, 0, []),
  (21, .aload_n 0, 1, 0, 0, 0, 0, 0, []),
  (22, .getfield 144, 3, 12, 57, 2, 0, 0, []),
  (25, .iload_n 1, 1, 1, 0, 0, 0, 0, []),
  (26, .iaload, 1, 0, 0, 0, 0, 0, []),
  (27, .goto (4), 3, 31, 0, 0, 0, 0, []),
  (30, .iconst (-1), 1, 0, 0, 0, (-1), 0, [])]
set_option maxRecDepth 100000 in
theorem lX12_went_0_ck : lX12_went_0.all (ra_ck mX12_went 12) = true := by decide +kernel
def nX12_went_0 (N : Nat) (a0 : Nat) (a1 : Int32) (h : ra_H) : Option (Int32 × ra_H) :=
  (ra_fW h 12 a0 0 (.int ((0 : Int32)))).bind fun h1 =>
  (ra_fI h1 12 a0 56).bind fun x2 =>
  (fX12_in N (Int32.toInt64 a1) ((0 : Int64)) ((Int32.toInt64 x2) - ((1 : Int64))) h1).bind fun q3 =>
  if q3.1 = 0 then
    nX12_went_31 N ((-1 : Int32)) q3.2
  else
    (ra_fR q3.2 12 a0 57).bind fun x4 =>
    (ra_aI q3.2 0 x4 a1).bind fun x5 =>
    nX12_went_31 N x5 q3.2
def kX12_went_0 (N : Nat) : Nat → List (Option Value) → List Value → ra_H → Option (Int32 × ra_H) := (ra_k1 31 (fun L S h => match L, S with
  | [_, _], [.int b0] => nX12_went_31 N b0 h
  | _, _ => none) ra_k0)
theorem kX12_went_0_ok (N : Nat) : ra_kok 2 mX12_went ra_oI (kX12_went_0 N) := (ra_k1_ok (by
  intro L S h a e
  split at e
  · exact ra_Ru.weak (nX12_went_31_ok N _ _ _ e) trivial
  · cases e) ra_k0_ok)
set_option maxRecDepth 100000 in
theorem nX12_went_0_ok (N : Nat) (a0 : Nat) (a1 : Int32) (h : ra_H) (r : (Int32 × ra_H)) (e : nX12_went_0 N a0 a1 h = some r) : ra_Ru 2 mX12_went 0 [some (.ref a0), some (.int a1)] [] h (ra_oI r) :=
  ra_sound (by omega) rfl ra_rI_ok (kX12_went_0_ok N) (fun m av h h1 e => (ra_c0_ok (ro := ra_oV)) m av h h1 e) (fun m av h x h1 e => (tIX12_went_ok N) m av h (x, h1) e) (fun m av h x h1 e => (ra_c0_ok (ro := ra_oJ)) m av h (x, h1) e) (fun m av h x h1 e => (ra_c0_ok (ro := ra_oR)) m av h (x, h1) e) (fun m av h x h1 e => (ra_c0_ok (ro := ra_oN)) m av h (x, h1) e) (fun m av h x h1 e => (ra_c0_ok (ro := ra_oF)) m av h (x, h1) e) 20 lX12_went_0 _ _ _ _ lX12_went_0_ck (show ra_run ra_rI (kX12_went_0 N) ra_c0 (tIX12_went N) ra_c0 ra_c0 ra_c0 ra_c0 20 lX12_went_0 [some (.ref a0), some (.int a1)] [] h = some r from e) _ _ rfl
def fX12_went (N : Nat) (p0 : Nat) (p1 : Int32) (h : ra_H) : Option (Int32 × ra_H) := match ra_isOb h p0 12 with
  | true => nX12_went_0 N p0 p1 h
  | false => none
set_option maxRecDepth 100000 in
theorem mtX12_went : ra_MT[318]? = some (mX12_went, 1, 1, (1, 13), (9, 77), (9, 78)) := rfl
theorem fX12_went_co (N : Nat) (p0 : Nat) (p1 : Int32) (h : ra_H) (r : (Int32 × ra_H)) (e : fX12_went N p0 p1 h = some r) (D : Nat) (hD : 3 ≤ D) : ra_CO D 318 [.ref p0, .int p1] h (ra_oI r).1 (ra_oI r).2 := by
  have hw : ra_nw2 [.ref p0, .int p1] ≤ 2 := Nat.le_of_ble_eq_true rfl
  have hdb : ∀ v ∈ ([.ref p0, .int p1] : List Value), ∀ x, v ≠ .double x := by
    intro v hv x hx
    simp [hx] at hv
  unfold fX12_went at e
  split at e
  · rename_i ho
    have e1 := e
    exact ⟨2, _, mtX12_went, hD, ra_ev_of (by decide) hdb hw trivial (ra_Ru.weak (nX12_went_0_ok N p0 p1 h _ e1) ⟨rfl, ⟨rfl, trivial⟩⟩), (fun _ => ⟨_, _, rfl, ra_rcv_of ho (by decide) rfl⟩), (fun h => absurd h (by decide))⟩
  · cases e
