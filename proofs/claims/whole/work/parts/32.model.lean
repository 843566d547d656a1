/-! RedMarksModel.could(IIII)I -/
def mX12_could : ra_M := (yX12_could, cX12_could, 10, (some .int))
def tVX12_could (N : Nat) : Nat → List Value → ra_H → Option ra_H := (ra_c1 286 (fun av h => match av with
  | [.ref z0] => fX12_matchAll N z0 h
  | _ => none) ra_c0)
theorem tVX12_could_ok (N : Nat) : ra_cok 8 ra_oV (tVX12_could N) := (ra_c1_ok (by
  intro av h a e
  split at e
  · exact fX12_matchAll_co N _ _ _ e 8 (by omega)
  · cases e) ra_c0_ok)
def tIX12_could (N : Nat) : Nat → List Value → ra_H → Option (Int32 × ra_H) := (ra_c1 209 (fun av h => match av with
  | [.long z0, .long z1, .long z2] => fX12_in N z0 z1 z2 h
  | _ => none) (ra_c1 224 (fun av h => match av with
  | [.int z0, .int z1] => fX12_isShelf N z0 z1 h
  | _ => none) (ra_c1 269 (fun av h => match av with
  | [.ref z0] => fX12_lookKept N z0 h
  | _ => none) (ra_c1 273 (fun av h => match av with
  | [.ref z0, .int z1] => fX12_freeOf N z0 z1 h
  | _ => none) (ra_c1 292 (fun av h => match av with
  | [.ref z0, .int z1] => fX12_bookOf N z0 z1 h
  | _ => none) ra_c0)))))
theorem tIX12_could_ok (N : Nat) : ra_cok 8 ra_oI (tIX12_could N) := (ra_c1_ok (by
  intro av h a e
  split at e
  · exact fX12_in_co N _ _ _ _ _ e 8 (by omega)
  · cases e) (ra_c1_ok (by
  intro av h a e
  split at e
  · exact fX12_isShelf_co N _ _ _ _ e 8 (by omega)
  · cases e) (ra_c1_ok (by
  intro av h a e
  split at e
  · exact fX12_lookKept_co N _ _ _ e 8 (by omega)
  · cases e) (ra_c1_ok (by
  intro av h a e
  split at e
  · exact fX12_freeOf_co N _ _ _ _ e 8 (by omega)
  · cases e) (ra_c1_ok (by
  intro av h a e
  split at e
  · exact fX12_bookOf_co N _ _ _ _ e 8 (by omega)
  · cases e) ra_c0_ok)))))
def lX12_could_55 : List ra_I := [(55, .iconst (-1), 1, 0, 0, 0, (-1), 0, []),
  (56, .ireturn, 1, 0, 0, 0, 0, 0, [])]
set_option maxRecDepth 100000 in
theorem lX12_could_55_ck : lX12_could_55.all (ra_ck mX12_could 12) = true := by decide +kernel
def nX12_could_55 (N : Nat) (h : ra_H) : Option (Int32 × ra_H) :=
  some ((-1 : Int32), h)
def kX12_could_55 (N : Nat) : Nat → List (Option Value) → List Value → ra_H → Option (Int32 × ra_H) := ra_k0
theorem kX12_could_55_ok (N : Nat) : ra_kok 8 mX12_could ra_oI (kX12_could_55 N) := ra_k0_ok
set_option maxRecDepth 100000 in
theorem nX12_could_55_ok (N : Nat) (h : ra_H) (r : (Int32 × ra_H)) (e : nX12_could_55 N h = some r) : ra_Ru 8 mX12_could 55 [none, none, none, none, none, none, none, none, none, none] [] h (ra_oI r) :=
  ra_sound (by omega) rfl ra_rI_ok (kX12_could_55_ok N) (fun m av h h1 e => (tVX12_could_ok N) m av h h1 e) (fun m av h x h1 e => (tIX12_could_ok N) m av h (x, h1) e) (fun m av h x h1 e => (ra_c0_ok (ro := ra_oJ)) m av h (x, h1) e) (fun m av h x h1 e => (ra_c0_ok (ro := ra_oR)) m av h (x, h1) e) (fun m av h x h1 e => (ra_c0_ok (ro := ra_oN)) m av h (x, h1) e) (fun m av h x h1 e => (ra_c0_ok (ro := ra_oF)) m av h (x, h1) e) 3 lX12_could_55 _ _ _ _ lX12_could_55_ck (show ra_run ra_rI (kX12_could_55 N) (tVX12_could N) (tIX12_could N) ra_c0 ra_c0 ra_c0 ra_c0 3 lX12_could_55 [none, none, none, none, none, none, none, none, none, none] [] h = some r from e) _ _ rfl
def lX12_could_148 : List ra_I := [(148, .iastore, 1, 0, 0, 0, 0, 0, []),
  (149, .iinc 7 (1), 3, 7, 0, 0, (1), 0, []),
  (152, .goto (-30), 3, 122, 0, 0, 0, 0, [])]
set_option maxRecDepth 100000 in
theorem lX12_could_148_ck : lX12_could_148.all (ra_ck mX12_could 12) = true := by decide +kernel
def nX12_could_148 (N : Nat) (c122 : Nat → Int32 → Int32 → Int32 → Int32 → Int32 → ra_H → Option (Int32 × ra_H)) (a0 : Nat) (a3 : Int32) (a4 : Int32) (a5 : Int32) (a6 : Int32) (a7 : Int32) (b0 : Nat) (b1 : Int32) (b2 : Int32) (h : ra_H) : Option (Int32 × ra_H) :=
  (ra_aW h 0 b0 b1 b2).bind fun h1 =>
  let y2 := a7 + (1 : Int32)
  c122 a0 a3 a4 a5 a6 y2 h1
def kX12_could_148 (N : Nat) (c122 : Nat → Int32 → Int32 → Int32 → Int32 → Int32 → ra_H → Option (Int32 × ra_H)) : Nat → List (Option Value) → List Value → ra_H → Option (Int32 × ra_H) := (ra_k1 122 (fun L S h => match L, S with
  | [some (.ref a0), _, _, some (.int a3), some (.int a4), some (.int a5), some (.int a6), some (.int a7), _, _], [] => c122 a0 a3 a4 a5 a6 a7 h
  | _, _ => none) ra_k0)
theorem kX12_could_148_ok (N : Nat) (c122 : Nat → Int32 → Int32 → Int32 → Int32 → Int32 → ra_H → Option (Int32 × ra_H)) (hc122 : ∀ a0 a3 a4 a5 a6 a7 h r, c122 a0 a3 a4 a5 a6 a7 h = some r → ra_Ru 8 mX12_could 122 [some (.ref a0), none, none, some (.int a3), some (.int a4), some (.int a5), some (.int a6), some (.int a7), none, none] [] h (ra_oI r)) : ra_kok 8 mX12_could ra_oI (kX12_could_148 N c122) := (ra_k1_ok (by
  intro L S h a e
  split at e
  · exact ra_Ru.weak (hc122 _ _ _ _ _ _ _ _ e) ⟨rfl, ⟨rfl, ⟨rfl, ⟨rfl, ⟨rfl, ⟨rfl, trivial⟩⟩⟩⟩⟩⟩
  · cases e) ra_k0_ok)
set_option maxRecDepth 100000 in
theorem nX12_could_148_ok (N : Nat) (c122 : Nat → Int32 → Int32 → Int32 → Int32 → Int32 → ra_H → Option (Int32 × ra_H)) (hc122 : ∀ a0 a3 a4 a5 a6 a7 h r, c122 a0 a3 a4 a5 a6 a7 h = some r → ra_Ru 8 mX12_could 122 [some (.ref a0), none, none, some (.int a3), some (.int a4), some (.int a5), some (.int a6), some (.int a7), none, none] [] h (ra_oI r)) (a0 : Nat) (a3 : Int32) (a4 : Int32) (a5 : Int32) (a6 : Int32) (a7 : Int32) (b0 : Nat) (b1 : Int32) (b2 : Int32) (h : ra_H) (r : (Int32 × ra_H)) (e : nX12_could_148 N c122 a0 a3 a4 a5 a6 a7 b0 b1 b2 h = some r) : ra_Ru 8 mX12_could 148 [some (.ref a0), none, none, some (.int a3), some (.int a4), some (.int a5), some (.int a6), some (.int a7), none, none] [.int b2, .int b1, .ref b0] h (ra_oI r) :=
  ra_sound (by omega) rfl ra_rI_ok (kX12_could_148_ok N c122 hc122) (fun m av h h1 e => (tVX12_could_ok N) m av h h1 e) (fun m av h x h1 e => (tIX12_could_ok N) m av h (x, h1) e) (fun m av h x h1 e => (ra_c0_ok (ro := ra_oJ)) m av h (x, h1) e) (fun m av h x h1 e => (ra_c0_ok (ro := ra_oR)) m av h (x, h1) e) (fun m av h x h1 e => (ra_c0_ok (ro := ra_oN)) m av h (x, h1) e) (fun m av h x h1 e => (ra_c0_ok (ro := ra_oF)) m av h (x, h1) e) 4 lX12_could_148 _ _ _ _ lX12_could_148_ck (show ra_run ra_rI (kX12_could_148 N c122) (tVX12_could N) (tIX12_could N) ra_c0 ra_c0 ra_c0 ra_c0 4 lX12_could_148 [some (.ref a0), none, none, some (.int a3), some (.int a4), some (.int a5), some (.int a6), some (.int a7), none, none] [.int b2, .int b1, .ref b0] h = some r from e) _ _ rfl
def lX12_could_244 : List ra_I := [(244, .iinc 7 (1), 3, 7, 0, 0, (1), 0, []),
  (247, .goto (-89), 3, 158, 0, 0, 0, 0, [])]
set_option maxRecDepth 100000 in
theorem lX12_could_244_ck : lX12_could_244.all (ra_ck mX12_could 12) = true := by decide +kernel
def nX12_could_244 (N : Nat) (c158 : Nat → Int32 → Int32 → Int32 → Int32 → ra_H → Option (Int32 × ra_H)) (a0 : Nat) (a3 : Int32) (a4 : Int32) (a5 : Int32) (a7 : Int32) (h : ra_H) : Option (Int32 × ra_H) :=
  let y1 := a7 + (1 : Int32)
  c158 a0 a3 a4 a5 y1 h
def kX12_could_244 (N : Nat) (c158 : Nat → Int32 → Int32 → Int32 → Int32 → ra_H → Option (Int32 × ra_H)) : Nat → List (Option Value) → List Value → ra_H → Option (Int32 × ra_H) := (ra_k1 158 (fun L S h => match L, S with
  | [some (.ref a0), _, _, some (.int a3), some (.int a4), some (.int a5), _, some (.int a7), _, _], [] => c158 a0 a3 a4 a5 a7 h
  | _, _ => none) ra_k0)
theorem kX12_could_244_ok (N : Nat) (c158 : Nat → Int32 → Int32 → Int32 → Int32 → ra_H → Option (Int32 × ra_H)) (hc158 : ∀ a0 a3 a4 a5 a7 h r, c158 a0 a3 a4 a5 a7 h = some r → ra_Ru 8 mX12_could 158 [some (.ref a0), none, none, some (.int a3), some (.int a4), some (.int a5), none, some (.int a7), none, none] [] h (ra_oI r)) : ra_kok 8 mX12_could ra_oI (kX12_could_244 N c158) := (ra_k1_ok (by
  intro L S h a e
  split at e
  · exact ra_Ru.weak (hc158 _ _ _ _ _ _ _ e) ⟨rfl, ⟨rfl, ⟨rfl, ⟨rfl, ⟨rfl, trivial⟩⟩⟩⟩⟩
  · cases e) ra_k0_ok)
set_option maxRecDepth 100000 in
theorem nX12_could_244_ok (N : Nat) (c158 : Nat → Int32 → Int32 → Int32 → Int32 → ra_H → Option (Int32 × ra_H)) (hc158 : ∀ a0 a3 a4 a5 a7 h r, c158 a0 a3 a4 a5 a7 h = some r → ra_Ru 8 mX12_could 158 [some (.ref a0), none, none, some (.int a3), some (.int a4), some (.int a5), none, some (.int a7), none, none] [] h (ra_oI r)) (a0 : Nat) (a3 : Int32) (a4 : Int32) (a5 : Int32) (a7 : Int32) (h : ra_H) (r : (Int32 × ra_H)) (e : nX12_could_244 N c158 a0 a3 a4 a5 a7 h = some r) : ra_Ru 8 mX12_could 244 [some (.ref a0), none, none, some (.int a3), some (.int a4), some (.int a5), none, some (.int a7), none, none] [] h (ra_oI r) :=
  ra_sound (by omega) rfl ra_rI_ok (kX12_could_244_ok N c158 hc158) (fun m av h h1 e => (tVX12_could_ok N) m av h h1 e) (fun m av h x h1 e => (tIX12_could_ok N) m av h (x, h1) e) (fun m av h x h1 e => (ra_c0_ok (ro := ra_oJ)) m av h (x, h1) e) (fun m av h x h1 e => (ra_c0_ok (ro := ra_oR)) m av h (x, h1) e) (fun m av h x h1 e => (ra_c0_ok (ro := ra_oN)) m av h (x, h1) e) (fun m av h x h1 e => (ra_c0_ok (ro := ra_oF)) m av h (x, h1) e) 3 lX12_could_244 _ _ _ _ lX12_could_244_ck (show ra_run ra_rI (kX12_could_244 N c158) (tVX12_could N) (tIX12_could N) ra_c0 ra_c0 ra_c0 ra_c0 3 lX12_could_244 [some (.ref a0), none, none, some (.int a3), some (.int a4), some (.int a5), none, some (.int a7), none, none] [] h = some r from e) _ _ rfl
def lX12_could_194 : List ra_I := [(194, .iload 9, 2, 9, 0, 0, 0, 0, []),
  (196, .iload 8, 2, 8, 0, 0, 0, 0, []),
  (198, .if_icmp .lt (46), 3, 244, 0, 0, 0, 0, []),
  (201, .iload 7, 2, 7, 0, 0, 0, 0, []),
  (203, .iload 4, 2, 4, 0, 0, 0, 0, []),
  (205, .if_icmp .eq (39), 3, 244, 0, 0, 0, 0, []),
  (208, .aload_n 0, 1, 0, 0, 0, 0, 0, []),
  (209, .iload 7, 2, 7, 0, 0, 0, 0, []),
  (211, .invokevirtual 467, 3, 292, 2, 1, 0, 0, []),
  (214, .iconst (-1), 1, 0, 0, 0, (-1), 0, []),
  (215, .if_icmp .ne (29), 3, 244, 0, 0, 0, 0, []),
  (218, .aload_n 0, 1, 0, 0, 0, 0, 0, []),
  (219, .getfield 132, 3, 12, 52, 2, 0, 0, []),
  (222, .iload 9, 2, 9, 0, 0, 0, 0, []),
  (224, .dup2, 1, 0, 0, 0, 0, 0, []),
  (225, .iaload, 1, 0, 0, 0, 0, 0, []),
  (226, .aload_n 0, 1, 0, 0, 0, 0, 0, []),
  (227, .getfield 132, 3, 12, 52, 2, 0, 0, []),
  (230, .iload 9, 2, 9, 0, 0, 0, 0, []),
  (232, .iload 8, 2, 8, 0, 0, 0, 0, []),
  (234, .isub, 1, 0, 0, 0, 0, 0, []),
  (235, .iaload, 1, 0, 0, 0, 0, 0, []),
  (236, .iadd, 1, 0, 0, 0, 0, 0, []),
  (237, .iastore, 1, 0, 0, 0, 0, 0, []),
  (238, .iinc 9 (-1), 3, 9, 0, 0, (-1), 0, []),
  (241, .goto (-47), 3, 194, 0, 0, 0, 0, [])]
set_option maxRecDepth 100000 in
theorem lX12_could_194_ck : lX12_could_194.all (ra_ck mX12_could 12) = true := by decide +kernel
def nX12_could_194 (N : Nat) (c158 : Nat → Int32 → Int32 → Int32 → Int32 → ra_H → Option (Int32 × ra_H)) : Nat → Nat → Int32 → Int32 → Int32 → Int32 → Int32 → Int32 → ra_H → Option (Int32 × ra_H)
  | 0, _, _, _, _, _, _, _, _ => none
  | n + 1, a0, a3, a4, a5, a7, a8, a9, h =>
  if a9 < a8 then
    nX12_could_244 N c158 a0 a3 a4 a5 a7 h
  else
    if a7 = a4 then
      nX12_could_244 N c158 a0 a3 a4 a5 a7 h
    else
      (fX12_bookOf N a0 a7 h).bind fun q1 =>
      if q1.1 = ((-1 : Int32)) then
        (ra_fR q1.2 12 a0 52).bind fun x2 =>
        (ra_aI q1.2 0 x2 a9).bind fun x3 =>
        (ra_fR q1.2 12 a0 52).bind fun x4 =>
        (ra_aI q1.2 0 x4 (a9 - a8)).bind fun x5 =>
        (ra_aW q1.2 0 x2 a9 (x3 + x5)).bind fun h6 =>
        let y7 := a9 + (-1 : Int32)
        nX12_could_194 N c158 n a0 a3 a4 a5 a7 a8 y7 h6
      else
        nX12_could_244 N c158 a0 a3 a4 a5 a7 q1.2
def kX12_could_194 (N : Nat) (c158 : Nat → Int32 → Int32 → Int32 → Int32 → ra_H → Option (Int32 × ra_H)) (cs : Nat → Int32 → Int32 → Int32 → Int32 → Int32 → Int32 → ra_H → Option (Int32 × ra_H)) : Nat → List (Option Value) → List Value → ra_H → Option (Int32 × ra_H) := (ra_k1 194 (fun L S h => match L, S with
  | [some (.ref a0), _, _, some (.int a3), some (.int a4), some (.int a5), _, some (.int a7), some (.int a8), some (.int a9)], [] => cs a0 a3 a4 a5 a7 a8 a9 h
  | _, _ => none) (ra_k1 244 (fun L S h => match L, S with
  | [some (.ref a0), _, _, some (.int a3), some (.int a4), some (.int a5), _, some (.int a7), _, _], [] => nX12_could_244 N c158 a0 a3 a4 a5 a7 h
  | _, _ => none) ra_k0))
theorem kX12_could_194_ok (N : Nat) (c158 : Nat → Int32 → Int32 → Int32 → Int32 → ra_H → Option (Int32 × ra_H)) (hc158 : ∀ a0 a3 a4 a5 a7 h r, c158 a0 a3 a4 a5 a7 h = some r → ra_Ru 8 mX12_could 158 [some (.ref a0), none, none, some (.int a3), some (.int a4), some (.int a5), none, some (.int a7), none, none] [] h (ra_oI r)) (cs : Nat → Int32 → Int32 → Int32 → Int32 → Int32 → Int32 → ra_H → Option (Int32 × ra_H)) (hcs : ∀ a0 a3 a4 a5 a7 a8 a9 h r, cs a0 a3 a4 a5 a7 a8 a9 h = some r → ra_Ru 8 mX12_could 194 [some (.ref a0), none, none, some (.int a3), some (.int a4), some (.int a5), none, some (.int a7), some (.int a8), some (.int a9)] [] h (ra_oI r)) : ra_kok 8 mX12_could ra_oI (kX12_could_194 N c158 cs) := (ra_k1_ok (by
  intro L S h a e
  split at e
  · exact ra_Ru.weak (hcs _ _ _ _ _ _ _ _ _ e) ⟨rfl, ⟨rfl, ⟨rfl, ⟨rfl, ⟨rfl, ⟨rfl, ⟨rfl, trivial⟩⟩⟩⟩⟩⟩⟩
  · cases e) (ra_k1_ok (by
  intro L S h a e
  split at e
  · exact ra_Ru.weak (nX12_could_244_ok N c158 hc158 _ _ _ _ _ _ _ e) ⟨rfl, ⟨rfl, ⟨rfl, ⟨rfl, ⟨rfl, trivial⟩⟩⟩⟩⟩
  · cases e) ra_k0_ok))
set_option maxRecDepth 100000 in
theorem nX12_could_194_ok (N : Nat) (c158 : Nat → Int32 → Int32 → Int32 → Int32 → ra_H → Option (Int32 × ra_H)) (hc158 : ∀ a0 a3 a4 a5 a7 h r, c158 a0 a3 a4 a5 a7 h = some r → ra_Ru 8 mX12_could 158 [some (.ref a0), none, none, some (.int a3), some (.int a4), some (.int a5), none, some (.int a7), none, none] [] h (ra_oI r)) : ∀ n a0 a3 a4 a5 a7 a8 a9 h r, nX12_could_194 N c158 n a0 a3 a4 a5 a7 a8 a9 h = some r → ra_Ru 8 mX12_could 194 [some (.ref a0), none, none, some (.int a3), some (.int a4), some (.int a5), none, some (.int a7), some (.int a8), some (.int a9)] [] h (ra_oI r) := by
  intro n
  induction n with
  | zero => intro a0 a3 a4 a5 a7 a8 a9 h r e; cases e
  | succ n ih =>
    intro a0 a3 a4 a5 a7 a8 a9 h r e
    exact ra_sound (by omega) rfl ra_rI_ok (kX12_could_194_ok N c158 hc158 (nX12_could_194 N c158 n) ih) (fun m av h h1 e => (tVX12_could_ok N) m av h h1 e) (fun m av h x h1 e => (tIX12_could_ok N) m av h (x, h1) e) (fun m av h x h1 e => (ra_c0_ok (ro := ra_oJ)) m av h (x, h1) e) (fun m av h x h1 e => (ra_c0_ok (ro := ra_oR)) m av h (x, h1) e) (fun m av h x h1 e => (ra_c0_ok (ro := ra_oN)) m av h (x, h1) e) (fun m av h x h1 e => (ra_c0_ok (ro := ra_oF)) m av h (x, h1) e) 27 lX12_could_194 _ _ _ _ lX12_could_194_ck (show ra_run ra_rI (kX12_could_194 N c158 (nX12_could_194 N c158 n)) (tVX12_could N) (tIX12_could N) ra_c0 ra_c0 ra_c0 ra_c0 27 lX12_could_194 [some (.ref a0), none, none, some (.int a3), some (.int a4), some (.int a5), none, some (.int a7), some (.int a8), some (.int a9)] [] h = some r from e) _ _ rfl
def lX12_could_293 : List ra_I := [(293, .iadd, 1, 0, 0, 0, 0, 0, []),
  (294, .istore 7, 2, 7, 0, 0, 0, 0, []),
  (296, .iinc 8 (1), 3, 8, 0, 0, (1), 0, []),
  (299, .goto (-43), 3, 256, 0, 0, 0, 0, [])]
set_option maxRecDepth 100000 in
theorem lX12_could_293_ck : lX12_could_293.all (ra_ck mX12_could 12) = true := by decide +kernel
def nX12_could_293 (N : Nat) (c256 : Nat → Int32 → Int32 → Int32 → Int32 → ra_H → Option (Int32 × ra_H)) (a0 : Nat) (a3 : Int32) (a5 : Int32) (a8 : Int32) (b0 : Int32) (b1 : Int32) (h : ra_H) : Option (Int32 × ra_H) :=
  let y1 := b0 + b1
  let y2 := a8 + (1 : Int32)
  c256 a0 a3 a5 y1 y2 h
def kX12_could_293 (N : Nat) (c256 : Nat → Int32 → Int32 → Int32 → Int32 → ra_H → Option (Int32 × ra_H)) : Nat → List (Option Value) → List Value → ra_H → Option (Int32 × ra_H) := (ra_k1 256 (fun L S h => match L, S with
  | [some (.ref a0), _, _, some (.int a3), _, some (.int a5), _, some (.int a7), some (.int a8), _], [] => c256 a0 a3 a5 a7 a8 h
  | _, _ => none) ra_k0)
theorem kX12_could_293_ok (N : Nat) (c256 : Nat → Int32 → Int32 → Int32 → Int32 → ra_H → Option (Int32 × ra_H)) (hc256 : ∀ a0 a3 a5 a7 a8 h r, c256 a0 a3 a5 a7 a8 h = some r → ra_Ru 8 mX12_could 256 [some (.ref a0), none, none, some (.int a3), none, some (.int a5), none, some (.int a7), some (.int a8), none] [] h (ra_oI r)) : ra_kok 8 mX12_could ra_oI (kX12_could_293 N c256) := (ra_k1_ok (by
  intro L S h a e
  split at e
  · exact ra_Ru.weak (hc256 _ _ _ _ _ _ _ e) ⟨rfl, ⟨rfl, ⟨rfl, ⟨rfl, ⟨rfl, trivial⟩⟩⟩⟩⟩
  · cases e) ra_k0_ok)
set_option maxRecDepth 100000 in
theorem nX12_could_293_ok (N : Nat) (c256 : Nat → Int32 → Int32 → Int32 → Int32 → ra_H → Option (Int32 × ra_H)) (hc256 : ∀ a0 a3 a5 a7 a8 h r, c256 a0 a3 a5 a7 a8 h = some r → ra_Ru 8 mX12_could 256 [some (.ref a0), none, none, some (.int a3), none, some (.int a5), none, some (.int a7), some (.int a8), none] [] h (ra_oI r)) (a0 : Nat) (a3 : Int32) (a5 : Int32) (a8 : Int32) (b0 : Int32) (b1 : Int32) (h : ra_H) (r : (Int32 × ra_H)) (e : nX12_could_293 N c256 a0 a3 a5 a8 b0 b1 h = some r) : ra_Ru 8 mX12_could 293 [some (.ref a0), none, none, some (.int a3), none, some (.int a5), none, none, some (.int a8), none] [.int b1, .int b0] h (ra_oI r) :=
  ra_sound (by omega) rfl ra_rI_ok (kX12_could_293_ok N c256 hc256) (fun m av h h1 e => (tVX12_could_ok N) m av h h1 e) (fun m av h x h1 e => (tIX12_could_ok N) m av h (x, h1) e) (fun m av h x h1 e => (ra_c0_ok (ro := ra_oJ)) m av h (x, h1) e) (fun m av h x h1 e => (ra_c0_ok (ro := ra_oR)) m av h (x, h1) e) (fun m av h x h1 e => (ra_c0_ok (ro := ra_oN)) m av h (x, h1) e) (fun m av h x h1 e => (ra_c0_ok (ro := ra_oF)) m av h (x, h1) e) 5 lX12_could_293 _ _ _ _ lX12_could_293_ck (show ra_run ra_rI (kX12_could_293 N c256) (tVX12_could N) (tIX12_could N) ra_c0 ra_c0 ra_c0 ra_c0 5 lX12_could_293 [some (.ref a0), none, none, some (.int a3), none, some (.int a5), none, none, some (.int a8), none] [.int b1, .int b0] h = some r from e) _ _ rfl
def lX12_could_292 : List ra_I := [(292, .iconst (0), 1, 0, 0, 0, (0), 0, [])]
set_option maxRecDepth 100000 in
theorem lX12_could_292_ck : lX12_could_292.all (ra_ck mX12_could 12) = true := by decide +kernel
def nX12_could_292 (N : Nat) (c256 : Nat → Int32 → Int32 → Int32 → Int32 → ra_H → Option (Int32 × ra_H)) (a0 : Nat) (a3 : Int32) (a5 : Int32) (a8 : Int32) (b0 : Int32) (h : ra_H) : Option (Int32 × ra_H) :=
  nX12_could_293 N c256 a0 a3 a5 a8 b0 ((0 : Int32)) h
def kX12_could_292 (N : Nat) (c256 : Nat → Int32 → Int32 → Int32 → Int32 → ra_H → Option (Int32 × ra_H)) : Nat → List (Option Value) → List Value → ra_H → Option (Int32 × ra_H) := (ra_k1 293 (fun L S h => match L, S with
  | [some (.ref a0), _, _, some (.int a3), _, some (.int a5), _, _, some (.int a8), _], [.int b1, .int b0] => nX12_could_293 N c256 a0 a3 a5 a8 b0 b1 h
  | _, _ => none) ra_k0)
theorem kX12_could_292_ok (N : Nat) (c256 : Nat → Int32 → Int32 → Int32 → Int32 → ra_H → Option (Int32 × ra_H)) (hc256 : ∀ a0 a3 a5 a7 a8 h r, c256 a0 a3 a5 a7 a8 h = some r → ra_Ru 8 mX12_could 256 [some (.ref a0), none, none, some (.int a3), none, some (.int a5), none, some (.int a7), some (.int a8), none] [] h (ra_oI r)) : ra_kok 8 mX12_could ra_oI (kX12_could_292 N c256) := (ra_k1_ok (by
  intro L S h a e
  split at e
  · exact ra_Ru.weak (nX12_could_293_ok N c256 hc256 _ _ _ _ _ _ _ _ e) ⟨rfl, ⟨rfl, ⟨rfl, ⟨rfl, trivial⟩⟩⟩⟩
  · cases e) ra_k0_ok)
set_option maxRecDepth 100000 in
theorem nX12_could_292_ok (N : Nat) (c256 : Nat → Int32 → Int32 → Int32 → Int32 → ra_H → Option (Int32 × ra_H)) (hc256 : ∀ a0 a3 a5 a7 a8 h r, c256 a0 a3 a5 a7 a8 h = some r → ra_Ru 8 mX12_could 256 [some (.ref a0), none, none, some (.int a3), none, some (.int a5), none, some (.int a7), some (.int a8), none] [] h (ra_oI r)) (a0 : Nat) (a3 : Int32) (a5 : Int32) (a8 : Int32) (b0 : Int32) (h : ra_H) (r : (Int32 × ra_H)) (e : nX12_could_292 N c256 a0 a3 a5 a8 b0 h = some r) : ra_Ru 8 mX12_could 292 [some (.ref a0), none, none, some (.int a3), none, some (.int a5), none, none, some (.int a8), none] [.int b0] h (ra_oI r) :=
  ra_sound (by omega) rfl ra_rI_ok (kX12_could_292_ok N c256 hc256) (fun m av h h1 e => (tVX12_could_ok N) m av h h1 e) (fun m av h x h1 e => (tIX12_could_ok N) m av h (x, h1) e) (fun m av h x h1 e => (ra_c0_ok (ro := ra_oJ)) m av h (x, h1) e) (fun m av h x h1 e => (ra_c0_ok (ro := ra_oR)) m av h (x, h1) e) (fun m av h x h1 e => (ra_c0_ok (ro := ra_oN)) m av h (x, h1) e) (fun m av h x h1 e => (ra_c0_ok (ro := ra_oF)) m av h (x, h1) e) 2 lX12_could_292 _ _ _ _ lX12_could_292_ck (show ra_run ra_rI (kX12_could_292 N c256) (tVX12_could N) (tIX12_could N) ra_c0 ra_c0 ra_c0 ra_c0 2 lX12_could_292 [some (.ref a0), none, none, some (.int a3), none, some (.int a5), none, none, some (.int a8), none] [.int b0] h = some r from e) _ _ rfl
def lX12_could_313 : List ra_I := [(313, .ireturn, 1, 0, 0, 0, 0, 0, [])]
set_option maxRecDepth 100000 in
theorem lX12_could_313_ck : lX12_could_313.all (ra_ck mX12_could 12) = true := by decide +kernel
def nX12_could_313 (N : Nat) (b0 : Int32) (h : ra_H) : Option (Int32 × ra_H) :=
  some (b0, h)
def kX12_could_313 (N : Nat) : Nat → List (Option Value) → List Value → ra_H → Option (Int32 × ra_H) := ra_k0
theorem kX12_could_313_ok (N : Nat) : ra_kok 8 mX12_could ra_oI (kX12_could_313 N) := ra_k0_ok
set_option maxRecDepth 100000 in
theorem nX12_could_313_ok (N : Nat) (b0 : Int32) (h : ra_H) (r : (Int32 × ra_H)) (e : nX12_could_313 N b0 h = some r) : ra_Ru 8 mX12_could 313 [none, none, none, none, none, none, none, none, none, none] [.int b0] h (ra_oI r) :=
  ra_sound (by omega) rfl ra_rI_ok (kX12_could_313_ok N) (fun m av h h1 e => (tVX12_could_ok N) m av h h1 e) (fun m av h x h1 e => (tIX12_could_ok N) m av h (x, h1) e) (fun m av h x h1 e => (ra_c0_ok (ro := ra_oJ)) m av h (x, h1) e) (fun m av h x h1 e => (ra_c0_ok (ro := ra_oR)) m av h (x, h1) e) (fun m av h x h1 e => (ra_c0_ok (ro := ra_oN)) m av h (x, h1) e) (fun m av h x h1 e => (ra_c0_ok (ro := ra_oF)) m av h (x, h1) e) 2 lX12_could_313 _ _ _ _ lX12_could_313_ck (show ra_run ra_rI (kX12_could_313 N) (tVX12_could N) (tIX12_could N) ra_c0 ra_c0 ra_c0 ra_c0 2 lX12_could_313 [none, none, none, none, none, none, none, none, none, none] [.int b0] h = some r from e) _ _ rfl
def lX12_could_256 : List ra_I := [(256, .iload 8, 2, 8, 0, 0, 0, 0, []),
  (258, .sipush (361), 3, 0, 0, 0, (361), 0, []),
  (261, .if_icmp .ge (41), 3, 302, 0, 0, 0, 0, []),
  (264, .iload 7, 2, 7, 0, 0, 0, 0, []),
  (266, .iload 8, 2, 8, 0, 0, 0, 0, []),
  (268, .iload 5, 2, 5, 0, 0, 0, 0, []),
  (270, .if_icmp .gt (22), 3, 292, 0, 0, 0, 0, []),
  (273, .iload 8, 2, 8, 0, 0, 0, 0, []),
  (275, .iload 5, 2, 5, 0, 0, 0, 0, []),
  (277, .iload_n 3, 1, 3, 0, 0, 0, 0, []),
  (278, .isub, 1, 0, 0, 0, 0, 0, []),
  (279, .if_icmp .lt (13), 3, 292, 0, 0, 0, 0, []),
  (282, .aload_n 0, 1, 0, 0, 0, 0, 0, []),
  (283, .getfield 132, 3, 12, 52, 2, 0, 0, []),
  (286, .iload 8, 2, 8, 0, 0, 0, 0, []),
  (288, .iaload, 1, 0, 0, 0, 0, 0, []),
  (289, .goto (4), 3, 293, 0, 0, 0, 0, []),
  (302, .iload 5, 2, 5, 0, 0, 0, 0, []),
  (304, .ifCond .ge (7), 3, 311, 0, 0, 0, 0, []),
  (307, .iconst (0), 1, 0, 0, 0, (0), 0, []),
  (308, .goto (5), 3, 313, 0, 0, 0, 0, []),
  (311, .iload 7, 2, 7, 0, 0, 0, 0, [])]
set_option maxRecDepth 100000 in
theorem lX12_could_256_ck : lX12_could_256.all (ra_ck mX12_could 12) = true := by decide +kernel
def nX12_could_256 (N : Nat) : Nat → Nat → Int32 → Int32 → Int32 → Int32 → ra_H → Option (Int32 × ra_H)
  | 0, _, _, _, _, _, _ => none
  | n + 1, a0, a3, a5, a7, a8, h =>
  if a8 < ((361 : Int32)) then
    if a8 ≤ a5 then
      if a8 < (a5 - a3) then
        nX12_could_292 N (nX12_could_256 N n) a0 a3 a5 a8 a7 h
      else
        (ra_fR h 12 a0 52).bind fun x1 =>
        (ra_aI h 0 x1 a8).bind fun x2 =>
        nX12_could_293 N (nX12_could_256 N n) a0 a3 a5 a8 a7 x2 h
    else
      nX12_could_292 N (nX12_could_256 N n) a0 a3 a5 a8 a7 h
  else
    if a5 < 0 then
      nX12_could_313 N ((0 : Int32)) h
    else
      nX12_could_313 N a7 h
def kX12_could_256 (N : Nat) (cs : Nat → Int32 → Int32 → Int32 → Int32 → ra_H → Option (Int32 × ra_H)) : Nat → List (Option Value) → List Value → ra_H → Option (Int32 × ra_H) := (ra_k1 292 (fun L S h => match L, S with
  | [some (.ref a0), _, _, some (.int a3), _, some (.int a5), _, _, some (.int a8), _], [.int b0] => nX12_could_292 N cs a0 a3 a5 a8 b0 h
  | _, _ => none) (ra_k1 293 (fun L S h => match L, S with
  | [some (.ref a0), _, _, some (.int a3), _, some (.int a5), _, _, some (.int a8), _], [.int b1, .int b0] => nX12_could_293 N cs a0 a3 a5 a8 b0 b1 h
  | _, _ => none) (ra_k1 313 (fun L S h => match L, S with
  | [_, _, _, _, _, _, _, _, _, _], [.int b0] => nX12_could_313 N b0 h
  | _, _ => none) ra_k0)))
theorem kX12_could_256_ok (N : Nat) (cs : Nat → Int32 → Int32 → Int32 → Int32 → ra_H → Option (Int32 × ra_H)) (hcs : ∀ a0 a3 a5 a7 a8 h r, cs a0 a3 a5 a7 a8 h = some r → ra_Ru 8 mX12_could 256 [some (.ref a0), none, none, some (.int a3), none, some (.int a5), none, some (.int a7), some (.int a8), none] [] h (ra_oI r)) : ra_kok 8 mX12_could ra_oI (kX12_could_256 N cs) := (ra_k1_ok (by
  intro L S h a e
  split at e
  · exact ra_Ru.weak (nX12_could_292_ok N cs hcs _ _ _ _ _ _ _ e) ⟨rfl, ⟨rfl, ⟨rfl, ⟨rfl, trivial⟩⟩⟩⟩
  · cases e) (ra_k1_ok (by
  intro L S h a e
  split at e
  · exact ra_Ru.weak (nX12_could_293_ok N cs hcs _ _ _ _ _ _ _ _ e) ⟨rfl, ⟨rfl, ⟨rfl, ⟨rfl, trivial⟩⟩⟩⟩
  · cases e) (ra_k1_ok (by
  intro L S h a e
  split at e
  · exact ra_Ru.weak (nX12_could_313_ok N _ _ _ e) trivial
  · cases e) ra_k0_ok)))
set_option maxRecDepth 100000 in
theorem nX12_could_256_ok (N : Nat) : ∀ n a0 a3 a5 a7 a8 h r, nX12_could_256 N n a0 a3 a5 a7 a8 h = some r → ra_Ru 8 mX12_could 256 [some (.ref a0), none, none, some (.int a3), none, some (.int a5), none, some (.int a7), some (.int a8), none] [] h (ra_oI r) := by
  intro n
  induction n with
  | zero => intro a0 a3 a5 a7 a8 h r e; cases e
  | succ n ih =>
    intro a0 a3 a5 a7 a8 h r e
    exact ra_sound (by omega) rfl ra_rI_ok (kX12_could_256_ok N (nX12_could_256 N n) ih) (fun m av h h1 e => (tVX12_could_ok N) m av h h1 e) (fun m av h x h1 e => (tIX12_could_ok N) m av h (x, h1) e) (fun m av h x h1 e => (ra_c0_ok (ro := ra_oJ)) m av h (x, h1) e) (fun m av h x h1 e => (ra_c0_ok (ro := ra_oR)) m av h (x, h1) e) (fun m av h x h1 e => (ra_c0_ok (ro := ra_oN)) m av h (x, h1) e) (fun m av h x h1 e => (ra_c0_ok (ro := ra_oF)) m av h (x, h1) e) 23 lX12_could_256 _ _ _ _ lX12_could_256_ck (show ra_run ra_rI (kX12_could_256 N (nX12_could_256 N n)) (tVX12_could N) (tIX12_could N) ra_c0 ra_c0 ra_c0 ra_c0 23 lX12_could_256 [some (.ref a0), none, none, some (.int a3), none, some (.int a5), none, some (.int a7), some (.int a8), none] [] h = some r from e) _ _ rfl
def lX12_could_158 : List ra_I := [(158, .iload 7, 2, 7, 0, 0, 0, 0, []),
  (160, .aload_n 0, 1, 0, 0, 0, 0, 0, []),
  (161, .getfield 13, 3, 12, 3, 2, 0, 0, []),
  (164, .sipush (482), 3, 0, 0, 0, (482), 0, []),
  (167, .iaload, 1, 0, 0, 0, 0, 0, []),
  (168, .if_icmp .ge (82), 3, 250, 0, 0, 0, 0, []),
  (171, .aload_n 0, 1, 0, 0, 0, 0, 0, []),
  (172, .getfield 13, 3, 12, 3, 2, 0, 0, []),
  (175, .sipush (650), 3, 0, 0, 0, (650), 0, []),
  (178, .bipush (6), 2, 0, 0, 0, (6), 0, []),
  (180, .iload 7, 2, 7, 0, 0, 0, 0, []),
  (182, .imul, 1, 0, 0, 0, 0, 0, []),
  (183, .iadd, 1, 0, 0, 0, 0, 0, []),
  (184, .iconst (2), 1, 0, 0, 0, (2), 0, []),
  (185, .iadd, 1, 0, 0, 0, 0, 0, []),
  (186, .iaload, 1, 0, 0, 0, 0, 0, []),
  (187, .istore 8, 2, 8, 0, 0, 0, 0, []),
  (189, .sipush (360), 3, 0, 0, 0, (360), 0, []),
  (192, .istore 9, 2, 9, 0, 0, 0, 0, []),
  (250, .iconst (0), 1, 0, 0, 0, (0), 0, []),
  (251, .istore 7, 2, 7, 0, 0, 0, 0, []),
  (253, .iconst (0), 1, 0, 0, 0, (0), 0, []),
  (254, .istore 8, 2, 8, 0, 0, 0, 0, [])]
set_option maxRecDepth 100000 in
theorem lX12_could_158_ck : lX12_could_158.all (ra_ck mX12_could 12) = true := by decide +kernel
def nX12_could_158 (N : Nat) : Nat → Nat → Int32 → Int32 → Int32 → Int32 → ra_H → Option (Int32 × ra_H)
  | 0, _, _, _, _, _, _ => none
  | n + 1, a0, a3, a4, a5, a7, h =>
  (ra_fR h 12 a0 3).bind fun x1 =>
  (ra_aI h 0 x1 ((482 : Int32))).bind fun x2 =>
  if a7 < x2 then
    (ra_fR h 12 a0 3).bind fun x3 =>
    (ra_aI h 0 x3 ((((650 : Int32)) + (((6 : Int32)) * a7)) + ((2 : Int32)))).bind fun x4 =>
    nX12_could_194 N (nX12_could_158 N n) N a0 a3 a4 a5 a7 x4 ((360 : Int32)) h
  else
    nX12_could_256 N N a0 a3 a5 ((0 : Int32)) ((0 : Int32)) h
def kX12_could_158 (N : Nat) (cs : Nat → Int32 → Int32 → Int32 → Int32 → ra_H → Option (Int32 × ra_H)) : Nat → List (Option Value) → List Value → ra_H → Option (Int32 × ra_H) := (ra_k1 194 (fun L S h => match L, S with
  | [some (.ref a0), _, _, some (.int a3), some (.int a4), some (.int a5), _, some (.int a7), some (.int a8), some (.int a9)], [] => nX12_could_194 N cs N a0 a3 a4 a5 a7 a8 a9 h
  | _, _ => none) (ra_k1 256 (fun L S h => match L, S with
  | [some (.ref a0), _, _, some (.int a3), _, some (.int a5), _, some (.int a7), some (.int a8), _], [] => nX12_could_256 N N a0 a3 a5 a7 a8 h
  | _, _ => none) ra_k0))
theorem kX12_could_158_ok (N : Nat) (cs : Nat → Int32 → Int32 → Int32 → Int32 → ra_H → Option (Int32 × ra_H)) (hcs : ∀ a0 a3 a4 a5 a7 h r, cs a0 a3 a4 a5 a7 h = some r → ra_Ru 8 mX12_could 158 [some (.ref a0), none, none, some (.int a3), some (.int a4), some (.int a5), none, some (.int a7), none, none] [] h (ra_oI r)) : ra_kok 8 mX12_could ra_oI (kX12_could_158 N cs) := (ra_k1_ok (by
  intro L S h a e
  split at e
  · exact ra_Ru.weak (nX12_could_194_ok N cs hcs N _ _ _ _ _ _ _ _ _ e) ⟨rfl, ⟨rfl, ⟨rfl, ⟨rfl, ⟨rfl, ⟨rfl, ⟨rfl, trivial⟩⟩⟩⟩⟩⟩⟩
  · cases e) (ra_k1_ok (by
  intro L S h a e
  split at e
  · exact ra_Ru.weak (nX12_could_256_ok N N _ _ _ _ _ _ _ e) ⟨rfl, ⟨rfl, ⟨rfl, ⟨rfl, ⟨rfl, trivial⟩⟩⟩⟩⟩
  · cases e) ra_k0_ok))
set_option maxRecDepth 100000 in
theorem nX12_could_158_ok (N : Nat) : ∀ n a0 a3 a4 a5 a7 h r, nX12_could_158 N n a0 a3 a4 a5 a7 h = some r → ra_Ru 8 mX12_could 158 [some (.ref a0), none, none, some (.int a3), some (.int a4), some (.int a5), none, some (.int a7), none, none] [] h (ra_oI r) := by
  intro n
  induction n with
  | zero => intro a0 a3 a4 a5 a7 h r e; cases e
  | succ n ih =>
    intro a0 a3 a4 a5 a7 h r e
    exact ra_sound (by omega) rfl ra_rI_ok (kX12_could_158_ok N (nX12_could_158 N n) ih) (fun m av h h1 e => (tVX12_could_ok N) m av h h1 e) (fun m av h x h1 e => (tIX12_could_ok N) m av h (x, h1) e) (fun m av h x h1 e => (ra_c0_ok (ro := ra_oJ)) m av h (x, h1) e) (fun m av h x h1 e => (ra_c0_ok (ro := ra_oR)) m av h (x, h1) e) (fun m av h x h1 e => (ra_c0_ok (ro := ra_oN)) m av h (x, h1) e) (fun m av h x h1 e => (ra_c0_ok (ro := ra_oF)) m av h (x, h1) e) 24 lX12_could_158 _ _ _ _ lX12_could_158_ck (show ra_run ra_rI (kX12_could_158 N (nX12_could_158 N n)) (tVX12_could N) (tIX12_could N) ra_c0 ra_c0 ra_c0 ra_c0 24 lX12_could_158 [some (.ref a0), none, none, some (.int a3), some (.int a4), some (.int a5), none, some (.int a7), none, none] [] h = some r from e) _ _ rfl
def lX12_could_122 : List ra_I := [(122, .iload 7, 2, 7, 0, 0, 0, 0, []),
  (124, .sipush (361), 3, 0, 0, 0, (361), 0, []),
  (127, .if_icmp .ge (28), 3, 155, 0, 0, 0, 0, []),
  (130, .aload_n 0, 1, 0, 0, 0, 0, 0, []),
  (131, .getfield 132, 3, 12, 52, 2, 0, 0, []),
  (134, .iload 7, 2, 7, 0, 0, 0, 0, []),
  (136, .iload 7, 2, 7, 0, 0, 0, 0, []),
  (138, .iload 6, 2, 6, 0, 0, 0, 0, []),
  (140, .if_icmp .ne (7), 3, 147, 0, 0, 0, 0, []),
  (143, .iconst (1), 1, 0, 0, 0, (1), 0, []),
  (144, .goto (4), 3, 148, 0, 0, 0, 0, []),
  (147, .iconst (0), 1, 0, 0, 0, (0), 0, []),
  (155, .iconst (0), 1, 0, 0, 0, (0), 0, []),
  (156, .istore 7, 2, 7, 0, 0, 0, 0, [])]
set_option maxRecDepth 100000 in
theorem lX12_could_122_ck : lX12_could_122.all (ra_ck mX12_could 12) = true := by decide +kernel
def nX12_could_122 (N : Nat) : Nat → Nat → Int32 → Int32 → Int32 → Int32 → Int32 → ra_H → Option (Int32 × ra_H)
  | 0, _, _, _, _, _, _, _ => none
  | n + 1, a0, a3, a4, a5, a6, a7, h =>
  if a7 < ((361 : Int32)) then
    (ra_fR h 12 a0 52).bind fun x1 =>
    if a7 = a6 then
      nX12_could_148 N (nX12_could_122 N n) a0 a3 a4 a5 a6 a7 x1 a7 ((1 : Int32)) h
    else
      nX12_could_148 N (nX12_could_122 N n) a0 a3 a4 a5 a6 a7 x1 a7 ((0 : Int32)) h
  else
    nX12_could_158 N N a0 a3 a4 a5 ((0 : Int32)) h
def kX12_could_122 (N : Nat) (cs : Nat → Int32 → Int32 → Int32 → Int32 → Int32 → ra_H → Option (Int32 × ra_H)) : Nat → List (Option Value) → List Value → ra_H → Option (Int32 × ra_H) := (ra_k1 148 (fun L S h => match L, S with
  | [some (.ref a0), _, _, some (.int a3), some (.int a4), some (.int a5), some (.int a6), some (.int a7), _, _], [.int b2, .int b1, .ref b0] => nX12_could_148 N cs a0 a3 a4 a5 a6 a7 b0 b1 b2 h
  | _, _ => none) (ra_k1 158 (fun L S h => match L, S with
  | [some (.ref a0), _, _, some (.int a3), some (.int a4), some (.int a5), _, some (.int a7), _, _], [] => nX12_could_158 N N a0 a3 a4 a5 a7 h
  | _, _ => none) ra_k0))
theorem kX12_could_122_ok (N : Nat) (cs : Nat → Int32 → Int32 → Int32 → Int32 → Int32 → ra_H → Option (Int32 × ra_H)) (hcs : ∀ a0 a3 a4 a5 a6 a7 h r, cs a0 a3 a4 a5 a6 a7 h = some r → ra_Ru 8 mX12_could 122 [some (.ref a0), none, none, some (.int a3), some (.int a4), some (.int a5), some (.int a6), some (.int a7), none, none] [] h (ra_oI r)) : ra_kok 8 mX12_could ra_oI (kX12_could_122 N cs) := (ra_k1_ok (by
  intro L S h a e
  split at e
  · exact ra_Ru.weak (nX12_could_148_ok N cs hcs _ _ _ _ _ _ _ _ _ _ _ e) ⟨rfl, ⟨rfl, ⟨rfl, ⟨rfl, ⟨rfl, ⟨rfl, trivial⟩⟩⟩⟩⟩⟩
  · cases e) (ra_k1_ok (by
  intro L S h a e
  split at e
  · exact ra_Ru.weak (nX12_could_158_ok N N _ _ _ _ _ _ _ e) ⟨rfl, ⟨rfl, ⟨rfl, ⟨rfl, ⟨rfl, trivial⟩⟩⟩⟩⟩
  · cases e) ra_k0_ok))
set_option maxRecDepth 100000 in
theorem nX12_could_122_ok (N : Nat) : ∀ n a0 a3 a4 a5 a6 a7 h r, nX12_could_122 N n a0 a3 a4 a5 a6 a7 h = some r → ra_Ru 8 mX12_could 122 [some (.ref a0), none, none, some (.int a3), some (.int a4), some (.int a5), some (.int a6), some (.int a7), none, none] [] h (ra_oI r) := by
  intro n
  induction n with
  | zero => intro a0 a3 a4 a5 a6 a7 h r e; cases e
  | succ n ih =>
    intro a0 a3 a4 a5 a6 a7 h r e
    exact ra_sound (by omega) rfl ra_rI_ok (kX12_could_122_ok N (nX12_could_122 N n) ih) (fun m av h h1 e => (tVX12_could_ok N) m av h h1 e) (fun m av h x h1 e => (tIX12_could_ok N) m av h (x, h1) e) (fun m av h x h1 e => (ra_c0_ok (ro := ra_oJ)) m av h (x, h1) e) (fun m av h x h1 e => (ra_c0_ok (ro := ra_oR)) m av h (x, h1) e) (fun m av h x h1 e => (ra_c0_ok (ro := ra_oN)) m av h (x, h1) e) (fun m av h x h1 e => (ra_c0_ok (ro := ra_oF)) m av h (x, h1) e) 15 lX12_could_122 _ _ _ _ lX12_could_122_ck (show ra_run ra_rI (kX12_could_122 N (nX12_could_122 N n)) (tVX12_could N) (tIX12_could N) ra_c0 ra_c0 ra_c0 ra_c0 15 lX12_could_122 [some (.ref a0), none, none, some (.int a3), some (.int a4), some (.int a5), some (.int a6), some (.int a7), none, none] [] h = some r from e) _ _ rfl
def lX12_could_117 : List ra_I := [(117, .istore 6, 2, 6, 0, 0, 0, 0, []),
  (119, .iconst (0), 1, 0, 0, 0, (0), 0, []),
  (120, .istore 7, 2, 7, 0, 0, 0, 0, [])]
set_option maxRecDepth 100000 in
theorem lX12_could_117_ck : lX12_could_117.all (ra_ck mX12_could 12) = true := by decide +kernel
def nX12_could_117 (N : Nat) (a0 : Nat) (a3 : Int32) (a4 : Int32) (a5 : Int32) (b0 : Int32) (h : ra_H) : Option (Int32 × ra_H) :=
  nX12_could_122 N N a0 a3 a4 a5 b0 ((0 : Int32)) h
def kX12_could_117 (N : Nat) : Nat → List (Option Value) → List Value → ra_H → Option (Int32 × ra_H) := (ra_k1 122 (fun L S h => match L, S with
  | [some (.ref a0), _, _, some (.int a3), some (.int a4), some (.int a5), some (.int a6), some (.int a7), _, _], [] => nX12_could_122 N N a0 a3 a4 a5 a6 a7 h
  | _, _ => none) ra_k0)
theorem kX12_could_117_ok (N : Nat) : ra_kok 8 mX12_could ra_oI (kX12_could_117 N) := (ra_k1_ok (by
  intro L S h a e
  split at e
  · exact ra_Ru.weak (nX12_could_122_ok N N _ _ _ _ _ _ _ _ e) ⟨rfl, ⟨rfl, ⟨rfl, ⟨rfl, ⟨rfl, ⟨rfl, trivial⟩⟩⟩⟩⟩⟩
  · cases e) ra_k0_ok)
set_option maxRecDepth 100000 in
theorem nX12_could_117_ok (N : Nat) (a0 : Nat) (a3 : Int32) (a4 : Int32) (a5 : Int32) (b0 : Int32) (h : ra_H) (r : (Int32 × ra_H)) (e : nX12_could_117 N a0 a3 a4 a5 b0 h = some r) : ra_Ru 8 mX12_could 117 [some (.ref a0), none, none, some (.int a3), some (.int a4), some (.int a5), none, none, none, none] [.int b0] h (ra_oI r) :=
  ra_sound (by omega) rfl ra_rI_ok (kX12_could_117_ok N) (fun m av h h1 e => (tVX12_could_ok N) m av h h1 e) (fun m av h x h1 e => (tIX12_could_ok N) m av h (x, h1) e) (fun m av h x h1 e => (ra_c0_ok (ro := ra_oJ)) m av h (x, h1) e) (fun m av h x h1 e => (ra_c0_ok (ro := ra_oR)) m av h (x, h1) e) (fun m av h x h1 e => (ra_c0_ok (ro := ra_oN)) m av h (x, h1) e) (fun m av h x h1 e => (ra_c0_ok (ro := ra_oF)) m av h (x, h1) e) 4 lX12_could_117 _ _ _ _ lX12_could_117_ck (show ra_run ra_rI (kX12_could_117 N) (tVX12_could N) (tIX12_could N) ra_c0 ra_c0 ra_c0 ra_c0 4 lX12_could_117 [some (.ref a0), none, none, some (.int a3), some (.int a4), some (.int a5), none, none, none, none] [.int b0] h = some r from e) _ _ rfl
def lX12_could_91 : List ra_I := [(91, .iload 4, 2, 4, 0, 0, 0, 0, []),
  (93, .iconst (-1), 1, 0, 0, 0, (-1), 0, []),
  (94, .if_icmp .ne (7), 3, 101, 0, 0, 0, 0, []),
  (97, .iconst (0), 1, 0, 0, 0, (0), 0, []),
  (98, .goto (19), 3, 117, 0, 0, 0, 0, []),
  (101, .aload_n 0, 1, 0, 0, 0, 0, 0, []),
  (102, .getfield 13, 3, 12, 3, 2, 0, 0, []),
  (105, .sipush (650), 3, 0, 0, 0, (650), 0, []),
  (108, .bipush (6), 2, 0, 0, 0, (6), 0, []),
  (110, .iload 4, 2, 4, 0, 0, 0, 0, []),
  (112, .imul, 1, 0, 0, 0, 0, 0, []),
  (113, .iadd, 1, 0, 0, 0, 0, 0, []),
  (114, .iconst (2), 1, 0, 0, 0, (2), 0, []),
  (115, .iadd, 1, 0, 0, 0, 0, 0, []),
  (116, .iaload, 1, 0, 0, 0, 0, 0, [])]
set_option maxRecDepth 100000 in
theorem lX12_could_91_ck : lX12_could_91.all (ra_ck mX12_could 12) = true := by decide +kernel
def nX12_could_91 (N : Nat) (a0 : Nat) (a3 : Int32) (a4 : Int32) (a5 : Int32) (h : ra_H) : Option (Int32 × ra_H) :=
  if a4 = ((-1 : Int32)) then
    nX12_could_117 N a0 a3 a4 a5 ((0 : Int32)) h
  else
    (ra_fR h 12 a0 3).bind fun x1 =>
    (ra_aI h 0 x1 ((((650 : Int32)) + (((6 : Int32)) * a4)) + ((2 : Int32)))).bind fun x2 =>
    nX12_could_117 N a0 a3 a4 a5 x2 h
def kX12_could_91 (N : Nat) : Nat → List (Option Value) → List Value → ra_H → Option (Int32 × ra_H) := (ra_k1 117 (fun L S h => match L, S with
  | [some (.ref a0), _, _, some (.int a3), some (.int a4), some (.int a5), _, _, _, _], [.int b0] => nX12_could_117 N a0 a3 a4 a5 b0 h
  | _, _ => none) ra_k0)
theorem kX12_could_91_ok (N : Nat) : ra_kok 8 mX12_could ra_oI (kX12_could_91 N) := (ra_k1_ok (by
  intro L S h a e
  split at e
  · exact ra_Ru.weak (nX12_could_117_ok N _ _ _ _ _ _ _ e) ⟨rfl, ⟨rfl, ⟨rfl, ⟨rfl, trivial⟩⟩⟩⟩
  · cases e) ra_k0_ok)
set_option maxRecDepth 100000 in
theorem nX12_could_91_ok (N : Nat) (a0 : Nat) (a3 : Int32) (a4 : Int32) (a5 : Int32) (h : ra_H) (r : (Int32 × ra_H)) (e : nX12_could_91 N a0 a3 a4 a5 h = some r) : ra_Ru 8 mX12_could 91 [some (.ref a0), none, none, some (.int a3), some (.int a4), some (.int a5), none, none, none, none] [] h (ra_oI r) :=
  ra_sound (by omega) rfl ra_rI_ok (kX12_could_91_ok N) (fun m av h h1 e => (tVX12_could_ok N) m av h h1 e) (fun m av h x h1 e => (tIX12_could_ok N) m av h (x, h1) e) (fun m av h x h1 e => (ra_c0_ok (ro := ra_oJ)) m av h (x, h1) e) (fun m av h x h1 e => (ra_c0_ok (ro := ra_oR)) m av h (x, h1) e) (fun m av h x h1 e => (ra_c0_ok (ro := ra_oN)) m av h (x, h1) e) (fun m av h x h1 e => (ra_c0_ok (ro := ra_oF)) m av h (x, h1) e) 16 lX12_could_91 _ _ _ _ lX12_could_91_ck (show ra_run ra_rI (kX12_could_91 N) (tVX12_could N) (tIX12_could N) ra_c0 ra_c0 ra_c0 ra_c0 16 lX12_could_91 [some (.ref a0), none, none, some (.int a3), some (.int a4), some (.int a5), none, none, none, none] [] h = some r from e) _ _ rfl
def lX12_could_0 : List ra_I := [(0, .aload_n 0, 1, 0, 0, 0, 0, 0, []),
  (1, .iconst (0), 1, 0, 0, 0, (0), 0, []),
  (2, .putfield 147, 3, 12, 0, 0, 0, 0, []),
  (5, .iload_n 1, 1, 1, 0, 0, 0, 0, []),
  (6, .iload_n 2, 1, 2, 0, 0, 0, 0, []),
  (7, .invokestatic 205, 3, 224, 2, 1, 0, 0, []),
  (10, .ifCond .eq (45), 3, 55, 0, 0, 0, 0, []),
  (13, .iload_n 3, 1, 3, 0, 0, 0, 0, []),
  (14, .i2l, 1, 0, 0, 0, 0, 0, []),
  (15, .lconst 0, 1, 0, 0, 0, 0, 0, []),
  (16, .ldc2_w 208, 3, 0, 0, 0, 0, (400), []),
  (19, .invokestatic 153, 3, 209, 3, 1, 0, 0, []),
  (22, .ifCond .eq (33), 3, 55, 0, 0, 0, 0, []),
  (25, .iload 4, 2, 4, 0, 0, 0, 0, []),
  (27, .i2l, 1, 0, 0, 0, 0, 0, []),
  (28, .ldc2_w 252, 3, 0, 0, 0, 0, (-1), []),
  (31, .aload_n 0, 1, 0, 0, 0, 0, 0, []),
  (32, .getfield 13, 3, 12, 3, 2, 0, 0, []),
  (35, .sipush (482), 3, 0, 0, 0, (482), 0, []),
  (38, .iaload, 1, 0, 0, 0, 0, 0, []),
  (39, .i2l, 1, 0, 0, 0, 0, 0, []),
  (40, .lconst 1, 1, 0, 0, 0, 0, 1, []),
  (41, .lsub, 1, 0, 0, 0, 0, 0, []),
  (42, .invokestatic 153, 3, 209, 3, 1, 0, 0, []),
  (45, .ifCond .eq (10), 3, 55, 0, 0, 0, 0, []),
  (48, .aload_n 0, 1, 0, 0, 0, 0, 0, []),
  (49, .invokevirtual 425, 3, 269, 1, 1, 0, 0, []),
  (52, .ifCond .ne (5), 3, 57, 0, 0, 0, 0, []),
  (57, .aload_n 0, 1, 0, 0, 0, 0, 0, []),
  (58, .bipush (6), 2, 0, 0, 0, (6), 0, []),
  (60, .iload_n 1, 1, 1, 0, 0, 0, 0, []),
  (61, .imul, 1, 0, 0, 0, 0, 0, []),
  (62, .iload_n 2, 1, 2, 0, 0, 0, 0, []),
  (63, .iadd, 1, 0, 0, 0, 0, 0, []),
  (64, .invokevirtual 434, 3, 273, 2, 1, 0, 0, []),
  (67, .istore 5, 2, 5, 0, 0, 0, 0, []),
  (69, .aload_n 0, 1, 0, 0, 0, 0, 0, []),
  (70, .invokevirtual 470, 3, 286, 1, 0, 0, 0, []),
  (73, .iload 4, 2, 4, 0, 0, 0, 0, []),
  (75, .iconst (-1), 1, 0, 0, 0, (-1), 0, []),
  (76, .if_icmp .eq (15), 3, 91, 0, 0, 0, 0, []),
  (79, .aload_n 0, 1, 0, 0, 0, 0, 0, []),
  (80, .iload 4, 2, 4, 0, 0, 0, 0, []),
  (82, .invokevirtual 467, 3, 292, 2, 1, 0, 0, []),
  (85, .iconst (-1), 1, 0, 0, 0, (-1), 0, []),
  (86, .if_icmp .eq (5), 3, 91, 0, 0, 0, 0, []),
  (89, .iconst (0), 1, 0, 0, 0, (0), 0, []),
  (90, .ireturn, 1, 0, 0, 0, 0, 0, [])]
set_option maxRecDepth 100000 in
theorem lX12_could_0_ck : lX12_could_0.all (ra_ck mX12_could 12) = true := by decide +kernel
def nX12_could_0 (N : Nat) (a0 : Nat) (a1 : Int32) (a2 : Int32) (a3 : Int32) (a4 : Int32) (h : ra_H) : Option (Int32 × ra_H) :=
  (ra_fW h 12 a0 0 (.int ((0 : Int32)))).bind fun h1 =>
  (fX12_isShelf N a1 a2 h1).bind fun q2 =>
  if q2.1 = 0 then
    nX12_could_55 N q2.2
  else
    (fX12_in N (Int32.toInt64 a3) ((0 : Int64)) ((400 : Int64)) q2.2).bind fun q3 =>
    if q3.1 = 0 then
      nX12_could_55 N q3.2
    else
      (ra_fR q3.2 12 a0 3).bind fun x4 =>
      (ra_aI q3.2 0 x4 ((482 : Int32))).bind fun x5 =>
      (fX12_in N (Int32.toInt64 a4) ((-1 : Int64)) ((Int32.toInt64 x5) - ((1 : Int64))) q3.2).bind fun q6 =>
      if q6.1 = 0 then
        nX12_could_55 N q6.2
      else
        (fX12_lookKept N a0 q6.2).bind fun q7 =>
        if q7.1 = 0 then
          nX12_could_55 N q7.2
        else
          (fX12_freeOf N a0 ((((6 : Int32)) * a1) + a2) q7.2).bind fun q8 =>
          (fX12_matchAll N a0 q8.2).bind fun h9 =>
          if a4 = ((-1 : Int32)) then
            nX12_could_91 N a0 a3 a4 q8.1 h9
          else
            (fX12_bookOf N a0 a4 h9).bind fun q10 =>
            if q10.1 = ((-1 : Int32)) then
              nX12_could_91 N a0 a3 a4 q8.1 q10.2
            else
              some ((0 : Int32), q10.2)
def kX12_could_0 (N : Nat) : Nat → List (Option Value) → List Value → ra_H → Option (Int32 × ra_H) := (ra_k1 55 (fun L S h => match L, S with
  | [_, _, _, _, _, _, _, _, _, _], [] => nX12_could_55 N h
  | _, _ => none) (ra_k1 91 (fun L S h => match L, S with
  | [some (.ref a0), _, _, some (.int a3), some (.int a4), some (.int a5), _, _, _, _], [] => nX12_could_91 N a0 a3 a4 a5 h
  | _, _ => none) ra_k0))
theorem kX12_could_0_ok (N : Nat) : ra_kok 8 mX12_could ra_oI (kX12_could_0 N) := (ra_k1_ok (by
  intro L S h a e
  split at e
  · exact ra_Ru.weak (nX12_could_55_ok N _ _ e) trivial
  · cases e) (ra_k1_ok (by
  intro L S h a e
  split at e
  · exact ra_Ru.weak (nX12_could_91_ok N _ _ _ _ _ _ e) ⟨rfl, ⟨rfl, ⟨rfl, ⟨rfl, trivial⟩⟩⟩⟩
  · cases e) ra_k0_ok))
set_option maxRecDepth 100000 in
theorem nX12_could_0_ok (N : Nat) (a0 : Nat) (a1 : Int32) (a2 : Int32) (a3 : Int32) (a4 : Int32) (h : ra_H) (r : (Int32 × ra_H)) (e : nX12_could_0 N a0 a1 a2 a3 a4 h = some r) : ra_Ru 8 mX12_could 0 [some (.ref a0), some (.int a1), some (.int a2), some (.int a3), some (.int a4), none, none, none, none, none] [] h (ra_oI r) :=
  ra_sound (by omega) rfl ra_rI_ok (kX12_could_0_ok N) (fun m av h h1 e => (tVX12_could_ok N) m av h h1 e) (fun m av h x h1 e => (tIX12_could_ok N) m av h (x, h1) e) (fun m av h x h1 e => (ra_c0_ok (ro := ra_oJ)) m av h (x, h1) e) (fun m av h x h1 e => (ra_c0_ok (ro := ra_oR)) m av h (x, h1) e) (fun m av h x h1 e => (ra_c0_ok (ro := ra_oN)) m av h (x, h1) e) (fun m av h x h1 e => (ra_c0_ok (ro := ra_oF)) m av h (x, h1) e) 49 lX12_could_0 _ _ _ _ lX12_could_0_ck (show ra_run ra_rI (kX12_could_0 N) (tVX12_could N) (tIX12_could N) ra_c0 ra_c0 ra_c0 ra_c0 49 lX12_could_0 [some (.ref a0), some (.int a1), some (.int a2), some (.int a3), some (.int a4), none, none, none, none, none] [] h = some r from e) _ _ rfl
def fX12_could (N : Nat) (p0 : Nat) (p1 : Int32) (p2 : Int32) (p3 : Int32) (p4 : Int32) (h : ra_H) : Option (Int32 × ra_H) := match ra_isOb h p0 12 with
  | true => nX12_could_0 N p0 p1 p2 p3 p4 h
  | false => none
set_option maxRecDepth 100000 in
theorem mtX12_could : ra_MT[294]? = some (mX12_could, 1, 4, (1, 13), (8, 215), (8, 216)) := rfl
theorem fX12_could_co (N : Nat) (p0 : Nat) (p1 : Int32) (p2 : Int32) (p3 : Int32) (p4 : Int32) (h : ra_H) (r : (Int32 × ra_H)) (e : fX12_could N p0 p1 p2 p3 p4 h = some r) (D : Nat) (hD : 9 ≤ D) : ra_CO D 294 [.ref p0, .int p1, .int p2, .int p3, .int p4] h (ra_oI r).1 (ra_oI r).2 := by
  have hw : ra_nw2 [.ref p0, .int p1, .int p2, .int p3, .int p4] ≤ 10 := Nat.le_of_ble_eq_true rfl
  have hdb : ∀ v ∈ ([.ref p0, .int p1, .int p2, .int p3, .int p4] : List Value), ∀ x, v ≠ .double x := by
    intro v hv x hx
    simp [hx] at hv
  unfold fX12_could at e
  split at e
  · rename_i ho
    have e1 := e
    exact ⟨8, _, mtX12_could, hD, ra_ev_of (by decide) hdb hw trivial (ra_Ru.weak (nX12_could_0_ok N p0 p1 p2 p3 p4 h _ e1) ⟨rfl, ⟨rfl, ⟨rfl, ⟨rfl, ⟨rfl, trivial⟩⟩⟩⟩⟩), (fun _ => ⟨_, _, rfl, ra_rcv_of ho (by decide) rfl⟩), (fun h => absurd h (by decide))⟩
  · cases e
/-! RedMarksModel.marked()I -/
def mX12_marked : ra_M := (yX12_marked, cX12_marked, 3, (some .int))
def tIX12_marked (N : Nat) : Nat → List Value → ra_H → Option (Int32 × ra_H) := (ra_c1 258 (fun av h => match av with
  | [.ref z0, .int z1] => fX12_hasMark N z0 z1 h
  | _ => none) ra_c0)
theorem tIX12_marked_ok (N : Nat) : ra_cok 2 ra_oI (tIX12_marked N) := (ra_c1_ok (by
  intro av h a e
  split at e
  · exact fX12_hasMark_co N _ _ _ _ e 2 (by omega)
  · cases e) ra_c0_ok)
def lX12_marked_30 : List ra_I := [(30, .iadd, 1, 0, 0, 0, 0, 0, []),
  (31, .istore_n 1, 1, 1, 0, 0, 0, 0, []),
  (32, .iinc 2 (1), 3, 2, 0, 0, (1), 0, []),
  (35, .goto (-31), 3, 4, 0, 0, 0, 0, [])]
set_option maxRecDepth 100000 in
theorem lX12_marked_30_ck : lX12_marked_30.all (ra_ck mX12_marked 12) = true := by decide +kernel
def nX12_marked_30 (N : Nat) (c4 : Nat → Int32 → Int32 → ra_H → Option (Int32 × ra_H)) (a0 : Nat) (a2 : Int32) (b0 : Int32) (b1 : Int32) (h : ra_H) : Option (Int32 × ra_H) :=
  let y1 := b0 + b1
  let y2 := a2 + (1 : Int32)
  c4 a0 y1 y2 h
def kX12_marked_30 (N : Nat) (c4 : Nat → Int32 → Int32 → ra_H → Option (Int32 × ra_H)) : Nat → List (Option Value) → List Value → ra_H → Option (Int32 × ra_H) := (ra_k1 4 (fun L S h => match L, S with
  | [some (.ref a0), some (.int a1), some (.int a2)], [] => c4 a0 a1 a2 h
  | _, _ => none) ra_k0)
theorem kX12_marked_30_ok (N : Nat) (c4 : Nat → Int32 → Int32 → ra_H → Option (Int32 × ra_H)) (hc4 : ∀ a0 a1 a2 h r, c4 a0 a1 a2 h = some r → ra_Ru 2 mX12_marked 4 [some (.ref a0), some (.int a1), some (.int a2)] [] h (ra_oI r)) : ra_kok 2 mX12_marked ra_oI (kX12_marked_30 N c4) := (ra_k1_ok (by
  intro L S h a e
  split at e
  · exact ra_Ru.weak (hc4 _ _ _ _ _ e) ⟨rfl, ⟨rfl, ⟨rfl, trivial⟩⟩⟩
  · cases e) ra_k0_ok)
set_option maxRecDepth 100000 in
theorem nX12_marked_30_ok (N : Nat) (c4 : Nat → Int32 → Int32 → ra_H → Option (Int32 × ra_H)) (hc4 : ∀ a0 a1 a2 h r, c4 a0 a1 a2 h = some r → ra_Ru 2 mX12_marked 4 [some (.ref a0), some (.int a1), some (.int a2)] [] h (ra_oI r)) (a0 : Nat) (a2 : Int32) (b0 : Int32) (b1 : Int32) (h : ra_H) (r : (Int32 × ra_H)) (e : nX12_marked_30 N c4 a0 a2 b0 b1 h = some r) : ra_Ru 2 mX12_marked 30 [some (.ref a0), none, some (.int a2)] [.int b1, .int b0] h (ra_oI r) :=
  ra_sound (by omega) rfl ra_rI_ok (kX12_marked_30_ok N c4 hc4) (fun m av h h1 e => (ra_c0_ok (ro := ra_oV)) m av h h1 e) (fun m av h x h1 e => (tIX12_marked_ok N) m av h (x, h1) e) (fun m av h x h1 e => (ra_c0_ok (ro := ra_oJ)) m av h (x, h1) e) (fun m av h x h1 e => (ra_c0_ok (ro := ra_oR)) m av h (x, h1) e) (fun m av h x h1 e => (ra_c0_ok (ro := ra_oN)) m av h (x, h1) e) (fun m av h x h1 e => (ra_c0_ok (ro := ra_oF)) m av h (x, h1) e) 5 lX12_marked_30 _ _ _ _ lX12_marked_30_ck (show ra_run ra_rI (kX12_marked_30 N c4) ra_c0 (tIX12_marked N) ra_c0 ra_c0 ra_c0 ra_c0 5 lX12_marked_30 [some (.ref a0), none, some (.int a2)] [.int b1, .int b0] h = some r from e) _ _ rfl
def lX12_marked_4 : List ra_I := [(4, .iload_n 2, 1, 2, 0, 0, 0, 0, []),
  (5, .aload_n 0, 1, 0, 0, 0, 0, 0, []),
  (6, .getfield 13, 3, 12, 3, 2, 0, 0, []),
  (9, .sipush (480), 3, 0, 0, 0, (480), 0, []),
  (12, .iaload, 1, 0, 0, 0, 0, 0, []),
  (13, .if_icmp .ge (25), 3, 38, 0, 0, 0, 0, []),
  (16, .iload_n 1, 1, 1, 0, 0, 0, 0, []),
  (17, .aload_n 0, 1, 0, 0, 0, 0, 0, []),
  (18, .iload_n 2, 1, 2, 0, 0, 0, 0, []),
  (19, .invokevirtual 393, 3, 258, 2, 1, 0, 0, []),
  (22, .ifCond .eq (7), 3, 29, 0, 0, 0, 0, []),
  (25, .iconst (1), 1, 0, 0, 0, (1), 0, []),
  (26, .goto (4), 3, 30, 0, 0, 0, 0, []),
  (29, .iconst (0), 1, 0, 0, 0, (0), 0, []),
  (38, .iload_n 1, 1, 1, 0, 0, 0, 0, []),
  (39, .ireturn, 1, 0, 0, 0, 0, 0, [])]
set_option maxRecDepth 100000 in
theorem lX12_marked_4_ck : lX12_marked_4.all (ra_ck mX12_marked 12) = true := by decide +kernel
def nX12_marked_4 (N : Nat) : Nat → Nat → Int32 → Int32 → ra_H → Option (Int32 × ra_H)
  | 0, _, _, _, _ => none
  | n + 1, a0, a1, a2, h =>
  (ra_fR h 12 a0 3).bind fun x1 =>
  (ra_aI h 0 x1 ((480 : Int32))).bind fun x2 =>
  if a2 < x2 then
    (fX12_hasMark N a0 a2 h).bind fun q3 =>
    if q3.1 = 0 then
      nX12_marked_30 N (nX12_marked_4 N n) a0 a2 a1 ((0 : Int32)) q3.2
    else
      nX12_marked_30 N (nX12_marked_4 N n) a0 a2 a1 ((1 : Int32)) q3.2
  else
    some (a1, h)
def kX12_marked_4 (N : Nat) (cs : Nat → Int32 → Int32 → ra_H → Option (Int32 × ra_H)) : Nat → List (Option Value) → List Value → ra_H → Option (Int32 × ra_H) := (ra_k1 30 (fun L S h => match L, S with
  | [some (.ref a0), _, some (.int a2)], [.int b1, .int b0] => nX12_marked_30 N cs a0 a2 b0 b1 h
  | _, _ => none) ra_k0)
theorem kX12_marked_4_ok (N : Nat) (cs : Nat → Int32 → Int32 → ra_H → Option (Int32 × ra_H)) (hcs : ∀ a0 a1 a2 h r, cs a0 a1 a2 h = some r → ra_Ru 2 mX12_marked 4 [some (.ref a0), some (.int a1), some (.int a2)] [] h (ra_oI r)) : ra_kok 2 mX12_marked ra_oI (kX12_marked_4 N cs) := (ra_k1_ok (by
  intro L S h a e
  split at e
  · exact ra_Ru.weak (nX12_marked_30_ok N cs hcs _ _ _ _ _ _ e) ⟨rfl, ⟨rfl, trivial⟩⟩
  · cases e) ra_k0_ok)
set_option maxRecDepth 100000 in
theorem nX12_marked_4_ok (N : Nat) : ∀ n a0 a1 a2 h r, nX12_marked_4 N n a0 a1 a2 h = some r → ra_Ru 2 mX12_marked 4 [some (.ref a0), some (.int a1), some (.int a2)] [] h (ra_oI r) := by
  intro n
  induction n with
  | zero => intro a0 a1 a2 h r e; cases e
  | succ n ih =>
    intro a0 a1 a2 h r e
    exact ra_sound (by omega) rfl ra_rI_ok (kX12_marked_4_ok N (nX12_marked_4 N n) ih) (fun m av h h1 e => (ra_c0_ok (ro := ra_oV)) m av h h1 e) (fun m av h x h1 e => (tIX12_marked_ok N) m av h (x, h1) e) (fun m av h x h1 e => (ra_c0_ok (ro := ra_oJ)) m av h (x, h1) e) (fun m av h x h1 e => (ra_c0_ok (ro := ra_oR)) m av h (x, h1) e) (fun m av h x h1 e => (ra_c0_ok (ro := ra_oN)) m av h (x, h1) e) (fun m av h x h1 e => (ra_c0_ok (ro := ra_oF)) m av h (x, h1) e) 17 lX12_marked_4 _ _ _ _ lX12_marked_4_ck (show ra_run ra_rI (kX12_marked_4 N (nX12_marked_4 N n)) ra_c0 (tIX12_marked N) ra_c0 ra_c0 ra_c0 ra_c0 17 lX12_marked_4 [some (.ref a0), some (.int a1), some (.int a2)] [] h = some r from e) _ _ rfl
def lX12_marked_0 : List ra_I := [(0, .iconst (0), 1, 0, 0, 0, (0), 0, []),
  (1, .istore_n 1, 1, 1, 0, 0, 0, 0, []),
  (2, .iconst (0), 1, 0, 0, 0, (0), 0, []),
  (3, .istore_n 2, 1, 2, 0, 0, 0, 0, [])]
set_option maxRecDepth 100000 in
theorem lX12_marked_0_ck : lX12_marked_0.all (ra_ck mX12_marked 12) = true := by decide +kernel
def nX12_marked_0 (N : Nat) (a0 : Nat) (h : ra_H) : Option (Int32 × ra_H) :=
  nX12_marked_4 N N a0 ((0 : Int32)) ((0 : Int32)) h
def kX12_marked_0 (N : Nat) : Nat → List (Option Value) → List Value → ra_H → Option (Int32 × ra_H) := (ra_k1 4 (fun L S h => match L, S with
  | [some (.ref a0), some (.int a1), some (.int a2)], [] => nX12_marked_4 N N a0 a1 a2 h
  | _, _ => none) ra_k0)
theorem kX12_marked_0_ok (N : Nat) : ra_kok 2 mX12_marked ra_oI (kX12_marked_0 N) := (ra_k1_ok (by
  intro L S h a e
  split at e
  · exact ra_Ru.weak (nX12_marked_4_ok N N _ _ _ _ _ e) ⟨rfl, ⟨rfl, ⟨rfl, trivial⟩⟩⟩
  · cases e) ra_k0_ok)
set_option maxRecDepth 100000 in
theorem nX12_marked_0_ok (N : Nat) (a0 : Nat) (h : ra_H) (r : (Int32 × ra_H)) (e : nX12_marked_0 N a0 h = some r) : ra_Ru 2 mX12_marked 0 [some (.ref a0), none, none] [] h (ra_oI r) :=
  ra_sound (by omega) rfl ra_rI_ok (kX12_marked_0_ok N) (fun m av h h1 e => (ra_c0_ok (ro := ra_oV)) m av h h1 e) (fun m av h x h1 e => (tIX12_marked_ok N) m av h (x, h1) e) (fun m av h x h1 e => (ra_c0_ok (ro := ra_oJ)) m av h (x, h1) e) (fun m av h x h1 e => (ra_c0_ok (ro := ra_oR)) m av h (x, h1) e) (fun m av h x h1 e => (ra_c0_ok (ro := ra_oN)) m av h (x, h1) e) (fun m av h x h1 e => (ra_c0_ok (ro := ra_oF)) m av h (x, h1) e) 5 lX12_marked_0 _ _ _ _ lX12_marked_0_ck (show ra_run ra_rI (kX12_marked_0 N) ra_c0 (tIX12_marked N) ra_c0 ra_c0 ra_c0 ra_c0 5 lX12_marked_0 [some (.ref a0), none, none] [] h = some r from e) _ _ rfl
def fX12_marked (N : Nat) (p0 : Nat) (h : ra_H) : Option (Int32 × ra_H) := match ra_isOb h p0 12 with
  | true => nX12_marked_0 N p0 h
  | false => none
set_option maxRecDepth 100000 in
theorem mtX12_marked : ra_MT[314]? = some (mX12_marked, 1, 0, (1, 13), (9, 59), (0, 115)) := rfl
theorem fX12_marked_co (N : Nat) (p0 : Nat) (h : ra_H) (r : (Int32 × ra_H)) (e : fX12_marked N p0 h = some r) (D : Nat) (hD : 3 ≤ D) : ra_CO D 314 [.ref p0] h (ra_oI r).1 (ra_oI r).2 := by
  have hw : ra_nw2 [.ref p0] ≤ 3 := Nat.le_of_ble_eq_true rfl
  have hdb : ∀ v ∈ ([.ref p0] : List Value), ∀ x, v ≠ .double x := by
    intro v hv x hx
    simp [hx] at hv
  unfold fX12_marked at e
  split at e
  · rename_i ho
    have e1 := e
    exact ⟨2, _, mtX12_marked, hD, ra_ev_of (by decide) hdb hw trivial (ra_Ru.weak (nX12_marked_0_ok N p0 h _ e1) ⟨rfl, trivial⟩), (fun _ => ⟨_, _, rfl, ra_rcv_of ho (by decide) rfl⟩), (fun h => absurd h (by decide))⟩
  · cases e
/-! RedMarksModel.count(I)I -/
def mX12_count : ra_M := (yX12_count, cX12_count, 2, (some .int))
def tIX12_count (N : Nat) : Nat → List Value → ra_H → Option (Int32 × ra_H) := (ra_c1 269 (fun av h => match av with
  | [.ref z0] => fX12_lookKept N z0 h
  | _ => none) (ra_c1 314 (fun av h => match av with
  | [.ref z0] => fX12_marked N z0 h
  | _ => none) ra_c0))
theorem tIX12_count_ok (N : Nat) : ra_cok 8 ra_oI (tIX12_count N) := (ra_c1_ok (by
  intro av h a e
  split at e
  · exact fX12_lookKept_co N _ _ _ e 8 (by omega)
  · cases e) (ra_c1_ok (by
  intro av h a e
  split at e
  · exact fX12_marked_co N _ _ _ e 8 (by omega)
  · cases e) ra_c0_ok))
def lX12_count_124 : List ra_I := [(124, .ireturn, 1, 0, 0, 0, 0, 0, [])]
set_option maxRecDepth 100000 in
theorem lX12_count_124_ck : lX12_count_124.all (ra_ck mX12_count 12) = true := by decide +kernel
def nX12_count_124 (N : Nat) (b0 : Int32) (h : ra_H) : Option (Int32 × ra_H) :=
  some (b0, h)
def kX12_count_124 (N : Nat) : Nat → List (Option Value) → List Value → ra_H → Option (Int32 × ra_H) := ra_k0
theorem kX12_count_124_ok (N : Nat) : ra_kok 8 mX12_count ra_oI (kX12_count_124 N) := ra_k0_ok
set_option maxRecDepth 100000 in
theorem nX12_count_124_ok (N : Nat) (b0 : Int32) (h : ra_H) (r : (Int32 × ra_H)) (e : nX12_count_124 N b0 h = some r) : ra_Ru 8 mX12_count 124 [none, none] [.int b0] h (ra_oI r) :=
  ra_sound (by omega) rfl ra_rI_ok (kX12_count_124_ok N) (fun m av h h1 e => (ra_c0_ok (ro := ra_oV)) m av h h1 e) (fun m av h x h1 e => (tIX12_count_ok N) m av h (x, h1) e) (fun m av h x h1 e => (ra_c0_ok (ro := ra_oJ)) m av h (x, h1) e) (fun m av h x h1 e => (ra_c0_ok (ro := ra_oR)) m av h (x, h1) e) (fun m av h x h1 e => (ra_c0_ok (ro := ra_oN)) m av h (x, h1) e) (fun m av h x h1 e => (ra_c0_ok (ro := ra_oF)) m av h (x, h1) e) 2 lX12_count_124 _ _ _ _ lX12_count_124_ck (show ra_run ra_rI (kX12_count_124 N) ra_c0 (tIX12_count N) ra_c0 ra_c0 ra_c0 ra_c0 2 lX12_count_124 [none, none] [.int b0] h = some r from e) _ _ rfl
def lX12_count_0 : List ra_I := [(0, .aload_n 0, 1, 0, 0, 0, 0, 0, []),
  (1, .iconst (0), 1, 0, 0, 0, (0), 0, []),
  (2, .putfield 147, 3, 12, 0, 0, 0, 0, []),
  (5, .iload_n 1, 1, 1, 0, 0, 0, 0, []),
  (6, .tableswitch (160) (0) (11) #[62, 71, 76, 85, 94, 103, 119, 124, 131, 138, 145, 152], 62, 166, 0, 0, 0, 0, [(0, 68), (1, 77), (2, 82), (3, 91), (4, 100), (5, 109), (6, 125), (7, 130), (8, 137), (9, 144), (10, 151), (11, 158)]),
  (68, .aload_n 0, 1, 0, 0, 0, 0, 0, []),
  (69, .getfield 13, 3, 12, 3, 2, 0, 0, []),
  (72, .sipush (480), 3, 0, 0, 0, (480), 0, []),
  (75, .iaload, 1, 0, 0, 0, 0, 0, []),
  (76, .ireturn, 1, 0, 0, 0, 0, 0, []),
  (77, .aload_n 0, 1, 0, 0, 0, 0, 0, []),
  (78, .invokevirtual 497, 3, 314, 1, 1, 0, 0, []),
  (81, .ireturn, 1, 0, 0, 0, 0, 0, []),
  (82, .aload_n 0, 1, 0, 0, 0, 0, 0, []),
  (83, .getfield 13, 3, 12, 3, 2, 0, 0, []),
  (86, .sipush (481), 3, 0, 0, 0, (481), 0, []),
  (89, .iaload, 1, 0, 0, 0, 0, 0, []),
  (90, .ireturn, 1, 0, 0, 0, 0, 0, []),
  (91, .aload_n 0, 1, 0, 0, 0, 0, 0, []),
  (92, .getfield 13, 3, 12, 3, 2, 0, 0, []),
  (95, .sipush (482), 3, 0, 0, 0, (482), 0, []),
  (98, .iaload, 1, 0, 0, 0, 0, 0, []),
  (99, .ireturn, 1, 0, 0, 0, 0, 0, []),
  (100, .aload_n 0, 1, 0, 0, 0, 0, 0, []),
  (101, .getfield 13, 3, 12, 3, 2, 0, 0, []),
  (104, .sipush (483), 3, 0, 0, 0, (483), 0, []),
  (107, .iaload, 1, 0, 0, 0, 0, 0, []),
  (108, .ireturn, 1, 0, 0, 0, 0, 0, []),
  (109, .aload_n 0, 1, 0, 0, 0, 0, 0, []),
  (110, .invokevirtual 425, 3, 269, 1, 1, 0, 0, []),
  (113, .ifCond .eq (10), 3, 123, 0, 0, 0, 0, []),
  (116, .aload_n 0, 1, 0, 0, 0, 0, 0, []),
  (117, .getfield 422, 3, 12, 41, 0, 0, 0, []),
  (120, .goto (4), 3, 124, 0, 0, 0, 0, []),
  (123, .iconst (0), 1, 0, 0, 0, (0), 0, []),
  (125, .aload_n 0, 1, 0, 0, 0, 0, 0, []),
  (126, .getfield 212, 3, 12, 8, 0, 0, 0, []),
  (129, .ireturn, 1, 0, 0, 0, 0, 0, []),
  (130, .aload_n 0, 1, 0, 0, 0, 0, 0, []),
  (131, .getfield 7, 3, 12, 2, 2, 0, 0, []),
  (134, .iconst (1), 1, 0, 0, 0, (1), 0, []),
  (135, .iaload, 1, 0, 0, 0, 0, 0, []),
  (136, .ireturn, 1, 0, 0, 0, 0, 0, []),
  (137, .aload_n 0, 1, 0, 0, 0, 0, 0, []),
  (138, .getfield 7, 3, 12, 2, 2, 0, 0, []),
  (141, .iconst (2), 1, 0, 0, 0, (2), 0, []),
  (142, .iaload, 1, 0, 0, 0, 0, 0, []),
  (143, .ireturn, 1, 0, 0, 0, 0, 0, []),
  (144, .aload_n 0, 1, 0, 0, 0, 0, 0, []),
  (145, .getfield 7, 3, 12, 2, 2, 0, 0, []),
  (148, .iconst (3), 1, 0, 0, 0, (3), 0, []),
  (149, .iaload, 1, 0, 0, 0, 0, 0, []),
  (150, .ireturn, 1, 0, 0, 0, 0, 0, []),
  (151, .aload_n 0, 1, 0, 0, 0, 0, 0, []),
  (152, .getfield 7, 3, 12, 2, 2, 0, 0, []),
  (155, .iconst (5), 1, 0, 0, 0, (5), 0, []),
  (156, .iaload, 1, 0, 0, 0, 0, 0, []),
  (157, .ireturn, 1, 0, 0, 0, 0, 0, []),
  (158, .aload_n 0, 1, 0, 0, 0, 0, 0, []),
  (159, .getfield 7, 3, 12, 2, 2, 0, 0, []),
  (162, .bipush (6), 2, 0, 0, 0, (6), 0, []),
  (164, .iaload, 1, 0, 0, 0, 0, 0, []),
  (165, .ireturn, 1, 0, 0, 0, 0, 0, []),
  (166, .iconst (-1), 1, 0, 0, 0, (-1), 0, []),
  (167, .ireturn, 1, 0, 0, 0, 0, 0, [])]
set_option maxRecDepth 100000 in
theorem lX12_count_0_ck : lX12_count_0.all (ra_ck mX12_count 12) = true := by decide +kernel
def nX12_count_0 (N : Nat) (a0 : Nat) (a1 : Int32) (h : ra_H) : Option (Int32 × ra_H) :=
  (ra_fW h 12 a0 0 (.int ((0 : Int32)))).bind fun h1 =>
  if a1 = (0 : Int32) then
    (ra_fR h1 12 a0 3).bind fun x2 =>
    (ra_aI h1 0 x2 ((480 : Int32))).bind fun x3 =>
    some (x3, h1)
  else
  if a1 = (1 : Int32) then
    (fX12_marked N a0 h1).bind fun q4 =>
    some (q4.1, q4.2)
  else
  if a1 = (2 : Int32) then
    (ra_fR h1 12 a0 3).bind fun x5 =>
    (ra_aI h1 0 x5 ((481 : Int32))).bind fun x6 =>
    some (x6, h1)
  else
  if a1 = (3 : Int32) then
    (ra_fR h1 12 a0 3).bind fun x7 =>
    (ra_aI h1 0 x7 ((482 : Int32))).bind fun x8 =>
    some (x8, h1)
  else
  if a1 = (4 : Int32) then
    (ra_fR h1 12 a0 3).bind fun x9 =>
    (ra_aI h1 0 x9 ((483 : Int32))).bind fun x10 =>
    some (x10, h1)
  else
  if a1 = (5 : Int32) then
    (fX12_lookKept N a0 h1).bind fun q11 =>
    if q11.1 = 0 then
      nX12_count_124 N ((0 : Int32)) q11.2
    else
      (ra_fI q11.2 12 a0 41).bind fun x12 =>
      nX12_count_124 N x12 q11.2
  else
  if a1 = (6 : Int32) then
    (ra_fI h1 12 a0 8).bind fun x13 =>
    some (x13, h1)
  else
  if a1 = (7 : Int32) then
    (ra_fR h1 12 a0 2).bind fun x14 =>
    (ra_aI h1 0 x14 ((1 : Int32))).bind fun x15 =>
    some (x15, h1)
  else
  if a1 = (8 : Int32) then
    (ra_fR h1 12 a0 2).bind fun x16 =>
    (ra_aI h1 0 x16 ((2 : Int32))).bind fun x17 =>
    some (x17, h1)
  else
  if a1 = (9 : Int32) then
    (ra_fR h1 12 a0 2).bind fun x18 =>
    (ra_aI h1 0 x18 ((3 : Int32))).bind fun x19 =>
    some (x19, h1)
  else
  if a1 = (10 : Int32) then
    (ra_fR h1 12 a0 2).bind fun x20 =>
    (ra_aI h1 0 x20 ((5 : Int32))).bind fun x21 =>
    some (x21, h1)
  else
  if a1 = (11 : Int32) then
    (ra_fR h1 12 a0 2).bind fun x22 =>
    (ra_aI h1 0 x22 ((6 : Int32))).bind fun x23 =>
    some (x23, h1)
  else
  some ((-1 : Int32), h1)
def kX12_count_0 (N : Nat) : Nat → List (Option Value) → List Value → ra_H → Option (Int32 × ra_H) := (ra_k1 124 (fun L S h => match L, S with
  | [_, _], [.int b0] => nX12_count_124 N b0 h
  | _, _ => none) ra_k0)
theorem kX12_count_0_ok (N : Nat) : ra_kok 8 mX12_count ra_oI (kX12_count_0 N) := (ra_k1_ok (by
  intro L S h a e
  split at e
  · exact ra_Ru.weak (nX12_count_124_ok N _ _ _ e) trivial
  · cases e) ra_k0_ok)
set_option maxRecDepth 100000 in
theorem nX12_count_0_ok (N : Nat) (a0 : Nat) (a1 : Int32) (h : ra_H) (r : (Int32 × ra_H)) (e : nX12_count_0 N a0 a1 h = some r) : ra_Ru 8 mX12_count 0 [some (.ref a0), some (.int a1)] [] h (ra_oI r) :=
  ra_sound (by omega) rfl ra_rI_ok (kX12_count_0_ok N) (fun m av h h1 e => (ra_c0_ok (ro := ra_oV)) m av h h1 e) (fun m av h x h1 e => (tIX12_count_ok N) m av h (x, h1) e) (fun m av h x h1 e => (ra_c0_ok (ro := ra_oJ)) m av h (x, h1) e) (fun m av h x h1 e => (ra_c0_ok (ro := ra_oR)) m av h (x, h1) e) (fun m av h x h1 e => (ra_c0_ok (ro := ra_oN)) m av h (x, h1) e) (fun m av h x h1 e => (ra_c0_ok (ro := ra_oF)) m av h (x, h1) e) 66 lX12_count_0 _ _ _ _ lX12_count_0_ck (show ra_run ra_rI (kX12_count_0 N) ra_c0 (tIX12_count N) ra_c0 ra_c0 ra_c0 ra_c0 66 lX12_count_0 [some (.ref a0), some (.int a1)] [] h = some r from e) _ _ rfl
def fX12_count (N : Nat) (p0 : Nat) (p1 : Int32) (h : ra_H) : Option (Int32 × ra_H) := match ra_isOb h p0 12 with
  | true => nX12_count_0 N p0 p1 h
  | false => none
set_option maxRecDepth 100000 in
theorem mtX12_count : ra_MT[321]? = some (mX12_count, 1, 1, (1, 13), (9, 89), (9, 90)) := rfl
theorem fX12_count_co (N : Nat) (p0 : Nat) (p1 : Int32) (h : ra_H) (r : (Int32 × ra_H)) (e : fX12_count N p0 p1 h = some r) (D : Nat) (hD : 9 ≤ D) : ra_CO D 321 [.ref p0, .int p1] h (ra_oI r).1 (ra_oI r).2 := by
  have hw : ra_nw2 [.ref p0, .int p1] ≤ 2 := Nat.le_of_ble_eq_true rfl
  have hdb : ∀ v ∈ ([.ref p0, .int p1] : List Value), ∀ x, v ≠ .double x := by
    intro v hv x hx
    simp [hx] at hv
  unfold fX12_count at e
  split at e
  · rename_i ho
    have e1 := e
    exact ⟨8, _, mtX12_count, hD, ra_ev_of (by decide) hdb hw trivial (ra_Ru.weak (nX12_count_0_ok N p0 p1 h _ e1) ⟨rfl, ⟨rfl, trivial⟩⟩), (fun _ => ⟨_, _, rfl, ra_rcv_of ho (by decide) rfl⟩), (fun h => absurd h (by decide))⟩
  · cases e
/-! RedMarksModel.draw(I)I -/
def mX12_draw : ra_M := (yX12_draw, cX12_draw, 2, (some .int))
def lX12_draw_0 : List ra_I := [(0, .aload_n 0, 1, 0, 0, 0, 0, 0, []),
  (1, .aload_n 0, 1, 0, 0, 0, 0, 0, []),
  (2, .getfield 500, 3, 12, 55, 1, 0, 0, []),
  (5, .ldc2_w 503, 3, 0, 0, 0, 0, (1103), []),
  (8, .lmul, 1, 0, 0, 0, 0, 0, []),
  (9, .ldc2_w 505, 3, 0, 0, 0, 0, (12345), []),
  (12, .ladd, 1, 0, 0, 0, 0, 0, []),
  (13, .ldc2_w 507, 3, 0, 0, 0, 0, (1000003), []),
  (16, .lrem, 1, 0, 0, 0, 0, 0, []),
  (17, .putfield 500, 3, 12, 55, 1, 0, 0, []),
  (20, .aload_n 0, 1, 0, 0, 0, 0, 0, []),
  (21, .getfield 500, 3, 12, 55, 1, 0, 0, []),
  (24, .iload_n 1, 1, 1, 0, 0, 0, 0, []),
  (25, .i2l, 1, 0, 0, 0, 0, 0, []),
  (26, .lrem, 1, 0, 0, 0, 0, 0, []),
  (27, .l2i, 1, 0, 0, 0, 0, 0, []),
  (28, .ireturn, 1, 0, 0, 0, 0, 0, [])]
set_option maxRecDepth 100000 in
theorem lX12_draw_0_ck : lX12_draw_0.all (ra_ck mX12_draw 12) = true := by decide +kernel
def nX12_draw_0 (N : Nat) (a0 : Nat) (a1 : Int32) (h : ra_H) : Option (Int32 × ra_H) :=
  (ra_fJ h 12 a0 55).bind fun x1 =>
  if ((1000003 : Int64)) = 0 then none else
  (ra_fW h 12 a0 55 (.long (((x1 * ((1103 : Int64))) + ((12345 : Int64))) - ((x1 * ((1103 : Int64))) + ((12345 : Int64))) / ((1000003 : Int64)) * ((1000003 : Int64))))).bind fun h2 =>
  (ra_fJ h2 12 a0 55).bind fun x3 =>
  if (Int32.toInt64 a1) = 0 then none else
  some (Int64.toInt32 (x3 - x3 / (Int32.toInt64 a1) * (Int32.toInt64 a1)), h2)
def kX12_draw_0 (N : Nat) : Nat → List (Option Value) → List Value → ra_H → Option (Int32 × ra_H) := ra_k0
theorem kX12_draw_0_ok (N : Nat) : ra_kok 1 mX12_draw ra_oI (kX12_draw_0 N) := ra_k0_ok
set_option maxRecDepth 100000 in
theorem nX12_draw_0_ok (N : Nat) (a0 : Nat) (a1 : Int32) (h : ra_H) (r : (Int32 × ra_H)) (e : nX12_draw_0 N a0 a1 h = some r) : ra_Ru 1 mX12_draw 0 [some (.ref a0), some (.int a1)] [] h (ra_oI r) :=
  ra_sound (by omega) rfl ra_rI_ok (kX12_draw_0_ok N) (fun m av h h1 e => (ra_c0_ok (ro := ra_oV)) m av h h1 e) (fun m av h x h1 e => (ra_c0_ok (ro := ra_oI)) m av h (x, h1) e) (fun m av h x h1 e => (ra_c0_ok (ro := ra_oJ)) m av h (x, h1) e) (fun m av h x h1 e => (ra_c0_ok (ro := ra_oR)) m av h (x, h1) e) (fun m av h x h1 e => (ra_c0_ok (ro := ra_oN)) m av h (x, h1) e) (fun m av h x h1 e => (ra_c0_ok (ro := ra_oF)) m av h (x, h1) e) 18 lX12_draw_0 _ _ _ _ lX12_draw_0_ck (show ra_run ra_rI (kX12_draw_0 N) ra_c0 ra_c0 ra_c0 ra_c0 ra_c0 ra_c0 18 lX12_draw_0 [some (.ref a0), some (.int a1)] [] h = some r from e) _ _ rfl
def fX12_draw (N : Nat) (p0 : Nat) (p1 : Int32) (h : ra_H) : Option (Int32 × ra_H) := match ra_isOb h p0 12 with
  | true => nX12_draw_0 N p0 p1 h
  | false => none
set_option maxRecDepth 100000 in
theorem mtX12_draw : ra_MT[317]? = some (mX12_draw, 1, 1, (1, 13), (9, 71), (0, 116)) := rfl
theorem fX12_draw_co (N : Nat) (p0 : Nat) (p1 : Int32) (h : ra_H) (r : (Int32 × ra_H)) (e : fX12_draw N p0 p1 h = some r) (D : Nat) (hD : 2 ≤ D) : ra_CO D 317 [.ref p0, .int p1] h (ra_oI r).1 (ra_oI r).2 := by
  have hw : ra_nw2 [.ref p0, .int p1] ≤ 2 := Nat.le_of_ble_eq_true rfl
  have hdb : ∀ v ∈ ([.ref p0, .int p1] : List Value), ∀ x, v ≠ .double x := by
    intro v hv x hx
    simp [hx] at hv
  unfold fX12_draw at e
  split at e
  · rename_i ho
    have e1 := e
    exact ⟨1, _, mtX12_draw, hD, ra_ev_of (by decide) hdb hw trivial (ra_Ru.weak (nX12_draw_0_ok N p0 p1 h _ e1) ⟨rfl, ⟨rfl, trivial⟩⟩), (fun _ => ⟨_, _, rfl, ra_rcv_of ho (by decide) rfl⟩), (fun h => absurd h (by decide))⟩
  · cases e
/-! RedMarksModel.end(I)I -/
def mX12_end : ra_M := (yX12_end, cX12_end, 2, (some .int))
def lX12_end_17 : List ra_I := [(17, .iconst (-1), 1, 0, 0, 0, (-1), 0, []),
  (18, .ireturn, 1, 0, 0, 0, 0, 0, [])]
set_option maxRecDepth 100000 in
theorem lX12_end_17_ck : lX12_end_17.all (ra_ck mX12_end 12) = true := by decide +kernel
def nX12_end_17 (N : Nat) (h : ra_H) : Option (Int32 × ra_H) :=
  some ((-1 : Int32), h)
def kX12_end_17 (N : Nat) : Nat → List (Option Value) → List Value → ra_H → Option (Int32 × ra_H) := ra_k0
theorem kX12_end_17_ok (N : Nat) : ra_kok 1 mX12_end ra_oI (kX12_end_17 N) := ra_k0_ok
set_option maxRecDepth 100000 in
theorem nX12_end_17_ok (N : Nat) (h : ra_H) (r : (Int32 × ra_H)) (e : nX12_end_17 N h = some r) : ra_Ru 1 mX12_end 17 [none, none] [] h (ra_oI r) :=
  ra_sound (by omega) rfl ra_rI_ok (kX12_end_17_ok N) (fun m av h h1 e => (ra_c0_ok (ro := ra_oV)) m av h h1 e) (fun m av h x h1 e => (ra_c0_ok (ro := ra_oI)) m av h (x, h1) e) (fun m av h x h1 e => (ra_c0_ok (ro := ra_oJ)) m av h (x, h1) e) (fun m av h x h1 e => (ra_c0_ok (ro := ra_oR)) m av h (x, h1) e) (fun m av h x h1 e => (ra_c0_ok (ro := ra_oN)) m av h (x, h1) e) (fun m av h x h1 e => (ra_c0_ok (ro := ra_oF)) m av h (x, h1) e) 3 lX12_end_17 _ _ _ _ lX12_end_17_ck (show ra_run ra_rI (kX12_end_17 N) ra_c0 ra_c0 ra_c0 ra_c0 ra_c0 ra_c0 3 lX12_end_17 [none, none] [] h = some r from e) _ _ rfl
def lX12_end_0 : List ra_I := [(0, .aload_n 0, 1, 0, 0, 0, 0, 0, []),
  (1, .iconst (0), 1, 0, 0, 0, (0), 0, []),
  (2, .putfield 147, 3, 12, 0, 0, 0, 0, []),
  (5, .iload_n 1, 1, 1, 0, 0, 0, 0, []),
  (6, .ifCond .lt (11), 3, 17, 0, 0, 0, 0, []),
  (9, .iload_n 1, 1, 1, 0, 0, 0, 0, []),
  (10, .aload_n 0, 1, 0, 0, 0, 0, 0, []),
  (11, .getfield 212, 3, 12, 8, 0, 0, 0, []),
  (14, .if_icmp .le (5), 3, 19, 0, 0, 0, 0, []),
  (19, .aload_n 0, 1, 0, 0, 0, 0, 0, []),
  (20, .iload_n 1, 1, 1, 0, 0, 0, 0, []),
  (21, .putfield 212, 3, 12, 8, 0, 0, 0, []),
  (24, .iload_n 1, 1, 1, 0, 0, 0, 0, []),
  (25, .ireturn, 1, 0, 0, 0, 0, 0, [])]
set_option maxRecDepth 100000 in
theorem lX12_end_0_ck : lX12_end_0.all (ra_ck mX12_end 12) = true := by decide +kernel
def nX12_end_0 (N : Nat) (a0 : Nat) (a1 : Int32) (h : ra_H) : Option (Int32 × ra_H) :=
  (ra_fW h 12 a0 0 (.int ((0 : Int32)))).bind fun h1 =>
  if a1 < 0 then
    nX12_end_17 N h1
  else
    (ra_fI h1 12 a0 8).bind fun x2 =>
    if a1 ≤ x2 then
      (ra_fW h1 12 a0 8 (.int a1)).bind fun h3 =>
      some (a1, h3)
    else
      nX12_end_17 N h1
def kX12_end_0 (N : Nat) : Nat → List (Option Value) → List Value → ra_H → Option (Int32 × ra_H) := (ra_k1 17 (fun L S h => match L, S with
  | [_, _], [] => nX12_end_17 N h
  | _, _ => none) ra_k0)
theorem kX12_end_0_ok (N : Nat) : ra_kok 1 mX12_end ra_oI (kX12_end_0 N) := (ra_k1_ok (by
  intro L S h a e
  split at e
  · exact ra_Ru.weak (nX12_end_17_ok N _ _ e) trivial
  · cases e) ra_k0_ok)
set_option maxRecDepth 100000 in
theorem nX12_end_0_ok (N : Nat) (a0 : Nat) (a1 : Int32) (h : ra_H) (r : (Int32 × ra_H)) (e : nX12_end_0 N a0 a1 h = some r) : ra_Ru 1 mX12_end 0 [some (.ref a0), some (.int a1)] [] h (ra_oI r) :=
  ra_sound (by omega) rfl ra_rI_ok (kX12_end_0_ok N) (fun m av h h1 e => (ra_c0_ok (ro := ra_oV)) m av h h1 e) (fun m av h x h1 e => (ra_c0_ok (ro := ra_oI)) m av h (x, h1) e) (fun m av h x h1 e => (ra_c0_ok (ro := ra_oJ)) m av h (x, h1) e) (fun m av h x h1 e => (ra_c0_ok (ro := ra_oR)) m av h (x, h1) e) (fun m av h x h1 e => (ra_c0_ok (ro := ra_oN)) m av h (x, h1) e) (fun m av h x h1 e => (ra_c0_ok (ro := ra_oF)) m av h (x, h1) e) 15 lX12_end_0 _ _ _ _ lX12_end_0_ck (show ra_run ra_rI (kX12_end_0 N) ra_c0 ra_c0 ra_c0 ra_c0 ra_c0 ra_c0 15 lX12_end_0 [some (.ref a0), some (.int a1)] [] h = some r from e) _ _ rfl
def fX12_end (N : Nat) (p0 : Nat) (p1 : Int32) (h : ra_H) : Option (Int32 × ra_H) := match ra_isOb h p0 12 with
  | true => nX12_end_0 N p0 p1 h
  | false => none
set_option maxRecDepth 100000 in
theorem mtX12_end : ra_MT[229]? = some (mX12_end, 1, 1, (1, 13), (7, 177), (7, 178)) := rfl
theorem fX12_end_co (N : Nat) (p0 : Nat) (p1 : Int32) (h : ra_H) (r : (Int32 × ra_H)) (e : fX12_end N p0 p1 h = some r) (D : Nat) (hD : 2 ≤ D) : ra_CO D 229 [.ref p0, .int p1] h (ra_oI r).1 (ra_oI r).2 := by
  have hw : ra_nw2 [.ref p0, .int p1] ≤ 2 := Nat.le_of_ble_eq_true rfl
  have hdb : ∀ v ∈ ([.ref p0, .int p1] : List Value), ∀ x, v ≠ .double x := by
    intro v hv x hx
    simp [hx] at hv
  unfold fX12_end at e
  split at e
  · rename_i ho
    have e1 := e
    exact ⟨1, _, mtX12_end, hD, ra_ev_of (by decide) hdb hw trivial (ra_Ru.weak (nX12_end_0_ok N p0 p1 h _ e1) ⟨rfl, ⟨rfl, trivial⟩⟩), (fun _ => ⟨_, _, rfl, ra_rcv_of ho (by decide) rfl⟩), (fun h => absurd h (by decide))⟩
  · cases e
/-! RedMarksModel.hopes(I)J -/
def mX12_hopes : ra_M := (yX12_hopes, cX12_hopes, 5, (some .long))
def lX12_hopes_41 : List ra_I := [(41, .ladd, 1, 0, 0, 0, 0, 0, []),
  (42, .lstore_n 2, 1, 2, 0, 0, 0, 0, []),
  (43, .iinc 4 (1), 3, 4, 0, 0, (1), 0, []),
  (46, .goto (-41), 3, 5, 0, 0, 0, 0, [])]
set_option maxRecDepth 100000 in
theorem lX12_hopes_41_ck : lX12_hopes_41.all (ra_ck mX12_hopes 12) = true := by decide +kernel
def nX12_hopes_41 (N : Nat) (c5 : Nat → Int32 → Int64 → Int32 → ra_H → Option (Int64 × ra_H)) (a0 : Nat) (a1 : Int32) (a4 : Int32) (b0 : Int64) (b1 : Int64) (h : ra_H) : Option (Int64 × ra_H) :=
  let y1 := b0 + b1
  let y2 := a4 + (1 : Int32)
  c5 a0 a1 y1 y2 h
def kX12_hopes_41 (N : Nat) (c5 : Nat → Int32 → Int64 → Int32 → ra_H → Option (Int64 × ra_H)) : Nat → List (Option Value) → List Value → ra_H → Option (Int64 × ra_H) := (ra_k1 5 (fun L S h => match L, S with
  | [some (.ref a0), some (.int a1), some (.long a2), _, some (.int a4)], [] => c5 a0 a1 a2 a4 h
  | _, _ => none) ra_k0)
theorem kX12_hopes_41_ok (N : Nat) (c5 : Nat → Int32 → Int64 → Int32 → ra_H → Option (Int64 × ra_H)) (hc5 : ∀ a0 a1 a2 a4 h r, c5 a0 a1 a2 a4 h = some r → ra_Ru 1 mX12_hopes 5 [some (.ref a0), some (.int a1), some (.long a2), none, some (.int a4)] [] h (ra_oJ r)) : ra_kok 1 mX12_hopes ra_oJ (kX12_hopes_41 N c5) := (ra_k1_ok (by
  intro L S h a e
  split at e
  · exact ra_Ru.weak (hc5 _ _ _ _ _ _ e) ⟨rfl, ⟨rfl, ⟨rfl, ⟨rfl, trivial⟩⟩⟩⟩
  · cases e) ra_k0_ok)
set_option maxRecDepth 100000 in
theorem nX12_hopes_41_ok (N : Nat) (c5 : Nat → Int32 → Int64 → Int32 → ra_H → Option (Int64 × ra_H)) (hc5 : ∀ a0 a1 a2 a4 h r, c5 a0 a1 a2 a4 h = some r → ra_Ru 1 mX12_hopes 5 [some (.ref a0), some (.int a1), some (.long a2), none, some (.int a4)] [] h (ra_oJ r)) (a0 : Nat) (a1 : Int32) (a4 : Int32) (b0 : Int64) (b1 : Int64) (h : ra_H) (r : (Int64 × ra_H)) (e : nX12_hopes_41 N c5 a0 a1 a4 b0 b1 h = some r) : ra_Ru 1 mX12_hopes 41 [some (.ref a0), some (.int a1), none, none, some (.int a4)] [.long b1, .long b0] h (ra_oJ r) :=
  ra_sound (by omega) rfl ra_rJ_ok (kX12_hopes_41_ok N c5 hc5) (fun m av h h1 e => (ra_c0_ok (ro := ra_oV)) m av h h1 e) (fun m av h x h1 e => (ra_c0_ok (ro := ra_oI)) m av h (x, h1) e) (fun m av h x h1 e => (ra_c0_ok (ro := ra_oJ)) m av h (x, h1) e) (fun m av h x h1 e => (ra_c0_ok (ro := ra_oR)) m av h (x, h1) e) (fun m av h x h1 e => (ra_c0_ok (ro := ra_oN)) m av h (x, h1) e) (fun m av h x h1 e => (ra_c0_ok (ro := ra_oF)) m av h (x, h1) e) 5 lX12_hopes_41 _ _ _ _ lX12_hopes_41_ck (show ra_run ra_rJ (kX12_hopes_41 N c5) ra_c0 ra_c0 ra_c0 ra_c0 ra_c0 ra_c0 5 lX12_hopes_41 [some (.ref a0), some (.int a1), none, none, some (.int a4)] [.long b1, .long b0] h = some r from e) _ _ rfl
def lX12_hopes_5 : List ra_I := [(5, .iload 4, 2, 4, 0, 0, 0, 0, []),
  (7, .aload_n 0, 1, 0, 0, 0, 0, 0, []),
  (8, .getfield 13, 3, 12, 3, 2, 0, 0, []),
  (11, .sipush (480), 3, 0, 0, 0, (480), 0, []),
  (14, .iaload, 1, 0, 0, 0, 0, 0, []),
  (15, .if_icmp .ge (34), 3, 49, 0, 0, 0, 0, []),
  (18, .lload_n 2, 1, 2, 0, 0, 0, 0, []),
  (19, .aload_n 0, 1, 0, 0, 0, 0, 0, []),
  (20, .getfield 13, 3, 12, 3, 2, 0, 0, []),
  (23, .bipush (12), 2, 0, 0, 0, (12), 0, []),
  (25, .iload 4, 2, 4, 0, 0, 0, 0, []),
  (27, .imul, 1, 0, 0, 0, 0, 0, []),
  (28, .bipush (11), 2, 0, 0, 0, (11), 0, []),
  (30, .iadd, 1, 0, 0, 0, 0, 0, []),
  (31, .iaload, 1, 0, 0, 0, 0, 0, []),
  (32, .iload_n 1, 1, 1, 0, 0, 0, 0, []),
  (33, .if_icmp .ne (7), 3, 40, 0, 0, 0, 0, []),
  (36, .lconst 1, 1, 0, 0, 0, 0, 1, []),
  (37, .goto (4), 3, 41, 0, 0, 0, 0, []),
  (40, .lconst 0, 1, 0, 0, 0, 0, 0, []),
  (49, .lload_n 2, 1, 2, 0, 0, 0, 0, []),
  (50, .aload_n 0, 1, 0, 0, 0, 0, 0, []),
  (51, .getfield 13, 3, 12, 3, 2, 0, 0, []),
  (54, .sipush (610), 3, 0, 0, 0, (610), 0, []),
  (57, .iconst (3), 1, 0, 0, 0, (3), 0, []),
  (58, .iload_n 1, 1, 1, 0, 0, 0, 0, []),
  (59, .imul, 1, 0, 0, 0, 0, 0, []),
  (60, .iadd, 1, 0, 0, 0, 0, 0, []),
  (61, .iaload, 1, 0, 0, 0, 0, 0, []),
  (62, .aload_n 0, 1, 0, 0, 0, 0, 0, []),
  (63, .getfield 13, 3, 12, 3, 2, 0, 0, []),
  (66, .sipush (610), 3, 0, 0, 0, (610), 0, []),
  (69, .iconst (3), 1, 0, 0, 0, (3), 0, []),
  (70, .iload_n 1, 1, 1, 0, 0, 0, 0, []),
  (71, .imul, 1, 0, 0, 0, 0, 0, []),
  (72, .iadd, 1, 0, 0, 0, 0, 0, []),
  (73, .iconst (1), 1, 0, 0, 0, (1), 0, []),
  (74, .iadd, 1, 0, 0, 0, 0, 0, []),
  (75, .iaload, 1, 0, 0, 0, 0, 0, []),
  (76, .isub, 1, 0, 0, 0, 0, 0, []),
  (77, .i2l, 1, 0, 0, 0, 0, 0, []),
  (78, .lmul, 1, 0, 0, 0, 0, 0, []),
  (79, .lreturn, 1, 0, 0, 0, 0, 0, [])]
set_option maxRecDepth 100000 in
theorem lX12_hopes_5_ck : lX12_hopes_5.all (ra_ck mX12_hopes 12) = true := by decide +kernel
def nX12_hopes_5 (N : Nat) : Nat → Nat → Int32 → Int64 → Int32 → ra_H → Option (Int64 × ra_H)
  | 0, _, _, _, _, _ => none
  | n + 1, a0, a1, a2, a4, h =>
  (ra_fR h 12 a0 3).bind fun x1 =>
  (ra_aI h 0 x1 ((480 : Int32))).bind fun x2 =>
  if a4 < x2 then
    (ra_fR h 12 a0 3).bind fun x7 =>
    (ra_aI h 0 x7 ((((12 : Int32)) * a4) + ((11 : Int32)))).bind fun x8 =>
    if x8 = a1 then
      nX12_hopes_41 N (nX12_hopes_5 N n) a0 a1 a4 a2 ((1 : Int64)) h
    else
      nX12_hopes_41 N (nX12_hopes_5 N n) a0 a1 a4 a2 ((0 : Int64)) h
  else
    (ra_fR h 12 a0 3).bind fun x3 =>
    (ra_aI h 0 x3 (((610 : Int32)) + (((3 : Int32)) * a1))).bind fun x4 =>
    (ra_fR h 12 a0 3).bind fun x5 =>
    (ra_aI h 0 x5 ((((610 : Int32)) + (((3 : Int32)) * a1)) + ((1 : Int32)))).bind fun x6 =>
    some (a2 * (Int32.toInt64 (x4 - x6)), h)
def kX12_hopes_5 (N : Nat) (cs : Nat → Int32 → Int64 → Int32 → ra_H → Option (Int64 × ra_H)) : Nat → List (Option Value) → List Value → ra_H → Option (Int64 × ra_H) := (ra_k1 41 (fun L S h => match L, S with
  | [some (.ref a0), some (.int a1), _, _, some (.int a4)], [.long b1, .long b0] => nX12_hopes_41 N cs a0 a1 a4 b0 b1 h
  | _, _ => none) ra_k0)
theorem kX12_hopes_5_ok (N : Nat) (cs : Nat → Int32 → Int64 → Int32 → ra_H → Option (Int64 × ra_H)) (hcs : ∀ a0 a1 a2 a4 h r, cs a0 a1 a2 a4 h = some r → ra_Ru 1 mX12_hopes 5 [some (.ref a0), some (.int a1), some (.long a2), none, some (.int a4)] [] h (ra_oJ r)) : ra_kok 1 mX12_hopes ra_oJ (kX12_hopes_5 N cs) := (ra_k1_ok (by
  intro L S h a e
  split at e
  · exact ra_Ru.weak (nX12_hopes_41_ok N cs hcs _ _ _ _ _ _ _ e) ⟨rfl, ⟨rfl, ⟨rfl, trivial⟩⟩⟩
  · cases e) ra_k0_ok)
set_option maxRecDepth 100000 in
theorem nX12_hopes_5_ok (N : Nat) : ∀ n a0 a1 a2 a4 h r, nX12_hopes_5 N n a0 a1 a2 a4 h = some r → ra_Ru 1 mX12_hopes 5 [some (.ref a0), some (.int a1), some (.long a2), none, some (.int a4)] [] h (ra_oJ r) := by
  intro n
  induction n with
  | zero => intro a0 a1 a2 a4 h r e; cases e
  | succ n ih =>
    intro a0 a1 a2 a4 h r e
    exact ra_sound (by omega) rfl ra_rJ_ok (kX12_hopes_5_ok N (nX12_hopes_5 N n) ih) (fun m av h h1 e => (ra_c0_ok (ro := ra_oV)) m av h h1 e) (fun m av h x h1 e => (ra_c0_ok (ro := ra_oI)) m av h (x, h1) e) (fun m av h x h1 e => (ra_c0_ok (ro := ra_oJ)) m av h (x, h1) e) (fun m av h x h1 e => (ra_c0_ok (ro := ra_oR)) m av h (x, h1) e) (fun m av h x h1 e => (ra_c0_ok (ro := ra_oN)) m av h (x, h1) e) (fun m av h x h1 e => (ra_c0_ok (ro := ra_oF)) m av h (x, h1) e) 44 lX12_hopes_5 _ _ _ _ lX12_hopes_5_ck (show ra_run ra_rJ (kX12_hopes_5 N (nX12_hopes_5 N n)) ra_c0 ra_c0 ra_c0 ra_c0 ra_c0 ra_c0 44 lX12_hopes_5 [some (.ref a0), some (.int a1), some (.long a2), none, some (.int a4)] [] h = some r from e) _ _ rfl
def lX12_hopes_0 : List ra_I := [(0, .lconst 0, 1, 0, 0, 0, 0, 0, []),
  (1, .lstore_n 2, 1, 2, 0, 0, 0, 0, []),
  (2, .iconst (0), 1, 0, 0, 0, (0), 0, []),
  (3, .istore 4, 2, 4, 0, 0, 0, 0, [])]
set_option maxRecDepth 100000 in
theorem lX12_hopes_0_ck : lX12_hopes_0.all (ra_ck mX12_hopes 12) = true := by decide +kernel
def nX12_hopes_0 (N : Nat) (a0 : Nat) (a1 : Int32) (h : ra_H) : Option (Int64 × ra_H) :=
  nX12_hopes_5 N N a0 a1 ((0 : Int64)) ((0 : Int32)) h
def kX12_hopes_0 (N : Nat) : Nat → List (Option Value) → List Value → ra_H → Option (Int64 × ra_H) := (ra_k1 5 (fun L S h => match L, S with
  | [some (.ref a0), some (.int a1), some (.long a2), _, some (.int a4)], [] => nX12_hopes_5 N N a0 a1 a2 a4 h
  | _, _ => none) ra_k0)
theorem kX12_hopes_0_ok (N : Nat) : ra_kok 1 mX12_hopes ra_oJ (kX12_hopes_0 N) := (ra_k1_ok (by
  intro L S h a e
  split at e
  · exact ra_Ru.weak (nX12_hopes_5_ok N N _ _ _ _ _ _ e) ⟨rfl, ⟨rfl, ⟨rfl, ⟨rfl, trivial⟩⟩⟩⟩
  · cases e) ra_k0_ok)
set_option maxRecDepth 100000 in
theorem nX12_hopes_0_ok (N : Nat) (a0 : Nat) (a1 : Int32) (h : ra_H) (r : (Int64 × ra_H)) (e : nX12_hopes_0 N a0 a1 h = some r) : ra_Ru 1 mX12_hopes 0 [some (.ref a0), some (.int a1), none, none, none] [] h (ra_oJ r) :=
  ra_sound (by omega) rfl ra_rJ_ok (kX12_hopes_0_ok N) (fun m av h h1 e => (ra_c0_ok (ro := ra_oV)) m av h h1 e) (fun m av h x h1 e => (ra_c0_ok (ro := ra_oI)) m av h (x, h1) e) (fun m av h x h1 e => (ra_c0_ok (ro := ra_oJ)) m av h (x, h1) e) (fun m av h x h1 e => (ra_c0_ok (ro := ra_oR)) m av h (x, h1) e) (fun m av h x h1 e => (ra_c0_ok (ro := ra_oN)) m av h (x, h1) e) (fun m av h x h1 e => (ra_c0_ok (ro := ra_oF)) m av h (x, h1) e) 5 lX12_hopes_0 _ _ _ _ lX12_hopes_0_ck (show ra_run ra_rJ (kX12_hopes_0 N) ra_c0 ra_c0 ra_c0 ra_c0 ra_c0 ra_c0 5 lX12_hopes_0 [some (.ref a0), some (.int a1), none, none, none] [] h = some r from e) _ _ rfl
def fX12_hopes (N : Nat) (p0 : Nat) (p1 : Int32) (h : ra_H) : Option (Int64 × ra_H) := match ra_isOb h p0 12 with
  | true => nX12_hopes_0 N p0 p1 h
  | false => none
set_option maxRecDepth 100000 in
theorem mtX12_hopes : ra_MT[311]? = some (mX12_hopes, 1, 1, (1, 13), (9, 47), (0, 114)) := rfl
theorem fX12_hopes_co (N : Nat) (p0 : Nat) (p1 : Int32) (h : ra_H) (r : (Int64 × ra_H)) (e : fX12_hopes N p0 p1 h = some r) (D : Nat) (hD : 2 ≤ D) : ra_CO D 311 [.ref p0, .int p1] h (ra_oJ r).1 (ra_oJ r).2 := by
  have hw : ra_nw2 [.ref p0, .int p1] ≤ 5 := Nat.le_of_ble_eq_true rfl
  have hdb : ∀ v ∈ ([.ref p0, .int p1] : List Value), ∀ x, v ≠ .double x := by
    intro v hv x hx
    simp [hx] at hv
  unfold fX12_hopes at e
  split at e
  · rename_i ho
    have e1 := e
    exact ⟨1, _, mtX12_hopes, hD, ra_ev_of (by decide) hdb hw trivial (ra_Ru.weak (nX12_hopes_0_ok N p0 p1 h _ e1) ⟨rfl, ⟨rfl, trivial⟩⟩), (fun _ => ⟨_, _, rfl, ra_rcv_of ho (by decide) rfl⟩), (fun h => absurd h (by decide))⟩
  · cases e
/-! RedMarksModel.expect(I)I -/
def mX12_expect : ra_M := (yX12_expect, cX12_expect, 2, (some .int))
def tIX12_expect (N : Nat) : Nat → List Value → ra_H → Option (Int32 × ra_H) := (ra_c1 209 (fun av h => match av with
  | [.long z0, .long z1, .long z2] => fX12_in N z0 z1 z2 h
  | _ => none) ra_c0)
theorem tIX12_expect_ok (N : Nat) : ra_cok 2 ra_oI (tIX12_expect N) := (ra_c1_ok (by
  intro av h a e
  split at e
  · exact fX12_in_co N _ _ _ _ _ e 2 (by omega)
  · cases e) ra_c0_ok)
def tJX12_expect (N : Nat) : Nat → List Value → ra_H → Option (Int64 × ra_H) := (ra_c1 311 (fun av h => match av with
  | [.ref z0, .int z1] => fX12_hopes N z0 z1 h
  | _ => none) ra_c0)
theorem tJX12_expect_ok (N : Nat) : ra_cok 2 ra_oJ (tJX12_expect N) := (ra_c1_ok (by
  intro av h a e
  split at e
  · exact fX12_hopes_co N _ _ _ _ e 2 (by omega)
  · cases e) ra_c0_ok)
def lX12_expect_34 : List ra_I := [(34, .iconst (-1), 1, 0, 0, 0, (-1), 0, []),
  (35, .ireturn, 1, 0, 0, 0, 0, 0, [])]
set_option maxRecDepth 100000 in
theorem lX12_expect_34_ck : lX12_expect_34.all (ra_ck mX12_expect 12) = true := by decide +kernel
def nX12_expect_34 (N : Nat) (h : ra_H) : Option (Int32 × ra_H) :=
  some ((-1 : Int32), h)
def kX12_expect_34 (N : Nat) : Nat → List (Option Value) → List Value → ra_H → Option (Int32 × ra_H) := ra_k0
theorem kX12_expect_34_ok (N : Nat) : ra_kok 2 mX12_expect ra_oI (kX12_expect_34 N) := ra_k0_ok
set_option maxRecDepth 100000 in
theorem nX12_expect_34_ok (N : Nat) (h : ra_H) (r : (Int32 × ra_H)) (e : nX12_expect_34 N h = some r) : ra_Ru 2 mX12_expect 34 [none, none] [] h (ra_oI r) :=
  ra_sound (by omega) rfl ra_rI_ok (kX12_expect_34_ok N) (fun m av h h1 e => (ra_c0_ok (ro := ra_oV)) m av h h1 e) (fun m av h x h1 e => (tIX12_expect_ok N) m av h (x, h1) e) (fun m av h x h1 e => (tJX12_expect_ok N) m av h (x, h1) e) (fun m av h x h1 e => (ra_c0_ok (ro := ra_oR)) m av h (x, h1) e) (fun m av h x h1 e => (ra_c0_ok (ro := ra_oN)) m av h (x, h1) e) (fun m av h x h1 e => (ra_c0_ok (ro := ra_oF)) m av h (x, h1) e) 3 lX12_expect_34 _ _ _ _ lX12_expect_34_ck (show ra_run ra_rI (kX12_expect_34 N) ra_c0 (tIX12_expect N) (tJX12_expect N) ra_c0 ra_c0 ra_c0 3 lX12_expect_34 [none, none] [] h = some r from e) _ _ rfl
def lX12_expect_0 : List ra_I := [(0, .aload_n 0, 1, 0, 0, 0, 0, 0, []),
  (1, .iconst (0), 1, 0, 0, 0, (0), 0, []),
  (2, .putfield 147, 3, 12, 0, 0, 0, 0, []),
  (5, .iload_n 1, 1, 1, 0, 0, 0, 0, []),
  (6, .i2l, 1, 0, 0, 0, 0, 0, []),
  (7, .lconst 0, 1, 0, 0, 0, 0, 0, []),
  (8, .ldc2_w 181, 3, 0, 0, 0, 0, (11), []),
  (11, .invokestatic 153, 3, 209, 3, 1, 0, 0, []),
  (14, .ifCond .eq (20), 3, 34, 0, 0, 0, 0, []),
  (17, .aload_n 0, 1, 0, 0, 0, 0, 0, []),
  (18, .getfield 13, 3, 12, 3, 2, 0, 0, []),
  (21, .sipush (610), 3, 0, 0, 0, (610), 0, []),
  (24, .iconst (3), 1, 0, 0, 0, (3), 0, []),
  (25, .iload_n 1, 1, 1, 0, 0, 0, 0, []),
  (26, .imul, 1, 0, 0, 0, 0, 0, []),
  (27, .iadd, 1, 0, 0, 0, 0, 0, []),
  (28, .iconst (1), 1, 0, 0, 0, (1), 0, []),
  (29, .iadd, 1, 0, 0, 0, 0, 0, []),
  (30, .iaload, 1, 0, 0, 0, 0, 0, []),
  (31, .ifCond .ne (5), 3, 36, 0, 0, 0, 0, []),
  (36, .ldc2_w 491, 3, 0, 0, 0, 0, (100), []),
  (39, .aload_n 0, 1, 0, 0, 0, 0, 0, []),
  (40, .iload_n 1, 1, 1, 0, 0, 0, 0, []),
  (41, .invokevirtual 493, 3, 311, 2, 2, 0, 0, []),
  (44, .lmul, 1, 0, 0, 0, 0, 0, []),
  (45, .aload_n 0, 1, 0, 0, 0, 0, 0, []),
  (46, .getfield 13, 3, 12, 3, 2, 0, 0, []),
  (49, .sipush (610), 3, 0, 0, 0, (610), 0, []),
  (52, .iconst (3), 1, 0, 0, 0, (3), 0, []),
  (53, .iload_n 1, 1, 1, 0, 0, 0, 0, []),
  (54, .imul, 1, 0, 0, 0, 0, 0, []),
  (55, .iadd, 1, 0, 0, 0, 0, 0, []),
  (56, .iconst (1), 1, 0, 0, 0, (1), 0, []),
  (57, .iadd, 1, 0, 0, 0, 0, 0, []),
  (58, .iaload, 1, 0, 0, 0, 0, 0, []),
  (59, .i2l, 1, 0, 0, 0, 0, 0, []),
  (60, .ldiv, 1, 0, 0, 0, 0, 0, []),
  (61, .l2i, 1, 0, 0, 0, 0, 0, []),
  (62, .ireturn, 1, 0, 0, 0, 0, 0, [])]
set_option maxRecDepth 100000 in
theorem lX12_expect_0_ck : lX12_expect_0.all (ra_ck mX12_expect 12) = true := by decide +kernel
def nX12_expect_0 (N : Nat) (a0 : Nat) (a1 : Int32) (h : ra_H) : Option (Int32 × ra_H) :=
  (ra_fW h 12 a0 0 (.int ((0 : Int32)))).bind fun h1 =>
  (fX12_in N (Int32.toInt64 a1) ((0 : Int64)) ((11 : Int64)) h1).bind fun q2 =>
  if q2.1 = 0 then
    nX12_expect_34 N q2.2
  else
    (ra_fR q2.2 12 a0 3).bind fun x3 =>
    (ra_aI q2.2 0 x3 ((((610 : Int32)) + (((3 : Int32)) * a1)) + ((1 : Int32)))).bind fun x4 =>
    if x4 = 0 then
      nX12_expect_34 N q2.2
    else
      (fX12_hopes N a0 a1 q2.2).bind fun q5 =>
      (ra_fR q5.2 12 a0 3).bind fun x6 =>
      (ra_aI q5.2 0 x6 ((((610 : Int32)) + (((3 : Int32)) * a1)) + ((1 : Int32)))).bind fun x7 =>
      if (Int32.toInt64 x7) = 0 then none else
      some (Int64.toInt32 ((((100 : Int64)) * q5.1) / (Int32.toInt64 x7)), q5.2)
def kX12_expect_0 (N : Nat) : Nat → List (Option Value) → List Value → ra_H → Option (Int32 × ra_H) := (ra_k1 34 (fun L S h => match L, S with
  | [_, _], [] => nX12_expect_34 N h
  | _, _ => none) ra_k0)
theorem kX12_expect_0_ok (N : Nat) : ra_kok 2 mX12_expect ra_oI (kX12_expect_0 N) := (ra_k1_ok (by
  intro L S h a e
  split at e
  · exact ra_Ru.weak (nX12_expect_34_ok N _ _ e) trivial
  · cases e) ra_k0_ok)
set_option maxRecDepth 100000 in
theorem nX12_expect_0_ok (N : Nat) (a0 : Nat) (a1 : Int32) (h : ra_H) (r : (Int32 × ra_H)) (e : nX12_expect_0 N a0 a1 h = some r) : ra_Ru 2 mX12_expect 0 [some (.ref a0), some (.int a1)] [] h (ra_oI r) :=
  ra_sound (by omega) rfl ra_rI_ok (kX12_expect_0_ok N) (fun m av h h1 e => (ra_c0_ok (ro := ra_oV)) m av h h1 e) (fun m av h x h1 e => (tIX12_expect_ok N) m av h (x, h1) e) (fun m av h x h1 e => (tJX12_expect_ok N) m av h (x, h1) e) (fun m av h x h1 e => (ra_c0_ok (ro := ra_oR)) m av h (x, h1) e) (fun m av h x h1 e => (ra_c0_ok (ro := ra_oN)) m av h (x, h1) e) (fun m av h x h1 e => (ra_c0_ok (ro := ra_oF)) m av h (x, h1) e) 40 lX12_expect_0 _ _ _ _ lX12_expect_0_ck (show ra_run ra_rI (kX12_expect_0 N) ra_c0 (tIX12_expect N) (tJX12_expect N) ra_c0 ra_c0 ra_c0 40 lX12_expect_0 [some (.ref a0), some (.int a1)] [] h = some r from e) _ _ rfl
def fX12_expect (N : Nat) (p0 : Nat) (p1 : Int32) (h : ra_H) : Option (Int32 × ra_H) := match ra_isOb h p0 12 with
  | true => nX12_expect_0 N p0 p1 h
  | false => none
set_option maxRecDepth 100000 in
theorem mtX12_expect : ra_MT[310]? = some (mX12_expect, 1, 1, (1, 13), (9, 42), (9, 43)) := rfl
theorem fX12_expect_co (N : Nat) (p0 : Nat) (p1 : Int32) (h : ra_H) (r : (Int32 × ra_H)) (e : fX12_expect N p0 p1 h = some r) (D : Nat) (hD : 3 ≤ D) : ra_CO D 310 [.ref p0, .int p1] h (ra_oI r).1 (ra_oI r).2 := by
  have hw : ra_nw2 [.ref p0, .int p1] ≤ 2 := Nat.le_of_ble_eq_true rfl
  have hdb : ∀ v ∈ ([.ref p0, .int p1] : List Value), ∀ x, v ≠ .double x := by
    intro v hv x hx
    simp [hx] at hv
  unfold fX12_expect at e
  split at e
  · rename_i ho
    have e1 := e
    exact ⟨2, _, mtX12_expect, hD, ra_ev_of (by decide) hdb hw trivial (ra_Ru.weak (nX12_expect_0_ok N p0 p1 h _ e1) ⟨rfl, ⟨rfl, trivial⟩⟩), (fun _ => ⟨_, _, rfl, ra_rcv_of ho (by decide) rfl⟩), (fun h => absurd h (by decide))⟩
  · cases e
/-! RedMarksModel.fact(III)I -/
def mX12_fact : ra_M := (yX12_fact, cX12_fact, 5, (some .int))
def tIX12_fact (N : Nat) : Nat → List Value → ra_H → Option (Int32 × ra_H) := (ra_c1 210 (fun av h => match av with
  | [.ref z0, .int z1] => fX12_tell N z0 z1 h
  | _ => none) (ra_c1 215 (fun av h => match av with
  | [.int z0, .int z1] => fX12_fits N z0 z1 h
  | _ => none) (ra_c1 218 (fun av h => match av with
  | [.ref z0, .int z1] => fX12_isBook N z0 z1 h
  | _ => none) (ra_c1 219 (fun av h => match av with
  | [.ref z0, .int z1] => fX12_was N z0 z1 h
  | _ => none) ra_c0))))
theorem tIX12_fact_ok (N : Nat) : ra_cok 3 ra_oI (tIX12_fact N) := (ra_c1_ok (by
  intro av h a e
  split at e
  · exact fX12_tell_co N _ _ _ _ e 3 (by omega)
  · cases e) (ra_c1_ok (by
  intro av h a e
  split at e
  · exact fX12_fits_co N _ _ _ _ e 3 (by omega)
  · cases e) (ra_c1_ok (by
  intro av h a e
  split at e
  · exact fX12_isBook_co N _ _ _ _ e 3 (by omega)
  · cases e) (ra_c1_ok (by
  intro av h a e
  split at e
  · exact fX12_was_co N _ _ _ _ e 3 (by omega)
  · cases e) ra_c0_ok))))
def lX12_fact_0 : List ra_I := [(0, .aload_n 0, 1, 0, 0, 0, 0, 0, []),
  (1, .iconst (0), 1, 0, 0, 0, (0), 0, []),
  (2, .putfield 147, 3, 12, 0, 0, 0, 0, []),
  (5, .iload_n 2, 1, 2, 0, 0, 0, 0, []),
  (6, .iload_n 3, 1, 3, 0, 0, 0, 0, []),
  (7, .invokestatic 187, 3, 215, 2, 1, 0, 0, []),
  (10, .ifCond .ne (9), 3, 19, 0, 0, 0, 0, []),
  (13, .aload_n 0, 1, 0, 0, 0, 0, 0, []),
  (14, .iconst (-1), 1, 0, 0, 0, (-1), 0, []),
  (15, .invokevirtual 157, 3, 210, 2, 1, 0, 0, []),
  (18, .ireturn, 1, 0, 0, 0, 0, 0, []),
  (19, .aload_n 0, 1, 0, 0, 0, 0, 0, []),
  (20, .iload_n 1, 1, 1, 0, 0, 0, 0, []),
  (21, .invokevirtual 198, 3, 218, 2, 1, 0, 0, []),
  (24, .ifCond .ne (10), 3, 34, 0, 0, 0, 0, []),
  (27, .aload_n 0, 1, 0, 0, 0, 0, 0, []),
  (28, .bipush (-2), 2, 0, 0, 0, (-2), 0, []),
  (30, .invokevirtual 157, 3, 210, 2, 1, 0, 0, []),
  (33, .ireturn, 1, 0, 0, 0, 0, 0, []),
  (34, .aload_n 0, 1, 0, 0, 0, 0, 0, []),
  (35, .getfield 13, 3, 12, 3, 2, 0, 0, []),
  (38, .bipush (12), 2, 0, 0, 0, (12), 0, []),
  (40, .iload_n 1, 1, 1, 0, 0, 0, 0, []),
  (41, .imul, 1, 0, 0, 0, 0, 0, []),
  (42, .iload_n 2, 1, 2, 0, 0, 0, 0, []),
  (43, .iadd, 1, 0, 0, 0, 0, 0, []),
  (44, .iaload, 1, 0, 0, 0, 0, 0, []),
  (45, .istore 4, 2, 4, 0, 0, 0, 0, []),
  (47, .aload_n 0, 1, 0, 0, 0, 0, 0, []),
  (48, .getfield 13, 3, 12, 3, 2, 0, 0, []),
  (51, .bipush (12), 2, 0, 0, 0, (12), 0, []),
  (53, .iload_n 1, 1, 1, 0, 0, 0, 0, []),
  (54, .imul, 1, 0, 0, 0, 0, 0, []),
  (55, .iload_n 2, 1, 2, 0, 0, 0, 0, []),
  (56, .iadd, 1, 0, 0, 0, 0, 0, []),
  (57, .iload_n 3, 1, 3, 0, 0, 0, 0, []),
  (58, .iastore, 1, 0, 0, 0, 0, 0, []),
  (59, .aload_n 0, 1, 0, 0, 0, 0, 0, []),
  (60, .iload 4, 2, 4, 0, 0, 0, 0, []),
  (62, .invokevirtual 202, 3, 219, 2, 1, 0, 0, []),
  (65, .ireturn, 1, 0, 0, 0, 0, 0, [])]
set_option maxRecDepth 100000 in
theorem lX12_fact_0_ck : lX12_fact_0.all (ra_ck mX12_fact 12) = true := by decide +kernel
def nX12_fact_0 (N : Nat) (a0 : Nat) (a1 : Int32) (a2 : Int32) (a3 : Int32) (h : ra_H) : Option (Int32 × ra_H) :=
  (ra_fW h 12 a0 0 (.int ((0 : Int32)))).bind fun h1 =>
  (fX12_fits N a2 a3 h1).bind fun q2 =>
  if q2.1 = 0 then
    (fX12_tell N a0 ((-1 : Int32)) q2.2).bind fun q10 =>
    some (q10.1, q10.2)
  else
    (fX12_isBook N a0 a1 q2.2).bind fun q3 =>
    if q3.1 = 0 then
      (fX12_tell N a0 ((-2 : Int32)) q3.2).bind fun q9 =>
      some (q9.1, q9.2)
    else
      (ra_fR q3.2 12 a0 3).bind fun x4 =>
      (ra_aI q3.2 0 x4 ((((12 : Int32)) * a1) + a2)).bind fun x5 =>
      (ra_fR q3.2 12 a0 3).bind fun x6 =>
      (ra_aW q3.2 0 x6 ((((12 : Int32)) * a1) + a2) a3).bind fun h7 =>
      (fX12_was N a0 x5 h7).bind fun q8 =>
      some (q8.1, q8.2)
def kX12_fact_0 (N : Nat) : Nat → List (Option Value) → List Value → ra_H → Option (Int32 × ra_H) := ra_k0
theorem kX12_fact_0_ok (N : Nat) : ra_kok 3 mX12_fact ra_oI (kX12_fact_0 N) := ra_k0_ok
set_option maxRecDepth 100000 in
theorem nX12_fact_0_ok (N : Nat) (a0 : Nat) (a1 : Int32) (a2 : Int32) (a3 : Int32) (h : ra_H) (r : (Int32 × ra_H)) (e : nX12_fact_0 N a0 a1 a2 a3 h = some r) : ra_Ru 3 mX12_fact 0 [some (.ref a0), some (.int a1), some (.int a2), some (.int a3), none] [] h (ra_oI r) :=
  ra_sound (by omega) rfl ra_rI_ok (kX12_fact_0_ok N) (fun m av h h1 e => (ra_c0_ok (ro := ra_oV)) m av h h1 e) (fun m av h x h1 e => (tIX12_fact_ok N) m av h (x, h1) e) (fun m av h x h1 e => (ra_c0_ok (ro := ra_oJ)) m av h (x, h1) e) (fun m av h x h1 e => (ra_c0_ok (ro := ra_oR)) m av h (x, h1) e) (fun m av h x h1 e => (ra_c0_ok (ro := ra_oN)) m av h (x, h1) e) (fun m av h x h1 e => (ra_c0_ok (ro := ra_oF)) m av h (x, h1) e) 42 lX12_fact_0 _ _ _ _ lX12_fact_0_ck (show ra_run ra_rI (kX12_fact_0 N) ra_c0 (tIX12_fact N) ra_c0 ra_c0 ra_c0 ra_c0 42 lX12_fact_0 [some (.ref a0), some (.int a1), some (.int a2), some (.int a3), none] [] h = some r from e) _ _ rfl
def fX12_fact (N : Nat) (p0 : Nat) (p1 : Int32) (p2 : Int32) (p3 : Int32) (h : ra_H) : Option (Int32 × ra_H) := match ra_isOb h p0 12 with
  | true => nX12_fact_0 N p0 p1 p2 p3 h
  | false => none
set_option maxRecDepth 100000 in
theorem mtX12_fact : ra_MT[217]? = some (mX12_fact, 1, 3, (1, 13), (7, 127), (7, 128)) := rfl
theorem fX12_fact_co (N : Nat) (p0 : Nat) (p1 : Int32) (p2 : Int32) (p3 : Int32) (h : ra_H) (r : (Int32 × ra_H)) (e : fX12_fact N p0 p1 p2 p3 h = some r) (D : Nat) (hD : 4 ≤ D) : ra_CO D 217 [.ref p0, .int p1, .int p2, .int p3] h (ra_oI r).1 (ra_oI r).2 := by
  have hw : ra_nw2 [.ref p0, .int p1, .int p2, .int p3] ≤ 5 := Nat.le_of_ble_eq_true rfl
  have hdb : ∀ v ∈ ([.ref p0, .int p1, .int p2, .int p3] : List Value), ∀ x, v ≠ .double x := by
    intro v hv x hx
    simp [hx] at hv
  unfold fX12_fact at e
  split at e
  · rename_i ho
    have e1 := e
    exact ⟨3, _, mtX12_fact, hD, ra_ev_of (by decide) hdb hw trivial (ra_Ru.weak (nX12_fact_0_ok N p0 p1 p2 p3 h _ e1) ⟨rfl, ⟨rfl, ⟨rfl, ⟨rfl, trivial⟩⟩⟩⟩), (fun _ => ⟨_, _, rfl, ra_rcv_of ho (by decide) rfl⟩), (fun h => absurd h (by decide))⟩
  · cases e
/-! RedMarksModel.fault()I -/
def mX12_fault : ra_M := (yX12_fault, cX12_fault, 1, (some .int))
def lX12_fault_0 : List ra_I := [(0, .aload_n 0, 1, 0, 0, 0, 0, 0, []),
  (1, .iconst (0), 1, 0, 0, 0, (0), 0, []),
  (2, .putfield 147, 3, 12, 0, 0, 0, 0, []),
  (5, .aload_n 0, 1, 0, 0, 0, 0, 0, []),
  (6, .getfield 26, 3, 12, 13, 0, 0, 0, []),
  (9, .ireturn, 1, 0, 0, 0, 0, 0, [])]
set_option maxRecDepth 100000 in
theorem lX12_fault_0_ck : lX12_fault_0.all (ra_ck mX12_fault 12) = true := by decide +kernel
def nX12_fault_0 (N : Nat) (a0 : Nat) (h : ra_H) : Option (Int32 × ra_H) :=
  (ra_fW h 12 a0 0 (.int ((0 : Int32)))).bind fun h1 =>
  (ra_fI h1 12 a0 13).bind fun x2 =>
  some (x2, h1)
def kX12_fault_0 (N : Nat) : Nat → List (Option Value) → List Value → ra_H → Option (Int32 × ra_H) := ra_k0
theorem kX12_fault_0_ok (N : Nat) : ra_kok 1 mX12_fault ra_oI (kX12_fault_0 N) := ra_k0_ok
set_option maxRecDepth 100000 in
theorem nX12_fault_0_ok (N : Nat) (a0 : Nat) (h : ra_H) (r : (Int32 × ra_H)) (e : nX12_fault_0 N a0 h = some r) : ra_Ru 1 mX12_fault 0 [some (.ref a0)] [] h (ra_oI r) :=
  ra_sound (by omega) rfl ra_rI_ok (kX12_fault_0_ok N) (fun m av h h1 e => (ra_c0_ok (ro := ra_oV)) m av h h1 e) (fun m av h x h1 e => (ra_c0_ok (ro := ra_oI)) m av h (x, h1) e) (fun m av h x h1 e => (ra_c0_ok (ro := ra_oJ)) m av h (x, h1) e) (fun m av h x h1 e => (ra_c0_ok (ro := ra_oR)) m av h (x, h1) e) (fun m av h x h1 e => (ra_c0_ok (ro := ra_oN)) m av h (x, h1) e) (fun m av h x h1 e => (ra_c0_ok (ro := ra_oF)) m av h (x, h1) e) 7 lX12_fault_0 _ _ _ _ lX12_fault_0_ck (show ra_run ra_rI (kX12_fault_0 N) ra_c0 ra_c0 ra_c0 ra_c0 ra_c0 ra_c0 7 lX12_fault_0 [some (.ref a0)] [] h = some r from e) _ _ rfl
def fX12_fault (N : Nat) (p0 : Nat) (h : ra_H) : Option (Int32 × ra_H) := match ra_isOb h p0 12 with
  | true => nX12_fault_0 N p0 h
  | false => none
set_option maxRecDepth 100000 in
theorem mtX12_fault : ra_MT[230]? = some (mX12_fault, 1, 0, (1, 13), (7, 181), (7, 182)) := rfl
theorem fX12_fault_co (N : Nat) (p0 : Nat) (h : ra_H) (r : (Int32 × ra_H)) (e : fX12_fault N p0 h = some r) (D : Nat) (hD : 2 ≤ D) : ra_CO D 230 [.ref p0] h (ra_oI r).1 (ra_oI r).2 := by
  have hw : ra_nw2 [.ref p0] ≤ 1 := Nat.le_of_ble_eq_true rfl
  have hdb : ∀ v ∈ ([.ref p0] : List Value), ∀ x, v ≠ .double x := by
    intro v hv x hx
    simp [hx] at hv
  unfold fX12_fault at e
  split at e
  · rename_i ho
    have e1 := e
    exact ⟨1, _, mtX12_fault, hD, ra_ev_of (by decide) hdb hw trivial (ra_Ru.weak (nX12_fault_0_ok N p0 h _ e1) ⟨rfl, trivial⟩), (fun _ => ⟨_, _, rfl, ra_rcv_of ho (by decide) rfl⟩), (fun h => absurd h (by decide))⟩
  · cases e
/-! RedMarksModel.four(I)V -/
def mX12_four : ra_M := (yX12_four, cX12_four, 3, none)
def lX12_four_3 : List ra_I := [(3, .iload_n 2, 1, 2, 0, 0, 0, 0, []),
  (4, .ifCond .lt (35), 3, 39, 0, 0, 0, 0, []),
  (7, .aload_n 0, 1, 0, 0, 0, 0, 0, []),
  (8, .getfield 23, 3, 12, 7, 2, 0, 0, []),
  (11, .aload_n 0, 1, 0, 0, 0, 0, 0, []),
  (12, .getfield 212, 3, 12, 8, 0, 0, 0, []),
  (15, .iload_n 1, 1, 1, 0, 0, 0, 0, []),
  (16, .iload_n 2, 1, 2, 0, 0, 0, 0, []),
  (17, .ishr, 1, 0, 0, 0, 0, 0, []),
  (18, .sipush (255), 3, 0, 0, 0, (255), 0, []),
  (21, .iand, 1, 0, 0, 0, 0, 0, []),
  (22, .iastore, 1, 0, 0, 0, 0, 0, []),
  (23, .aload_n 0, 1, 0, 0, 0, 0, 0, []),
  (24, .dup, 1, 0, 0, 0, 0, 0, []),
  (25, .getfield 212, 3, 12, 8, 0, 0, 0, []),
  (28, .iconst (1), 1, 0, 0, 0, (1), 0, []),
  (29, .iadd, 1, 0, 0, 0, 0, 0, []),
  (30, .putfield 212, 3, 12, 8, 0, 0, 0, []),
  (33, .iinc 2 (-8), 3, 2, 0, 0, (-8), 0, []),
  (36, .goto (-33), 3, 3, 0, 0, 0, 0, []),
  (39, .return_, 1, 0, 0, 0, 0, 0, [])]
set_option maxRecDepth 100000 in
theorem lX12_four_3_ck : lX12_four_3.all (ra_ck mX12_four 12) = true := by decide +kernel
def nX12_four_3 (N : Nat) : Nat → Nat → Int32 → Int32 → ra_H → Option ra_H
  | 0, _, _, _, _ => none
  | n + 1, a0, a1, a2, h =>
  if a2 < 0 then
    some h
  else
    (ra_fR h 12 a0 7).bind fun x1 =>
    (ra_fI h 12 a0 8).bind fun x2 =>
    (ra_aW h 0 x1 x2 ((a1 >>> (a2 &&& 31)) &&& ((255 : Int32)))).bind fun h3 =>
    (ra_fI h3 12 a0 8).bind fun x4 =>
    (ra_fW h3 12 a0 8 (.int (x4 + ((1 : Int32))))).bind fun h5 =>
    let y6 := a2 + (-8 : Int32)
    nX12_four_3 N n a0 a1 y6 h5
def kX12_four_3 (N : Nat) (cs : Nat → Int32 → Int32 → ra_H → Option ra_H) : Nat → List (Option Value) → List Value → ra_H → Option ra_H := (ra_k1 3 (fun L S h => match L, S with
  | [some (.ref a0), some (.int a1), some (.int a2)], [] => cs a0 a1 a2 h
  | _, _ => none) ra_k0)
theorem kX12_four_3_ok (N : Nat) (cs : Nat → Int32 → Int32 → ra_H → Option ra_H) (hcs : ∀ a0 a1 a2 h r, cs a0 a1 a2 h = some r → ra_Ru 1 mX12_four 3 [some (.ref a0), some (.int a1), some (.int a2)] [] h (ra_oV r)) : ra_kok 1 mX12_four ra_oV (kX12_four_3 N cs) := (ra_k1_ok (by
  intro L S h a e
  split at e
  · exact ra_Ru.weak (hcs _ _ _ _ _ e) ⟨rfl, ⟨rfl, ⟨rfl, trivial⟩⟩⟩
  · cases e) ra_k0_ok)
set_option maxRecDepth 100000 in
theorem nX12_four_3_ok (N : Nat) : ∀ n a0 a1 a2 h r, nX12_four_3 N n a0 a1 a2 h = some r → ra_Ru 1 mX12_four 3 [some (.ref a0), some (.int a1), some (.int a2)] [] h (ra_oV r) := by
  intro n
  induction n with
  | zero => intro a0 a1 a2 h r e; cases e
  | succ n ih =>
    intro a0 a1 a2 h r e
    exact ra_sound (by omega) rfl ra_rV_ok (kX12_four_3_ok N (nX12_four_3 N n) ih) (fun m av h h1 e => (ra_c0_ok (ro := ra_oV)) m av h h1 e) (fun m av h x h1 e => (ra_c0_ok (ro := ra_oI)) m av h (x, h1) e) (fun m av h x h1 e => (ra_c0_ok (ro := ra_oJ)) m av h (x, h1) e) (fun m av h x h1 e => (ra_c0_ok (ro := ra_oR)) m av h (x, h1) e) (fun m av h x h1 e => (ra_c0_ok (ro := ra_oN)) m av h (x, h1) e) (fun m av h x h1 e => (ra_c0_ok (ro := ra_oF)) m av h (x, h1) e) 22 lX12_four_3 _ _ _ _ lX12_four_3_ck (show ra_run ra_rV (kX12_four_3 N (nX12_four_3 N n)) ra_c0 ra_c0 ra_c0 ra_c0 ra_c0 ra_c0 22 lX12_four_3 [some (.ref a0), some (.int a1), some (.int a2)] [] h = some r from e) _ _ rfl
def lX12_four_0 : List ra_I := [(0, .bipush (24), 2, 0, 0, 0, (24), 0, []),
  (2, .istore_n 2, 1, 2, 0, 0, 0, 0, [])]
set_option maxRecDepth 100000 in
theorem lX12_four_0_ck : lX12_four_0.all (ra_ck mX12_four 12) = true := by decide +kernel
def nX12_four_0 (N : Nat) (a0 : Nat) (a1 : Int32) (h : ra_H) : Option ra_H :=
  nX12_four_3 N N a0 a1 ((24 : Int32)) h
def kX12_four_0 (N : Nat) : Nat → List (Option Value) → List Value → ra_H → Option ra_H := (ra_k1 3 (fun L S h => match L, S with
  | [some (.ref a0), some (.int a1), some (.int a2)], [] => nX12_four_3 N N a0 a1 a2 h
  | _, _ => none) ra_k0)
theorem kX12_four_0_ok (N : Nat) : ra_kok 1 mX12_four ra_oV (kX12_four_0 N) := (ra_k1_ok (by
  intro L S h a e
  split at e
  · exact ra_Ru.weak (nX12_four_3_ok N N _ _ _ _ _ e) ⟨rfl, ⟨rfl, ⟨rfl, trivial⟩⟩⟩
  · cases e) ra_k0_ok)
set_option maxRecDepth 100000 in
theorem nX12_four_0_ok (N : Nat) (a0 : Nat) (a1 : Int32) (h : ra_H) (r : ra_H) (e : nX12_four_0 N a0 a1 h = some r) : ra_Ru 1 mX12_four 0 [some (.ref a0), some (.int a1), none] [] h (ra_oV r) :=
  ra_sound (by omega) rfl ra_rV_ok (kX12_four_0_ok N) (fun m av h h1 e => (ra_c0_ok (ro := ra_oV)) m av h h1 e) (fun m av h x h1 e => (ra_c0_ok (ro := ra_oI)) m av h (x, h1) e) (fun m av h x h1 e => (ra_c0_ok (ro := ra_oJ)) m av h (x, h1) e) (fun m av h x h1 e => (ra_c0_ok (ro := ra_oR)) m av h (x, h1) e) (fun m av h x h1 e => (ra_c0_ok (ro := ra_oN)) m av h (x, h1) e) (fun m av h x h1 e => (ra_c0_ok (ro := ra_oF)) m av h (x, h1) e) 3 lX12_four_0 _ _ _ _ lX12_four_0_ck (show ra_run ra_rV (kX12_four_0 N) ra_c0 ra_c0 ra_c0 ra_c0 ra_c0 ra_c0 3 lX12_four_0 [some (.ref a0), some (.int a1), none] [] h = some r from e) _ _ rfl
def fX12_four (N : Nat) (p0 : Nat) (p1 : Int32) (h : ra_H) : Option ra_H := match ra_isOb h p0 12 with
  | true => nX12_four_0 N p0 p1 h
  | false => none
set_option maxRecDepth 100000 in
theorem mtX12_four : ra_MT[228]? = some (mX12_four, 1, 1, (1, 13), (7, 174), (0, 66)) := rfl
theorem fX12_four_co (N : Nat) (p0 : Nat) (p1 : Int32) (h : ra_H) (r : ra_H) (e : fX12_four N p0 p1 h = some r) (D : Nat) (hD : 2 ≤ D) : ra_CO D 228 [.ref p0, .int p1] h (ra_oV r).1 (ra_oV r).2 := by
  have hw : ra_nw2 [.ref p0, .int p1] ≤ 3 := Nat.le_of_ble_eq_true rfl
  have hdb : ∀ v ∈ ([.ref p0, .int p1] : List Value), ∀ x, v ≠ .double x := by
    intro v hv x hx
    simp [hx] at hv
  unfold fX12_four at e
  split at e
  · rename_i ho
    have e1 := e
    exact ⟨1, _, mtX12_four, hD, ra_ev_of (by decide) hdb hw trivial (ra_Ru.weak (nX12_four_0_ok N p0 p1 h _ e1) ⟨rfl, ⟨rfl, trivial⟩⟩), (fun _ => ⟨_, _, rfl, ra_rcv_of ho (by decide) rfl⟩), (fun h => absurd h (by decide))⟩
  · cases e
/-! RedMarksModel.feed(IIIII)I -/
def mX12_feed : ra_M := (yX12_feed, cX12_feed, 6, (some .int))
def tVX12_feed (N : Nat) : Nat → List Value → ra_H → Option ra_H := (ra_c1 228 (fun av h => match av with
  | [.ref z0, .int z1] => fX12_four N z0 z1 h
  | _ => none) ra_c0)
theorem tVX12_feed_ok (N : Nat) : ra_cok 2 ra_oV (tVX12_feed N) := (ra_c1_ok (by
  intro av h a e
  split at e
  · exact fX12_four_co N _ _ _ _ e 2 (by omega)
  · cases e) ra_c0_ok)
def lX12_feed_0 : List ra_I := [(0, .aload_n 0, 1, 0, 0, 0, 0, 0, []),
  (1, .iconst (0), 1, 0, 0, 0, (0), 0, []),
  (2, .putfield 147, 3, 12, 0, 0, 0, 0, []),
  (5, .aload_n 0, 1, 0, 0, 0, 0, 0, []),
  (6, .getfield 212, 3, 12, 8, 0, 0, 0, []),
  (9, .bipush (20), 2, 0, 0, 0, (20), 0, []),
  (11, .iadd, 1, 0, 0, 0, 0, 0, []),
  (12, .sipush (400), 3, 0, 0, 0, (400), 0, []),
  (15, .if_icmp .le (5), 3, 20, 0, 0, 0, 0, []),
  (18, .iconst (-1), 1, 0, 0, 0, (-1), 0, []),
  (19, .ireturn, 1, 0, 0, 0, 0, 0, []),
  (20, .aload_n 0, 1, 0, 0, 0, 0, 0, []),
  (21, .iload_n 1, 1, 1, 0, 0, 0, 0, []),
  (22, .invokevirtual 218, 3, 228, 2, 0, 0, 0, []),
  (25, .aload_n 0, 1, 0, 0, 0, 0, 0, []),
  (26, .iload_n 2, 1, 2, 0, 0, 0, 0, []),
  (27, .invokevirtual 218, 3, 228, 2, 0, 0, 0, []),
  (30, .aload_n 0, 1, 0, 0, 0, 0, 0, []),
  (31, .iload_n 3, 1, 3, 0, 0, 0, 0, []),
  (32, .invokevirtual 218, 3, 228, 2, 0, 0, 0, []),
  (35, .aload_n 0, 1, 0, 0, 0, 0, 0, []),
  (36, .iload 4, 2, 4, 0, 0, 0, 0, []),
  (38, .invokevirtual 218, 3, 228, 2, 0, 0, 0, []),
  (41, .aload_n 0, 1, 0, 0, 0, 0, 0, []),
  (42, .iload 5, 2, 5, 0, 0, 0, 0, []),
  (44, .invokevirtual 218, 3, 228, 2, 0, 0, 0, []),
  (47, .aload_n 0, 1, 0, 0, 0, 0, 0, []),
  (48, .getfield 212, 3, 12, 8, 0, 0, 0, []),
  (51, .ireturn, 1, 0, 0, 0, 0, 0, [])]
set_option maxRecDepth 100000 in
theorem lX12_feed_0_ck : lX12_feed_0.all (ra_ck mX12_feed 12) = true := by decide +kernel
def nX12_feed_0 (N : Nat) (a0 : Nat) (a1 : Int32) (a2 : Int32) (a3 : Int32) (a4 : Int32) (a5 : Int32) (h : ra_H) : Option (Int32 × ra_H) :=
  (ra_fW h 12 a0 0 (.int ((0 : Int32)))).bind fun h1 =>
  (ra_fI h1 12 a0 8).bind fun x2 =>
  if (x2 + ((20 : Int32))) ≤ ((400 : Int32)) then
    (fX12_four N a0 a1 h1).bind fun h3 =>
    (fX12_four N a0 a2 h3).bind fun h4 =>
    (fX12_four N a0 a3 h4).bind fun h5 =>
    (fX12_four N a0 a4 h5).bind fun h6 =>
    (fX12_four N a0 a5 h6).bind fun h7 =>
    (ra_fI h7 12 a0 8).bind fun x8 =>
    some (x8, h7)
  else
    some ((-1 : Int32), h1)
def kX12_feed_0 (N : Nat) : Nat → List (Option Value) → List Value → ra_H → Option (Int32 × ra_H) := ra_k0
theorem kX12_feed_0_ok (N : Nat) : ra_kok 2 mX12_feed ra_oI (kX12_feed_0 N) := ra_k0_ok
set_option maxRecDepth 100000 in
theorem nX12_feed_0_ok (N : Nat) (a0 : Nat) (a1 : Int32) (a2 : Int32) (a3 : Int32) (a4 : Int32) (a5 : Int32) (h : ra_H) (r : (Int32 × ra_H)) (e : nX12_feed_0 N a0 a1 a2 a3 a4 a5 h = some r) : ra_Ru 2 mX12_feed 0 [some (.ref a0), some (.int a1), some (.int a2), some (.int a3), some (.int a4), some (.int a5)] [] h (ra_oI r) :=
  ra_sound (by omega) rfl ra_rI_ok (kX12_feed_0_ok N) (fun m av h h1 e => (tVX12_feed_ok N) m av h h1 e) (fun m av h x h1 e => (ra_c0_ok (ro := ra_oI)) m av h (x, h1) e) (fun m av h x h1 e => (ra_c0_ok (ro := ra_oJ)) m av h (x, h1) e) (fun m av h x h1 e => (ra_c0_ok (ro := ra_oR)) m av h (x, h1) e) (fun m av h x h1 e => (ra_c0_ok (ro := ra_oN)) m av h (x, h1) e) (fun m av h x h1 e => (ra_c0_ok (ro := ra_oF)) m av h (x, h1) e) 30 lX12_feed_0 _ _ _ _ lX12_feed_0_ck (show ra_run ra_rI (kX12_feed_0 N) (tVX12_feed N) ra_c0 ra_c0 ra_c0 ra_c0 ra_c0 30 lX12_feed_0 [some (.ref a0), some (.int a1), some (.int a2), some (.int a3), some (.int a4), some (.int a5)] [] h = some r from e) _ _ rfl
def fX12_feed (N : Nat) (p0 : Nat) (p1 : Int32) (p2 : Int32) (p3 : Int32) (p4 : Int32) (p5 : Int32) (h : ra_H) : Option (Int32 × ra_H) := match ra_isOb h p0 12 with
  | true => nX12_feed_0 N p0 p1 p2 p3 p4 p5 h
  | false => none
set_option maxRecDepth 100000 in
theorem mtX12_feed : ra_MT[227]? = some (mX12_feed, 1, 5, (1, 13), (7, 169), (7, 170)) := rfl
theorem fX12_feed_co (N : Nat) (p0 : Nat) (p1 : Int32) (p2 : Int32) (p3 : Int32) (p4 : Int32) (p5 : Int32) (h : ra_H) (r : (Int32 × ra_H)) (e : fX12_feed N p0 p1 p2 p3 p4 p5 h = some r) (D : Nat) (hD : 3 ≤ D) : ra_CO D 227 [.ref p0, .int p1, .int p2, .int p3, .int p4, .int p5] h (ra_oI r).1 (ra_oI r).2 := by
  have hw : ra_nw2 [.ref p0, .int p1, .int p2, .int p3, .int p4, .int p5] ≤ 6 := Nat.le_of_ble_eq_true rfl
  have hdb : ∀ v ∈ ([.ref p0, .int p1, .int p2, .int p3, .int p4, .int p5] : List Value), ∀ x, v ≠ .double x := by
    intro v hv x hx
    simp [hx] at hv
  unfold fX12_feed at e
  split at e
  · rename_i ho
    have e1 := e
    exact ⟨2, _, mtX12_feed, hD, ra_ev_of (by decide) hdb hw trivial (ra_Ru.weak (nX12_feed_0_ok N p0 p1 p2 p3 p4 p5 h _ e1) ⟨rfl, ⟨rfl, ⟨rfl, ⟨rfl, ⟨rfl, ⟨rfl, trivial⟩⟩⟩⟩⟩⟩), (fun _ => ⟨_, _, rfl, ra_rcv_of ho (by decide) rfl⟩), (fun h => absurd h (by decide))⟩
  · cases e
/-! RedMarksModel.isFight(II)Z -/
def mX12_isFight : ra_M := (yX12_isFight, cX12_isFight, 7, (some .boolean))
def lX12_isFight_154 : List ra_I := [(154, .ireturn, 1, 0, 0, 0, 0, 0, [])]
set_option maxRecDepth 100000 in
theorem lX12_isFight_154_ck : lX12_isFight_154.all (ra_ck mX12_isFight 12) = true := by decide +kernel
def nX12_isFight_154 (N : Nat) (b0 : Int32) (h : ra_H) : Option (Int32 × ra_H) :=
  some (b0, h)
def kX12_isFight_154 (N : Nat) : Nat → List (Option Value) → List Value → ra_H → Option (Int32 × ra_H) := ra_k0
theorem kX12_isFight_154_ok (N : Nat) : ra_kok 1 mX12_isFight ra_oI (kX12_isFight_154 N) := ra_k0_ok
set_option maxRecDepth 100000 in
theorem nX12_isFight_154_ok (N : Nat) (b0 : Int32) (h : ra_H) (r : (Int32 × ra_H)) (e : nX12_isFight_154 N b0 h = some r) : ra_Ru 1 mX12_isFight 154 [none, none, none, none, none, none, none] [.int b0] h (ra_oI r) :=
  ra_sound (by omega) rfl ra_rI_ok (kX12_isFight_154_ok N) (fun m av h h1 e => (ra_c0_ok (ro := ra_oV)) m av h h1 e) (fun m av h x h1 e => (ra_c0_ok (ro := ra_oI)) m av h (x, h1) e) (fun m av h x h1 e => (ra_c0_ok (ro := ra_oJ)) m av h (x, h1) e) (fun m av h x h1 e => (ra_c0_ok (ro := ra_oR)) m av h (x, h1) e) (fun m av h x h1 e => (ra_c0_ok (ro := ra_oN)) m av h (x, h1) e) (fun m av h x h1 e => (ra_c0_ok (ro := ra_oF)) m av h (x, h1) e) 2 lX12_isFight_154 _ _ _ _ lX12_isFight_154_ck (show ra_run ra_rI (kX12_isFight_154 N) ra_c0 ra_c0 ra_c0 ra_c0 ra_c0 ra_c0 2 lX12_isFight_154 [none, none, none, none, none, none, none] [.int b0] h = some r from e) _ _ rfl
def lX12_isFight_153 : List ra_I := [(153, .iconst (0), 1, 0, 0, 0, (0), 0, [])]
set_option maxRecDepth 100000 in
theorem lX12_isFight_153_ck : lX12_isFight_153.all (ra_ck mX12_isFight 12) = true := by decide +kernel
def nX12_isFight_153 (N : Nat) (h : ra_H) : Option (Int32 × ra_H) :=
  nX12_isFight_154 N ((0 : Int32)) h
def kX12_isFight_153 (N : Nat) : Nat → List (Option Value) → List Value → ra_H → Option (Int32 × ra_H) := (ra_k1 154 (fun L S h => match L, S with
  | [_, _, _, _, _, _, _], [.int b0] => nX12_isFight_154 N b0 h
  | _, _ => none) ra_k0)
theorem kX12_isFight_153_ok (N : Nat) : ra_kok 1 mX12_isFight ra_oI (kX12_isFight_153 N) := (ra_k1_ok (by
  intro L S h a e
  split at e
  · exact ra_Ru.weak (nX12_isFight_154_ok N _ _ _ e) trivial
  · cases e) ra_k0_ok)
set_option maxRecDepth 100000 in
theorem nX12_isFight_153_ok (N : Nat) (h : ra_H) (r : (Int32 × ra_H)) (e : nX12_isFight_153 N h = some r) : ra_Ru 1 mX12_isFight 153 [none, none, none, none, none, none, none] [] h (ra_oI r) :=
  ra_sound (by omega) rfl ra_rI_ok (kX12_isFight_153_ok N) (fun m av h h1 e => (ra_c0_ok (ro := ra_oV)) m av h h1 e) (fun m av h x h1 e => (ra_c0_ok (ro := ra_oI)) m av h (x, h1) e) (fun m av h x h1 e => (ra_c0_ok (ro := ra_oJ)) m av h (x, h1) e) (fun m av h x h1 e => (ra_c0_ok (ro := ra_oR)) m av h (x, h1) e) (fun m av h x h1 e => (ra_c0_ok (ro := ra_oN)) m av h (x, h1) e) (fun m av h x h1 e => (ra_c0_ok (ro := ra_oF)) m av h (x, h1) e) 2 lX12_isFight_153 _ _ _ _ lX12_isFight_153_ck (show ra_run ra_rI (kX12_isFight_153 N) ra_c0 ra_c0 ra_c0 ra_c0 ra_c0 ra_c0 2 lX12_isFight_153 [none, none, none, none, none, none, none] [] h = some r from e) _ _ rfl
def lX12_isFight_146 : List ra_I := [(146, .if_icmp .eq (7), 3, 153, 0, 0, 0, 0, []),
  (149, .iconst (1), 1, 0, 0, 0, (1), 0, []),
  (150, .goto (4), 3, 154, 0, 0, 0, 0, [])]
set_option maxRecDepth 100000 in
theorem lX12_isFight_146_ck : lX12_isFight_146.all (ra_ck mX12_isFight 12) = true := by decide +kernel
def nX12_isFight_146 (N : Nat) (b0 : Int32) (b1 : Int32) (h : ra_H) : Option (Int32 × ra_H) :=
  if b0 = b1 then
    nX12_isFight_153 N h
  else
    nX12_isFight_154 N ((1 : Int32)) h
def kX12_isFight_146 (N : Nat) : Nat → List (Option Value) → List Value → ra_H → Option (Int32 × ra_H) := (ra_k1 153 (fun L S h => match L, S with
  | [_, _, _, _, _, _, _], [] => nX12_isFight_153 N h
  | _, _ => none) (ra_k1 154 (fun L S h => match L, S with
  | [_, _, _, _, _, _, _], [.int b0] => nX12_isFight_154 N b0 h
  | _, _ => none) ra_k0))
theorem kX12_isFight_146_ok (N : Nat) : ra_kok 1 mX12_isFight ra_oI (kX12_isFight_146 N) := (ra_k1_ok (by
  intro L S h a e
  split at e
  · exact ra_Ru.weak (nX12_isFight_153_ok N _ _ e) trivial
  · cases e) (ra_k1_ok (by
  intro L S h a e
  split at e
  · exact ra_Ru.weak (nX12_isFight_154_ok N _ _ _ e) trivial
  · cases e) ra_k0_ok))
set_option maxRecDepth 100000 in
theorem nX12_isFight_146_ok (N : Nat) (b0 : Int32) (b1 : Int32) (h : ra_H) (r : (Int32 × ra_H)) (e : nX12_isFight_146 N b0 b1 h = some r) : ra_Ru 1 mX12_isFight 146 [none, none, none, none, none, none, none] [.int b1, .int b0] h (ra_oI r) :=
  ra_sound (by omega) rfl ra_rI_ok (kX12_isFight_146_ok N) (fun m av h h1 e => (ra_c0_ok (ro := ra_oV)) m av h h1 e) (fun m av h x h1 e => (ra_c0_ok (ro := ra_oI)) m av h (x, h1) e) (fun m av h x h1 e => (ra_c0_ok (ro := ra_oJ)) m av h (x, h1) e) (fun m av h x h1 e => (ra_c0_ok (ro := ra_oR)) m av h (x, h1) e) (fun m av h x h1 e => (ra_c0_ok (ro := ra_oN)) m av h (x, h1) e) (fun m av h x h1 e => (ra_c0_ok (ro := ra_oF)) m av h (x, h1) e) 4 lX12_isFight_146 _ _ _ _ lX12_isFight_146_ck (show ra_run ra_rI (kX12_isFight_146 N) ra_c0 ra_c0 ra_c0 ra_c0 ra_c0 ra_c0 4 lX12_isFight_146 [none, none, none, none, none, none, none] [.int b1, .int b0] h = some r from e) _ _ rfl
def lX12_isFight_96 : List ra_I := [(96, .istore 6, 2, 6, 0, 0, 0, 0, []),
  (98, .aload_n 0, 1, 0, 0, 0, 0, 0, []),
  (99, .getfield 13, 3, 12, 3, 2, 0, 0, []),
  (102, .iload_n 3, 1, 3, 0, 0, 0, 0, []),
  (103, .iconst (5), 1, 0, 0, 0, (5), 0, []),
  (104, .iadd, 1, 0, 0, 0, 0, 0, []),
  (105, .iaload, 1, 0, 0, 0, 0, 0, []),
  (106, .aload_n 0, 1, 0, 0, 0, 0, 0, []),
  (107, .getfield 13, 3, 12, 3, 2, 0, 0, []),
  (110, .iload 4, 2, 4, 0, 0, 0, 0, []),
  (112, .iconst (5), 1, 0, 0, 0, (5), 0, []),
  (113, .iadd, 1, 0, 0, 0, 0, 0, []),
  (114, .iaload, 1, 0, 0, 0, 0, 0, []),
  (115, .if_icmp .eq (38), 3, 153, 0, 0, 0, 0, []),
  (118, .iload 5, 2, 5, 0, 0, 0, 0, []),
  (120, .ifCond .eq (33), 3, 153, 0, 0, 0, 0, []),
  (123, .iload 6, 2, 6, 0, 0, 0, 0, []),
  (125, .aload_n 0, 1, 0, 0, 0, 0, 0, []),
  (126, .getfield 13, 3, 12, 3, 2, 0, 0, []),
  (129, .iload_n 3, 1, 3, 0, 0, 0, 0, []),
  (130, .iaload, 1, 0, 0, 0, 0, 0, []),
  (131, .aload_n 0, 1, 0, 0, 0, 0, 0, []),
  (132, .getfield 13, 3, 12, 3, 2, 0, 0, []),
  (135, .iload 4, 2, 4, 0, 0, 0, 0, []),
  (137, .iaload, 1, 0, 0, 0, 0, 0, []),
  (138, .if_icmp .ne (7), 3, 145, 0, 0, 0, 0, []),
  (141, .iconst (1), 1, 0, 0, 0, (1), 0, []),
  (142, .goto (4), 3, 146, 0, 0, 0, 0, []),
  (145, .iconst (0), 1, 0, 0, 0, (0), 0, [])]
set_option maxRecDepth 100000 in
theorem lX12_isFight_96_ck : lX12_isFight_96.all (ra_ck mX12_isFight 12) = true := by decide +kernel
def nX12_isFight_96 (N : Nat) (a0 : Nat) (a3 : Int32) (a4 : Int32) (a5 : Int32) (b0 : Int32) (h : ra_H) : Option (Int32 × ra_H) :=
  (ra_fR h 12 a0 3).bind fun x1 =>
  (ra_aI h 0 x1 (a3 + ((5 : Int32)))).bind fun x2 =>
  (ra_fR h 12 a0 3).bind fun x3 =>
  (ra_aI h 0 x3 (a4 + ((5 : Int32)))).bind fun x4 =>
  if x2 = x4 then
    nX12_isFight_153 N h
  else
    if a5 = 0 then
      nX12_isFight_153 N h
    else
      (ra_fR h 12 a0 3).bind fun x5 =>
      (ra_aI h 0 x5 a3).bind fun x6 =>
      (ra_fR h 12 a0 3).bind fun x7 =>
      (ra_aI h 0 x7 a4).bind fun x8 =>
      if x6 = x8 then
        nX12_isFight_146 N b0 ((1 : Int32)) h
      else
        nX12_isFight_146 N b0 ((0 : Int32)) h
def kX12_isFight_96 (N : Nat) : Nat → List (Option Value) → List Value → ra_H → Option (Int32 × ra_H) := (ra_k1 146 (fun L S h => match L, S with
  | [_, _, _, _, _, _, _], [.int b1, .int b0] => nX12_isFight_146 N b0 b1 h
  | _, _ => none) (ra_k1 153 (fun L S h => match L, S with
  | [_, _, _, _, _, _, _], [] => nX12_isFight_153 N h
  | _, _ => none) ra_k0))
theorem kX12_isFight_96_ok (N : Nat) : ra_kok 1 mX12_isFight ra_oI (kX12_isFight_96 N) := (ra_k1_ok (by
  intro L S h a e
  split at e
  · exact ra_Ru.weak (nX12_isFight_146_ok N _ _ _ _ e) trivial
  · cases e) (ra_k1_ok (by
  intro L S h a e
  split at e
  · exact ra_Ru.weak (nX12_isFight_153_ok N _ _ e) trivial
  · cases e) ra_k0_ok))
set_option maxRecDepth 100000 in
theorem nX12_isFight_96_ok (N : Nat) (a0 : Nat) (a3 : Int32) (a4 : Int32) (a5 : Int32) (b0 : Int32) (h : ra_H) (r : (Int32 × ra_H)) (e : nX12_isFight_96 N a0 a3 a4 a5 b0 h = some r) : ra_Ru 1 mX12_isFight 96 [some (.ref a0), none, none, some (.int a3), some (.int a4), some (.int a5), none] [.int b0] h (ra_oI r) :=
  ra_sound (by omega) rfl ra_rI_ok (kX12_isFight_96_ok N) (fun m av h h1 e => (ra_c0_ok (ro := ra_oV)) m av h h1 e) (fun m av h x h1 e => (ra_c0_ok (ro := ra_oI)) m av h (x, h1) e) (fun m av h x h1 e => (ra_c0_ok (ro := ra_oJ)) m av h (x, h1) e) (fun m av h x h1 e => (ra_c0_ok (ro := ra_oR)) m av h (x, h1) e) (fun m av h x h1 e => (ra_c0_ok (ro := ra_oN)) m av h (x, h1) e) (fun m av h x h1 e => (ra_c0_ok (ro := ra_oF)) m av h (x, h1) e) 30 lX12_isFight_96 _ _ _ _ lX12_isFight_96_ck (show ra_run ra_rI (kX12_isFight_96 N) ra_c0 ra_c0 ra_c0 ra_c0 ra_c0 ra_c0 30 lX12_isFight_96 [some (.ref a0), none, none, some (.int a3), some (.int a4), some (.int a5), none] [.int b0] h = some r from e) _ _ rfl
def lX12_isFight_95 : List ra_I := [(95, .iconst (0), 1, 0, 0, 0, (0), 0, [])]
set_option maxRecDepth 100000 in
theorem lX12_isFight_95_ck : lX12_isFight_95.all (ra_ck mX12_isFight 12) = true := by decide +kernel
def nX12_isFight_95 (N : Nat) (a0 : Nat) (a3 : Int32) (a4 : Int32) (a5 : Int32) (h : ra_H) : Option (Int32 × ra_H) :=
  nX12_isFight_96 N a0 a3 a4 a5 ((0 : Int32)) h
def kX12_isFight_95 (N : Nat) : Nat → List (Option Value) → List Value → ra_H → Option (Int32 × ra_H) := (ra_k1 96 (fun L S h => match L, S with
  | [some (.ref a0), _, _, some (.int a3), some (.int a4), some (.int a5), _], [.int b0] => nX12_isFight_96 N a0 a3 a4 a5 b0 h
  | _, _ => none) ra_k0)
theorem kX12_isFight_95_ok (N : Nat) : ra_kok 1 mX12_isFight ra_oI (kX12_isFight_95 N) := (ra_k1_ok (by
  intro L S h a e
  split at e
  · exact ra_Ru.weak (nX12_isFight_96_ok N _ _ _ _ _ _ _ e) ⟨rfl, ⟨rfl, ⟨rfl, ⟨rfl, trivial⟩⟩⟩⟩
  · cases e) ra_k0_ok)
set_option maxRecDepth 100000 in
theorem nX12_isFight_95_ok (N : Nat) (a0 : Nat) (a3 : Int32) (a4 : Int32) (a5 : Int32) (h : ra_H) (r : (Int32 × ra_H)) (e : nX12_isFight_95 N a0 a3 a4 a5 h = some r) : ra_Ru 1 mX12_isFight 95 [some (.ref a0), none, none, some (.int a3), some (.int a4), some (.int a5), none] [] h (ra_oI r) :=
  ra_sound (by omega) rfl ra_rI_ok (kX12_isFight_95_ok N) (fun m av h h1 e => (ra_c0_ok (ro := ra_oV)) m av h h1 e) (fun m av h x h1 e => (ra_c0_ok (ro := ra_oI)) m av h (x, h1) e) (fun m av h x h1 e => (ra_c0_ok (ro := ra_oJ)) m av h (x, h1) e) (fun m av h x h1 e => (ra_c0_ok (ro := ra_oR)) m av h (x, h1) e) (fun m av h x h1 e => (ra_c0_ok (ro := ra_oN)) m av h (x, h1) e) (fun m av h x h1 e => (ra_c0_ok (ro := ra_oF)) m av h (x, h1) e) 2 lX12_isFight_95 _ _ _ _ lX12_isFight_95_ck (show ra_run ra_rI (kX12_isFight_95 N) ra_c0 ra_c0 ra_c0 ra_c0 ra_c0 ra_c0 2 lX12_isFight_95 [some (.ref a0), none, none, some (.int a3), some (.int a4), some (.int a5), none] [] h = some r from e) _ _ rfl
def lX12_isFight_49 : List ra_I := [(49, .istore 5, 2, 5, 0, 0, 0, 0, []),
  (51, .aload_n 0, 1, 0, 0, 0, 0, 0, []),
  (52, .getfield 13, 3, 12, 3, 2, 0, 0, []),
  (55, .iload_n 3, 1, 3, 0, 0, 0, 0, []),
  (56, .iconst (3), 1, 0, 0, 0, (3), 0, []),
  (57, .iadd, 1, 0, 0, 0, 0, 0, []),
  (58, .iaload, 1, 0, 0, 0, 0, 0, []),
  (59, .aload_n 0, 1, 0, 0, 0, 0, 0, []),
  (60, .getfield 13, 3, 12, 3, 2, 0, 0, []),
  (63, .iload 4, 2, 4, 0, 0, 0, 0, []),
  (65, .iconst (3), 1, 0, 0, 0, (3), 0, []),
  (66, .iadd, 1, 0, 0, 0, 0, 0, []),
  (67, .iaload, 1, 0, 0, 0, 0, 0, []),
  (68, .if_icmp .ne (27), 3, 95, 0, 0, 0, 0, []),
  (71, .aload_n 0, 1, 0, 0, 0, 0, 0, []),
  (72, .getfield 13, 3, 12, 3, 2, 0, 0, []),
  (75, .iload_n 3, 1, 3, 0, 0, 0, 0, []),
  (76, .iconst (4), 1, 0, 0, 0, (4), 0, []),
  (77, .iadd, 1, 0, 0, 0, 0, 0, []),
  (78, .iaload, 1, 0, 0, 0, 0, 0, []),
  (79, .aload_n 0, 1, 0, 0, 0, 0, 0, []),
  (80, .getfield 13, 3, 12, 3, 2, 0, 0, []),
  (83, .iload 4, 2, 4, 0, 0, 0, 0, []),
  (85, .iconst (4), 1, 0, 0, 0, (4), 0, []),
  (86, .iadd, 1, 0, 0, 0, 0, 0, []),
  (87, .iaload, 1, 0, 0, 0, 0, 0, []),
  (88, .if_icmp .ne (7), 3, 95, 0, 0, 0, 0, []),
  (91, .iconst (1), 1, 0, 0, 0, (1), 0, []),
  (92, .goto (4), 3, 96, 0, 0, 0, 0, [])]
set_option maxRecDepth 100000 in
theorem lX12_isFight_49_ck : lX12_isFight_49.all (ra_ck mX12_isFight 12) = true := by decide +kernel
def nX12_isFight_49 (N : Nat) (a0 : Nat) (a3 : Int32) (a4 : Int32) (b0 : Int32) (h : ra_H) : Option (Int32 × ra_H) :=
  (ra_fR h 12 a0 3).bind fun x1 =>
  (ra_aI h 0 x1 (a3 + ((3 : Int32)))).bind fun x2 =>
  (ra_fR h 12 a0 3).bind fun x3 =>
  (ra_aI h 0 x3 (a4 + ((3 : Int32)))).bind fun x4 =>
  if x2 = x4 then
    (ra_fR h 12 a0 3).bind fun x5 =>
    (ra_aI h 0 x5 (a3 + ((4 : Int32)))).bind fun x6 =>
    (ra_fR h 12 a0 3).bind fun x7 =>
    (ra_aI h 0 x7 (a4 + ((4 : Int32)))).bind fun x8 =>
    if x6 = x8 then
      nX12_isFight_96 N a0 a3 a4 b0 ((1 : Int32)) h
    else
      nX12_isFight_95 N a0 a3 a4 b0 h
  else
    nX12_isFight_95 N a0 a3 a4 b0 h
def kX12_isFight_49 (N : Nat) : Nat → List (Option Value) → List Value → ra_H → Option (Int32 × ra_H) := (ra_k1 95 (fun L S h => match L, S with
  | [some (.ref a0), _, _, some (.int a3), some (.int a4), some (.int a5), _], [] => nX12_isFight_95 N a0 a3 a4 a5 h
  | _, _ => none) (ra_k1 96 (fun L S h => match L, S with
  | [some (.ref a0), _, _, some (.int a3), some (.int a4), some (.int a5), _], [.int b0] => nX12_isFight_96 N a0 a3 a4 a5 b0 h
  | _, _ => none) ra_k0))
theorem kX12_isFight_49_ok (N : Nat) : ra_kok 1 mX12_isFight ra_oI (kX12_isFight_49 N) := (ra_k1_ok (by
  intro L S h a e
  split at e
  · exact ra_Ru.weak (nX12_isFight_95_ok N _ _ _ _ _ _ e) ⟨rfl, ⟨rfl, ⟨rfl, ⟨rfl, trivial⟩⟩⟩⟩
  · cases e) (ra_k1_ok (by
  intro L S h a e
  split at e
  · exact ra_Ru.weak (nX12_isFight_96_ok N _ _ _ _ _ _ _ e) ⟨rfl, ⟨rfl, ⟨rfl, ⟨rfl, trivial⟩⟩⟩⟩
  · cases e) ra_k0_ok))
set_option maxRecDepth 100000 in
theorem nX12_isFight_49_ok (N : Nat) (a0 : Nat) (a3 : Int32) (a4 : Int32) (b0 : Int32) (h : ra_H) (r : (Int32 × ra_H)) (e : nX12_isFight_49 N a0 a3 a4 b0 h = some r) : ra_Ru 1 mX12_isFight 49 [some (.ref a0), none, none, some (.int a3), some (.int a4), none, none] [.int b0] h (ra_oI r) :=
  ra_sound (by omega) rfl ra_rI_ok (kX12_isFight_49_ok N) (fun m av h h1 e => (ra_c0_ok (ro := ra_oV)) m av h h1 e) (fun m av h x h1 e => (ra_c0_ok (ro := ra_oI)) m av h (x, h1) e) (fun m av h x h1 e => (ra_c0_ok (ro := ra_oJ)) m av h (x, h1) e) (fun m av h x h1 e => (ra_c0_ok (ro := ra_oR)) m av h (x, h1) e) (fun m av h x h1 e => (ra_c0_ok (ro := ra_oN)) m av h (x, h1) e) (fun m av h x h1 e => (ra_c0_ok (ro := ra_oF)) m av h (x, h1) e) 30 lX12_isFight_49 _ _ _ _ lX12_isFight_49_ck (show ra_run ra_rI (kX12_isFight_49 N) ra_c0 ra_c0 ra_c0 ra_c0 ra_c0 ra_c0 30 lX12_isFight_49 [some (.ref a0), none, none, some (.int a3), some (.int a4), none, none] [.int b0] h = some r from e) _ _ rfl
def lX12_isFight_48 : List ra_I := [(48, .iconst (0), 1, 0, 0, 0, (0), 0, [])]
set_option maxRecDepth 100000 in
theorem lX12_isFight_48_ck : lX12_isFight_48.all (ra_ck mX12_isFight 12) = true := by decide +kernel
def nX12_isFight_48 (N : Nat) (a0 : Nat) (a3 : Int32) (a4 : Int32) (h : ra_H) : Option (Int32 × ra_H) :=
  nX12_isFight_49 N a0 a3 a4 ((0 : Int32)) h
def kX12_isFight_48 (N : Nat) : Nat → List (Option Value) → List Value → ra_H → Option (Int32 × ra_H) := (ra_k1 49 (fun L S h => match L, S with
  | [some (.ref a0), _, _, some (.int a3), some (.int a4), _, _], [.int b0] => nX12_isFight_49 N a0 a3 a4 b0 h
  | _, _ => none) ra_k0)
theorem kX12_isFight_48_ok (N : Nat) : ra_kok 1 mX12_isFight ra_oI (kX12_isFight_48 N) := (ra_k1_ok (by
  intro L S h a e
  split at e
  · exact ra_Ru.weak (nX12_isFight_49_ok N _ _ _ _ _ _ e) ⟨rfl, ⟨rfl, ⟨rfl, trivial⟩⟩⟩
  · cases e) ra_k0_ok)
set_option maxRecDepth 100000 in
theorem nX12_isFight_48_ok (N : Nat) (a0 : Nat) (a3 : Int32) (a4 : Int32) (h : ra_H) (r : (Int32 × ra_H)) (e : nX12_isFight_48 N a0 a3 a4 h = some r) : ra_Ru 1 mX12_isFight 48 [some (.ref a0), none, none, some (.int a3), some (.int a4), none, none] [] h (ra_oI r) :=
  ra_sound (by omega) rfl ra_rI_ok (kX12_isFight_48_ok N) (fun m av h h1 e => (ra_c0_ok (ro := ra_oV)) m av h h1 e) (fun m av h x h1 e => (ra_c0_ok (ro := ra_oI)) m av h (x, h1) e) (fun m av h x h1 e => (ra_c0_ok (ro := ra_oJ)) m av h (x, h1) e) (fun m av h x h1 e => (ra_c0_ok (ro := ra_oR)) m av h (x, h1) e) (fun m av h x h1 e => (ra_c0_ok (ro := ra_oN)) m av h (x, h1) e) (fun m av h x h1 e => (ra_c0_ok (ro := ra_oF)) m av h (x, h1) e) 2 lX12_isFight_48 _ _ _ _ lX12_isFight_48_ck (show ra_run ra_rI (kX12_isFight_48 N) ra_c0 ra_c0 ra_c0 ra_c0 ra_c0 ra_c0 2 lX12_isFight_48 [some (.ref a0), none, none, some (.int a3), some (.int a4), none, none] [] h = some r from e) _ _ rfl
def lX12_isFight_0 : List ra_I := [(0, .sipush (650), 3, 0, 0, 0, (650), 0, []),
  (3, .bipush (6), 2, 0, 0, 0, (6), 0, []),
  (5, .iload_n 1, 1, 1, 0, 0, 0, 0, []),
  (6, .imul, 1, 0, 0, 0, 0, 0, []),
  (7, .iadd, 1, 0, 0, 0, 0, 0, []),
  (8, .istore_n 3, 1, 3, 0, 0, 0, 0, []),
  (9, .sipush (650), 3, 0, 0, 0, (650), 0, []),
  (12, .bipush (6), 2, 0, 0, 0, (6), 0, []),
  (14, .iload_n 2, 1, 2, 0, 0, 0, 0, []),
  (15, .imul, 1, 0, 0, 0, 0, 0, []),
  (16, .iadd, 1, 0, 0, 0, 0, 0, []),
  (17, .istore 4, 2, 4, 0, 0, 0, 0, []),
  (19, .aload_n 0, 1, 0, 0, 0, 0, 0, []),
  (20, .getfield 13, 3, 12, 3, 2, 0, 0, []),
  (23, .iload_n 3, 1, 3, 0, 0, 0, 0, []),
  (24, .iconst (3), 1, 0, 0, 0, (3), 0, []),
  (25, .iadd, 1, 0, 0, 0, 0, 0, []),
  (26, .iaload, 1, 0, 0, 0, 0, 0, []),
  (27, .iconst (-1), 1, 0, 0, 0, (-1), 0, []),
  (28, .if_icmp .eq (20), 3, 48, 0, 0, 0, 0, []),
  (31, .aload_n 0, 1, 0, 0, 0, 0, 0, []),
  (32, .getfield 13, 3, 12, 3, 2, 0, 0, []),
  (35, .iload 4, 2, 4, 0, 0, 0, 0, []),
  (37, .iconst (3), 1, 0, 0, 0, (3), 0, []),
  (38, .iadd, 1, 0, 0, 0, 0, 0, []),
  (39, .iaload, 1, 0, 0, 0, 0, 0, []),
  (40, .iconst (-1), 1, 0, 0, 0, (-1), 0, []),
  (41, .if_icmp .eq (7), 3, 48, 0, 0, 0, 0, []),
  (44, .iconst (1), 1, 0, 0, 0, (1), 0, []),
  (45, .goto (4), 3, 49, 0, 0, 0, 0, [])]
set_option maxRecDepth 100000 in
theorem lX12_isFight_0_ck : lX12_isFight_0.all (ra_ck mX12_isFight 12) = true := by decide +kernel
def nX12_isFight_0 (N : Nat) (a0 : Nat) (a1 : Int32) (a2 : Int32) (h : ra_H) : Option (Int32 × ra_H) :=
  let y1 := ((650 : Int32)) + (((6 : Int32)) * a1)
  let y2 := ((650 : Int32)) + (((6 : Int32)) * a2)
  (ra_fR h 12 a0 3).bind fun x3 =>
  (ra_aI h 0 x3 (y1 + ((3 : Int32)))).bind fun x4 =>
  if x4 = ((-1 : Int32)) then
    nX12_isFight_48 N a0 y1 y2 h
  else
    (ra_fR h 12 a0 3).bind fun x5 =>
    (ra_aI h 0 x5 (y2 + ((3 : Int32)))).bind fun x6 =>
    if x6 = ((-1 : Int32)) then
      nX12_isFight_48 N a0 y1 y2 h
    else
      nX12_isFight_49 N a0 y1 y2 ((1 : Int32)) h
def kX12_isFight_0 (N : Nat) : Nat → List (Option Value) → List Value → ra_H → Option (Int32 × ra_H) := (ra_k1 48 (fun L S h => match L, S with
  | [some (.ref a0), _, _, some (.int a3), some (.int a4), _, _], [] => nX12_isFight_48 N a0 a3 a4 h
  | _, _ => none) (ra_k1 49 (fun L S h => match L, S with
  | [some (.ref a0), _, _, some (.int a3), some (.int a4), _, _], [.int b0] => nX12_isFight_49 N a0 a3 a4 b0 h
  | _, _ => none) ra_k0))
theorem kX12_isFight_0_ok (N : Nat) : ra_kok 1 mX12_isFight ra_oI (kX12_isFight_0 N) := (ra_k1_ok (by
  intro L S h a e
  split at e
  · exact ra_Ru.weak (nX12_isFight_48_ok N _ _ _ _ _ e) ⟨rfl, ⟨rfl, ⟨rfl, trivial⟩⟩⟩
  · cases e) (ra_k1_ok (by
  intro L S h a e
  split at e
  · exact ra_Ru.weak (nX12_isFight_49_ok N _ _ _ _ _ _ e) ⟨rfl, ⟨rfl, ⟨rfl, trivial⟩⟩⟩
  · cases e) ra_k0_ok))
set_option maxRecDepth 100000 in
theorem nX12_isFight_0_ok (N : Nat) (a0 : Nat) (a1 : Int32) (a2 : Int32) (h : ra_H) (r : (Int32 × ra_H)) (e : nX12_isFight_0 N a0 a1 a2 h = some r) : ra_Ru 1 mX12_isFight 0 [some (.ref a0), some (.int a1), some (.int a2), none, none, none, none] [] h (ra_oI r) :=
  ra_sound (by omega) rfl ra_rI_ok (kX12_isFight_0_ok N) (fun m av h h1 e => (ra_c0_ok (ro := ra_oV)) m av h h1 e) (fun m av h x h1 e => (ra_c0_ok (ro := ra_oI)) m av h (x, h1) e) (fun m av h x h1 e => (ra_c0_ok (ro := ra_oJ)) m av h (x, h1) e) (fun m av h x h1 e => (ra_c0_ok (ro := ra_oR)) m av h (x, h1) e) (fun m av h x h1 e => (ra_c0_ok (ro := ra_oN)) m av h (x, h1) e) (fun m av h x h1 e => (ra_c0_ok (ro := ra_oF)) m av h (x, h1) e) 31 lX12_isFight_0 _ _ _ _ lX12_isFight_0_ck (show ra_run ra_rI (kX12_isFight_0 N) ra_c0 ra_c0 ra_c0 ra_c0 ra_c0 ra_c0 31 lX12_isFight_0 [some (.ref a0), some (.int a1), some (.int a2), none, none, none, none] [] h = some r from e) _ _ rfl
def fX12_isFight (N : Nat) (p0 : Nat) (p1 : Int32) (p2 : Int32) (h : ra_H) : Option (Int32 × ra_H) := match ra_isOb h p0 12 with
  | true => (nX12_isFight_0 N p0 p1 p2 h).bind (fun q => ra_rz q.1 q.2)
  | false => none
set_option maxRecDepth 100000 in
theorem mtX12_isFight : ra_MT[282]? = some (mX12_isFight, 1, 2, (1, 13), (8, 167), (0, 101)) := rfl
theorem fX12_isFight_co (N : Nat) (p0 : Nat) (p1 : Int32) (p2 : Int32) (h : ra_H) (r : (Int32 × ra_H)) (e : fX12_isFight N p0 p1 p2 h = some r) (D : Nat) (hD : 2 ≤ D) : ra_CO D 282 [.ref p0, .int p1, .int p2] h (ra_oI r).1 (ra_oI r).2 := by
  have hw : ra_nw2 [.ref p0, .int p1, .int p2] ≤ 7 := Nat.le_of_ble_eq_true rfl
  have hdb : ∀ v ∈ ([.ref p0, .int p1, .int p2] : List Value), ∀ x, v ≠ .double x := by
    intro v hv x hx
    simp [hx] at hv
  unfold fX12_isFight at e
  split at e
  · rename_i ho
    obtain ⟨q, e1, e2⟩ := Option.bind_eq_some_iff.mp e
    obtain ⟨rfl, hz⟩ := ra_rz_of e2
    exact ⟨1, _, mtX12_isFight, hD, ra_ev_of (by decide) hdb hw hz (ra_Ru.weak (nX12_isFight_0_ok N p0 p1 p2 h _ e1) ⟨rfl, ⟨rfl, ⟨rfl, trivial⟩⟩⟩), (fun _ => ⟨_, _, rfl, ra_rcv_of ho (by decide) rfl⟩), (fun h => absurd h (by decide))⟩
  · cases e
/-! RedMarksModel.fights(II)I -/
def mX12_fights : ra_M := (yX12_fights, cX12_fights, 7, (some .int))
def tIX12_fights (N : Nat) : Nat → List Value → ra_H → Option (Int32 × ra_H) := (ra_c1 209 (fun av h => match av with
  | [.long z0, .long z1, .long z2] => fX12_in N z0 z1 z2 h
  | _ => none) (ra_c1 282 (fun av h => match av with
  | [.ref z0, .int z1, .int z2] => fX12_isFight N z0 z1 z2 h
  | _ => none) ra_c0))
theorem tIX12_fights_ok (N : Nat) : ra_cok 2 ra_oI (tIX12_fights N) := (ra_c1_ok (by
  intro av h a e
  split at e
  · exact fX12_in_co N _ _ _ _ _ e 2 (by omega)
  · cases e) (ra_c1_ok (by
  intro av h a e
  split at e
  · exact fX12_isFight_co N _ _ _ _ _ e 2 (by omega)
  · cases e) ra_c0_ok))
def lX12_fights_97 : List ra_I := [(97, .iinc 6 (1), 3, 6, 0, 0, (1), 0, []),
  (100, .goto (-54), 3, 46, 0, 0, 0, 0, [])]
set_option maxRecDepth 100000 in
theorem lX12_fights_97_ck : lX12_fights_97.all (ra_ck mX12_fights 12) = true := by decide +kernel
def nX12_fights_97 (N : Nat) (c27 : Nat → Int32 → Int32 → Int32 → Int32 → Int32 → ra_H → Option (Int32 × ra_H)) (c46 : Nat → Int32 → Int32 → Int32 → Int32 → Int32 → Int32 → ra_H → Option (Int32 × ra_H)) (a0 : Nat) (a1 : Int32) (a2 : Int32) (a3 : Int32) (a4 : Int32) (a5 : Int32) (a6 : Int32) (h : ra_H) : Option (Int32 × ra_H) :=
  let y1 := a6 + (1 : Int32)
  c46 a0 a1 a2 a3 a4 a5 y1 h
def kX12_fights_97 (N : Nat) (c27 : Nat → Int32 → Int32 → Int32 → Int32 → Int32 → ra_H → Option (Int32 × ra_H)) (c46 : Nat → Int32 → Int32 → Int32 → Int32 → Int32 → Int32 → ra_H → Option (Int32 × ra_H)) : Nat → List (Option Value) → List Value → ra_H → Option (Int32 × ra_H) := (ra_k1 46 (fun L S h => match L, S with
  | [some (.ref a0), some (.int a1), some (.int a2), some (.int a3), some (.int a4), some (.int a5), some (.int a6)], [] => c46 a0 a1 a2 a3 a4 a5 a6 h
  | _, _ => none) ra_k0)
theorem kX12_fights_97_ok (N : Nat) (c27 : Nat → Int32 → Int32 → Int32 → Int32 → Int32 → ra_H → Option (Int32 × ra_H)) (c46 : Nat → Int32 → Int32 → Int32 → Int32 → Int32 → Int32 → ra_H → Option (Int32 × ra_H)) (hc27 : ∀ a0 a1 a2 a3 a4 a5 h r, c27 a0 a1 a2 a3 a4 a5 h = some r → ra_Ru 2 mX12_fights 27 [some (.ref a0), some (.int a1), some (.int a2), some (.int a3), some (.int a4), some (.int a5), none] [] h (ra_oI r)) (hc46 : ∀ a0 a1 a2 a3 a4 a5 a6 h r, c46 a0 a1 a2 a3 a4 a5 a6 h = some r → ra_Ru 2 mX12_fights 46 [some (.ref a0), some (.int a1), some (.int a2), some (.int a3), some (.int a4), some (.int a5), some (.int a6)] [] h (ra_oI r)) : ra_kok 2 mX12_fights ra_oI (kX12_fights_97 N c27 c46) := (ra_k1_ok (by
  intro L S h a e
  split at e
  · exact ra_Ru.weak (hc46 _ _ _ _ _ _ _ _ _ e) ⟨rfl, ⟨rfl, ⟨rfl, ⟨rfl, ⟨rfl, ⟨rfl, ⟨rfl, trivial⟩⟩⟩⟩⟩⟩⟩
  · cases e) ra_k0_ok)
set_option maxRecDepth 100000 in
theorem nX12_fights_97_ok (N : Nat) (c27 : Nat → Int32 → Int32 → Int32 → Int32 → Int32 → ra_H → Option (Int32 × ra_H)) (c46 : Nat → Int32 → Int32 → Int32 → Int32 → Int32 → Int32 → ra_H → Option (Int32 × ra_H)) (hc27 : ∀ a0 a1 a2 a3 a4 a5 h r, c27 a0 a1 a2 a3 a4 a5 h = some r → ra_Ru 2 mX12_fights 27 [some (.ref a0), some (.int a1), some (.int a2), some (.int a3), some (.int a4), some (.int a5), none] [] h (ra_oI r)) (hc46 : ∀ a0 a1 a2 a3 a4 a5 a6 h r, c46 a0 a1 a2 a3 a4 a5 a6 h = some r → ra_Ru 2 mX12_fights 46 [some (.ref a0), some (.int a1), some (.int a2), some (.int a3), some (.int a4), some (.int a5), some (.int a6)] [] h (ra_oI r)) (a0 : Nat) (a1 : Int32) (a2 : Int32) (a3 : Int32) (a4 : Int32) (a5 : Int32) (a6 : Int32) (h : ra_H) (r : (Int32 × ra_H)) (e : nX12_fights_97 N c27 c46 a0 a1 a2 a3 a4 a5 a6 h = some r) : ra_Ru 2 mX12_fights 97 [some (.ref a0), some (.int a1), some (.int a2), some (.int a3), some (.int a4), some (.int a5), some (.int a6)] [] h (ra_oI r) :=
  ra_sound (by omega) rfl ra_rI_ok (kX12_fights_97_ok N c27 c46 hc27 hc46) (fun m av h h1 e => (ra_c0_ok (ro := ra_oV)) m av h h1 e) (fun m av h x h1 e => (tIX12_fights_ok N) m av h (x, h1) e) (fun m av h x h1 e => (ra_c0_ok (ro := ra_oJ)) m av h (x, h1) e) (fun m av h x h1 e => (ra_c0_ok (ro := ra_oR)) m av h (x, h1) e) (fun m av h x h1 e => (ra_c0_ok (ro := ra_oN)) m av h (x, h1) e) (fun m av h x h1 e => (ra_c0_ok (ro := ra_oF)) m av h (x, h1) e) 3 lX12_fights_97 _ _ _ _ lX12_fights_97_ck (show ra_run ra_rI (kX12_fights_97 N c27 c46) ra_c0 (tIX12_fights N) ra_c0 ra_c0 ra_c0 ra_c0 3 lX12_fights_97 [some (.ref a0), some (.int a1), some (.int a2), some (.int a3), some (.int a4), some (.int a5), some (.int a6)] [] h = some r from e) _ _ rfl
def lX12_fights_92 : List ra_I := [(92, .istore 4, 2, 4, 0, 0, 0, 0, []),
  (94, .iinc 3 (1), 3, 3, 0, 0, (1), 0, [])]
set_option maxRecDepth 100000 in
theorem lX12_fights_92_ck : lX12_fights_92.all (ra_ck mX12_fights 12) = true := by decide +kernel
def nX12_fights_92 (N : Nat) (c27 : Nat → Int32 → Int32 → Int32 → Int32 → Int32 → ra_H → Option (Int32 × ra_H)) (c46 : Nat → Int32 → Int32 → Int32 → Int32 → Int32 → Int32 → ra_H → Option (Int32 × ra_H)) (a0 : Nat) (a1 : Int32) (a2 : Int32) (a3 : Int32) (a5 : Int32) (a6 : Int32) (b0 : Int32) (h : ra_H) : Option (Int32 × ra_H) :=
  let y1 := a3 + (1 : Int32)
  nX12_fights_97 N c27 c46 a0 a1 a2 y1 b0 a5 a6 h
def kX12_fights_92 (N : Nat) (c27 : Nat → Int32 → Int32 → Int32 → Int32 → Int32 → ra_H → Option (Int32 × ra_H)) (c46 : Nat → Int32 → Int32 → Int32 → Int32 → Int32 → Int32 → ra_H → Option (Int32 × ra_H)) : Nat → List (Option Value) → List Value → ra_H → Option (Int32 × ra_H) := (ra_k1 97 (fun L S h => match L, S with
  | [some (.ref a0), some (.int a1), some (.int a2), some (.int a3), some (.int a4), some (.int a5), some (.int a6)], [] => nX12_fights_97 N c27 c46 a0 a1 a2 a3 a4 a5 a6 h
  | _, _ => none) ra_k0)
theorem kX12_fights_92_ok (N : Nat) (c27 : Nat → Int32 → Int32 → Int32 → Int32 → Int32 → ra_H → Option (Int32 × ra_H)) (c46 : Nat → Int32 → Int32 → Int32 → Int32 → Int32 → Int32 → ra_H → Option (Int32 × ra_H)) (hc27 : ∀ a0 a1 a2 a3 a4 a5 h r, c27 a0 a1 a2 a3 a4 a5 h = some r → ra_Ru 2 mX12_fights 27 [some (.ref a0), some (.int a1), some (.int a2), some (.int a3), some (.int a4), some (.int a5), none] [] h (ra_oI r)) (hc46 : ∀ a0 a1 a2 a3 a4 a5 a6 h r, c46 a0 a1 a2 a3 a4 a5 a6 h = some r → ra_Ru 2 mX12_fights 46 [some (.ref a0), some (.int a1), some (.int a2), some (.int a3), some (.int a4), some (.int a5), some (.int a6)] [] h (ra_oI r)) : ra_kok 2 mX12_fights ra_oI (kX12_fights_92 N c27 c46) := (ra_k1_ok (by
  intro L S h a e
  split at e
  · exact ra_Ru.weak (nX12_fights_97_ok N c27 c46 hc27 hc46 _ _ _ _ _ _ _ _ _ e) ⟨rfl, ⟨rfl, ⟨rfl, ⟨rfl, ⟨rfl, ⟨rfl, ⟨rfl, trivial⟩⟩⟩⟩⟩⟩⟩
  · cases e) ra_k0_ok)
set_option maxRecDepth 100000 in
theorem nX12_fights_92_ok (N : Nat) (c27 : Nat → Int32 → Int32 → Int32 → Int32 → Int32 → ra_H → Option (Int32 × ra_H)) (c46 : Nat → Int32 → Int32 → Int32 → Int32 → Int32 → Int32 → ra_H → Option (Int32 × ra_H)) (hc27 : ∀ a0 a1 a2 a3 a4 a5 h r, c27 a0 a1 a2 a3 a4 a5 h = some r → ra_Ru 2 mX12_fights 27 [some (.ref a0), some (.int a1), some (.int a2), some (.int a3), some (.int a4), some (.int a5), none] [] h (ra_oI r)) (hc46 : ∀ a0 a1 a2 a3 a4 a5 a6 h r, c46 a0 a1 a2 a3 a4 a5 a6 h = some r → ra_Ru 2 mX12_fights 46 [some (.ref a0), some (.int a1), some (.int a2), some (.int a3), some (.int a4), some (.int a5), some (.int a6)] [] h (ra_oI r)) (a0 : Nat) (a1 : Int32) (a2 : Int32) (a3 : Int32) (a5 : Int32) (a6 : Int32) (b0 : Int32) (h : ra_H) (r : (Int32 × ra_H)) (e : nX12_fights_92 N c27 c46 a0 a1 a2 a3 a5 a6 b0 h = some r) : ra_Ru 2 mX12_fights 92 [some (.ref a0), some (.int a1), some (.int a2), some (.int a3), none, some (.int a5), some (.int a6)] [.int b0] h (ra_oI r) :=
  ra_sound (by omega) rfl ra_rI_ok (kX12_fights_92_ok N c27 c46 hc27 hc46) (fun m av h h1 e => (ra_c0_ok (ro := ra_oV)) m av h h1 e) (fun m av h x h1 e => (tIX12_fights_ok N) m av h (x, h1) e) (fun m av h x h1 e => (ra_c0_ok (ro := ra_oJ)) m av h (x, h1) e) (fun m av h x h1 e => (ra_c0_ok (ro := ra_oR)) m av h (x, h1) e) (fun m av h x h1 e => (ra_c0_ok (ro := ra_oN)) m av h (x, h1) e) (fun m av h x h1 e => (ra_c0_ok (ro := ra_oF)) m av h (x, h1) e) 3 lX12_fights_92 _ _ _ _ lX12_fights_92_ck (show ra_run ra_rI (kX12_fights_92 N c27 c46) ra_c0 (tIX12_fights N) ra_c0 ra_c0 ra_c0 ra_c0 3 lX12_fights_92 [some (.ref a0), some (.int a1), some (.int a2), some (.int a3), none, some (.int a5), some (.int a6)] [.int b0] h = some r from e) _ _ rfl
def lX12_fights_46 : List ra_I := [(46, .iload 6, 2, 6, 0, 0, 0, 0, []),
  (48, .aload_n 0, 1, 0, 0, 0, 0, 0, []),
  (49, .getfield 13, 3, 12, 3, 2, 0, 0, []),
  (52, .sipush (482), 3, 0, 0, 0, (482), 0, []),
  (55, .iaload, 1, 0, 0, 0, 0, 0, []),
  (56, .if_icmp .ge (47), 3, 103, 0, 0, 0, 0, []),
  (59, .aload_n 0, 1, 0, 0, 0, 0, 0, []),
  (60, .iload 5, 2, 5, 0, 0, 0, 0, []),
  (62, .iload 6, 2, 6, 0, 0, 0, 0, []),
  (64, .invokevirtual 443, 3, 282, 3, 1, 0, 0, []),
  (67, .ifCond .eq (30), 3, 97, 0, 0, 0, 0, []),
  (70, .iload_n 3, 1, 3, 0, 0, 0, 0, []),
  (71, .iload_n 2, 1, 2, 0, 0, 0, 0, []),
  (72, .if_icmp .ne (18), 3, 90, 0, 0, 0, 0, []),
  (75, .iload_n 1, 1, 1, 0, 0, 0, 0, []),
  (76, .iconst (1), 1, 0, 0, 0, (1), 0, []),
  (77, .if_icmp .ne (8), 3, 85, 0, 0, 0, 0, []),
  (80, .iload 5, 2, 5, 0, 0, 0, 0, []),
  (82, .goto (10), 3, 92, 0, 0, 0, 0, []),
  (85, .iload 6, 2, 6, 0, 0, 0, 0, []),
  (87, .goto (5), 3, 92, 0, 0, 0, 0, []),
  (90, .iload 4, 2, 4, 0, 0, 0, 0, []),
  (103, .iinc 5 (1), 3, 5, 0, 0, (1), 0, []),
  (106, .goto (-79), 3, 27, 0, 0, 0, 0, [])]
set_option maxRecDepth 100000 in
theorem lX12_fights_46_ck : lX12_fights_46.all (ra_ck mX12_fights 12) = true := by decide +kernel
def nX12_fights_46 (N : Nat) (c27 : Nat → Int32 → Int32 → Int32 → Int32 → Int32 → ra_H → Option (Int32 × ra_H)) : Nat → Nat → Int32 → Int32 → Int32 → Int32 → Int32 → Int32 → ra_H → Option (Int32 × ra_H)
  | 0, _, _, _, _, _, _, _, _ => none
  | n + 1, a0, a1, a2, a3, a4, a5, a6, h =>
  (ra_fR h 12 a0 3).bind fun x1 =>
  (ra_aI h 0 x1 ((482 : Int32))).bind fun x2 =>
  if a6 < x2 then
    (fX12_isFight N a0 a5 a6 h).bind fun q4 =>
    if q4.1 = 0 then
      nX12_fights_97 N c27 (nX12_fights_46 N c27 n) a0 a1 a2 a3 a4 a5 a6 q4.2
    else
      if a3 = a2 then
        if a1 = ((1 : Int32)) then
          nX12_fights_92 N c27 (nX12_fights_46 N c27 n) a0 a1 a2 a3 a5 a6 a5 q4.2
        else
          nX12_fights_92 N c27 (nX12_fights_46 N c27 n) a0 a1 a2 a3 a5 a6 a6 q4.2
      else
        nX12_fights_92 N c27 (nX12_fights_46 N c27 n) a0 a1 a2 a3 a5 a6 a4 q4.2
  else
    let y3 := a5 + (1 : Int32)
    c27 a0 a1 a2 a3 a4 y3 h
def kX12_fights_46 (N : Nat) (c27 : Nat → Int32 → Int32 → Int32 → Int32 → Int32 → ra_H → Option (Int32 × ra_H)) (cs : Nat → Int32 → Int32 → Int32 → Int32 → Int32 → Int32 → ra_H → Option (Int32 × ra_H)) : Nat → List (Option Value) → List Value → ra_H → Option (Int32 × ra_H) := (ra_k1 27 (fun L S h => match L, S with
  | [some (.ref a0), some (.int a1), some (.int a2), some (.int a3), some (.int a4), some (.int a5), _], [] => c27 a0 a1 a2 a3 a4 a5 h
  | _, _ => none) (ra_k1 92 (fun L S h => match L, S with
  | [some (.ref a0), some (.int a1), some (.int a2), some (.int a3), _, some (.int a5), some (.int a6)], [.int b0] => nX12_fights_92 N c27 cs a0 a1 a2 a3 a5 a6 b0 h
  | _, _ => none) (ra_k1 97 (fun L S h => match L, S with
  | [some (.ref a0), some (.int a1), some (.int a2), some (.int a3), some (.int a4), some (.int a5), some (.int a6)], [] => nX12_fights_97 N c27 cs a0 a1 a2 a3 a4 a5 a6 h
  | _, _ => none) ra_k0)))
theorem kX12_fights_46_ok (N : Nat) (c27 : Nat → Int32 → Int32 → Int32 → Int32 → Int32 → ra_H → Option (Int32 × ra_H)) (hc27 : ∀ a0 a1 a2 a3 a4 a5 h r, c27 a0 a1 a2 a3 a4 a5 h = some r → ra_Ru 2 mX12_fights 27 [some (.ref a0), some (.int a1), some (.int a2), some (.int a3), some (.int a4), some (.int a5), none] [] h (ra_oI r)) (cs : Nat → Int32 → Int32 → Int32 → Int32 → Int32 → Int32 → ra_H → Option (Int32 × ra_H)) (hcs : ∀ a0 a1 a2 a3 a4 a5 a6 h r, cs a0 a1 a2 a3 a4 a5 a6 h = some r → ra_Ru 2 mX12_fights 46 [some (.ref a0), some (.int a1), some (.int a2), some (.int a3), some (.int a4), some (.int a5), some (.int a6)] [] h (ra_oI r)) : ra_kok 2 mX12_fights ra_oI (kX12_fights_46 N c27 cs) := (ra_k1_ok (by
  intro L S h a e
  split at e
  · exact ra_Ru.weak (hc27 _ _ _ _ _ _ _ _ e) ⟨rfl, ⟨rfl, ⟨rfl, ⟨rfl, ⟨rfl, ⟨rfl, trivial⟩⟩⟩⟩⟩⟩
  · cases e) (ra_k1_ok (by
  intro L S h a e
  split at e
  · exact ra_Ru.weak (nX12_fights_92_ok N c27 cs hc27 hcs _ _ _ _ _ _ _ _ _ e) ⟨rfl, ⟨rfl, ⟨rfl, ⟨rfl, ⟨rfl, ⟨rfl, trivial⟩⟩⟩⟩⟩⟩
  · cases e) (ra_k1_ok (by
  intro L S h a e
  split at e
  · exact ra_Ru.weak (nX12_fights_97_ok N c27 cs hc27 hcs _ _ _ _ _ _ _ _ _ e) ⟨rfl, ⟨rfl, ⟨rfl, ⟨rfl, ⟨rfl, ⟨rfl, ⟨rfl, trivial⟩⟩⟩⟩⟩⟩⟩
  · cases e) ra_k0_ok)))
set_option maxRecDepth 100000 in
theorem nX12_fights_46_ok (N : Nat) (c27 : Nat → Int32 → Int32 → Int32 → Int32 → Int32 → ra_H → Option (Int32 × ra_H)) (hc27 : ∀ a0 a1 a2 a3 a4 a5 h r, c27 a0 a1 a2 a3 a4 a5 h = some r → ra_Ru 2 mX12_fights 27 [some (.ref a0), some (.int a1), some (.int a2), some (.int a3), some (.int a4), some (.int a5), none] [] h (ra_oI r)) : ∀ n a0 a1 a2 a3 a4 a5 a6 h r, nX12_fights_46 N c27 n a0 a1 a2 a3 a4 a5 a6 h = some r → ra_Ru 2 mX12_fights 46 [some (.ref a0), some (.int a1), some (.int a2), some (.int a3), some (.int a4), some (.int a5), some (.int a6)] [] h (ra_oI r) := by
  intro n
  induction n with
  | zero => intro a0 a1 a2 a3 a4 a5 a6 h r e; cases e
  | succ n ih =>
    intro a0 a1 a2 a3 a4 a5 a6 h r e
    exact ra_sound (by omega) rfl ra_rI_ok (kX12_fights_46_ok N c27 hc27 (nX12_fights_46 N c27 n) ih) (fun m av h h1 e => (ra_c0_ok (ro := ra_oV)) m av h h1 e) (fun m av h x h1 e => (tIX12_fights_ok N) m av h (x, h1) e) (fun m av h x h1 e => (ra_c0_ok (ro := ra_oJ)) m av h (x, h1) e) (fun m av h x h1 e => (ra_c0_ok (ro := ra_oR)) m av h (x, h1) e) (fun m av h x h1 e => (ra_c0_ok (ro := ra_oN)) m av h (x, h1) e) (fun m av h x h1 e => (ra_c0_ok (ro := ra_oF)) m av h (x, h1) e) 25 lX12_fights_46 _ _ _ _ lX12_fights_46_ck (show ra_run ra_rI (kX12_fights_46 N c27 (nX12_fights_46 N c27 n)) ra_c0 (tIX12_fights N) ra_c0 ra_c0 ra_c0 ra_c0 25 lX12_fights_46 [some (.ref a0), some (.int a1), some (.int a2), some (.int a3), some (.int a4), some (.int a5), some (.int a6)] [] h = some r from e) _ _ rfl
def lX12_fights_119 : List ra_I := [(119, .ireturn, 1, 0, 0, 0, 0, 0, [])]
set_option maxRecDepth 100000 in
theorem lX12_fights_119_ck : lX12_fights_119.all (ra_ck mX12_fights 12) = true := by decide +kernel
def nX12_fights_119 (N : Nat) (b0 : Int32) (h : ra_H) : Option (Int32 × ra_H) :=
  some (b0, h)
def kX12_fights_119 (N : Nat) : Nat → List (Option Value) → List Value → ra_H → Option (Int32 × ra_H) := ra_k0
theorem kX12_fights_119_ok (N : Nat) : ra_kok 2 mX12_fights ra_oI (kX12_fights_119 N) := ra_k0_ok
set_option maxRecDepth 100000 in
theorem nX12_fights_119_ok (N : Nat) (b0 : Int32) (h : ra_H) (r : (Int32 × ra_H)) (e : nX12_fights_119 N b0 h = some r) : ra_Ru 2 mX12_fights 119 [none, none, none, none, none, none, none] [.int b0] h (ra_oI r) :=
  ra_sound (by omega) rfl ra_rI_ok (kX12_fights_119_ok N) (fun m av h h1 e => (ra_c0_ok (ro := ra_oV)) m av h h1 e) (fun m av h x h1 e => (tIX12_fights_ok N) m av h (x, h1) e) (fun m av h x h1 e => (ra_c0_ok (ro := ra_oJ)) m av h (x, h1) e) (fun m av h x h1 e => (ra_c0_ok (ro := ra_oR)) m av h (x, h1) e) (fun m av h x h1 e => (ra_c0_ok (ro := ra_oN)) m av h (x, h1) e) (fun m av h x h1 e => (ra_c0_ok (ro := ra_oF)) m av h (x, h1) e) 2 lX12_fights_119 _ _ _ _ lX12_fights_119_ck (show ra_run ra_rI (kX12_fights_119 N) ra_c0 (tIX12_fights N) ra_c0 ra_c0 ra_c0 ra_c0 2 lX12_fights_119 [none, none, none, none, none, none, none] [.int b0] h = some r from e) _ _ rfl
def lX12_fights_27 : List ra_I := [(27, .iload 5, 2, 5, 0, 0, 0, 0, []),
  (29, .aload_n 0, 1, 0, 0, 0, 0, 0, []),
  (30, .getfield 13, 3, 12, 3, 2, 0, 0, []),
  (33, .sipush (482), 3, 0, 0, 0, (482), 0, []),
  (36, .iaload, 1, 0, 0, 0, 0, 0, []),
  (37, .if_icmp .ge (72), 3, 109, 0, 0, 0, 0, []),
  (40, .iload 5, 2, 5, 0, 0, 0, 0, []),
  (42, .iconst (1), 1, 0, 0, 0, (1), 0, []),
  (43, .iadd, 1, 0, 0, 0, 0, 0, []),
  (44, .istore 6, 2, 6, 0, 0, 0, 0, []),
  (109, .iload_n 1, 1, 1, 0, 0, 0, 0, []),
  (110, .ifCond .ne (7), 3, 117, 0, 0, 0, 0, []),
  (113, .iload_n 3, 1, 3, 0, 0, 0, 0, []),
  (114, .goto (5), 3, 119, 0, 0, 0, 0, []),
  (117, .iload 4, 2, 4, 0, 0, 0, 0, [])]
set_option maxRecDepth 100000 in
theorem lX12_fights_27_ck : lX12_fights_27.all (ra_ck mX12_fights 12) = true := by decide +kernel
def nX12_fights_27 (N : Nat) : Nat → Nat → Int32 → Int32 → Int32 → Int32 → Int32 → ra_H → Option (Int32 × ra_H)
  | 0, _, _, _, _, _, _, _ => none
  | n + 1, a0, a1, a2, a3, a4, a5, h =>
  (ra_fR h 12 a0 3).bind fun x1 =>
  (ra_aI h 0 x1 ((482 : Int32))).bind fun x2 =>
  if a5 < x2 then
    let y3 := a5 + ((1 : Int32))
    nX12_fights_46 N (nX12_fights_27 N n) N a0 a1 a2 a3 a4 a5 y3 h
  else
    if a1 = 0 then
      nX12_fights_119 N a3 h
    else
      nX12_fights_119 N a4 h
def kX12_fights_27 (N : Nat) (cs : Nat → Int32 → Int32 → Int32 → Int32 → Int32 → ra_H → Option (Int32 × ra_H)) : Nat → List (Option Value) → List Value → ra_H → Option (Int32 × ra_H) := (ra_k1 46 (fun L S h => match L, S with
  | [some (.ref a0), some (.int a1), some (.int a2), some (.int a3), some (.int a4), some (.int a5), some (.int a6)], [] => nX12_fights_46 N cs N a0 a1 a2 a3 a4 a5 a6 h
  | _, _ => none) (ra_k1 119 (fun L S h => match L, S with
  | [_, _, _, _, _, _, _], [.int b0] => nX12_fights_119 N b0 h
  | _, _ => none) ra_k0))
theorem kX12_fights_27_ok (N : Nat) (cs : Nat → Int32 → Int32 → Int32 → Int32 → Int32 → ra_H → Option (Int32 × ra_H)) (hcs : ∀ a0 a1 a2 a3 a4 a5 h r, cs a0 a1 a2 a3 a4 a5 h = some r → ra_Ru 2 mX12_fights 27 [some (.ref a0), some (.int a1), some (.int a2), some (.int a3), some (.int a4), some (.int a5), none] [] h (ra_oI r)) : ra_kok 2 mX12_fights ra_oI (kX12_fights_27 N cs) := (ra_k1_ok (by
  intro L S h a e
  split at e
  · exact ra_Ru.weak (nX12_fights_46_ok N cs hcs N _ _ _ _ _ _ _ _ _ e) ⟨rfl, ⟨rfl, ⟨rfl, ⟨rfl, ⟨rfl, ⟨rfl, ⟨rfl, trivial⟩⟩⟩⟩⟩⟩⟩
  · cases e) (ra_k1_ok (by
  intro L S h a e
  split at e
  · exact ra_Ru.weak (nX12_fights_119_ok N _ _ _ e) trivial
  · cases e) ra_k0_ok))
set_option maxRecDepth 100000 in
theorem nX12_fights_27_ok (N : Nat) : ∀ n a0 a1 a2 a3 a4 a5 h r, nX12_fights_27 N n a0 a1 a2 a3 a4 a5 h = some r → ra_Ru 2 mX12_fights 27 [some (.ref a0), some (.int a1), some (.int a2), some (.int a3), some (.int a4), some (.int a5), none] [] h (ra_oI r) := by
  intro n
  induction n with
  | zero => intro a0 a1 a2 a3 a4 a5 h r e; cases e
  | succ n ih =>
    intro a0 a1 a2 a3 a4 a5 h r e
    exact ra_sound (by omega) rfl ra_rI_ok (kX12_fights_27_ok N (nX12_fights_27 N n) ih) (fun m av h h1 e => (ra_c0_ok (ro := ra_oV)) m av h h1 e) (fun m av h x h1 e => (tIX12_fights_ok N) m av h (x, h1) e) (fun m av h x h1 e => (ra_c0_ok (ro := ra_oJ)) m av h (x, h1) e) (fun m av h x h1 e => (ra_c0_ok (ro := ra_oR)) m av h (x, h1) e) (fun m av h x h1 e => (ra_c0_ok (ro := ra_oN)) m av h (x, h1) e) (fun m av h x h1 e => (ra_c0_ok (ro := ra_oF)) m av h (x, h1) e) 16 lX12_fights_27 _ _ _ _ lX12_fights_27_ck (show ra_run ra_rI (kX12_fights_27 N (nX12_fights_27 N n)) ra_c0 (tIX12_fights N) ra_c0 ra_c0 ra_c0 ra_c0 16 lX12_fights_27 [some (.ref a0), some (.int a1), some (.int a2), some (.int a3), some (.int a4), some (.int a5), none] [] h = some r from e) _ _ rfl
def lX12_fights_0 : List ra_I := [(0, .aload_n 0, 1, 0, 0, 0, 0, 0, []),
  (1, .iconst (0), 1, 0, 0, 0, (0), 0, []),
  (2, .putfield 147, 3, 12, 0, 0, 0, 0, []),
  (5, .iload_n 1, 1, 1, 0, 0, 0, 0, []),
  (6, .i2l, 1, 0, 0, 0, 0, 0, []),
  (7, .lconst 0, 1, 0, 0, 0, 0, 0, []),
  (8, .ldc2_w 173, 3, 0, 0, 0, 0, (2), []),
  (11, .invokestatic 153, 3, 209, 3, 1, 0, 0, []),
  (14, .ifCond .ne (5), 3, 19, 0, 0, 0, 0, []),
  (17, .iconst (-1), 1, 0, 0, 0, (-1), 0, []),
  (18, .ireturn, 1, 0, 0, 0, 0, 0, []),
  (19, .iconst (0), 1, 0, 0, 0, (0), 0, []),
  (20, .istore_n 3, 1, 3, 0, 0, 0, 0, []),
  (21, .iconst (-1), 1, 0, 0, 0, (-1), 0, []),
  (22, .istore 4, 2, 4, 0, 0, 0, 0, []),
  (24, .iconst (0), 1, 0, 0, 0, (0), 0, []),
  (25, .istore 5, 2, 5, 0, 0, 0, 0, [])]
set_option maxRecDepth 100000 in
theorem lX12_fights_0_ck : lX12_fights_0.all (ra_ck mX12_fights 12) = true := by decide +kernel
def nX12_fights_0 (N : Nat) (a0 : Nat) (a1 : Int32) (a2 : Int32) (h : ra_H) : Option (Int32 × ra_H) :=
  (ra_fW h 12 a0 0 (.int ((0 : Int32)))).bind fun h1 =>
  (fX12_in N (Int32.toInt64 a1) ((0 : Int64)) ((2 : Int64)) h1).bind fun q2 =>
  if q2.1 = 0 then
    some ((-1 : Int32), q2.2)
  else
    nX12_fights_27 N N a0 a1 a2 ((0 : Int32)) ((-1 : Int32)) ((0 : Int32)) q2.2
def kX12_fights_0 (N : Nat) : Nat → List (Option Value) → List Value → ra_H → Option (Int32 × ra_H) := (ra_k1 27 (fun L S h => match L, S with
  | [some (.ref a0), some (.int a1), some (.int a2), some (.int a3), some (.int a4), some (.int a5), _], [] => nX12_fights_27 N N a0 a1 a2 a3 a4 a5 h
  | _, _ => none) ra_k0)
theorem kX12_fights_0_ok (N : Nat) : ra_kok 2 mX12_fights ra_oI (kX12_fights_0 N) := (ra_k1_ok (by
  intro L S h a e
  split at e
  · exact ra_Ru.weak (nX12_fights_27_ok N N _ _ _ _ _ _ _ _ e) ⟨rfl, ⟨rfl, ⟨rfl, ⟨rfl, ⟨rfl, ⟨rfl, trivial⟩⟩⟩⟩⟩⟩
  · cases e) ra_k0_ok)
set_option maxRecDepth 100000 in
theorem nX12_fights_0_ok (N : Nat) (a0 : Nat) (a1 : Int32) (a2 : Int32) (h : ra_H) (r : (Int32 × ra_H)) (e : nX12_fights_0 N a0 a1 a2 h = some r) : ra_Ru 2 mX12_fights 0 [some (.ref a0), some (.int a1), some (.int a2), none, none, none, none] [] h (ra_oI r) :=
  ra_sound (by omega) rfl ra_rI_ok (kX12_fights_0_ok N) (fun m av h h1 e => (ra_c0_ok (ro := ra_oV)) m av h h1 e) (fun m av h x h1 e => (tIX12_fights_ok N) m av h (x, h1) e) (fun m av h x h1 e => (ra_c0_ok (ro := ra_oJ)) m av h (x, h1) e) (fun m av h x h1 e => (ra_c0_ok (ro := ra_oR)) m av h (x, h1) e) (fun m av h x h1 e => (ra_c0_ok (ro := ra_oN)) m av h (x, h1) e) (fun m av h x h1 e => (ra_c0_ok (ro := ra_oF)) m av h (x, h1) e) 18 lX12_fights_0 _ _ _ _ lX12_fights_0_ck (show ra_run ra_rI (kX12_fights_0 N) ra_c0 (tIX12_fights N) ra_c0 ra_c0 ra_c0 ra_c0 18 lX12_fights_0 [some (.ref a0), some (.int a1), some (.int a2), none, none, none, none] [] h = some r from e) _ _ rfl
def fX12_fights (N : Nat) (p0 : Nat) (p1 : Int32) (p2 : Int32) (h : ra_H) : Option (Int32 × ra_H) := match ra_isOb h p0 12 with
  | true => nX12_fights_0 N p0 p1 p2 h
  | false => none
set_option maxRecDepth 100000 in
theorem mtX12_fights : ra_MT[281]? = some (mX12_fights, 1, 2, (1, 13), (8, 162), (8, 163)) := rfl
theorem fX12_fights_co (N : Nat) (p0 : Nat) (p1 : Int32) (p2 : Int32) (h : ra_H) (r : (Int32 × ra_H)) (e : fX12_fights N p0 p1 p2 h = some r) (D : Nat) (hD : 3 ≤ D) : ra_CO D 281 [.ref p0, .int p1, .int p2] h (ra_oI r).1 (ra_oI r).2 := by
  have hw : ra_nw2 [.ref p0, .int p1, .int p2] ≤ 7 := Nat.le_of_ble_eq_true rfl
  have hdb : ∀ v ∈ ([.ref p0, .int p1, .int p2] : List Value), ∀ x, v ≠ .double x := by
    intro v hv x hx
    simp [hx] at hv
  unfold fX12_fights at e
  split at e
  · rename_i ho
    have e1 := e
    exact ⟨2, _, mtX12_fights, hD, ra_ev_of (by decide) hdb hw trivial (ra_Ru.weak (nX12_fights_0_ok N p0 p1 p2 h _ e1) ⟨rfl, ⟨rfl, ⟨rfl, trivial⟩⟩⟩), (fun _ => ⟨_, _, rfl, ra_rcv_of ho (by decide) rfl⟩), (fun h => absurd h (by decide))⟩
  · cases e
/-! RedMarksModel.free(II)I -/
def mX12_free : ra_M := (yX12_free, cX12_free, 3, (some .int))
def tIX12_free (N : Nat) : Nat → List Value → ra_H → Option (Int32 × ra_H) := (ra_c1 224 (fun av h => match av with
  | [.int z0, .int z1] => fX12_isShelf N z0 z1 h
  | _ => none) (ra_c1 269 (fun av h => match av with
  | [.ref z0] => fX12_lookKept N z0 h
  | _ => none) (ra_c1 273 (fun av h => match av with
  | [.ref z0, .int z1] => fX12_freeOf N z0 z1 h
  | _ => none) ra_c0)))
theorem tIX12_free_ok (N : Nat) : ra_cok 8 ra_oI (tIX12_free N) := (ra_c1_ok (by
  intro av h a e
  split at e
  · exact fX12_isShelf_co N _ _ _ _ e 8 (by omega)
  · cases e) (ra_c1_ok (by
  intro av h a e
  split at e
  · exact fX12_lookKept_co N _ _ _ e 8 (by omega)
  · cases e) (ra_c1_ok (by
  intro av h a e
  split at e
  · exact fX12_freeOf_co N _ _ _ _ e 8 (by omega)
  · cases e) ra_c0_ok)))
def lX12_free_36 : List ra_I := [(36, .ireturn, 1, 0, 0, 0, 0, 0, [])]
set_option maxRecDepth 100000 in
theorem lX12_free_36_ck : lX12_free_36.all (ra_ck mX12_free 12) = true := by decide +kernel
def nX12_free_36 (N : Nat) (b0 : Int32) (h : ra_H) : Option (Int32 × ra_H) :=
  some (b0, h)
def kX12_free_36 (N : Nat) : Nat → List (Option Value) → List Value → ra_H → Option (Int32 × ra_H) := ra_k0
theorem kX12_free_36_ok (N : Nat) : ra_kok 8 mX12_free ra_oI (kX12_free_36 N) := ra_k0_ok
set_option maxRecDepth 100000 in
theorem nX12_free_36_ok (N : Nat) (b0 : Int32) (h : ra_H) (r : (Int32 × ra_H)) (e : nX12_free_36 N b0 h = some r) : ra_Ru 8 mX12_free 36 [none, none, none] [.int b0] h (ra_oI r) :=
  ra_sound (by omega) rfl ra_rI_ok (kX12_free_36_ok N) (fun m av h h1 e => (ra_c0_ok (ro := ra_oV)) m av h h1 e) (fun m av h x h1 e => (tIX12_free_ok N) m av h (x, h1) e) (fun m av h x h1 e => (ra_c0_ok (ro := ra_oJ)) m av h (x, h1) e) (fun m av h x h1 e => (ra_c0_ok (ro := ra_oR)) m av h (x, h1) e) (fun m av h x h1 e => (ra_c0_ok (ro := ra_oN)) m av h (x, h1) e) (fun m av h x h1 e => (ra_c0_ok (ro := ra_oF)) m av h (x, h1) e) 2 lX12_free_36 _ _ _ _ lX12_free_36_ck (show ra_run ra_rI (kX12_free_36 N) ra_c0 (tIX12_free N) ra_c0 ra_c0 ra_c0 ra_c0 2 lX12_free_36 [none, none, none] [.int b0] h = some r from e) _ _ rfl
def lX12_free_33 : List ra_I := [(33, .sipush (-1000), 3, 0, 0, 0, (-1000), 0, [])]
set_option maxRecDepth 100000 in
theorem lX12_free_33_ck : lX12_free_33.all (ra_ck mX12_free 12) = true := by decide +kernel
def nX12_free_33 (N : Nat) (h : ra_H) : Option (Int32 × ra_H) :=
  nX12_free_36 N ((-1000 : Int32)) h
def kX12_free_33 (N : Nat) : Nat → List (Option Value) → List Value → ra_H → Option (Int32 × ra_H) := (ra_k1 36 (fun L S h => match L, S with
  | [_, _, _], [.int b0] => nX12_free_36 N b0 h
  | _, _ => none) ra_k0)
theorem kX12_free_33_ok (N : Nat) : ra_kok 8 mX12_free ra_oI (kX12_free_33 N) := (ra_k1_ok (by
  intro L S h a e
  split at e
  · exact ra_Ru.weak (nX12_free_36_ok N _ _ _ e) trivial
  · cases e) ra_k0_ok)
set_option maxRecDepth 100000 in
theorem nX12_free_33_ok (N : Nat) (h : ra_H) (r : (Int32 × ra_H)) (e : nX12_free_33 N h = some r) : ra_Ru 8 mX12_free 33 [none, none, none] [] h (ra_oI r) :=
  ra_sound (by omega) rfl ra_rI_ok (kX12_free_33_ok N) (fun m av h h1 e => (ra_c0_ok (ro := ra_oV)) m av h h1 e) (fun m av h x h1 e => (tIX12_free_ok N) m av h (x, h1) e) (fun m av h x h1 e => (ra_c0_ok (ro := ra_oJ)) m av h (x, h1) e) (fun m av h x h1 e => (ra_c0_ok (ro := ra_oR)) m av h (x, h1) e) (fun m av h x h1 e => (ra_c0_ok (ro := ra_oN)) m av h (x, h1) e) (fun m av h x h1 e => (ra_c0_ok (ro := ra_oF)) m av h (x, h1) e) 2 lX12_free_33 _ _ _ _ lX12_free_33_ck (show ra_run ra_rI (kX12_free_33 N) ra_c0 (tIX12_free N) ra_c0 ra_c0 ra_c0 ra_c0 2 lX12_free_33 [none, none, none] [] h = some r from e) _ _ rfl
def lX12_free_0 : List ra_I := [(0, .aload_n 0, 1, 0, 0, 0, 0, 0, []),
  (1, .iconst (0), 1, 0, 0, 0, (0), 0, []),
  (2, .putfield 147, 3, 12, 0, 0, 0, 0, []),
  (5, .iload_n 1, 1, 1, 0, 0, 0, 0, []),
  (6, .iload_n 2, 1, 2, 0, 0, 0, 0, []),
  (7, .invokestatic 205, 3, 224, 2, 1, 0, 0, []),
  (10, .ifCond .eq (23), 3, 33, 0, 0, 0, 0, []),
  (13, .aload_n 0, 1, 0, 0, 0, 0, 0, []),
  (14, .invokevirtual 425, 3, 269, 1, 1, 0, 0, []),
  (17, .ifCond .eq (16), 3, 33, 0, 0, 0, 0, []),
  (20, .aload_n 0, 1, 0, 0, 0, 0, 0, []),
  (21, .bipush (6), 2, 0, 0, 0, (6), 0, []),
  (23, .iload_n 1, 1, 1, 0, 0, 0, 0, []),
  (24, .imul, 1, 0, 0, 0, 0, 0, []),
  (25, .iload_n 2, 1, 2, 0, 0, 0, 0, []),
  (26, .iadd, 1, 0, 0, 0, 0, 0, []),
  (27, .invokevirtual 434, 3, 273, 2, 1, 0, 0, []),
  (30, .goto (6), 3, 36, 0, 0, 0, 0, [])]
set_option maxRecDepth 100000 in
theorem lX12_free_0_ck : lX12_free_0.all (ra_ck mX12_free 12) = true := by decide +kernel
def nX12_free_0 (N : Nat) (a0 : Nat) (a1 : Int32) (a2 : Int32) (h : ra_H) : Option (Int32 × ra_H) :=
  (ra_fW h 12 a0 0 (.int ((0 : Int32)))).bind fun h1 =>
  (fX12_isShelf N a1 a2 h1).bind fun q2 =>
  if q2.1 = 0 then
    nX12_free_33 N q2.2
  else
    (fX12_lookKept N a0 q2.2).bind fun q3 =>
    if q3.1 = 0 then
      nX12_free_33 N q3.2
    else
      (fX12_freeOf N a0 ((((6 : Int32)) * a1) + a2) q3.2).bind fun q4 =>
      nX12_free_36 N q4.1 q4.2
def kX12_free_0 (N : Nat) : Nat → List (Option Value) → List Value → ra_H → Option (Int32 × ra_H) := (ra_k1 33 (fun L S h => match L, S with
  | [_, _, _], [] => nX12_free_33 N h
  | _, _ => none) (ra_k1 36 (fun L S h => match L, S with
  | [_, _, _], [.int b0] => nX12_free_36 N b0 h
  | _, _ => none) ra_k0))
theorem kX12_free_0_ok (N : Nat) : ra_kok 8 mX12_free ra_oI (kX12_free_0 N) := (ra_k1_ok (by
  intro L S h a e
  split at e
  · exact ra_Ru.weak (nX12_free_33_ok N _ _ e) trivial
  · cases e) (ra_k1_ok (by
  intro L S h a e
  split at e
  · exact ra_Ru.weak (nX12_free_36_ok N _ _ _ e) trivial
  · cases e) ra_k0_ok))
set_option maxRecDepth 100000 in
theorem nX12_free_0_ok (N : Nat) (a0 : Nat) (a1 : Int32) (a2 : Int32) (h : ra_H) (r : (Int32 × ra_H)) (e : nX12_free_0 N a0 a1 a2 h = some r) : ra_Ru 8 mX12_free 0 [some (.ref a0), some (.int a1), some (.int a2)] [] h (ra_oI r) :=
  ra_sound (by omega) rfl ra_rI_ok (kX12_free_0_ok N) (fun m av h h1 e => (ra_c0_ok (ro := ra_oV)) m av h h1 e) (fun m av h x h1 e => (tIX12_free_ok N) m av h (x, h1) e) (fun m av h x h1 e => (ra_c0_ok (ro := ra_oJ)) m av h (x, h1) e) (fun m av h x h1 e => (ra_c0_ok (ro := ra_oR)) m av h (x, h1) e) (fun m av h x h1 e => (ra_c0_ok (ro := ra_oN)) m av h (x, h1) e) (fun m av h x h1 e => (ra_c0_ok (ro := ra_oF)) m av h (x, h1) e) 19 lX12_free_0 _ _ _ _ lX12_free_0_ck (show ra_run ra_rI (kX12_free_0 N) ra_c0 (tIX12_free N) ra_c0 ra_c0 ra_c0 ra_c0 19 lX12_free_0 [some (.ref a0), some (.int a1), some (.int a2)] [] h = some r from e) _ _ rfl
def fX12_free (N : Nat) (p0 : Nat) (p1 : Int32) (p2 : Int32) (h : ra_H) : Option (Int32 × ra_H) := match ra_isOb h p0 12 with
  | true => nX12_free_0 N p0 p1 p2 h
  | false => none
set_option maxRecDepth 100000 in
theorem mtX12_free : ra_MT[272]? = some (mX12_free, 1, 2, (1, 13), (8, 126), (8, 127)) := rfl
theorem fX12_free_co (N : Nat) (p0 : Nat) (p1 : Int32) (p2 : Int32) (h : ra_H) (r : (Int32 × ra_H)) (e : fX12_free N p0 p1 p2 h = some r) (D : Nat) (hD : 9 ≤ D) : ra_CO D 272 [.ref p0, .int p1, .int p2] h (ra_oI r).1 (ra_oI r).2 := by
  have hw : ra_nw2 [.ref p0, .int p1, .int p2] ≤ 3 := Nat.le_of_ble_eq_true rfl
  have hdb : ∀ v ∈ ([.ref p0, .int p1, .int p2] : List Value), ∀ x, v ≠ .double x := by
    intro v hv x hx
    simp [hx] at hv
  unfold fX12_free at e
  split at e
  · rename_i ho
    have e1 := e
    exact ⟨8, _, mtX12_free, hD, ra_ev_of (by decide) hdb hw trivial (ra_Ru.weak (nX12_free_0_ok N p0 p1 p2 h _ e1) ⟨rfl, ⟨rfl, ⟨rfl, trivial⟩⟩⟩), (fun _ => ⟨_, _, rfl, ra_rcv_of ho (by decide) rfl⟩), (fun h => absurd h (by decide))⟩
  · cases e
/-! RedMarksModel.gap(IIII)I -/
def mX12_gap : ra_M := (yX12_gap, cX12_gap, 11, (some .int))
def tVX12_gap (N : Nat) : Nat → List Value → ra_H → Option ra_H := (ra_c1 271 (fun av h => match av with
  | [.ref z0, .int z1] => fX12_lookAt N z0 z1 h
  | _ => none) ra_c0)
theorem tVX12_gap_ok (N : Nat) : ra_cok 8 ra_oV (tVX12_gap N) := (ra_c1_ok (by
  intro av h a e
  split at e
  · exact fX12_lookAt_co N _ _ _ _ e 8 (by omega)
  · cases e) ra_c0_ok)
def tIX12_gap (N : Nat) : Nat → List Value → ra_H → Option (Int32 × ra_H) := (ra_c1 209 (fun av h => match av with
  | [.long z0, .long z1, .long z2] => fX12_in N z0 z1 z2 h
  | _ => none) (ra_c1 224 (fun av h => match av with
  | [.int z0, .int z1] => fX12_isShelf N z0 z1 h
  | _ => none) (ra_c1 269 (fun av h => match av with
  | [.ref z0] => fX12_lookKept N z0 h
  | _ => none) ra_c0)))
theorem tIX12_gap_ok (N : Nat) : ra_cok 8 ra_oI (tIX12_gap N) := (ra_c1_ok (by
  intro av h a e
  split at e
  · exact fX12_in_co N _ _ _ _ _ e 8 (by omega)
  · cases e) (ra_c1_ok (by
  intro av h a e
  split at e
  · exact fX12_isShelf_co N _ _ _ _ e 8 (by omega)
  · cases e) (ra_c1_ok (by
  intro av h a e
  split at e
  · exact fX12_lookKept_co N _ _ _ e 8 (by omega)
  · cases e) ra_c0_ok)))
def lX12_gap_31 : List ra_I := [(31, .iconst (-1), 1, 0, 0, 0, (-1), 0, []),
  (32, .ireturn, 1, 0, 0, 0, 0, 0, [])]
set_option maxRecDepth 100000 in
theorem lX12_gap_31_ck : lX12_gap_31.all (ra_ck mX12_gap 12) = true := by decide +kernel
def nX12_gap_31 (N : Nat) (h : ra_H) : Option (Int32 × ra_H) :=
  some ((-1 : Int32), h)
def kX12_gap_31 (N : Nat) : Nat → List (Option Value) → List Value → ra_H → Option (Int32 × ra_H) := ra_k0
theorem kX12_gap_31_ok (N : Nat) : ra_kok 8 mX12_gap ra_oI (kX12_gap_31 N) := ra_k0_ok
set_option maxRecDepth 100000 in
theorem nX12_gap_31_ok (N : Nat) (h : ra_H) (r : (Int32 × ra_H)) (e : nX12_gap_31 N h = some r) : ra_Ru 8 mX12_gap 31 [none, none, none, none, none, none, none, none, none, none, none] [] h (ra_oI r) :=
  ra_sound (by omega) rfl ra_rI_ok (kX12_gap_31_ok N) (fun m av h h1 e => (tVX12_gap_ok N) m av h h1 e) (fun m av h x h1 e => (tIX12_gap_ok N) m av h (x, h1) e) (fun m av h x h1 e => (ra_c0_ok (ro := ra_oJ)) m av h (x, h1) e) (fun m av h x h1 e => (ra_c0_ok (ro := ra_oR)) m av h (x, h1) e) (fun m av h x h1 e => (ra_c0_ok (ro := ra_oN)) m av h (x, h1) e) (fun m av h x h1 e => (ra_c0_ok (ro := ra_oF)) m av h (x, h1) e) 3 lX12_gap_31 _ _ _ _ lX12_gap_31_ck (show ra_run ra_rI (kX12_gap_31 N) (tVX12_gap N) (tIX12_gap N) ra_c0 ra_c0 ra_c0 ra_c0 3 lX12_gap_31 [none, none, none, none, none, none, none, none, none, none, none] [] h = some r from e) _ _ rfl
def lX12_gap_132 : List ra_I := [(132, .iload 10, 2, 10, 0, 0, 0, 0, []),
  (134, .iconst (1), 1, 0, 0, 0, (1), 0, []),
  (135, .iadd, 1, 0, 0, 0, 0, 0, []),
  (136, .istore 8, 2, 8, 0, 0, 0, 0, []),
  (138, .iinc 9 (1), 3, 9, 0, 0, (1), 0, []),
  (141, .goto (-83), 3, 58, 0, 0, 0, 0, [])]
set_option maxRecDepth 100000 in
theorem lX12_gap_132_ck : lX12_gap_132.all (ra_ck mX12_gap 12) = true := by decide +kernel
def nX12_gap_132 (N : Nat) (c58 : Nat → Int32 → Int32 → Int32 → Int32 → Int32 → Int32 → Int32 → ra_H → Option (Int32 × ra_H)) (a0 : Nat) (a3 : Int32) (a4 : Int32) (a5 : Int32) (a6 : Int32) (a7 : Int32) (a9 : Int32) (a10 : Int32) (h : ra_H) : Option (Int32 × ra_H) :=
  let y1 := a10 + ((1 : Int32))
  let y2 := a9 + (1 : Int32)
  c58 a0 a3 a4 a5 a6 a7 y1 y2 h
def kX12_gap_132 (N : Nat) (c58 : Nat → Int32 → Int32 → Int32 → Int32 → Int32 → Int32 → Int32 → ra_H → Option (Int32 × ra_H)) : Nat → List (Option Value) → List Value → ra_H → Option (Int32 × ra_H) := (ra_k1 58 (fun L S h => match L, S with
  | [some (.ref a0), _, _, some (.int a3), some (.int a4), some (.int a5), some (.int a6), some (.int a7), some (.int a8), some (.int a9), _], [] => c58 a0 a3 a4 a5 a6 a7 a8 a9 h
  | _, _ => none) ra_k0)
theorem kX12_gap_132_ok (N : Nat) (c58 : Nat → Int32 → Int32 → Int32 → Int32 → Int32 → Int32 → Int32 → ra_H → Option (Int32 × ra_H)) (hc58 : ∀ a0 a3 a4 a5 a6 a7 a8 a9 h r, c58 a0 a3 a4 a5 a6 a7 a8 a9 h = some r → ra_Ru 8 mX12_gap 58 [some (.ref a0), none, none, some (.int a3), some (.int a4), some (.int a5), some (.int a6), some (.int a7), some (.int a8), some (.int a9), none] [] h (ra_oI r)) : ra_kok 8 mX12_gap ra_oI (kX12_gap_132 N c58) := (ra_k1_ok (by
  intro L S h a e
  split at e
  · exact ra_Ru.weak (hc58 _ _ _ _ _ _ _ _ _ _ e) ⟨rfl, ⟨rfl, ⟨rfl, ⟨rfl, ⟨rfl, ⟨rfl, ⟨rfl, ⟨rfl, trivial⟩⟩⟩⟩⟩⟩⟩⟩
  · cases e) ra_k0_ok)
set_option maxRecDepth 100000 in
theorem nX12_gap_132_ok (N : Nat) (c58 : Nat → Int32 → Int32 → Int32 → Int32 → Int32 → Int32 → Int32 → ra_H → Option (Int32 × ra_H)) (hc58 : ∀ a0 a3 a4 a5 a6 a7 a8 a9 h r, c58 a0 a3 a4 a5 a6 a7 a8 a9 h = some r → ra_Ru 8 mX12_gap 58 [some (.ref a0), none, none, some (.int a3), some (.int a4), some (.int a5), some (.int a6), some (.int a7), some (.int a8), some (.int a9), none] [] h (ra_oI r)) (a0 : Nat) (a3 : Int32) (a4 : Int32) (a5 : Int32) (a6 : Int32) (a7 : Int32) (a9 : Int32) (a10 : Int32) (h : ra_H) (r : (Int32 × ra_H)) (e : nX12_gap_132 N c58 a0 a3 a4 a5 a6 a7 a9 a10 h = some r) : ra_Ru 8 mX12_gap 132 [some (.ref a0), none, none, some (.int a3), some (.int a4), some (.int a5), some (.int a6), some (.int a7), none, some (.int a9), some (.int a10)] [] h (ra_oI r) :=
  ra_sound (by omega) rfl ra_rI_ok (kX12_gap_132_ok N c58 hc58) (fun m av h h1 e => (tVX12_gap_ok N) m av h h1 e) (fun m av h x h1 e => (tIX12_gap_ok N) m av h (x, h1) e) (fun m av h x h1 e => (ra_c0_ok (ro := ra_oJ)) m av h (x, h1) e) (fun m av h x h1 e => (ra_c0_ok (ro := ra_oR)) m av h (x, h1) e) (fun m av h x h1 e => (ra_c0_ok (ro := ra_oN)) m av h (x, h1) e) (fun m av h x h1 e => (ra_c0_ok (ro := ra_oF)) m av h (x, h1) e) 7 lX12_gap_132 _ _ _ _ lX12_gap_132_ck (show ra_run ra_rI (kX12_gap_132 N c58) (tVX12_gap N) (tIX12_gap N) ra_c0 ra_c0 ra_c0 ra_c0 7 lX12_gap_132 [some (.ref a0), none, none, some (.int a3), some (.int a4), some (.int a5), some (.int a6), some (.int a7), none, some (.int a9), some (.int a10)] [] h = some r from e) _ _ rfl
def lX12_gap_117 : List ra_I := [(117, .istore 7, 2, 7, 0, 0, 0, 0, []),
  (119, .iinc 5 (1), 3, 5, 0, 0, (1), 0, []),
  (122, .iload 6, 2, 6, 0, 0, 0, 0, []),
  (124, .iload 10, 2, 10, 0, 0, 0, 0, []),
  (126, .iload 8, 2, 8, 0, 0, 0, 0, []),
  (128, .isub, 1, 0, 0, 0, 0, 0, []),
  (129, .iadd, 1, 0, 0, 0, 0, 0, []),
  (130, .istore 6, 2, 6, 0, 0, 0, 0, [])]
set_option maxRecDepth 100000 in
theorem lX12_gap_117_ck : lX12_gap_117.all (ra_ck mX12_gap 12) = true := by decide +kernel
def nX12_gap_117 (N : Nat) (c58 : Nat → Int32 → Int32 → Int32 → Int32 → Int32 → Int32 → Int32 → ra_H → Option (Int32 × ra_H)) (a0 : Nat) (a3 : Int32) (a4 : Int32) (a5 : Int32) (a6 : Int32) (a8 : Int32) (a9 : Int32) (a10 : Int32) (b0 : Int32) (h : ra_H) : Option (Int32 × ra_H) :=
  let y1 := a5 + (1 : Int32)
  let y2 := a6 + (a10 - a8)
  nX12_gap_132 N c58 a0 a3 a4 y1 y2 b0 a9 a10 h
def kX12_gap_117 (N : Nat) (c58 : Nat → Int32 → Int32 → Int32 → Int32 → Int32 → Int32 → Int32 → ra_H → Option (Int32 × ra_H)) : Nat → List (Option Value) → List Value → ra_H → Option (Int32 × ra_H) := (ra_k1 132 (fun L S h => match L, S with
  | [some (.ref a0), _, _, some (.int a3), some (.int a4), some (.int a5), some (.int a6), some (.int a7), _, some (.int a9), some (.int a10)], [] => nX12_gap_132 N c58 a0 a3 a4 a5 a6 a7 a9 a10 h
  | _, _ => none) ra_k0)
theorem kX12_gap_117_ok (N : Nat) (c58 : Nat → Int32 → Int32 → Int32 → Int32 → Int32 → Int32 → Int32 → ra_H → Option (Int32 × ra_H)) (hc58 : ∀ a0 a3 a4 a5 a6 a7 a8 a9 h r, c58 a0 a3 a4 a5 a6 a7 a8 a9 h = some r → ra_Ru 8 mX12_gap 58 [some (.ref a0), none, none, some (.int a3), some (.int a4), some (.int a5), some (.int a6), some (.int a7), some (.int a8), some (.int a9), none] [] h (ra_oI r)) : ra_kok 8 mX12_gap ra_oI (kX12_gap_117 N c58) := (ra_k1_ok (by
  intro L S h a e
  split at e
  · exact ra_Ru.weak (nX12_gap_132_ok N c58 hc58 _ _ _ _ _ _ _ _ _ _ e) ⟨rfl, ⟨rfl, ⟨rfl, ⟨rfl, ⟨rfl, ⟨rfl, ⟨rfl, ⟨rfl, trivial⟩⟩⟩⟩⟩⟩⟩⟩
  · cases e) ra_k0_ok)
set_option maxRecDepth 100000 in
theorem nX12_gap_117_ok (N : Nat) (c58 : Nat → Int32 → Int32 → Int32 → Int32 → Int32 → Int32 → Int32 → ra_H → Option (Int32 × ra_H)) (hc58 : ∀ a0 a3 a4 a5 a6 a7 a8 a9 h r, c58 a0 a3 a4 a5 a6 a7 a8 a9 h = some r → ra_Ru 8 mX12_gap 58 [some (.ref a0), none, none, some (.int a3), some (.int a4), some (.int a5), some (.int a6), some (.int a7), some (.int a8), some (.int a9), none] [] h (ra_oI r)) (a0 : Nat) (a3 : Int32) (a4 : Int32) (a5 : Int32) (a6 : Int32) (a8 : Int32) (a9 : Int32) (a10 : Int32) (b0 : Int32) (h : ra_H) (r : (Int32 × ra_H)) (e : nX12_gap_117 N c58 a0 a3 a4 a5 a6 a8 a9 a10 b0 h = some r) : ra_Ru 8 mX12_gap 117 [some (.ref a0), none, none, some (.int a3), some (.int a4), some (.int a5), some (.int a6), none, some (.int a8), some (.int a9), some (.int a10)] [.int b0] h (ra_oI r) :=
  ra_sound (by omega) rfl ra_rI_ok (kX12_gap_117_ok N c58 hc58) (fun m av h h1 e => (tVX12_gap_ok N) m av h h1 e) (fun m av h x h1 e => (tIX12_gap_ok N) m av h (x, h1) e) (fun m av h x h1 e => (ra_c0_ok (ro := ra_oJ)) m av h (x, h1) e) (fun m av h x h1 e => (ra_c0_ok (ro := ra_oR)) m av h (x, h1) e) (fun m av h x h1 e => (ra_c0_ok (ro := ra_oN)) m av h (x, h1) e) (fun m av h x h1 e => (ra_c0_ok (ro := ra_oF)) m av h (x, h1) e) 9 lX12_gap_117 _ _ _ _ lX12_gap_117_ck (show ra_run ra_rI (kX12_gap_117 N c58) (tVX12_gap N) (tIX12_gap N) ra_c0 ra_c0 ra_c0 ra_c0 9 lX12_gap_117 [some (.ref a0), none, none, some (.int a3), some (.int a4), some (.int a5), some (.int a6), none, some (.int a8), some (.int a9), some (.int a10)] [.int b0] h = some r from e) _ _ rfl
def lX12_gap_166 : List ra_I := [(166, .ireturn, 1, 0, 0, 0, 0, 0, [])]
set_option maxRecDepth 100000 in
theorem lX12_gap_166_ck : lX12_gap_166.all (ra_ck mX12_gap 12) = true := by decide +kernel
def nX12_gap_166 (N : Nat) (b0 : Int32) (h : ra_H) : Option (Int32 × ra_H) :=
  some (b0, h)
def kX12_gap_166 (N : Nat) : Nat → List (Option Value) → List Value → ra_H → Option (Int32 × ra_H) := ra_k0
theorem kX12_gap_166_ok (N : Nat) : ra_kok 8 mX12_gap ra_oI (kX12_gap_166 N) := ra_k0_ok
set_option maxRecDepth 100000 in
theorem nX12_gap_166_ok (N : Nat) (b0 : Int32) (h : ra_H) (r : (Int32 × ra_H)) (e : nX12_gap_166 N b0 h = some r) : ra_Ru 8 mX12_gap 166 [none, none, none, none, none, none, none, none, none, none, none] [.int b0] h (ra_oI r) :=
  ra_sound (by omega) rfl ra_rI_ok (kX12_gap_166_ok N) (fun m av h h1 e => (tVX12_gap_ok N) m av h h1 e) (fun m av h x h1 e => (tIX12_gap_ok N) m av h (x, h1) e) (fun m av h x h1 e => (ra_c0_ok (ro := ra_oJ)) m av h (x, h1) e) (fun m av h x h1 e => (ra_c0_ok (ro := ra_oR)) m av h (x, h1) e) (fun m av h x h1 e => (ra_c0_ok (ro := ra_oN)) m av h (x, h1) e) (fun m av h x h1 e => (ra_c0_ok (ro := ra_oF)) m av h (x, h1) e) 2 lX12_gap_166 _ _ _ _ lX12_gap_166_ck (show ra_run ra_rI (kX12_gap_166 N) (tVX12_gap N) (tIX12_gap N) ra_c0 ra_c0 ra_c0 ra_c0 2 lX12_gap_166 [none, none, none, none, none, none, none, none, none, none, none] [.int b0] h = some r from e) _ _ rfl
def lX12_gap_58 : List ra_I := [(58, .iload 9, 2, 9, 0, 0, 0, 0, []),
  (60, .aload_n 0, 1, 0, 0, 0, 0, 0, []),
  (61, .getfield 428, 3, 12, 43, 0, 0, 0, []),
  (64, .if_icmp .ge (80), 3, 144, 0, 0, 0, 0, []),
  (67, .aload_n 0, 1, 0, 0, 0, 0, 0, []),
  (68, .getfield 104, 3, 12, 40, 2, 0, 0, []),
  (71, .aload_n 0, 1, 0, 0, 0, 0, 0, []),
  (72, .getfield 107, 3, 12, 42, 2, 0, 0, []),
  (75, .iload 9, 2, 9, 0, 0, 0, 0, []),
  (77, .iaload, 1, 0, 0, 0, 0, 0, []),
  (78, .iaload, 1, 0, 0, 0, 0, 0, []),
  (79, .bipush (100), 2, 0, 0, 0, (100), 0, []),
  (81, .irem, 1, 0, 0, 0, 0, 0, []),
  (82, .istore 10, 2, 10, 0, 0, 0, 0, []),
  (84, .iload 10, 2, 10, 0, 0, 0, 0, []),
  (86, .iload 8, 2, 8, 0, 0, 0, 0, []),
  (88, .if_icmp .le (44), 3, 132, 0, 0, 0, 0, []),
  (91, .iload 5, 2, 5, 0, 0, 0, 0, []),
  (93, .iload_n 3, 1, 3, 0, 0, 0, 0, []),
  (94, .if_icmp .ne (21), 3, 115, 0, 0, 0, 0, []),
  (97, .iload 4, 2, 4, 0, 0, 0, 0, []),
  (99, .ifCond .ne (8), 3, 107, 0, 0, 0, 0, []),
  (102, .iload 8, 2, 8, 0, 0, 0, 0, []),
  (104, .goto (13), 3, 117, 0, 0, 0, 0, []),
  (107, .iload 10, 2, 10, 0, 0, 0, 0, []),
  (109, .iload 8, 2, 8, 0, 0, 0, 0, []),
  (111, .isub, 1, 0, 0, 0, 0, 0, []),
  (112, .goto (5), 3, 117, 0, 0, 0, 0, []),
  (115, .iload 7, 2, 7, 0, 0, 0, 0, []),
  (144, .iload_n 3, 1, 3, 0, 0, 0, 0, []),
  (145, .iconst (-1), 1, 0, 0, 0, (-1), 0, []),
  (146, .if_icmp .ne (18), 3, 164, 0, 0, 0, 0, []),
  (149, .iload 4, 2, 4, 0, 0, 0, 0, []),
  (151, .ifCond .ne (8), 3, 159, 0, 0, 0, 0, []),
  (154, .iload 5, 2, 5, 0, 0, 0, 0, []),
  (156, .goto (10), 3, 166, 0, 0, 0, 0, []),
  (159, .iload 6, 2, 6, 0, 0, 0, 0, []),
  (161, .goto (5), 3, 166, 0, 0, 0, 0, []),
  (164, .iload 7, 2, 7, 0, 0, 0, 0, [])]
set_option maxRecDepth 100000 in
theorem lX12_gap_58_ck : lX12_gap_58.all (ra_ck mX12_gap 12) = true := by decide +kernel
def nX12_gap_58 (N : Nat) : Nat → Nat → Int32 → Int32 → Int32 → Int32 → Int32 → Int32 → Int32 → ra_H → Option (Int32 × ra_H)
  | 0, _, _, _, _, _, _, _, _, _ => none
  | n + 1, a0, a3, a4, a5, a6, a7, a8, a9, h =>
  (ra_fI h 12 a0 43).bind fun x1 =>
  if a9 < x1 then
    (ra_fR h 12 a0 40).bind fun x2 =>
    (ra_fR h 12 a0 42).bind fun x3 =>
    (ra_aI h 0 x3 a9).bind fun x4 =>
    (ra_aI h 0 x2 x4).bind fun x5 =>
    if ((100 : Int32)) = 0 then none else
    let y6 := x5 - x5 / ((100 : Int32)) * ((100 : Int32))
    if y6 ≤ a8 then
      nX12_gap_132 N (nX12_gap_58 N n) a0 a3 a4 a5 a6 a7 a9 y6 h
    else
      if a5 = a3 then
        if a4 = 0 then
          nX12_gap_117 N (nX12_gap_58 N n) a0 a3 a4 a5 a6 a8 a9 y6 a8 h
        else
          nX12_gap_117 N (nX12_gap_58 N n) a0 a3 a4 a5 a6 a8 a9 y6 (y6 - a8) h
      else
        nX12_gap_117 N (nX12_gap_58 N n) a0 a3 a4 a5 a6 a8 a9 y6 a7 h
  else
    if a3 = ((-1 : Int32)) then
      if a4 = 0 then
        nX12_gap_166 N a5 h
      else
        nX12_gap_166 N a6 h
    else
      nX12_gap_166 N a7 h
def kX12_gap_58 (N : Nat) (cs : Nat → Int32 → Int32 → Int32 → Int32 → Int32 → Int32 → Int32 → ra_H → Option (Int32 × ra_H)) : Nat → List (Option Value) → List Value → ra_H → Option (Int32 × ra_H) := (ra_k1 117 (fun L S h => match L, S with
  | [some (.ref a0), _, _, some (.int a3), some (.int a4), some (.int a5), some (.int a6), _, some (.int a8), some (.int a9), some (.int a10)], [.int b0] => nX12_gap_117 N cs a0 a3 a4 a5 a6 a8 a9 a10 b0 h
  | _, _ => none) (ra_k1 132 (fun L S h => match L, S with
  | [some (.ref a0), _, _, some (.int a3), some (.int a4), some (.int a5), some (.int a6), some (.int a7), _, some (.int a9), some (.int a10)], [] => nX12_gap_132 N cs a0 a3 a4 a5 a6 a7 a9 a10 h
  | _, _ => none) (ra_k1 166 (fun L S h => match L, S with
  | [_, _, _, _, _, _, _, _, _, _, _], [.int b0] => nX12_gap_166 N b0 h
  | _, _ => none) ra_k0)))
theorem kX12_gap_58_ok (N : Nat) (cs : Nat → Int32 → Int32 → Int32 → Int32 → Int32 → Int32 → Int32 → ra_H → Option (Int32 × ra_H)) (hcs : ∀ a0 a3 a4 a5 a6 a7 a8 a9 h r, cs a0 a3 a4 a5 a6 a7 a8 a9 h = some r → ra_Ru 8 mX12_gap 58 [some (.ref a0), none, none, some (.int a3), some (.int a4), some (.int a5), some (.int a6), some (.int a7), some (.int a8), some (.int a9), none] [] h (ra_oI r)) : ra_kok 8 mX12_gap ra_oI (kX12_gap_58 N cs) := (ra_k1_ok (by
  intro L S h a e
  split at e
  · exact ra_Ru.weak (nX12_gap_117_ok N cs hcs _ _ _ _ _ _ _ _ _ _ _ e) ⟨rfl, ⟨rfl, ⟨rfl, ⟨rfl, ⟨rfl, ⟨rfl, ⟨rfl, ⟨rfl, trivial⟩⟩⟩⟩⟩⟩⟩⟩
  · cases e) (ra_k1_ok (by
  intro L S h a e
  split at e
  · exact ra_Ru.weak (nX12_gap_132_ok N cs hcs _ _ _ _ _ _ _ _ _ _ e) ⟨rfl, ⟨rfl, ⟨rfl, ⟨rfl, ⟨rfl, ⟨rfl, ⟨rfl, ⟨rfl, trivial⟩⟩⟩⟩⟩⟩⟩⟩
  · cases e) (ra_k1_ok (by
  intro L S h a e
  split at e
  · exact ra_Ru.weak (nX12_gap_166_ok N _ _ _ e) trivial
  · cases e) ra_k0_ok)))
set_option maxRecDepth 100000 in
theorem nX12_gap_58_ok (N : Nat) : ∀ n a0 a3 a4 a5 a6 a7 a8 a9 h r, nX12_gap_58 N n a0 a3 a4 a5 a6 a7 a8 a9 h = some r → ra_Ru 8 mX12_gap 58 [some (.ref a0), none, none, some (.int a3), some (.int a4), some (.int a5), some (.int a6), some (.int a7), some (.int a8), some (.int a9), none] [] h (ra_oI r) := by
  intro n
  induction n with
  | zero => intro a0 a3 a4 a5 a6 a7 a8 a9 h r e; cases e
  | succ n ih =>
    intro a0 a3 a4 a5 a6 a7 a8 a9 h r e
    exact ra_sound (by omega) rfl ra_rI_ok (kX12_gap_58_ok N (nX12_gap_58 N n) ih) (fun m av h h1 e => (tVX12_gap_ok N) m av h h1 e) (fun m av h x h1 e => (tIX12_gap_ok N) m av h (x, h1) e) (fun m av h x h1 e => (ra_c0_ok (ro := ra_oJ)) m av h (x, h1) e) (fun m av h x h1 e => (ra_c0_ok (ro := ra_oR)) m av h (x, h1) e) (fun m av h x h1 e => (ra_c0_ok (ro := ra_oN)) m av h (x, h1) e) (fun m av h x h1 e => (ra_c0_ok (ro := ra_oF)) m av h (x, h1) e) 40 lX12_gap_58 _ _ _ _ lX12_gap_58_ck (show ra_run ra_rI (kX12_gap_58 N (nX12_gap_58 N n)) (tVX12_gap N) (tIX12_gap N) ra_c0 ra_c0 ra_c0 ra_c0 40 lX12_gap_58 [some (.ref a0), none, none, some (.int a3), some (.int a4), some (.int a5), some (.int a6), some (.int a7), some (.int a8), some (.int a9), none] [] h = some r from e) _ _ rfl
def lX12_gap_0 : List ra_I := [(0, .aload_n 0, 1, 0, 0, 0, 0, 0, []),
  (1, .iconst (0), 1, 0, 0, 0, (0), 0, []),
  (2, .putfield 147, 3, 12, 0, 0, 0, 0, []),
  (5, .iload_n 1, 1, 1, 0, 0, 0, 0, []),
  (6, .iload_n 2, 1, 2, 0, 0, 0, 0, []),
  (7, .invokestatic 205, 3, 224, 2, 1, 0, 0, []),
  (10, .ifCond .eq (21), 3, 31, 0, 0, 0, 0, []),
  (13, .iload 4, 2, 4, 0, 0, 0, 0, []),
  (15, .i2l, 1, 0, 0, 0, 0, 0, []),
  (16, .lconst 0, 1, 0, 0, 0, 0, 0, []),
  (17, .lconst 1, 1, 0, 0, 0, 0, 1, []),
  (18, .invokestatic 153, 3, 209, 3, 1, 0, 0, []),
  (21, .ifCond .eq (10), 3, 31, 0, 0, 0, 0, []),
  (24, .aload_n 0, 1, 0, 0, 0, 0, 0, []),
  (25, .invokevirtual 425, 3, 269, 1, 1, 0, 0, []),
  (28, .ifCond .ne (5), 3, 33, 0, 0, 0, 0, []),
  (33, .aload_n 0, 1, 0, 0, 0, 0, 0, []),
  (34, .bipush (6), 2, 0, 0, 0, (6), 0, []),
  (36, .iload_n 1, 1, 1, 0, 0, 0, 0, []),
  (37, .imul, 1, 0, 0, 0, 0, 0, []),
  (38, .iload_n 2, 1, 2, 0, 0, 0, 0, []),
  (39, .iadd, 1, 0, 0, 0, 0, 0, []),
  (40, .invokevirtual 431, 3, 271, 2, 0, 0, 0, []),
  (43, .iconst (0), 1, 0, 0, 0, (0), 0, []),
  (44, .istore 5, 2, 5, 0, 0, 0, 0, []),
  (46, .iconst (0), 1, 0, 0, 0, (0), 0, []),
  (47, .istore 6, 2, 6, 0, 0, 0, 0, []),
  (49, .iconst (-1), 1, 0, 0, 0, (-1), 0, []),
  (50, .istore 7, 2, 7, 0, 0, 0, 0, []),
  (52, .iconst (1), 1, 0, 0, 0, (1), 0, []),
  (53, .istore 8, 2, 8, 0, 0, 0, 0, []),
  (55, .iconst (0), 1, 0, 0, 0, (0), 0, []),
  (56, .istore 9, 2, 9, 0, 0, 0, 0, [])]
set_option maxRecDepth 100000 in
theorem lX12_gap_0_ck : lX12_gap_0.all (ra_ck mX12_gap 12) = true := by decide +kernel
def nX12_gap_0 (N : Nat) (a0 : Nat) (a1 : Int32) (a2 : Int32) (a3 : Int32) (a4 : Int32) (h : ra_H) : Option (Int32 × ra_H) :=
  (ra_fW h 12 a0 0 (.int ((0 : Int32)))).bind fun h1 =>
  (fX12_isShelf N a1 a2 h1).bind fun q2 =>
  if q2.1 = 0 then
    nX12_gap_31 N q2.2
  else
    (fX12_in N (Int32.toInt64 a4) ((0 : Int64)) ((1 : Int64)) q2.2).bind fun q3 =>
    if q3.1 = 0 then
      nX12_gap_31 N q3.2
    else
      (fX12_lookKept N a0 q3.2).bind fun q4 =>
      if q4.1 = 0 then
        nX12_gap_31 N q4.2
      else
        (fX12_lookAt N a0 ((((6 : Int32)) * a1) + a2) q4.2).bind fun h5 =>
        nX12_gap_58 N N a0 a3 a4 ((0 : Int32)) ((0 : Int32)) ((-1 : Int32)) ((1 : Int32)) ((0 : Int32)) h5
def kX12_gap_0 (N : Nat) : Nat → List (Option Value) → List Value → ra_H → Option (Int32 × ra_H) := (ra_k1 31 (fun L S h => match L, S with
  | [_, _, _, _, _, _, _, _, _, _, _], [] => nX12_gap_31 N h
  | _, _ => none) (ra_k1 58 (fun L S h => match L, S with
  | [some (.ref a0), _, _, some (.int a3), some (.int a4), some (.int a5), some (.int a6), some (.int a7), some (.int a8), some (.int a9), _], [] => nX12_gap_58 N N a0 a3 a4 a5 a6 a7 a8 a9 h
  | _, _ => none) ra_k0))
theorem kX12_gap_0_ok (N : Nat) : ra_kok 8 mX12_gap ra_oI (kX12_gap_0 N) := (ra_k1_ok (by
  intro L S h a e
  split at e
  · exact ra_Ru.weak (nX12_gap_31_ok N _ _ e) trivial
  · cases e) (ra_k1_ok (by
  intro L S h a e
  split at e
  · exact ra_Ru.weak (nX12_gap_58_ok N N _ _ _ _ _ _ _ _ _ _ e) ⟨rfl, ⟨rfl, ⟨rfl, ⟨rfl, ⟨rfl, ⟨rfl, ⟨rfl, ⟨rfl, trivial⟩⟩⟩⟩⟩⟩⟩⟩
  · cases e) ra_k0_ok))
set_option maxRecDepth 100000 in
theorem nX12_gap_0_ok (N : Nat) (a0 : Nat) (a1 : Int32) (a2 : Int32) (a3 : Int32) (a4 : Int32) (h : ra_H) (r : (Int32 × ra_H)) (e : nX12_gap_0 N a0 a1 a2 a3 a4 h = some r) : ra_Ru 8 mX12_gap 0 [some (.ref a0), some (.int a1), some (.int a2), some (.int a3), some (.int a4), none, none, none, none, none, none] [] h (ra_oI r) :=
  ra_sound (by omega) rfl ra_rI_ok (kX12_gap_0_ok N) (fun m av h h1 e => (tVX12_gap_ok N) m av h h1 e) (fun m av h x h1 e => (tIX12_gap_ok N) m av h (x, h1) e) (fun m av h x h1 e => (ra_c0_ok (ro := ra_oJ)) m av h (x, h1) e) (fun m av h x h1 e => (ra_c0_ok (ro := ra_oR)) m av h (x, h1) e) (fun m av h x h1 e => (ra_c0_ok (ro := ra_oN)) m av h (x, h1) e) (fun m av h x h1 e => (ra_c0_ok (ro := ra_oF)) m av h (x, h1) e) 34 lX12_gap_0 _ _ _ _ lX12_gap_0_ck (show ra_run ra_rI (kX12_gap_0 N) (tVX12_gap N) (tIX12_gap N) ra_c0 ra_c0 ra_c0 ra_c0 34 lX12_gap_0 [some (.ref a0), some (.int a1), some (.int a2), some (.int a3), some (.int a4), none, none, none, none, none, none] [] h = some r from e) _ _ rfl
def fX12_gap (N : Nat) (p0 : Nat) (p1 : Int32) (p2 : Int32) (p3 : Int32) (p4 : Int32) (h : ra_H) : Option (Int32 × ra_H) := match ra_isOb h p0 12 with
  | true => nX12_gap_0 N p0 p1 p2 p3 p4 h
  | false => none
set_option maxRecDepth 100000 in
theorem mtX12_gap : ra_MT[274]? = some (mX12_gap, 1, 4, (1, 13), (8, 134), (8, 135)) := rfl
theorem fX12_gap_co (N : Nat) (p0 : Nat) (p1 : Int32) (p2 : Int32) (p3 : Int32) (p4 : Int32) (h : ra_H) (r : (Int32 × ra_H)) (e : fX12_gap N p0 p1 p2 p3 p4 h = some r) (D : Nat) (hD : 9 ≤ D) : ra_CO D 274 [.ref p0, .int p1, .int p2, .int p3, .int p4] h (ra_oI r).1 (ra_oI r).2 := by
  have hw : ra_nw2 [.ref p0, .int p1, .int p2, .int p3, .int p4] ≤ 11 := Nat.le_of_ble_eq_true rfl
  have hdb : ∀ v ∈ ([.ref p0, .int p1, .int p2, .int p3, .int p4] : List Value), ∀ x, v ≠ .double x := by
    intro v hv x hx
    simp [hx] at hv
  unfold fX12_gap at e
  split at e
  · rename_i ho
    have e1 := e
    exact ⟨8, _, mtX12_gap, hD, ra_ev_of (by decide) hdb hw trivial (ra_Ru.weak (nX12_gap_0_ok N p0 p1 p2 p3 p4 h _ e1) ⟨rfl, ⟨rfl, ⟨rfl, ⟨rfl, ⟨rfl, trivial⟩⟩⟩⟩⟩), (fun _ => ⟨_, _, rfl, ra_rcv_of ho (by decide) rfl⟩), (fun h => absurd h (by decide))⟩
  · cases e
/-! RedMarksModel.grew(III)I -/
def mX12_grew : ra_M := (yX12_grew, cX12_grew, 6, (some .int))
def tIX12_grew (N : Nat) : Nat → List Value → ra_H → Option (Int32 × ra_H) := (ra_c1 209 (fun av h => match av with
  | [.long z0, .long z1, .long z2] => fX12_in N z0 z1 z2 h
  | _ => none) ra_c0)
theorem tIX12_grew_ok (N : Nat) : ra_cok 2 ra_oI (tIX12_grew N) := (ra_c1_ok (by
  intro av h a e
  split at e
  · exact fX12_in_co N _ _ _ _ _ e 2 (by omega)
  · cases e) ra_c0_ok)
def lX12_grew_43 : List ra_I := [(43, .iconst (-1), 1, 0, 0, 0, (-1), 0, []),
  (44, .ireturn, 1, 0, 0, 0, 0, 0, [])]
set_option maxRecDepth 100000 in
theorem lX12_grew_43_ck : lX12_grew_43.all (ra_ck mX12_grew 12) = true := by decide +kernel
def nX12_grew_43 (N : Nat) (h : ra_H) : Option (Int32 × ra_H) :=
  some ((-1 : Int32), h)
def kX12_grew_43 (N : Nat) : Nat → List (Option Value) → List Value → ra_H → Option (Int32 × ra_H) := ra_k0
theorem kX12_grew_43_ok (N : Nat) : ra_kok 2 mX12_grew ra_oI (kX12_grew_43 N) := ra_k0_ok
set_option maxRecDepth 100000 in
theorem nX12_grew_43_ok (N : Nat) (h : ra_H) (r : (Int32 × ra_H)) (e : nX12_grew_43 N h = some r) : ra_Ru 2 mX12_grew 43 [none, none, none, none, none, none] [] h (ra_oI r) :=
  ra_sound (by omega) rfl ra_rI_ok (kX12_grew_43_ok N) (fun m av h h1 e => (ra_c0_ok (ro := ra_oV)) m av h h1 e) (fun m av h x h1 e => (tIX12_grew_ok N) m av h (x, h1) e) (fun m av h x h1 e => (ra_c0_ok (ro := ra_oJ)) m av h (x, h1) e) (fun m av h x h1 e => (ra_c0_ok (ro := ra_oR)) m av h (x, h1) e) (fun m av h x h1 e => (ra_c0_ok (ro := ra_oN)) m av h (x, h1) e) (fun m av h x h1 e => (ra_c0_ok (ro := ra_oF)) m av h (x, h1) e) 3 lX12_grew_43 _ _ _ _ lX12_grew_43_ck (show ra_run ra_rI (kX12_grew_43 N) ra_c0 (tIX12_grew N) ra_c0 ra_c0 ra_c0 ra_c0 3 lX12_grew_43 [none, none, none, none, none, none] [] h = some r from e) _ _ rfl
def lX12_grew_120 : List ra_I := [(120, .iadd, 1, 0, 0, 0, 0, 0, []),
  (121, .istore 4, 2, 4, 0, 0, 0, 0, []),
  (123, .iinc 5 (1), 3, 5, 0, 0, (1), 0, []),
  (126, .goto (-75), 3, 51, 0, 0, 0, 0, [])]
set_option maxRecDepth 100000 in
theorem lX12_grew_120_ck : lX12_grew_120.all (ra_ck mX12_grew 12) = true := by decide +kernel
def nX12_grew_120 (N : Nat) (c51 : Nat → Int32 → Int32 → Int32 → Int32 → Int32 → ra_H → Option (Int32 × ra_H)) (a0 : Nat) (a1 : Int32) (a2 : Int32) (a3 : Int32) (a5 : Int32) (b0 : Int32) (b1 : Int32) (h : ra_H) : Option (Int32 × ra_H) :=
  let y1 := b0 + b1
  let y2 := a5 + (1 : Int32)
  c51 a0 a1 a2 a3 y1 y2 h
def kX12_grew_120 (N : Nat) (c51 : Nat → Int32 → Int32 → Int32 → Int32 → Int32 → ra_H → Option (Int32 × ra_H)) : Nat → List (Option Value) → List Value → ra_H → Option (Int32 × ra_H) := (ra_k1 51 (fun L S h => match L, S with
  | [some (.ref a0), some (.int a1), some (.int a2), some (.int a3), some (.int a4), some (.int a5)], [] => c51 a0 a1 a2 a3 a4 a5 h
  | _, _ => none) ra_k0)
theorem kX12_grew_120_ok (N : Nat) (c51 : Nat → Int32 → Int32 → Int32 → Int32 → Int32 → ra_H → Option (Int32 × ra_H)) (hc51 : ∀ a0 a1 a2 a3 a4 a5 h r, c51 a0 a1 a2 a3 a4 a5 h = some r → ra_Ru 2 mX12_grew 51 [some (.ref a0), some (.int a1), some (.int a2), some (.int a3), some (.int a4), some (.int a5)] [] h (ra_oI r)) : ra_kok 2 mX12_grew ra_oI (kX12_grew_120 N c51) := (ra_k1_ok (by
  intro L S h a e
  split at e
  · exact ra_Ru.weak (hc51 _ _ _ _ _ _ _ _ e) ⟨rfl, ⟨rfl, ⟨rfl, ⟨rfl, ⟨rfl, ⟨rfl, trivial⟩⟩⟩⟩⟩⟩
  · cases e) ra_k0_ok)
set_option maxRecDepth 100000 in
theorem nX12_grew_120_ok (N : Nat) (c51 : Nat → Int32 → Int32 → Int32 → Int32 → Int32 → ra_H → Option (Int32 × ra_H)) (hc51 : ∀ a0 a1 a2 a3 a4 a5 h r, c51 a0 a1 a2 a3 a4 a5 h = some r → ra_Ru 2 mX12_grew 51 [some (.ref a0), some (.int a1), some (.int a2), some (.int a3), some (.int a4), some (.int a5)] [] h (ra_oI r)) (a0 : Nat) (a1 : Int32) (a2 : Int32) (a3 : Int32) (a5 : Int32) (b0 : Int32) (b1 : Int32) (h : ra_H) (r : (Int32 × ra_H)) (e : nX12_grew_120 N c51 a0 a1 a2 a3 a5 b0 b1 h = some r) : ra_Ru 2 mX12_grew 120 [some (.ref a0), some (.int a1), some (.int a2), some (.int a3), none, some (.int a5)] [.int b1, .int b0] h (ra_oI r) :=
  ra_sound (by omega) rfl ra_rI_ok (kX12_grew_120_ok N c51 hc51) (fun m av h h1 e => (ra_c0_ok (ro := ra_oV)) m av h h1 e) (fun m av h x h1 e => (tIX12_grew_ok N) m av h (x, h1) e) (fun m av h x h1 e => (ra_c0_ok (ro := ra_oJ)) m av h (x, h1) e) (fun m av h x h1 e => (ra_c0_ok (ro := ra_oR)) m av h (x, h1) e) (fun m av h x h1 e => (ra_c0_ok (ro := ra_oN)) m av h (x, h1) e) (fun m av h x h1 e => (ra_c0_ok (ro := ra_oF)) m av h (x, h1) e) 5 lX12_grew_120 _ _ _ _ lX12_grew_120_ck (show ra_run ra_rI (kX12_grew_120 N c51) ra_c0 (tIX12_grew N) ra_c0 ra_c0 ra_c0 ra_c0 5 lX12_grew_120 [some (.ref a0), some (.int a1), some (.int a2), some (.int a3), none, some (.int a5)] [.int b1, .int b0] h = some r from e) _ _ rfl
def lX12_grew_115 : List ra_I := [(115, .iconst (1), 1, 0, 0, 0, (1), 0, []),
  (116, .goto (4), 3, 120, 0, 0, 0, 0, [])]
set_option maxRecDepth 100000 in
theorem lX12_grew_115_ck : lX12_grew_115.all (ra_ck mX12_grew 12) = true := by decide +kernel
def nX12_grew_115 (N : Nat) (c51 : Nat → Int32 → Int32 → Int32 → Int32 → Int32 → ra_H → Option (Int32 × ra_H)) (a0 : Nat) (a1 : Int32) (a2 : Int32) (a3 : Int32) (a5 : Int32) (b0 : Int32) (h : ra_H) : Option (Int32 × ra_H) :=
  nX12_grew_120 N c51 a0 a1 a2 a3 a5 b0 ((1 : Int32)) h
def kX12_grew_115 (N : Nat) (c51 : Nat → Int32 → Int32 → Int32 → Int32 → Int32 → ra_H → Option (Int32 × ra_H)) : Nat → List (Option Value) → List Value → ra_H → Option (Int32 × ra_H) := (ra_k1 120 (fun L S h => match L, S with
  | [some (.ref a0), some (.int a1), some (.int a2), some (.int a3), _, some (.int a5)], [.int b1, .int b0] => nX12_grew_120 N c51 a0 a1 a2 a3 a5 b0 b1 h
  | _, _ => none) ra_k0)
theorem kX12_grew_115_ok (N : Nat) (c51 : Nat → Int32 → Int32 → Int32 → Int32 → Int32 → ra_H → Option (Int32 × ra_H)) (hc51 : ∀ a0 a1 a2 a3 a4 a5 h r, c51 a0 a1 a2 a3 a4 a5 h = some r → ra_Ru 2 mX12_grew 51 [some (.ref a0), some (.int a1), some (.int a2), some (.int a3), some (.int a4), some (.int a5)] [] h (ra_oI r)) : ra_kok 2 mX12_grew ra_oI (kX12_grew_115 N c51) := (ra_k1_ok (by
  intro L S h a e
  split at e
  · exact ra_Ru.weak (nX12_grew_120_ok N c51 hc51 _ _ _ _ _ _ _ _ _ e) ⟨rfl, ⟨rfl, ⟨rfl, ⟨rfl, ⟨rfl, trivial⟩⟩⟩⟩⟩
  · cases e) ra_k0_ok)
set_option maxRecDepth 100000 in
theorem nX12_grew_115_ok (N : Nat) (c51 : Nat → Int32 → Int32 → Int32 → Int32 → Int32 → ra_H → Option (Int32 × ra_H)) (hc51 : ∀ a0 a1 a2 a3 a4 a5 h r, c51 a0 a1 a2 a3 a4 a5 h = some r → ra_Ru 2 mX12_grew 51 [some (.ref a0), some (.int a1), some (.int a2), some (.int a3), some (.int a4), some (.int a5)] [] h (ra_oI r)) (a0 : Nat) (a1 : Int32) (a2 : Int32) (a3 : Int32) (a5 : Int32) (b0 : Int32) (h : ra_H) (r : (Int32 × ra_H)) (e : nX12_grew_115 N c51 a0 a1 a2 a3 a5 b0 h = some r) : ra_Ru 2 mX12_grew 115 [some (.ref a0), some (.int a1), some (.int a2), some (.int a3), none, some (.int a5)] [.int b0] h (ra_oI r) :=
  ra_sound (by omega) rfl ra_rI_ok (kX12_grew_115_ok N c51 hc51) (fun m av h h1 e => (ra_c0_ok (ro := ra_oV)) m av h h1 e) (fun m av h x h1 e => (tIX12_grew_ok N) m av h (x, h1) e) (fun m av h x h1 e => (ra_c0_ok (ro := ra_oJ)) m av h (x, h1) e) (fun m av h x h1 e => (ra_c0_ok (ro := ra_oR)) m av h (x, h1) e) (fun m av h x h1 e => (ra_c0_ok (ro := ra_oN)) m av h (x, h1) e) (fun m av h x h1 e => (ra_c0_ok (ro := ra_oF)) m av h (x, h1) e) 3 lX12_grew_115 _ _ _ _ lX12_grew_115_ck (show ra_run ra_rI (kX12_grew_115 N c51) ra_c0 (tIX12_grew N) ra_c0 ra_c0 ra_c0 ra_c0 3 lX12_grew_115 [some (.ref a0), some (.int a1), some (.int a2), some (.int a3), none, some (.int a5)] [.int b0] h = some r from e) _ _ rfl
def lX12_grew_119 : List ra_I := [(119, .iconst (0), 1, 0, 0, 0, (0), 0, [])]
set_option maxRecDepth 100000 in
theorem lX12_grew_119_ck : lX12_grew_119.all (ra_ck mX12_grew 12) = true := by decide +kernel
def nX12_grew_119 (N : Nat) (c51 : Nat → Int32 → Int32 → Int32 → Int32 → Int32 → ra_H → Option (Int32 × ra_H)) (a0 : Nat) (a1 : Int32) (a2 : Int32) (a3 : Int32) (a5 : Int32) (b0 : Int32) (h : ra_H) : Option (Int32 × ra_H) :=
  nX12_grew_120 N c51 a0 a1 a2 a3 a5 b0 ((0 : Int32)) h
def kX12_grew_119 (N : Nat) (c51 : Nat → Int32 → Int32 → Int32 → Int32 → Int32 → ra_H → Option (Int32 × ra_H)) : Nat → List (Option Value) → List Value → ra_H → Option (Int32 × ra_H) := (ra_k1 120 (fun L S h => match L, S with
  | [some (.ref a0), some (.int a1), some (.int a2), some (.int a3), _, some (.int a5)], [.int b1, .int b0] => nX12_grew_120 N c51 a0 a1 a2 a3 a5 b0 b1 h
  | _, _ => none) ra_k0)
theorem kX12_grew_119_ok (N : Nat) (c51 : Nat → Int32 → Int32 → Int32 → Int32 → Int32 → ra_H → Option (Int32 × ra_H)) (hc51 : ∀ a0 a1 a2 a3 a4 a5 h r, c51 a0 a1 a2 a3 a4 a5 h = some r → ra_Ru 2 mX12_grew 51 [some (.ref a0), some (.int a1), some (.int a2), some (.int a3), some (.int a4), some (.int a5)] [] h (ra_oI r)) : ra_kok 2 mX12_grew ra_oI (kX12_grew_119 N c51) := (ra_k1_ok (by
  intro L S h a e
  split at e
  · exact ra_Ru.weak (nX12_grew_120_ok N c51 hc51 _ _ _ _ _ _ _ _ _ e) ⟨rfl, ⟨rfl, ⟨rfl, ⟨rfl, ⟨rfl, trivial⟩⟩⟩⟩⟩
  · cases e) ra_k0_ok)
set_option maxRecDepth 100000 in
theorem nX12_grew_119_ok (N : Nat) (c51 : Nat → Int32 → Int32 → Int32 → Int32 → Int32 → ra_H → Option (Int32 × ra_H)) (hc51 : ∀ a0 a1 a2 a3 a4 a5 h r, c51 a0 a1 a2 a3 a4 a5 h = some r → ra_Ru 2 mX12_grew 51 [some (.ref a0), some (.int a1), some (.int a2), some (.int a3), some (.int a4), some (.int a5)] [] h (ra_oI r)) (a0 : Nat) (a1 : Int32) (a2 : Int32) (a3 : Int32) (a5 : Int32) (b0 : Int32) (h : ra_H) (r : (Int32 × ra_H)) (e : nX12_grew_119 N c51 a0 a1 a2 a3 a5 b0 h = some r) : ra_Ru 2 mX12_grew 119 [some (.ref a0), some (.int a1), some (.int a2), some (.int a3), none, some (.int a5)] [.int b0] h (ra_oI r) :=
  ra_sound (by omega) rfl ra_rI_ok (kX12_grew_119_ok N c51 hc51) (fun m av h h1 e => (ra_c0_ok (ro := ra_oV)) m av h h1 e) (fun m av h x h1 e => (tIX12_grew_ok N) m av h (x, h1) e) (fun m av h x h1 e => (ra_c0_ok (ro := ra_oJ)) m av h (x, h1) e) (fun m av h x h1 e => (ra_c0_ok (ro := ra_oR)) m av h (x, h1) e) (fun m av h x h1 e => (ra_c0_ok (ro := ra_oN)) m av h (x, h1) e) (fun m av h x h1 e => (ra_c0_ok (ro := ra_oF)) m av h (x, h1) e) 2 lX12_grew_119 _ _ _ _ lX12_grew_119_ck (show ra_run ra_rI (kX12_grew_119 N c51) ra_c0 (tIX12_grew N) ra_c0 ra_c0 ra_c0 ra_c0 2 lX12_grew_119 [some (.ref a0), some (.int a1), some (.int a2), some (.int a3), none, some (.int a5)] [.int b0] h = some r from e) _ _ rfl
def lX12_grew_51 : List ra_I := [(51, .iload 5, 2, 5, 0, 0, 0, 0, []),
  (53, .aload_n 0, 1, 0, 0, 0, 0, 0, []),
  (54, .getfield 13, 3, 12, 3, 2, 0, 0, []),
  (57, .sipush (480), 3, 0, 0, 0, (480), 0, []),
  (60, .iaload, 1, 0, 0, 0, 0, 0, []),
  (61, .if_icmp .ge (68), 3, 129, 0, 0, 0, 0, []),
  (64, .iload 4, 2, 4, 0, 0, 0, 0, []),
  (66, .aload_n 0, 1, 0, 0, 0, 0, 0, []),
  (67, .getfield 13, 3, 12, 3, 2, 0, 0, []),
  (70, .bipush (12), 2, 0, 0, 0, (12), 0, []),
  (72, .iload 5, 2, 5, 0, 0, 0, 0, []),
  (74, .imul, 1, 0, 0, 0, 0, 0, []),
  (75, .iconst (2), 1, 0, 0, 0, (2), 0, []),
  (76, .iadd, 1, 0, 0, 0, 0, 0, []),
  (77, .iaload, 1, 0, 0, 0, 0, 0, []),
  (78, .i2l, 1, 0, 0, 0, 0, 0, []),
  (79, .iload_n 1, 1, 1, 0, 0, 0, 0, []),
  (80, .i2l, 1, 0, 0, 0, 0, 0, []),
  (81, .iload_n 1, 1, 1, 0, 0, 0, 0, []),
  (82, .iload_n 2, 1, 2, 0, 0, 0, 0, []),
  (83, .iadd, 1, 0, 0, 0, 0, 0, []),
  (84, .i2l, 1, 0, 0, 0, 0, 0, []),
  (85, .lconst 1, 1, 0, 0, 0, 0, 1, []),
  (86, .lsub, 1, 0, 0, 0, 0, 0, []),
  (87, .invokestatic 153, 3, 209, 3, 1, 0, 0, []),
  (90, .ifCond .eq (29), 3, 119, 0, 0, 0, 0, []),
  (93, .iload_n 3, 1, 3, 0, 0, 0, 0, []),
  (94, .iconst (-1), 1, 0, 0, 0, (-1), 0, []),
  (95, .if_icmp .eq (20), 3, 115, 0, 0, 0, 0, []),
  (98, .aload_n 0, 1, 0, 0, 0, 0, 0, []),
  (99, .getfield 13, 3, 12, 3, 2, 0, 0, []),
  (102, .bipush (12), 2, 0, 0, 0, (12), 0, []),
  (104, .iload 5, 2, 5, 0, 0, 0, 0, []),
  (106, .imul, 1, 0, 0, 0, 0, 0, []),
  (107, .bipush (10), 2, 0, 0, 0, (10), 0, []),
  (109, .iadd, 1, 0, 0, 0, 0, 0, []),
  (110, .iaload, 1, 0, 0, 0, 0, 0, []),
  (111, .iload_n 3, 1, 3, 0, 0, 0, 0, []),
  (112, .if_icmp .ne (7), 3, 119, 0, 0, 0, 0, []),
  (129, .iload 4, 2, 4, 0, 0, 0, 0, []),
  (131, .ireturn, 1, 0, 0, 0, 0, 0, [])]
set_option maxRecDepth 100000 in
theorem lX12_grew_51_ck : lX12_grew_51.all (ra_ck mX12_grew 12) = true := by decide +kernel
def nX12_grew_51 (N : Nat) : Nat → Nat → Int32 → Int32 → Int32 → Int32 → Int32 → ra_H → Option (Int32 × ra_H)
  | 0, _, _, _, _, _, _, _ => none
  | n + 1, a0, a1, a2, a3, a4, a5, h =>
  (ra_fR h 12 a0 3).bind fun x1 =>
  (ra_aI h 0 x1 ((480 : Int32))).bind fun x2 =>
  if a5 < x2 then
    (ra_fR h 12 a0 3).bind fun x3 =>
    (ra_aI h 0 x3 ((((12 : Int32)) * a5) + ((2 : Int32)))).bind fun x4 =>
    (fX12_in N (Int32.toInt64 x4) (Int32.toInt64 a1) ((Int32.toInt64 (a1 + a2)) - ((1 : Int64))) h).bind fun q5 =>
    if q5.1 = 0 then
      nX12_grew_119 N (nX12_grew_51 N n) a0 a1 a2 a3 a5 a4 q5.2
    else
      if a3 = ((-1 : Int32)) then
        nX12_grew_115 N (nX12_grew_51 N n) a0 a1 a2 a3 a5 a4 q5.2
      else
        (ra_fR q5.2 12 a0 3).bind fun x6 =>
        (ra_aI q5.2 0 x6 ((((12 : Int32)) * a5) + ((10 : Int32)))).bind fun x7 =>
        if x7 = a3 then
          nX12_grew_115 N (nX12_grew_51 N n) a0 a1 a2 a3 a5 a4 q5.2
        else
          nX12_grew_119 N (nX12_grew_51 N n) a0 a1 a2 a3 a5 a4 q5.2
  else
    some (a4, h)
def kX12_grew_51 (N : Nat) (cs : Nat → Int32 → Int32 → Int32 → Int32 → Int32 → ra_H → Option (Int32 × ra_H)) : Nat → List (Option Value) → List Value → ra_H → Option (Int32 × ra_H) := (ra_k1 115 (fun L S h => match L, S with
  | [some (.ref a0), some (.int a1), some (.int a2), some (.int a3), _, some (.int a5)], [.int b0] => nX12_grew_115 N cs a0 a1 a2 a3 a5 b0 h
  | _, _ => none) (ra_k1 119 (fun L S h => match L, S with
  | [some (.ref a0), some (.int a1), some (.int a2), some (.int a3), _, some (.int a5)], [.int b0] => nX12_grew_119 N cs a0 a1 a2 a3 a5 b0 h
  | _, _ => none) ra_k0))
theorem kX12_grew_51_ok (N : Nat) (cs : Nat → Int32 → Int32 → Int32 → Int32 → Int32 → ra_H → Option (Int32 × ra_H)) (hcs : ∀ a0 a1 a2 a3 a4 a5 h r, cs a0 a1 a2 a3 a4 a5 h = some r → ra_Ru 2 mX12_grew 51 [some (.ref a0), some (.int a1), some (.int a2), some (.int a3), some (.int a4), some (.int a5)] [] h (ra_oI r)) : ra_kok 2 mX12_grew ra_oI (kX12_grew_51 N cs) := (ra_k1_ok (by
  intro L S h a e
  split at e
  · exact ra_Ru.weak (nX12_grew_115_ok N cs hcs _ _ _ _ _ _ _ _ e) ⟨rfl, ⟨rfl, ⟨rfl, ⟨rfl, ⟨rfl, trivial⟩⟩⟩⟩⟩
  · cases e) (ra_k1_ok (by
  intro L S h a e
  split at e
  · exact ra_Ru.weak (nX12_grew_119_ok N cs hcs _ _ _ _ _ _ _ _ e) ⟨rfl, ⟨rfl, ⟨rfl, ⟨rfl, ⟨rfl, trivial⟩⟩⟩⟩⟩
  · cases e) ra_k0_ok))
set_option maxRecDepth 100000 in
theorem nX12_grew_51_ok (N : Nat) : ∀ n a0 a1 a2 a3 a4 a5 h r, nX12_grew_51 N n a0 a1 a2 a3 a4 a5 h = some r → ra_Ru 2 mX12_grew 51 [some (.ref a0), some (.int a1), some (.int a2), some (.int a3), some (.int a4), some (.int a5)] [] h (ra_oI r) := by
  intro n
  induction n with
  | zero => intro a0 a1 a2 a3 a4 a5 h r e; cases e
  | succ n ih =>
    intro a0 a1 a2 a3 a4 a5 h r e
    exact ra_sound (by omega) rfl ra_rI_ok (kX12_grew_51_ok N (nX12_grew_51 N n) ih) (fun m av h h1 e => (ra_c0_ok (ro := ra_oV)) m av h h1 e) (fun m av h x h1 e => (tIX12_grew_ok N) m av h (x, h1) e) (fun m av h x h1 e => (ra_c0_ok (ro := ra_oJ)) m av h (x, h1) e) (fun m av h x h1 e => (ra_c0_ok (ro := ra_oR)) m av h (x, h1) e) (fun m av h x h1 e => (ra_c0_ok (ro := ra_oN)) m av h (x, h1) e) (fun m av h x h1 e => (ra_c0_ok (ro := ra_oF)) m av h (x, h1) e) 42 lX12_grew_51 _ _ _ _ lX12_grew_51_ck (show ra_run ra_rI (kX12_grew_51 N (nX12_grew_51 N n)) ra_c0 (tIX12_grew N) ra_c0 ra_c0 ra_c0 ra_c0 42 lX12_grew_51 [some (.ref a0), some (.int a1), some (.int a2), some (.int a3), some (.int a4), some (.int a5)] [] h = some r from e) _ _ rfl
def lX12_grew_0 : List ra_I := [(0, .aload_n 0, 1, 0, 0, 0, 0, 0, []),
  (1, .iconst (0), 1, 0, 0, 0, (0), 0, []),
  (2, .putfield 147, 3, 12, 0, 0, 0, 0, []),
  (5, .iload_n 1, 1, 1, 0, 0, 0, 0, []),
  (6, .i2l, 1, 0, 0, 0, 0, 0, []),
  (7, .lconst 0, 1, 0, 0, 0, 0, 0, []),
  (8, .ldc2_w 167, 3, 0, 0, 0, 0, (199), []),
  (11, .invokestatic 153, 3, 209, 3, 1, 0, 0, []),
  (14, .ifCond .eq (29), 3, 43, 0, 0, 0, 0, []),
  (17, .iload_n 2, 1, 2, 0, 0, 0, 0, []),
  (18, .i2l, 1, 0, 0, 0, 0, 0, []),
  (19, .lconst 1, 1, 0, 0, 0, 0, 1, []),
  (20, .ldc2_w 411, 3, 0, 0, 0, 0, (200), []),
  (23, .invokestatic 153, 3, 209, 3, 1, 0, 0, []),
  (26, .ifCond .eq (17), 3, 43, 0, 0, 0, 0, []),
  (29, .iload_n 3, 1, 3, 0, 0, 0, 0, []),
  (30, .i2l, 1, 0, 0, 0, 0, 0, []),
  (31, .ldc2_w 252, 3, 0, 0, 0, 0, (-1), []),
  (34, .ldc2_w 179, 3, 0, 0, 0, 0, (7), []),
  (37, .invokestatic 153, 3, 209, 3, 1, 0, 0, []),
  (40, .ifCond .ne (5), 3, 45, 0, 0, 0, 0, []),
  (45, .iconst (0), 1, 0, 0, 0, (0), 0, []),
  (46, .istore 4, 2, 4, 0, 0, 0, 0, []),
  (48, .iconst (0), 1, 0, 0, 0, (0), 0, []),
  (49, .istore 5, 2, 5, 0, 0, 0, 0, [])]
set_option maxRecDepth 100000 in
theorem lX12_grew_0_ck : lX12_grew_0.all (ra_ck mX12_grew 12) = true := by decide +kernel
def nX12_grew_0 (N : Nat) (a0 : Nat) (a1 : Int32) (a2 : Int32) (a3 : Int32) (h : ra_H) : Option (Int32 × ra_H) :=
  (ra_fW h 12 a0 0 (.int ((0 : Int32)))).bind fun h1 =>
  (fX12_in N (Int32.toInt64 a1) ((0 : Int64)) ((199 : Int64)) h1).bind fun q2 =>
  if q2.1 = 0 then
    nX12_grew_43 N q2.2
  else
    (fX12_in N (Int32.toInt64 a2) ((1 : Int64)) ((200 : Int64)) q2.2).bind fun q3 =>
    if q3.1 = 0 then
      nX12_grew_43 N q3.2
    else
      (fX12_in N (Int32.toInt64 a3) ((-1 : Int64)) ((7 : Int64)) q3.2).bind fun q4 =>
      if q4.1 = 0 then
        nX12_grew_43 N q4.2
      else
        nX12_grew_51 N N a0 a1 a2 a3 ((0 : Int32)) ((0 : Int32)) q4.2
def kX12_grew_0 (N : Nat) : Nat → List (Option Value) → List Value → ra_H → Option (Int32 × ra_H) := (ra_k1 43 (fun L S h => match L, S with
  | [_, _, _, _, _, _], [] => nX12_grew_43 N h
  | _, _ => none) (ra_k1 51 (fun L S h => match L, S with
  | [some (.ref a0), some (.int a1), some (.int a2), some (.int a3), some (.int a4), some (.int a5)], [] => nX12_grew_51 N N a0 a1 a2 a3 a4 a5 h
  | _, _ => none) ra_k0))
theorem kX12_grew_0_ok (N : Nat) : ra_kok 2 mX12_grew ra_oI (kX12_grew_0 N) := (ra_k1_ok (by
  intro L S h a e
  split at e
  · exact ra_Ru.weak (nX12_grew_43_ok N _ _ e) trivial
  · cases e) (ra_k1_ok (by
  intro L S h a e
  split at e
  · exact ra_Ru.weak (nX12_grew_51_ok N N _ _ _ _ _ _ _ _ e) ⟨rfl, ⟨rfl, ⟨rfl, ⟨rfl, ⟨rfl, ⟨rfl, trivial⟩⟩⟩⟩⟩⟩
  · cases e) ra_k0_ok))
set_option maxRecDepth 100000 in
theorem nX12_grew_0_ok (N : Nat) (a0 : Nat) (a1 : Int32) (a2 : Int32) (a3 : Int32) (h : ra_H) (r : (Int32 × ra_H)) (e : nX12_grew_0 N a0 a1 a2 a3 h = some r) : ra_Ru 2 mX12_grew 0 [some (.ref a0), some (.int a1), some (.int a2), some (.int a3), none, none] [] h (ra_oI r) :=
  ra_sound (by omega) rfl ra_rI_ok (kX12_grew_0_ok N) (fun m av h h1 e => (ra_c0_ok (ro := ra_oV)) m av h h1 e) (fun m av h x h1 e => (tIX12_grew_ok N) m av h (x, h1) e) (fun m av h x h1 e => (ra_c0_ok (ro := ra_oJ)) m av h (x, h1) e) (fun m av h x h1 e => (ra_c0_ok (ro := ra_oR)) m av h (x, h1) e) (fun m av h x h1 e => (ra_c0_ok (ro := ra_oN)) m av h (x, h1) e) (fun m av h x h1 e => (ra_c0_ok (ro := ra_oF)) m av h (x, h1) e) 26 lX12_grew_0 _ _ _ _ lX12_grew_0_ck (show ra_run ra_rI (kX12_grew_0 N) ra_c0 (tIX12_grew N) ra_c0 ra_c0 ra_c0 ra_c0 26 lX12_grew_0 [some (.ref a0), some (.int a1), some (.int a2), some (.int a3), none, none] [] h = some r from e) _ _ rfl
def fX12_grew (N : Nat) (p0 : Nat) (p1 : Int32) (p2 : Int32) (p3 : Int32) (h : ra_H) : Option (Int32 × ra_H) := match ra_isOb h p0 12 with
  | true => nX12_grew_0 N p0 p1 p2 p3 h
  | false => none
set_option maxRecDepth 100000 in
theorem mtX12_grew : ra_MT[315]? = some (mX12_grew, 1, 3, (1, 13), (9, 62), (9, 63)) := rfl
theorem fX12_grew_co (N : Nat) (p0 : Nat) (p1 : Int32) (p2 : Int32) (p3 : Int32) (h : ra_H) (r : (Int32 × ra_H)) (e : fX12_grew N p0 p1 p2 p3 h = some r) (D : Nat) (hD : 3 ≤ D) : ra_CO D 315 [.ref p0, .int p1, .int p2, .int p3] h (ra_oI r).1 (ra_oI r).2 := by
  have hw : ra_nw2 [.ref p0, .int p1, .int p2, .int p3] ≤ 6 := Nat.le_of_ble_eq_true rfl
  have hdb : ∀ v ∈ ([.ref p0, .int p1, .int p2, .int p3] : List Value), ∀ x, v ≠ .double x := by
    intro v hv x hx
    simp [hx] at hv
  unfold fX12_grew at e
  split at e
  · rename_i ho
    have e1 := e
    exact ⟨2, _, mtX12_grew, hD, ra_ev_of (by decide) hdb hw trivial (ra_Ru.weak (nX12_grew_0_ok N p0 p1 p2 p3 h _ e1) ⟨rfl, ⟨rfl, ⟨rfl, ⟨rfl, trivial⟩⟩⟩⟩), (fun _ => ⟨_, _, rfl, ra_rcv_of ho (by decide) rfl⟩), (fun h => absurd h (by decide))⟩
  · cases e
/-! RedMarksModel.house(IIII)I -/
def mX12_house : ra_M := (yX12_house, cX12_house, 5, (some .int))
def tIX12_house (N : Nat) : Nat → List Value → ra_H → Option (Int32 × ra_H) := (ra_c1 209 (fun av h => match av with
  | [.long z0, .long z1, .long z2] => fX12_in N z0 z1 z2 h
  | _ => none) (ra_c1 210 (fun av h => match av with
  | [.ref z0, .int z1] => fX12_tell N z0 z1 h
  | _ => none) ra_c0))
theorem tIX12_house_ok (N : Nat) : ra_cok 2 ra_oI (tIX12_house N) := (ra_c1_ok (by
  intro av h a e
  split at e
  · exact fX12_in_co N _ _ _ _ _ e 2 (by omega)
  · cases e) (ra_c1_ok (by
  intro av h a e
  split at e
  · exact fX12_tell_co N _ _ _ _ e 2 (by omega)
  · cases e) ra_c0_ok))
def lX12_house_53 : List ra_I := [(53, .aload_n 0, 1, 0, 0, 0, 0, 0, []),
  (54, .iconst (-1), 1, 0, 0, 0, (-1), 0, []),
  (55, .invokevirtual 157, 3, 210, 2, 1, 0, 0, []),
  (58, .ireturn, 1, 0, 0, 0, 0, 0, [])]
set_option maxRecDepth 100000 in
theorem lX12_house_53_ck : lX12_house_53.all (ra_ck mX12_house 12) = true := by decide +kernel
def nX12_house_53 (N : Nat) (a0 : Nat) (h : ra_H) : Option (Int32 × ra_H) :=
  (fX12_tell N a0 ((-1 : Int32)) h).bind fun q1 =>
  some (q1.1, q1.2)
def kX12_house_53 (N : Nat) : Nat → List (Option Value) → List Value → ra_H → Option (Int32 × ra_H) := ra_k0
theorem kX12_house_53_ok (N : Nat) : ra_kok 2 mX12_house ra_oI (kX12_house_53 N) := ra_k0_ok
set_option maxRecDepth 100000 in
theorem nX12_house_53_ok (N : Nat) (a0 : Nat) (h : ra_H) (r : (Int32 × ra_H)) (e : nX12_house_53 N a0 h = some r) : ra_Ru 2 mX12_house 53 [some (.ref a0), none, none, none, none] [] h (ra_oI r) :=
  ra_sound (by omega) rfl ra_rI_ok (kX12_house_53_ok N) (fun m av h h1 e => (ra_c0_ok (ro := ra_oV)) m av h h1 e) (fun m av h x h1 e => (tIX12_house_ok N) m av h (x, h1) e) (fun m av h x h1 e => (ra_c0_ok (ro := ra_oJ)) m av h (x, h1) e) (fun m av h x h1 e => (ra_c0_ok (ro := ra_oR)) m av h (x, h1) e) (fun m av h x h1 e => (ra_c0_ok (ro := ra_oN)) m av h (x, h1) e) (fun m av h x h1 e => (ra_c0_ok (ro := ra_oF)) m av h (x, h1) e) 5 lX12_house_53 _ _ _ _ lX12_house_53_ck (show ra_run ra_rI (kX12_house_53 N) ra_c0 (tIX12_house N) ra_c0 ra_c0 ra_c0 ra_c0 5 lX12_house_53 [some (.ref a0), none, none, none, none] [] h = some r from e) _ _ rfl
def lX12_house_0 : List ra_I := [(0, .aload_n 0, 1, 0, 0, 0, 0, 0, []),
  (1, .iconst (0), 1, 0, 0, 0, (0), 0, []),
  (2, .putfield 147, 3, 12, 0, 0, 0, 0, []),
  (5, .iload_n 1, 1, 1, 0, 0, 0, 0, []),
  (6, .i2l, 1, 0, 0, 0, 0, 0, []),
  (7, .lconst 0, 1, 0, 0, 0, 0, 0, []),
  (8, .ldc2_w 181, 3, 0, 0, 0, 0, (11), []),
  (11, .invokestatic 153, 3, 209, 3, 1, 0, 0, []),
  (14, .ifCond .eq (39), 3, 53, 0, 0, 0, 0, []),
  (17, .iload_n 2, 1, 2, 0, 0, 0, 0, []),
  (18, .i2l, 1, 0, 0, 0, 0, 0, []),
  (19, .lconst 0, 1, 0, 0, 0, 0, 0, []),
  (20, .ldc2_w 489, 3, 0, 0, 0, 0, (5000), []),
  (23, .invokestatic 153, 3, 209, 3, 1, 0, 0, []),
  (26, .ifCond .eq (27), 3, 53, 0, 0, 0, 0, []),
  (29, .iload_n 3, 1, 3, 0, 0, 0, 0, []),
  (30, .i2l, 1, 0, 0, 0, 0, 0, []),
  (31, .lconst 0, 1, 0, 0, 0, 0, 0, []),
  (32, .iload_n 2, 1, 2, 0, 0, 0, 0, []),
  (33, .i2l, 1, 0, 0, 0, 0, 0, []),
  (34, .invokestatic 153, 3, 209, 3, 1, 0, 0, []),
  (37, .ifCond .eq (16), 3, 53, 0, 0, 0, 0, []),
  (40, .iload 4, 2, 4, 0, 0, 0, 0, []),
  (42, .i2l, 1, 0, 0, 0, 0, 0, []),
  (43, .lconst 1, 1, 0, 0, 0, 0, 1, []),
  (44, .ldc2_w 491, 3, 0, 0, 0, 0, (100), []),
  (47, .invokestatic 153, 3, 209, 3, 1, 0, 0, []),
  (50, .ifCond .ne (9), 3, 59, 0, 0, 0, 0, []),
  (59, .aload_n 0, 1, 0, 0, 0, 0, 0, []),
  (60, .getfield 13, 3, 12, 3, 2, 0, 0, []),
  (63, .sipush (610), 3, 0, 0, 0, (610), 0, []),
  (66, .iconst (3), 1, 0, 0, 0, (3), 0, []),
  (67, .iload_n 1, 1, 1, 0, 0, 0, 0, []),
  (68, .imul, 1, 0, 0, 0, 0, 0, []),
  (69, .iadd, 1, 0, 0, 0, 0, 0, []),
  (70, .iload_n 2, 1, 2, 0, 0, 0, 0, []),
  (71, .iastore, 1, 0, 0, 0, 0, 0, []),
  (72, .aload_n 0, 1, 0, 0, 0, 0, 0, []),
  (73, .getfield 13, 3, 12, 3, 2, 0, 0, []),
  (76, .sipush (610), 3, 0, 0, 0, (610), 0, []),
  (79, .iconst (3), 1, 0, 0, 0, (3), 0, []),
  (80, .iload_n 1, 1, 1, 0, 0, 0, 0, []),
  (81, .imul, 1, 0, 0, 0, 0, 0, []),
  (82, .iadd, 1, 0, 0, 0, 0, 0, []),
  (83, .iconst (1), 1, 0, 0, 0, (1), 0, []),
  (84, .iadd, 1, 0, 0, 0, 0, 0, []),
  (85, .iload_n 3, 1, 3, 0, 0, 0, 0, []),
  (86, .iastore, 1, 0, 0, 0, 0, 0, []),
  (87, .aload_n 0, 1, 0, 0, 0, 0, 0, []),
  (88, .getfield 13, 3, 12, 3, 2, 0, 0, []),
  (91, .sipush (610), 3, 0, 0, 0, (610), 0, []),
  (94, .iconst (3), 1, 0, 0, 0, (3), 0, []),
  (95, .iload_n 1, 1, 1, 0, 0, 0, 0, []),
  (96, .imul, 1, 0, 0, 0, 0, 0, []),
  (97, .iadd, 1, 0, 0, 0, 0, 0, []),
  (98, .iconst (2), 1, 0, 0, 0, (2), 0, []),
  (99, .iadd, 1, 0, 0, 0, 0, 0, []),
  (100, .iload 4, 2, 4, 0, 0, 0, 0, []),
  (102, .iastore, 1, 0, 0, 0, 0, 0, []),
  (103, .aload_n 0, 1, 0, 0, 0, 0, 0, []),
  (104, .iconst (0), 1, 0, 0, 0, (0), 0, []),
  (105, .invokevirtual 157, 3, 210, 2, 1, 0, 0, []),
  (108, .ireturn, 1, 0, 0, 0, 0, 0, [])]
set_option maxRecDepth 100000 in
theorem lX12_house_0_ck : lX12_house_0.all (ra_ck mX12_house 12) = true := by decide +kernel
def nX12_house_0 (N : Nat) (a0 : Nat) (a1 : Int32) (a2 : Int32) (a3 : Int32) (a4 : Int32) (h : ra_H) : Option (Int32 × ra_H) :=
  (ra_fW h 12 a0 0 (.int ((0 : Int32)))).bind fun h1 =>
  (fX12_in N (Int32.toInt64 a1) ((0 : Int64)) ((11 : Int64)) h1).bind fun q2 =>
  if q2.1 = 0 then
    nX12_house_53 N a0 q2.2
  else
    (fX12_in N (Int32.toInt64 a2) ((0 : Int64)) ((5000 : Int64)) q2.2).bind fun q3 =>
    if q3.1 = 0 then
      nX12_house_53 N a0 q3.2
    else
      (fX12_in N (Int32.toInt64 a3) ((0 : Int64)) (Int32.toInt64 a2) q3.2).bind fun q4 =>
      if q4.1 = 0 then
        nX12_house_53 N a0 q4.2
      else
        (fX12_in N (Int32.toInt64 a4) ((1 : Int64)) ((100 : Int64)) q4.2).bind fun q5 =>
        if q5.1 = 0 then
          nX12_house_53 N a0 q5.2
        else
          (ra_fR q5.2 12 a0 3).bind fun x6 =>
          (ra_aW q5.2 0 x6 (((610 : Int32)) + (((3 : Int32)) * a1)) a2).bind fun h7 =>
          (ra_fR h7 12 a0 3).bind fun x8 =>
          (ra_aW h7 0 x8 ((((610 : Int32)) + (((3 : Int32)) * a1)) + ((1 : Int32))) a3).bind fun h9 =>
          (ra_fR h9 12 a0 3).bind fun x10 =>
          (ra_aW h9 0 x10 ((((610 : Int32)) + (((3 : Int32)) * a1)) + ((2 : Int32))) a4).bind fun h11 =>
          (fX12_tell N a0 ((0 : Int32)) h11).bind fun q12 =>
          some (q12.1, q12.2)
def kX12_house_0 (N : Nat) : Nat → List (Option Value) → List Value → ra_H → Option (Int32 × ra_H) := (ra_k1 53 (fun L S h => match L, S with
  | [some (.ref a0), _, _, _, _], [] => nX12_house_53 N a0 h
  | _, _ => none) ra_k0)
theorem kX12_house_0_ok (N : Nat) : ra_kok 2 mX12_house ra_oI (kX12_house_0 N) := (ra_k1_ok (by
  intro L S h a e
  split at e
  · exact ra_Ru.weak (nX12_house_53_ok N _ _ _ e) ⟨rfl, trivial⟩
  · cases e) ra_k0_ok)
set_option maxRecDepth 100000 in
theorem nX12_house_0_ok (N : Nat) (a0 : Nat) (a1 : Int32) (a2 : Int32) (a3 : Int32) (a4 : Int32) (h : ra_H) (r : (Int32 × ra_H)) (e : nX12_house_0 N a0 a1 a2 a3 a4 h = some r) : ra_Ru 2 mX12_house 0 [some (.ref a0), some (.int a1), some (.int a2), some (.int a3), some (.int a4)] [] h (ra_oI r) :=
  ra_sound (by omega) rfl ra_rI_ok (kX12_house_0_ok N) (fun m av h h1 e => (ra_c0_ok (ro := ra_oV)) m av h h1 e) (fun m av h x h1 e => (tIX12_house_ok N) m av h (x, h1) e) (fun m av h x h1 e => (ra_c0_ok (ro := ra_oJ)) m av h (x, h1) e) (fun m av h x h1 e => (ra_c0_ok (ro := ra_oR)) m av h (x, h1) e) (fun m av h x h1 e => (ra_c0_ok (ro := ra_oN)) m av h (x, h1) e) (fun m av h x h1 e => (ra_c0_ok (ro := ra_oF)) m av h (x, h1) e) 64 lX12_house_0 _ _ _ _ lX12_house_0_ck (show ra_run ra_rI (kX12_house_0 N) ra_c0 (tIX12_house N) ra_c0 ra_c0 ra_c0 ra_c0 64 lX12_house_0 [some (.ref a0), some (.int a1), some (.int a2), some (.int a3), some (.int a4)] [] h = some r from e) _ _ rfl
def fX12_house (N : Nat) (p0 : Nat) (p1 : Int32) (p2 : Int32) (p3 : Int32) (p4 : Int32) (h : ra_H) : Option (Int32 × ra_H) := match ra_isOb h p0 12 with
  | true => nX12_house_0 N p0 p1 p2 p3 p4 h
  | false => none
set_option maxRecDepth 100000 in
theorem mtX12_house : ra_MT[309]? = some (mX12_house, 1, 4, (1, 13), (9, 36), (9, 37)) := rfl
theorem fX12_house_co (N : Nat) (p0 : Nat) (p1 : Int32) (p2 : Int32) (p3 : Int32) (p4 : Int32) (h : ra_H) (r : (Int32 × ra_H)) (e : fX12_house N p0 p1 p2 p3 p4 h = some r) (D : Nat) (hD : 3 ≤ D) : ra_CO D 309 [.ref p0, .int p1, .int p2, .int p3, .int p4] h (ra_oI r).1 (ra_oI r).2 := by
  have hw : ra_nw2 [.ref p0, .int p1, .int p2, .int p3, .int p4] ≤ 5 := Nat.le_of_ble_eq_true rfl
  have hdb : ∀ v ∈ ([.ref p0, .int p1, .int p2, .int p3, .int p4] : List Value), ∀ x, v ≠ .double x := by
    intro v hv x hx
    simp [hx] at hv
  unfold fX12_house at e
  split at e
  · rename_i ho
    have e1 := e
    exact ⟨2, _, mtX12_house, hD, ra_ev_of (by decide) hdb hw trivial (ra_Ru.weak (nX12_house_0_ok N p0 p1 p2 p3 p4 h _ e1) ⟨rfl, ⟨rfl, ⟨rfl, ⟨rfl, ⟨rfl, trivial⟩⟩⟩⟩⟩), (fun _ => ⟨_, _, rfl, ra_rcv_of ho (by decide) rfl⟩), (fun h => absurd h (by decide))⟩
  · cases e
/-! RedMarksModel.how(I)I -/
def mX12_how : ra_M := (yX12_how, cX12_how, 2, (some .int))
def tIX12_how (N : Nat) : Nat → List Value → ra_H → Option (Int32 × ra_H) := (ra_c1 218 (fun av h => match av with
  | [.ref z0, .int z1] => fX12_isBook N z0 z1 h
  | _ => none) (ra_c1 269 (fun av h => match av with
  | [.ref z0] => fX12_lookKept N z0 h
  | _ => none) ra_c0))
theorem tIX12_how_ok (N : Nat) : ra_cok 8 ra_oI (tIX12_how N) := (ra_c1_ok (by
  intro av h a e
  split at e
  · exact fX12_isBook_co N _ _ _ _ e 8 (by omega)
  · cases e) (ra_c1_ok (by
  intro av h a e
  split at e
  · exact fX12_lookKept_co N _ _ _ e 8 (by omega)
  · cases e) ra_c0_ok))
def lX12_how_30 : List ra_I := [(30, .ireturn, 1, 0, 0, 0, 0, 0, [])]
set_option maxRecDepth 100000 in
theorem lX12_how_30_ck : lX12_how_30.all (ra_ck mX12_how 12) = true := by decide +kernel
def nX12_how_30 (N : Nat) (b0 : Int32) (h : ra_H) : Option (Int32 × ra_H) :=
  some (b0, h)
def kX12_how_30 (N : Nat) : Nat → List (Option Value) → List Value → ra_H → Option (Int32 × ra_H) := ra_k0
theorem kX12_how_30_ok (N : Nat) : ra_kok 8 mX12_how ra_oI (kX12_how_30 N) := ra_k0_ok
set_option maxRecDepth 100000 in
theorem nX12_how_30_ok (N : Nat) (b0 : Int32) (h : ra_H) (r : (Int32 × ra_H)) (e : nX12_how_30 N b0 h = some r) : ra_Ru 8 mX12_how 30 [none, none] [.int b0] h (ra_oI r) :=
  ra_sound (by omega) rfl ra_rI_ok (kX12_how_30_ok N) (fun m av h h1 e => (ra_c0_ok (ro := ra_oV)) m av h h1 e) (fun m av h x h1 e => (tIX12_how_ok N) m av h (x, h1) e) (fun m av h x h1 e => (ra_c0_ok (ro := ra_oJ)) m av h (x, h1) e) (fun m av h x h1 e => (ra_c0_ok (ro := ra_oR)) m av h (x, h1) e) (fun m av h x h1 e => (ra_c0_ok (ro := ra_oN)) m av h (x, h1) e) (fun m av h x h1 e => (ra_c0_ok (ro := ra_oF)) m av h (x, h1) e) 2 lX12_how_30 _ _ _ _ lX12_how_30_ck (show ra_run ra_rI (kX12_how_30 N) ra_c0 (tIX12_how N) ra_c0 ra_c0 ra_c0 ra_c0 2 lX12_how_30 [none, none] [.int b0] h = some r from e) _ _ rfl
def lX12_how_29 : List ra_I := [(29, .iconst (-1), 1, 0, 0, 0, (-1), 0, [])]
set_option maxRecDepth 100000 in
theorem lX12_how_29_ck : lX12_how_29.all (ra_ck mX12_how 12) = true := by decide +kernel
def nX12_how_29 (N : Nat) (h : ra_H) : Option (Int32 × ra_H) :=
  nX12_how_30 N ((-1 : Int32)) h
def kX12_how_29 (N : Nat) : Nat → List (Option Value) → List Value → ra_H → Option (Int32 × ra_H) := (ra_k1 30 (fun L S h => match L, S with
  | [_, _], [.int b0] => nX12_how_30 N b0 h
  | _, _ => none) ra_k0)
theorem kX12_how_29_ok (N : Nat) : ra_kok 8 mX12_how ra_oI (kX12_how_29 N) := (ra_k1_ok (by
  intro L S h a e
  split at e
  · exact ra_Ru.weak (nX12_how_30_ok N _ _ _ e) trivial
  · cases e) ra_k0_ok)
set_option maxRecDepth 100000 in
theorem nX12_how_29_ok (N : Nat) (h : ra_H) (r : (Int32 × ra_H)) (e : nX12_how_29 N h = some r) : ra_Ru 8 mX12_how 29 [none, none] [] h (ra_oI r) :=
  ra_sound (by omega) rfl ra_rI_ok (kX12_how_29_ok N) (fun m av h h1 e => (ra_c0_ok (ro := ra_oV)) m av h h1 e) (fun m av h x h1 e => (tIX12_how_ok N) m av h (x, h1) e) (fun m av h x h1 e => (ra_c0_ok (ro := ra_oJ)) m av h (x, h1) e) (fun m av h x h1 e => (ra_c0_ok (ro := ra_oR)) m av h (x, h1) e) (fun m av h x h1 e => (ra_c0_ok (ro := ra_oN)) m av h (x, h1) e) (fun m av h x h1 e => (ra_c0_ok (ro := ra_oF)) m av h (x, h1) e) 2 lX12_how_29 _ _ _ _ lX12_how_29_ck (show ra_run ra_rI (kX12_how_29 N) ra_c0 (tIX12_how N) ra_c0 ra_c0 ra_c0 ra_c0 2 lX12_how_29 [none, none] [] h = some r from e) _ _ rfl
def lX12_how_0 : List ra_I := [(0, .aload_n 0, 1, 0, 0, 0, 0, 0, []),
  (1, .iconst (0), 1, 0, 0, 0, (0), 0, []),
  (2, .putfield 147, 3, 12, 0, 0, 0, 0, []),
  (5, .aload_n 0, 1, 0, 0, 0, 0, 0, []),
  (6, .iload_n 1, 1, 1, 0, 0, 0, 0, []),
  (7, .invokevirtual 198, 3, 218, 2, 1, 0, 0, []),
  (10, .ifCond .eq (19), 3, 29, 0, 0, 0, 0, []),
  (13, .aload_n 0, 1, 0, 0, 0, 0, 0, []),
  (14, .invokevirtual 425, 3, 269, 1, 1, 0, 0, []),
  (17, .ifCond .eq (12), 3, 29, 0, 0, 0, 0, []),
  (20, .aload_n 0, 1, 0, 0, 0, 0, 0, []),
  (21, .getfield 101, 3, 12, 39, 2, 0, 0, []),
  (24, .iload_n 1, 1, 1, 0, 0, 0, 0, []),
  (25, .iaload, 1, 0, 0, 0, 0, 0, []),
  (26, .goto (4), 3, 30, 0, 0, 0, 0, [])]
set_option maxRecDepth 100000 in
theorem lX12_how_0_ck : lX12_how_0.all (ra_ck mX12_how 12) = true := by decide +kernel
def nX12_how_0 (N : Nat) (a0 : Nat) (a1 : Int32) (h : ra_H) : Option (Int32 × ra_H) :=
  (ra_fW h 12 a0 0 (.int ((0 : Int32)))).bind fun h1 =>
  (fX12_isBook N a0 a1 h1).bind fun q2 =>
  if q2.1 = 0 then
    nX12_how_29 N q2.2
  else
    (fX12_lookKept N a0 q2.2).bind fun q3 =>
    if q3.1 = 0 then
      nX12_how_29 N q3.2
    else
      (ra_fR q3.2 12 a0 39).bind fun x4 =>
      (ra_aI q3.2 0 x4 a1).bind fun x5 =>
      nX12_how_30 N x5 q3.2
def kX12_how_0 (N : Nat) : Nat → List (Option Value) → List Value → ra_H → Option (Int32 × ra_H) := (ra_k1 29 (fun L S h => match L, S with
  | [_, _], [] => nX12_how_29 N h
  | _, _ => none) (ra_k1 30 (fun L S h => match L, S with
  | [_, _], [.int b0] => nX12_how_30 N b0 h
  | _, _ => none) ra_k0))
theorem kX12_how_0_ok (N : Nat) : ra_kok 8 mX12_how ra_oI (kX12_how_0 N) := (ra_k1_ok (by
  intro L S h a e
  split at e
  · exact ra_Ru.weak (nX12_how_29_ok N _ _ e) trivial
  · cases e) (ra_k1_ok (by
  intro L S h a e
  split at e
  · exact ra_Ru.weak (nX12_how_30_ok N _ _ _ e) trivial
  · cases e) ra_k0_ok))
set_option maxRecDepth 100000 in
theorem nX12_how_0_ok (N : Nat) (a0 : Nat) (a1 : Int32) (h : ra_H) (r : (Int32 × ra_H)) (e : nX12_how_0 N a0 a1 h = some r) : ra_Ru 8 mX12_how 0 [some (.ref a0), some (.int a1)] [] h (ra_oI r) :=
  ra_sound (by omega) rfl ra_rI_ok (kX12_how_0_ok N) (fun m av h h1 e => (ra_c0_ok (ro := ra_oV)) m av h h1 e) (fun m av h x h1 e => (tIX12_how_ok N) m av h (x, h1) e) (fun m av h x h1 e => (ra_c0_ok (ro := ra_oJ)) m av h (x, h1) e) (fun m av h x h1 e => (ra_c0_ok (ro := ra_oR)) m av h (x, h1) e) (fun m av h x h1 e => (ra_c0_ok (ro := ra_oN)) m av h (x, h1) e) (fun m av h x h1 e => (ra_c0_ok (ro := ra_oF)) m av h (x, h1) e) 16 lX12_how_0 _ _ _ _ lX12_how_0_ck (show ra_run ra_rI (kX12_how_0 N) ra_c0 (tIX12_how N) ra_c0 ra_c0 ra_c0 ra_c0 16 lX12_how_0 [some (.ref a0), some (.int a1)] [] h = some r from e) _ _ rfl
def fX12_how (N : Nat) (p0 : Nat) (p1 : Int32) (h : ra_H) : Option (Int32 × ra_H) := match ra_isOb h p0 12 with
  | true => nX12_how_0 N p0 p1 h
  | false => none
set_option maxRecDepth 100000 in
theorem mtX12_how : ra_MT[268]? = some (mX12_how, 1, 1, (1, 13), (8, 110), (8, 111)) := rfl
theorem fX12_how_co (N : Nat) (p0 : Nat) (p1 : Int32) (h : ra_H) (r : (Int32 × ra_H)) (e : fX12_how N p0 p1 h = some r) (D : Nat) (hD : 9 ≤ D) : ra_CO D 268 [.ref p0, .int p1] h (ra_oI r).1 (ra_oI r).2 := by
  have hw : ra_nw2 [.ref p0, .int p1] ≤ 2 := Nat.le_of_ble_eq_true rfl
  have hdb : ∀ v ∈ ([.ref p0, .int p1] : List Value), ∀ x, v ≠ .double x := by
    intro v hv x hx
    simp [hx] at hv
  unfold fX12_how at e
  split at e
  · rename_i ho
    have e1 := e
    exact ⟨8, _, mtX12_how, hD, ra_ev_of (by decide) hdb hw trivial (ra_Ru.weak (nX12_how_0_ok N p0 p1 h _ e1) ⟨rfl, ⟨rfl, trivial⟩⟩), (fun _ => ⟨_, _, rfl, ra_rcv_of ho (by decide) rfl⟩), (fun h => absurd h (by decide))⟩
  · cases e
/-! RedMarksModel.image(I)I -/
def mX12_image : ra_M := (yX12_image, cX12_image, 3, (some .int))
def tIX12_image (N : Nat) : Nat → List Value → ra_H → Option (Int32 × ra_H) := (ra_c1 209 (fun av h => match av with
  | [.long z0, .long z1, .long z2] => fX12_in N z0 z1 z2 h
  | _ => none) (ra_c1 210 (fun av h => match av with
  | [.ref z0, .int z1] => fX12_tell N z0 z1 h
  | _ => none) ra_c0))
theorem tIX12_image_ok (N : Nat) : ra_cok 2 ra_oI (tIX12_image N) := (ra_c1_ok (by
  intro av h a e
  split at e
  · exact fX12_in_co N _ _ _ _ _ e 2 (by omega)
  · cases e) (ra_c1_ok (by
  intro av h a e
  split at e
  · exact fX12_tell_co N _ _ _ _ e 2 (by omega)
  · cases e) ra_c0_ok))
def lX12_image_23 : List ra_I := [(23, .iload_n 2, 1, 2, 0, 0, 0, 0, []),
  (24, .sipush (7960), 3, 0, 0, 0, (7960), 0, []),
  (27, .if_icmp .ge (27), 3, 54, 0, 0, 0, 0, []),
  (30, .aload_n 0, 1, 0, 0, 0, 0, 0, []),
  (31, .getfield 16, 3, 12, 4, 2, 0, 0, []),
  (34, .sipush (7960), 3, 0, 0, 0, (7960), 0, []),
  (37, .iload_n 1, 1, 1, 0, 0, 0, 0, []),
  (38, .imul, 1, 0, 0, 0, 0, 0, []),
  (39, .iload_n 2, 1, 2, 0, 0, 0, 0, []),
  (40, .iadd, 1, 0, 0, 0, 0, 0, []),
  (41, .aload_n 0, 1, 0, 0, 0, 0, 0, []),
  (42, .getfield 13, 3, 12, 3, 2, 0, 0, []),
  (45, .iload_n 2, 1, 2, 0, 0, 0, 0, []),
  (46, .iaload, 1, 0, 0, 0, 0, 0, []),
  (47, .iastore, 1, 0, 0, 0, 0, 0, []),
  (48, .iinc 2 (1), 3, 2, 0, 0, (1), 0, []),
  (51, .goto (-28), 3, 23, 0, 0, 0, 0, []),
  (54, .aload_n 0, 1, 0, 0, 0, 0, 0, []),
  (55, .getfield 19, 3, 12, 5, 2, 0, 0, []),
  (58, .iload_n 1, 1, 1, 0, 0, 0, 0, []),
  (59, .iconst (1), 1, 0, 0, 0, (1), 0, []),
  (60, .bastore, 1, 0, 0, 0, 0, 0, []),
  (61, .aload_n 0, 1, 0, 0, 0, 0, 0, []),
  (62, .iconst (0), 1, 0, 0, 0, (0), 0, []),
  (63, .invokevirtual 157, 3, 210, 2, 1, 0, 0, []),
  (66, .ireturn, 1, 0, 0, 0, 0, 0, [])]
set_option maxRecDepth 100000 in
theorem lX12_image_23_ck : lX12_image_23.all (ra_ck mX12_image 12) = true := by decide +kernel
def nX12_image_23 (N : Nat) : Nat → Nat → Int32 → Int32 → ra_H → Option (Int32 × ra_H)
  | 0, _, _, _, _ => none
  | n + 1, a0, a1, a2, h =>
  if a2 < ((7960 : Int32)) then
    (ra_fR h 12 a0 4).bind fun x4 =>
    (ra_fR h 12 a0 3).bind fun x5 =>
    (ra_aI h 0 x5 a2).bind fun x6 =>
    (ra_aW h 0 x4 ((((7960 : Int32)) * a1) + a2) x6).bind fun h7 =>
    let y8 := a2 + (1 : Int32)
    nX12_image_23 N n a0 a1 y8 h7
  else
    (ra_fR h 12 a0 5).bind fun x1 =>
    (ra_aW h 2 x1 a1 (vp_nar .boolean ((1 : Int32)))).bind fun h2 =>
    (fX12_tell N a0 ((0 : Int32)) h2).bind fun q3 =>
    some (q3.1, q3.2)
def kX12_image_23 (N : Nat) (cs : Nat → Int32 → Int32 → ra_H → Option (Int32 × ra_H)) : Nat → List (Option Value) → List Value → ra_H → Option (Int32 × ra_H) := (ra_k1 23 (fun L S h => match L, S with
  | [some (.ref a0), some (.int a1), some (.int a2)], [] => cs a0 a1 a2 h
  | _, _ => none) ra_k0)
theorem kX12_image_23_ok (N : Nat) (cs : Nat → Int32 → Int32 → ra_H → Option (Int32 × ra_H)) (hcs : ∀ a0 a1 a2 h r, cs a0 a1 a2 h = some r → ra_Ru 2 mX12_image 23 [some (.ref a0), some (.int a1), some (.int a2)] [] h (ra_oI r)) : ra_kok 2 mX12_image ra_oI (kX12_image_23 N cs) := (ra_k1_ok (by
  intro L S h a e
  split at e
  · exact ra_Ru.weak (hcs _ _ _ _ _ e) ⟨rfl, ⟨rfl, ⟨rfl, trivial⟩⟩⟩
  · cases e) ra_k0_ok)
set_option maxRecDepth 100000 in
theorem nX12_image_23_ok (N : Nat) : ∀ n a0 a1 a2 h r, nX12_image_23 N n a0 a1 a2 h = some r → ra_Ru 2 mX12_image 23 [some (.ref a0), some (.int a1), some (.int a2)] [] h (ra_oI r) := by
  intro n
  induction n with
  | zero => intro a0 a1 a2 h r e; cases e
  | succ n ih =>
    intro a0 a1 a2 h r e
    exact ra_sound (by omega) rfl ra_rI_ok (kX12_image_23_ok N (nX12_image_23 N n) ih) (fun m av h h1 e => (ra_c0_ok (ro := ra_oV)) m av h h1 e) (fun m av h x h1 e => (tIX12_image_ok N) m av h (x, h1) e) (fun m av h x h1 e => (ra_c0_ok (ro := ra_oJ)) m av h (x, h1) e) (fun m av h x h1 e => (ra_c0_ok (ro := ra_oR)) m av h (x, h1) e) (fun m av h x h1 e => (ra_c0_ok (ro := ra_oN)) m av h (x, h1) e) (fun m av h x h1 e => (ra_c0_ok (ro := ra_oF)) m av h (x, h1) e) 27 lX12_image_23 _ _ _ _ lX12_image_23_ck (show ra_run ra_rI (kX12_image_23 N (nX12_image_23 N n)) ra_c0 (tIX12_image N) ra_c0 ra_c0 ra_c0 ra_c0 27 lX12_image_23 [some (.ref a0), some (.int a1), some (.int a2)] [] h = some r from e) _ _ rfl
def lX12_image_0 : List ra_I := [(0, .aload_n 0, 1, 0, 0, 0, 0, 0, []),
  (1, .iconst (0), 1, 0, 0, 0, (0), 0, []),
  (2, .putfield 147, 3, 12, 0, 0, 0, 0, []),
  (5, .iload_n 1, 1, 1, 0, 0, 0, 0, []),
  (6, .i2l, 1, 0, 0, 0, 0, 0, []),
  (7, .lconst 0, 1, 0, 0, 0, 0, 0, []),
  (8, .lconst 1, 1, 0, 0, 0, 0, 1, []),
  (9, .invokestatic 153, 3, 209, 3, 1, 0, 0, []),
  (12, .ifCond .ne (9), 3, 21, 0, 0, 0, 0, []),
  (15, .aload_n 0, 1, 0, 0, 0, 0, 0, []),
  (16, .iconst (-1), 1, 0, 0, 0, (-1), 0, []),
  (17, .invokevirtual 157, 3, 210, 2, 1, 0, 0, []),
  (20, .ireturn, 1, 0, 0, 0, 0, 0, []),
  (21, .iconst (0), 1, 0, 0, 0, (0), 0, []),
  (22, .istore_n 2, 1, 2, 0, 0, 0, 0, [])]
set_option maxRecDepth 100000 in
theorem lX12_image_0_ck : lX12_image_0.all (ra_ck mX12_image 12) = true := by decide +kernel
def nX12_image_0 (N : Nat) (a0 : Nat) (a1 : Int32) (h : ra_H) : Option (Int32 × ra_H) :=
  (ra_fW h 12 a0 0 (.int ((0 : Int32)))).bind fun h1 =>
  (fX12_in N (Int32.toInt64 a1) ((0 : Int64)) ((1 : Int64)) h1).bind fun q2 =>
  if q2.1 = 0 then
    (fX12_tell N a0 ((-1 : Int32)) q2.2).bind fun q3 =>
    some (q3.1, q3.2)
  else
    nX12_image_23 N N a0 a1 ((0 : Int32)) q2.2
def kX12_image_0 (N : Nat) : Nat → List (Option Value) → List Value → ra_H → Option (Int32 × ra_H) := (ra_k1 23 (fun L S h => match L, S with
  | [some (.ref a0), some (.int a1), some (.int a2)], [] => nX12_image_23 N N a0 a1 a2 h
  | _, _ => none) ra_k0)
theorem kX12_image_0_ok (N : Nat) : ra_kok 2 mX12_image ra_oI (kX12_image_0 N) := (ra_k1_ok (by
  intro L S h a e
  split at e
  · exact ra_Ru.weak (nX12_image_23_ok N N _ _ _ _ _ e) ⟨rfl, ⟨rfl, ⟨rfl, trivial⟩⟩⟩
  · cases e) ra_k0_ok)
set_option maxRecDepth 100000 in
theorem nX12_image_0_ok (N : Nat) (a0 : Nat) (a1 : Int32) (h : ra_H) (r : (Int32 × ra_H)) (e : nX12_image_0 N a0 a1 h = some r) : ra_Ru 2 mX12_image 0 [some (.ref a0), some (.int a1), none] [] h (ra_oI r) :=
  ra_sound (by omega) rfl ra_rI_ok (kX12_image_0_ok N) (fun m av h h1 e => (ra_c0_ok (ro := ra_oV)) m av h h1 e) (fun m av h x h1 e => (tIX12_image_ok N) m av h (x, h1) e) (fun m av h x h1 e => (ra_c0_ok (ro := ra_oJ)) m av h (x, h1) e) (fun m av h x h1 e => (ra_c0_ok (ro := ra_oR)) m av h (x, h1) e) (fun m av h x h1 e => (ra_c0_ok (ro := ra_oN)) m av h (x, h1) e) (fun m av h x h1 e => (ra_c0_ok (ro := ra_oF)) m av h (x, h1) e) 16 lX12_image_0 _ _ _ _ lX12_image_0_ck (show ra_run ra_rI (kX12_image_0 N) ra_c0 (tIX12_image N) ra_c0 ra_c0 ra_c0 ra_c0 16 lX12_image_0 [some (.ref a0), some (.int a1), none] [] h = some r from e) _ _ rfl
def fX12_image (N : Nat) (p0 : Nat) (p1 : Int32) (h : ra_H) : Option (Int32 × ra_H) := match ra_isOb h p0 12 with
  | true => nX12_image_0 N p0 p1 h
  | false => none
set_option maxRecDepth 100000 in
theorem mtX12_image : ra_MT[208]? = some (mX12_image, 1, 1, (1, 13), (7, 85), (7, 86)) := rfl
theorem fX12_image_co (N : Nat) (p0 : Nat) (p1 : Int32) (h : ra_H) (r : (Int32 × ra_H)) (e : fX12_image N p0 p1 h = some r) (D : Nat) (hD : 3 ≤ D) : ra_CO D 208 [.ref p0, .int p1] h (ra_oI r).1 (ra_oI r).2 := by
  have hw : ra_nw2 [.ref p0, .int p1] ≤ 3 := Nat.le_of_ble_eq_true rfl
  have hdb : ∀ v ∈ ([.ref p0, .int p1] : List Value), ∀ x, v ≠ .double x := by
    intro v hv x hx
    simp [hx] at hv
  unfold fX12_image at e
  split at e
  · rename_i ho
    have e1 := e
    exact ⟨2, _, mtX12_image, hD, ra_ev_of (by decide) hdb hw trivial (ra_Ru.weak (nX12_image_0_ok N p0 p1 h _ e1) ⟨rfl, ⟨rfl, trivial⟩⟩), (fun _ => ⟨_, _, rfl, ra_rcv_of ho (by decide) rfl⟩), (fun h => absurd h (by decide))⟩
  · cases e
/-! RedMarksModel.isText(I)Z -/
def mX12_isText : ra_M := (yX12_isText, cX12_isText, 2, (some .boolean))
def tIX12_isText (N : Nat) : Nat → List Value → ra_H → Option (Int32 × ra_H) := (ra_c1 209 (fun av h => match av with
  | [.long z0, .long z1, .long z2] => fX12_in N z0 z1 z2 h
  | _ => none) ra_c0)
theorem tIX12_isText_ok (N : Nat) : ra_cok 2 ra_oI (tIX12_isText N) := (ra_c1_ok (by
  intro av h a e
  split at e
  · exact fX12_in_co N _ _ _ _ _ e 2 (by omega)
  · cases e) ra_c0_ok)
def lX12_isText_0 : List ra_I := [(0, .iload_n 1, 1, 1, 0, 0, 0, 0, []),
  (1, .i2l, 1, 0, 0, 0, 0, 0, []),
  (2, .lconst 0, 1, 0, 0, 0, 0, 0, []),
  (3, .aload_n 0, 1, 0, 0, 0, 0, 0, []),
  (4, .getfield 13, 3, 12, 3, 2, 0, 0, []),
  (7, .sipush (481), 3, 0, 0, 0, (481), 0, []),
  (10, .iaload, 1, 0, 0, 0, 0, 0, []),
  (11, .i2l, 1, 0, 0, 0, 0, 0, []),
  (12, .lconst 1, 1, 0, 0, 0, 0, 1, []),
  (13, .lsub, 1, 0, 0, 0, 0, 0, []),
  (14, .invokestatic 153, 3, 209, 3, 1, 0, 0, []),
  (17, .ireturn, 1, 0, 0, 0, 0, 0, [])]
set_option maxRecDepth 100000 in
theorem lX12_isText_0_ck : lX12_isText_0.all (ra_ck mX12_isText 12) = true := by decide +kernel
def nX12_isText_0 (N : Nat) (a0 : Nat) (a1 : Int32) (h : ra_H) : Option (Int32 × ra_H) :=
  (ra_fR h 12 a0 3).bind fun x1 =>
  (ra_aI h 0 x1 ((481 : Int32))).bind fun x2 =>
  (fX12_in N (Int32.toInt64 a1) ((0 : Int64)) ((Int32.toInt64 x2) - ((1 : Int64))) h).bind fun q3 =>
  some (q3.1, q3.2)
def kX12_isText_0 (N : Nat) : Nat → List (Option Value) → List Value → ra_H → Option (Int32 × ra_H) := ra_k0
theorem kX12_isText_0_ok (N : Nat) : ra_kok 2 mX12_isText ra_oI (kX12_isText_0 N) := ra_k0_ok
set_option maxRecDepth 100000 in
theorem nX12_isText_0_ok (N : Nat) (a0 : Nat) (a1 : Int32) (h : ra_H) (r : (Int32 × ra_H)) (e : nX12_isText_0 N a0 a1 h = some r) : ra_Ru 2 mX12_isText 0 [some (.ref a0), some (.int a1)] [] h (ra_oI r) :=
  ra_sound (by omega) rfl ra_rI_ok (kX12_isText_0_ok N) (fun m av h h1 e => (ra_c0_ok (ro := ra_oV)) m av h h1 e) (fun m av h x h1 e => (tIX12_isText_ok N) m av h (x, h1) e) (fun m av h x h1 e => (ra_c0_ok (ro := ra_oJ)) m av h (x, h1) e) (fun m av h x h1 e => (ra_c0_ok (ro := ra_oR)) m av h (x, h1) e) (fun m av h x h1 e => (ra_c0_ok (ro := ra_oN)) m av h (x, h1) e) (fun m av h x h1 e => (ra_c0_ok (ro := ra_oF)) m av h (x, h1) e) 13 lX12_isText_0 _ _ _ _ lX12_isText_0_ck (show ra_run ra_rI (kX12_isText_0 N) ra_c0 (tIX12_isText N) ra_c0 ra_c0 ra_c0 ra_c0 13 lX12_isText_0 [some (.ref a0), some (.int a1)] [] h = some r from e) _ _ rfl
def fX12_isText (N : Nat) (p0 : Nat) (p1 : Int32) (h : ra_H) : Option (Int32 × ra_H) := match ra_isOb h p0 12 with
  | true => (nX12_isText_0 N p0 p1 h).bind (fun q => ra_rz q.1 q.2)
  | false => none
set_option maxRecDepth 100000 in
theorem mtX12_isText : ra_MT[256]? = some (mX12_isText, 1, 1, (1, 13), (8, 58), (0, 87)) := rfl
theorem fX12_isText_co (N : Nat) (p0 : Nat) (p1 : Int32) (h : ra_H) (r : (Int32 × ra_H)) (e : fX12_isText N p0 p1 h = some r) (D : Nat) (hD : 3 ≤ D) : ra_CO D 256 [.ref p0, .int p1] h (ra_oI r).1 (ra_oI r).2 := by
  have hw : ra_nw2 [.ref p0, .int p1] ≤ 2 := Nat.le_of_ble_eq_true rfl
  have hdb : ∀ v ∈ ([.ref p0, .int p1] : List Value), ∀ x, v ≠ .double x := by
    intro v hv x hx
    simp [hx] at hv
  unfold fX12_isText at e
  split at e
  · rename_i ho
    obtain ⟨q, e1, e2⟩ := Option.bind_eq_some_iff.mp e
    obtain ⟨rfl, hz⟩ := ra_rz_of e2
    exact ⟨2, _, mtX12_isText, hD, ra_ev_of (by decide) hdb hw hz (ra_Ru.weak (nX12_isText_0_ok N p0 p1 h _ e1) ⟨rfl, ⟨rfl, trivial⟩⟩), (fun _ => ⟨_, _, rfl, ra_rcv_of ho (by decide) rfl⟩), (fun h => absurd h (by decide))⟩
  · cases e
/-! RedMarksModel.keep(III)I -/
def mX12_keep : ra_M := (yX12_keep, cX12_keep, 4, (some .int))
def tVX12_keep (N : Nat) : Nat → List Value → ra_H → Option ra_H := (ra_c1 264 (fun av h => match av with
  | [.ref z0] => fX12_findSeats N z0 h
  | _ => none) ra_c0)
theorem tVX12_keep_ok (N : Nat) : ra_cok 7 ra_oV (tVX12_keep N) := (ra_c1_ok (by
  intro av h a e
  split at e
  · exact fX12_findSeats_co N _ _ _ e 7 (by omega)
  · cases e) ra_c0_ok)
def tIX12_keep (N : Nat) : Nat → List Value → ra_H → Option (Int32 × ra_H) := (ra_c1 209 (fun av h => match av with
  | [.long z0, .long z1, .long z2] => fX12_in N z0 z1 z2 h
  | _ => none) (ra_c1 210 (fun av h => match av with
  | [.ref z0, .int z1] => fX12_tell N z0 z1 h
  | _ => none) (ra_c1 256 (fun av h => match av with
  | [.ref z0, .int z1] => fX12_isText N z0 z1 h
  | _ => none) (ra_c1 265 (fun av h => match av with
  | [.ref z0, .int z1, .int z2, .int z3] => fX12_standing N z0 z1 z2 z3 h
  | _ => none) ra_c0))))
theorem tIX12_keep_ok (N : Nat) : ra_cok 7 ra_oI (tIX12_keep N) := (ra_c1_ok (by
  intro av h a e
  split at e
  · exact fX12_in_co N _ _ _ _ _ e 7 (by omega)
  · cases e) (ra_c1_ok (by
  intro av h a e
  split at e
  · exact fX12_tell_co N _ _ _ _ e 7 (by omega)
  · cases e) (ra_c1_ok (by
  intro av h a e
  split at e
  · exact fX12_isText_co N _ _ _ _ e 7 (by omega)
  · cases e) (ra_c1_ok (by
  intro av h a e
  split at e
  · exact fX12_standing_co N _ _ _ _ _ _ e 7 (by omega)
  · cases e) ra_c0_ok))))
def lX12_keep_39 : List ra_I := [(39, .aload_n 0, 1, 0, 0, 0, 0, 0, []),
  (40, .bipush (-2), 2, 0, 0, 0, (-2), 0, []),
  (42, .invokevirtual 157, 3, 210, 2, 1, 0, 0, []),
  (45, .ireturn, 1, 0, 0, 0, 0, 0, [])]
set_option maxRecDepth 100000 in
theorem lX12_keep_39_ck : lX12_keep_39.all (ra_ck mX12_keep 12) = true := by decide +kernel
def nX12_keep_39 (N : Nat) (a0 : Nat) (h : ra_H) : Option (Int32 × ra_H) :=
  (fX12_tell N a0 ((-2 : Int32)) h).bind fun q1 =>
  some (q1.1, q1.2)
def kX12_keep_39 (N : Nat) : Nat → List (Option Value) → List Value → ra_H → Option (Int32 × ra_H) := ra_k0
theorem kX12_keep_39_ok (N : Nat) : ra_kok 7 mX12_keep ra_oI (kX12_keep_39 N) := ra_k0_ok
set_option maxRecDepth 100000 in
theorem nX12_keep_39_ok (N : Nat) (a0 : Nat) (h : ra_H) (r : (Int32 × ra_H)) (e : nX12_keep_39 N a0 h = some r) : ra_Ru 7 mX12_keep 39 [some (.ref a0), none, none, none] [] h (ra_oI r) :=
  ra_sound (by omega) rfl ra_rI_ok (kX12_keep_39_ok N) (fun m av h h1 e => (tVX12_keep_ok N) m av h h1 e) (fun m av h x h1 e => (tIX12_keep_ok N) m av h (x, h1) e) (fun m av h x h1 e => (ra_c0_ok (ro := ra_oJ)) m av h (x, h1) e) (fun m av h x h1 e => (ra_c0_ok (ro := ra_oR)) m av h (x, h1) e) (fun m av h x h1 e => (ra_c0_ok (ro := ra_oN)) m av h (x, h1) e) (fun m av h x h1 e => (ra_c0_ok (ro := ra_oF)) m av h (x, h1) e) 5 lX12_keep_39 _ _ _ _ lX12_keep_39_ck (show ra_run ra_rI (kX12_keep_39 N) (tVX12_keep N) (tIX12_keep N) ra_c0 ra_c0 ra_c0 ra_c0 5 lX12_keep_39 [some (.ref a0), none, none, none] [] h = some r from e) _ _ rfl
def lX12_keep_0 : List ra_I := [(0, .aload_n 0, 1, 0, 0, 0, 0, 0, []),
  (1, .iconst (0), 1, 0, 0, 0, (0), 0, []),
  (2, .putfield 147, 3, 12, 0, 0, 0, 0, []),
  (5, .iload_n 3, 1, 3, 0, 0, 0, 0, []),
  (6, .i2l, 1, 0, 0, 0, 0, 0, []),
  (7, .lconst 0, 1, 0, 0, 0, 0, 0, []),
  (8, .ldc2_w 411, 3, 0, 0, 0, 0, (200), []),
  (11, .invokestatic 153, 3, 209, 3, 1, 0, 0, []),
  (14, .ifCond .ne (9), 3, 23, 0, 0, 0, 0, []),
  (17, .aload_n 0, 1, 0, 0, 0, 0, 0, []),
  (18, .iconst (-1), 1, 0, 0, 0, (-1), 0, []),
  (19, .invokevirtual 157, 3, 210, 2, 1, 0, 0, []),
  (22, .ireturn, 1, 0, 0, 0, 0, 0, []),
  (23, .aload_n 0, 1, 0, 0, 0, 0, 0, []),
  (24, .iload_n 1, 1, 1, 0, 0, 0, 0, []),
  (25, .invokevirtual 403, 3, 256, 2, 1, 0, 0, []),
  (28, .ifCond .eq (11), 3, 39, 0, 0, 0, 0, []),
  (31, .aload_n 0, 1, 0, 0, 0, 0, 0, []),
  (32, .iload_n 2, 1, 2, 0, 0, 0, 0, []),
  (33, .invokevirtual 403, 3, 256, 2, 1, 0, 0, []),
  (36, .ifCond .ne (10), 3, 46, 0, 0, 0, 0, []),
  (46, .aload_n 0, 1, 0, 0, 0, 0, 0, []),
  (47, .getfield 13, 3, 12, 3, 2, 0, 0, []),
  (50, .sipush (484), 3, 0, 0, 0, (484), 0, []),
  (53, .iload_n 1, 1, 1, 0, 0, 0, 0, []),
  (54, .iastore, 1, 0, 0, 0, 0, 0, []),
  (55, .aload_n 0, 1, 0, 0, 0, 0, 0, []),
  (56, .getfield 13, 3, 12, 3, 2, 0, 0, []),
  (59, .sipush (485), 3, 0, 0, 0, (485), 0, []),
  (62, .iload_n 2, 1, 2, 0, 0, 0, 0, []),
  (63, .iastore, 1, 0, 0, 0, 0, 0, []),
  (64, .aload_n 0, 1, 0, 0, 0, 0, 0, []),
  (65, .getfield 13, 3, 12, 3, 2, 0, 0, []),
  (68, .sipush (486), 3, 0, 0, 0, (486), 0, []),
  (71, .iload_n 3, 1, 3, 0, 0, 0, 0, []),
  (72, .iastore, 1, 0, 0, 0, 0, 0, []),
  (73, .aload_n 0, 1, 0, 0, 0, 0, 0, []),
  (74, .invokevirtual 413, 3, 264, 1, 0, 0, 0, []),
  (77, .aload_n 0, 1, 0, 0, 0, 0, 0, []),
  (78, .aload_n 0, 1, 0, 0, 0, 0, 0, []),
  (79, .iload_n 1, 1, 1, 0, 0, 0, 0, []),
  (80, .iload_n 2, 1, 2, 0, 0, 0, 0, []),
  (81, .iload_n 3, 1, 3, 0, 0, 0, 0, []),
  (82, .invokevirtual 416, 3, 265, 4, 1, 0, 0, []),
  (85, .invokevirtual 157, 3, 210, 2, 1, 0, 0, []),
  (88, .ireturn, 1, 0, 0, 0, 0, 0, [])]
set_option maxRecDepth 100000 in
theorem lX12_keep_0_ck : lX12_keep_0.all (ra_ck mX12_keep 12) = true := by decide +kernel
def nX12_keep_0 (N : Nat) (a0 : Nat) (a1 : Int32) (a2 : Int32) (a3 : Int32) (h : ra_H) : Option (Int32 × ra_H) :=
  (ra_fW h 12 a0 0 (.int ((0 : Int32)))).bind fun h1 =>
  (fX12_in N (Int32.toInt64 a3) ((0 : Int64)) ((200 : Int64)) h1).bind fun q2 =>
  if q2.1 = 0 then
    (fX12_tell N a0 ((-1 : Int32)) q2.2).bind fun q14 =>
    some (q14.1, q14.2)
  else
    (fX12_isText N a0 a1 q2.2).bind fun q3 =>
    if q3.1 = 0 then
      nX12_keep_39 N a0 q3.2
    else
      (fX12_isText N a0 a2 q3.2).bind fun q4 =>
      if q4.1 = 0 then
        nX12_keep_39 N a0 q4.2
      else
        (ra_fR q4.2 12 a0 3).bind fun x5 =>
        (ra_aW q4.2 0 x5 ((484 : Int32)) a1).bind fun h6 =>
        (ra_fR h6 12 a0 3).bind fun x7 =>
        (ra_aW h6 0 x7 ((485 : Int32)) a2).bind fun h8 =>
        (ra_fR h8 12 a0 3).bind fun x9 =>
        (ra_aW h8 0 x9 ((486 : Int32)) a3).bind fun h10 =>
        (fX12_findSeats N a0 h10).bind fun h11 =>
        (fX12_standing N a0 a1 a2 a3 h11).bind fun q12 =>
        (fX12_tell N a0 q12.1 q12.2).bind fun q13 =>
        some (q13.1, q13.2)
def kX12_keep_0 (N : Nat) : Nat → List (Option Value) → List Value → ra_H → Option (Int32 × ra_H) := (ra_k1 39 (fun L S h => match L, S with
  | [some (.ref a0), _, _, _], [] => nX12_keep_39 N a0 h
  | _, _ => none) ra_k0)
theorem kX12_keep_0_ok (N : Nat) : ra_kok 7 mX12_keep ra_oI (kX12_keep_0 N) := (ra_k1_ok (by
  intro L S h a e
  split at e
  · exact ra_Ru.weak (nX12_keep_39_ok N _ _ _ e) ⟨rfl, trivial⟩
  · cases e) ra_k0_ok)
set_option maxRecDepth 100000 in
theorem nX12_keep_0_ok (N : Nat) (a0 : Nat) (a1 : Int32) (a2 : Int32) (a3 : Int32) (h : ra_H) (r : (Int32 × ra_H)) (e : nX12_keep_0 N a0 a1 a2 a3 h = some r) : ra_Ru 7 mX12_keep 0 [some (.ref a0), some (.int a1), some (.int a2), some (.int a3)] [] h (ra_oI r) :=
  ra_sound (by omega) rfl ra_rI_ok (kX12_keep_0_ok N) (fun m av h h1 e => (tVX12_keep_ok N) m av h h1 e) (fun m av h x h1 e => (tIX12_keep_ok N) m av h (x, h1) e) (fun m av h x h1 e => (ra_c0_ok (ro := ra_oJ)) m av h (x, h1) e) (fun m av h x h1 e => (ra_c0_ok (ro := ra_oR)) m av h (x, h1) e) (fun m av h x h1 e => (ra_c0_ok (ro := ra_oN)) m av h (x, h1) e) (fun m av h x h1 e => (ra_c0_ok (ro := ra_oF)) m av h (x, h1) e) 47 lX12_keep_0 _ _ _ _ lX12_keep_0_ck (show ra_run ra_rI (kX12_keep_0 N) (tVX12_keep N) (tIX12_keep N) ra_c0 ra_c0 ra_c0 ra_c0 47 lX12_keep_0 [some (.ref a0), some (.int a1), some (.int a2), some (.int a3)] [] h = some r from e) _ _ rfl
def fX12_keep (N : Nat) (p0 : Nat) (p1 : Int32) (p2 : Int32) (p3 : Int32) (h : ra_H) : Option (Int32 × ra_H) := match ra_isOb h p0 12 with
  | true => nX12_keep_0 N p0 p1 p2 p3 h
  | false => none
set_option maxRecDepth 100000 in
theorem mtX12_keep : ra_MT[267]? = some (mX12_keep, 1, 3, (1, 13), (8, 106), (8, 107)) := rfl
theorem fX12_keep_co (N : Nat) (p0 : Nat) (p1 : Int32) (p2 : Int32) (p3 : Int32) (h : ra_H) (r : (Int32 × ra_H)) (e : fX12_keep N p0 p1 p2 p3 h = some r) (D : Nat) (hD : 8 ≤ D) : ra_CO D 267 [.ref p0, .int p1, .int p2, .int p3] h (ra_oI r).1 (ra_oI r).2 := by
  have hw : ra_nw2 [.ref p0, .int p1, .int p2, .int p3] ≤ 4 := Nat.le_of_ble_eq_true rfl
  have hdb : ∀ v ∈ ([.ref p0, .int p1, .int p2, .int p3] : List Value), ∀ x, v ≠ .double x := by
    intro v hv x hx
    simp [hx] at hv
  unfold fX12_keep at e
  split at e
  · rename_i ho
    have e1 := e
    exact ⟨7, _, mtX12_keep, hD, ra_ev_of (by decide) hdb hw trivial (ra_Ru.weak (nX12_keep_0_ok N p0 p1 p2 p3 h _ e1) ⟨rfl, ⟨rfl, ⟨rfl, ⟨rfl, trivial⟩⟩⟩⟩), (fun _ => ⟨_, _, rfl, ra_rcv_of ho (by decide) rfl⟩), (fun h => absurd h (by decide))⟩
  · cases e
/-! RedMarksModel.leaf(ZII)V -/
def mX12_leaf : ra_M := (yX12_leaf, cX12_leaf, 4, none)
def tVX12_leaf (N : Nat) : Nat → List Value → ra_H → Option ra_H := (ra_c1 239 (fun av h => match av with
  | [.ref z0, .int z1] => fX12_must N z0 z1 h
  | _ => none) (ra_c1 248 (fun av h => match av with
  | [.ref z0, .int z1, .int z2] => fX12_emit N z0 z1 z2 h
  | _ => none) ra_c0))
theorem tVX12_leaf_ok (N : Nat) : ra_cok 4 ra_oV (tVX12_leaf N) := (ra_c1_ok (by
  intro av h a e
  split at e
  · exact fX12_must_co N _ _ _ _ e 4 (by omega)
  · cases e) (ra_c1_ok (by
  intro av h a e
  split at e
  · exact fX12_emit_co N _ _ _ _ _ e 4 (by omega)
  · cases e) ra_c0_ok))
def lX12_leaf_45 : List ra_I := [(45, .return_, 1, 0, 0, 0, 0, 0, [])]
set_option maxRecDepth 100000 in
theorem lX12_leaf_45_ck : lX12_leaf_45.all (ra_ck mX12_leaf 12) = true := by decide +kernel
def nX12_leaf_45 (N : Nat) (h : ra_H) : Option ra_H :=
  some h
def kX12_leaf_45 (N : Nat) : Nat → List (Option Value) → List Value → ra_H → Option ra_H := ra_k0
theorem kX12_leaf_45_ok (N : Nat) : ra_kok 4 mX12_leaf ra_oV (kX12_leaf_45 N) := ra_k0_ok
set_option maxRecDepth 100000 in
theorem nX12_leaf_45_ok (N : Nat) (h : ra_H) (r : ra_H) (e : nX12_leaf_45 N h = some r) : ra_Ru 4 mX12_leaf 45 [none, none, none, none] [] h (ra_oV r) :=
  ra_sound (by omega) rfl ra_rV_ok (kX12_leaf_45_ok N) (fun m av h h1 e => (tVX12_leaf_ok N) m av h h1 e) (fun m av h x h1 e => (ra_c0_ok (ro := ra_oI)) m av h (x, h1) e) (fun m av h x h1 e => (ra_c0_ok (ro := ra_oJ)) m av h (x, h1) e) (fun m av h x h1 e => (ra_c0_ok (ro := ra_oR)) m av h (x, h1) e) (fun m av h x h1 e => (ra_c0_ok (ro := ra_oN)) m av h (x, h1) e) (fun m av h x h1 e => (ra_c0_ok (ro := ra_oF)) m av h (x, h1) e) 2 lX12_leaf_45 _ _ _ _ lX12_leaf_45_ck (show ra_run ra_rV (kX12_leaf_45 N) (tVX12_leaf N) ra_c0 ra_c0 ra_c0 ra_c0 ra_c0 2 lX12_leaf_45 [none, none, none, none] [] h = some r from e) _ _ rfl
def lX12_leaf_19 : List ra_I := [(19, .invokevirtual 260, 3, 239, 2, 0, 0, 0, []),
  (22, .aload_n 0, 1, 0, 0, 0, 0, 0, []),
  (23, .getfield 225, 3, 12, 14, 0, 0, 0, []),
  (26, .ifCond .ne (19), 3, 45, 0, 0, 0, 0, []),
  (29, .aload_n 0, 1, 0, 0, 0, 0, 0, []),
  (30, .iload_n 2, 1, 2, 0, 0, 0, 0, []),
  (31, .iload_n 3, 1, 3, 0, 0, 0, 0, []),
  (32, .invokevirtual 273, 3, 248, 3, 0, 0, 0, []),
  (35, .aload_n 0, 1, 0, 0, 0, 0, 0, []),
  (36, .dup, 1, 0, 0, 0, 0, 0, []),
  (37, .getfield 299, 3, 12, 20, 0, 0, 0, []),
  (40, .iconst (1), 1, 0, 0, 0, (1), 0, []),
  (41, .iadd, 1, 0, 0, 0, 0, 0, []),
  (42, .putfield 299, 3, 12, 20, 0, 0, 0, [])]
set_option maxRecDepth 100000 in
theorem lX12_leaf_19_ck : lX12_leaf_19.all (ra_ck mX12_leaf 12) = true := by decide +kernel
def nX12_leaf_19 (N : Nat) (a0 : Nat) (a2 : Int32) (a3 : Int32) (b0 : Nat) (b1 : Int32) (h : ra_H) : Option ra_H :=
  (fX12_must N b0 b1 h).bind fun h1 =>
  (ra_fI h1 12 a0 14).bind fun x2 =>
  if x2 = 0 then
    (fX12_emit N a0 a2 a3 h1).bind fun h3 =>
    (ra_fI h3 12 a0 20).bind fun x4 =>
    (ra_fW h3 12 a0 20 (.int (x4 + ((1 : Int32))))).bind fun h5 =>
    nX12_leaf_45 N h5
  else
    nX12_leaf_45 N h1
def kX12_leaf_19 (N : Nat) : Nat → List (Option Value) → List Value → ra_H → Option ra_H := (ra_k1 45 (fun L S h => match L, S with
  | [_, _, _, _], [] => nX12_leaf_45 N h
  | _, _ => none) ra_k0)
theorem kX12_leaf_19_ok (N : Nat) : ra_kok 4 mX12_leaf ra_oV (kX12_leaf_19 N) := (ra_k1_ok (by
  intro L S h a e
  split at e
  · exact ra_Ru.weak (nX12_leaf_45_ok N _ _ e) trivial
  · cases e) ra_k0_ok)
set_option maxRecDepth 100000 in
theorem nX12_leaf_19_ok (N : Nat) (a0 : Nat) (a2 : Int32) (a3 : Int32) (b0 : Nat) (b1 : Int32) (h : ra_H) (r : ra_H) (e : nX12_leaf_19 N a0 a2 a3 b0 b1 h = some r) : ra_Ru 4 mX12_leaf 19 [some (.ref a0), none, some (.int a2), some (.int a3)] [.int b1, .ref b0] h (ra_oV r) :=
  ra_sound (by omega) rfl ra_rV_ok (kX12_leaf_19_ok N) (fun m av h h1 e => (tVX12_leaf_ok N) m av h h1 e) (fun m av h x h1 e => (ra_c0_ok (ro := ra_oI)) m av h (x, h1) e) (fun m av h x h1 e => (ra_c0_ok (ro := ra_oJ)) m av h (x, h1) e) (fun m av h x h1 e => (ra_c0_ok (ro := ra_oR)) m av h (x, h1) e) (fun m av h x h1 e => (ra_c0_ok (ro := ra_oN)) m av h (x, h1) e) (fun m av h x h1 e => (ra_c0_ok (ro := ra_oF)) m av h (x, h1) e) 15 lX12_leaf_19 _ _ _ _ lX12_leaf_19_ck (show ra_run ra_rV (kX12_leaf_19 N) (tVX12_leaf N) ra_c0 ra_c0 ra_c0 ra_c0 ra_c0 15 lX12_leaf_19 [some (.ref a0), none, some (.int a2), some (.int a3)] [.int b1, .ref b0] h = some r from e) _ _ rfl
def lX12_leaf_18 : List ra_I := [(18, .iconst (0), 1, 0, 0, 0, (0), 0, [])]
set_option maxRecDepth 100000 in
theorem lX12_leaf_18_ck : lX12_leaf_18.all (ra_ck mX12_leaf 12) = true := by decide +kernel
def nX12_leaf_18 (N : Nat) (a0 : Nat) (a2 : Int32) (a3 : Int32) (b0 : Nat) (h : ra_H) : Option ra_H :=
  nX12_leaf_19 N a0 a2 a3 b0 ((0 : Int32)) h
def kX12_leaf_18 (N : Nat) : Nat → List (Option Value) → List Value → ra_H → Option ra_H := (ra_k1 19 (fun L S h => match L, S with
  | [some (.ref a0), _, some (.int a2), some (.int a3)], [.int b1, .ref b0] => nX12_leaf_19 N a0 a2 a3 b0 b1 h
  | _, _ => none) ra_k0)
theorem kX12_leaf_18_ok (N : Nat) : ra_kok 4 mX12_leaf ra_oV (kX12_leaf_18 N) := (ra_k1_ok (by
  intro L S h a e
  split at e
  · exact ra_Ru.weak (nX12_leaf_19_ok N _ _ _ _ _ _ _ e) ⟨rfl, ⟨rfl, ⟨rfl, trivial⟩⟩⟩
  · cases e) ra_k0_ok)
set_option maxRecDepth 100000 in
theorem nX12_leaf_18_ok (N : Nat) (a0 : Nat) (a2 : Int32) (a3 : Int32) (b0 : Nat) (h : ra_H) (r : ra_H) (e : nX12_leaf_18 N a0 a2 a3 b0 h = some r) : ra_Ru 4 mX12_leaf 18 [some (.ref a0), none, some (.int a2), some (.int a3)] [.ref b0] h (ra_oV r) :=
  ra_sound (by omega) rfl ra_rV_ok (kX12_leaf_18_ok N) (fun m av h h1 e => (tVX12_leaf_ok N) m av h h1 e) (fun m av h x h1 e => (ra_c0_ok (ro := ra_oI)) m av h (x, h1) e) (fun m av h x h1 e => (ra_c0_ok (ro := ra_oJ)) m av h (x, h1) e) (fun m av h x h1 e => (ra_c0_ok (ro := ra_oR)) m av h (x, h1) e) (fun m av h x h1 e => (ra_c0_ok (ro := ra_oN)) m av h (x, h1) e) (fun m av h x h1 e => (ra_c0_ok (ro := ra_oF)) m av h (x, h1) e) 2 lX12_leaf_18 _ _ _ _ lX12_leaf_18_ck (show ra_run ra_rV (kX12_leaf_18 N) (tVX12_leaf N) ra_c0 ra_c0 ra_c0 ra_c0 ra_c0 2 lX12_leaf_18 [some (.ref a0), none, some (.int a2), some (.int a3)] [.ref b0] h = some r from e) _ _ rfl
def lX12_leaf_0 : List ra_I := [(0, .aload_n 0, 1, 0, 0, 0, 0, 0, []),
  (1, .iload_n 1, 1, 1, 0, 0, 0, 0, []),
  (2, .ifCond .eq (16), 3, 18, 0, 0, 0, 0, []),
  (5, .aload_n 0, 1, 0, 0, 0, 0, 0, []),
  (6, .getfield 299, 3, 12, 20, 0, 0, 0, []),
  (9, .bipush (50), 2, 0, 0, 0, (50), 0, []),
  (11, .if_icmp .ge (7), 3, 18, 0, 0, 0, 0, []),
  (14, .iconst (1), 1, 0, 0, 0, (1), 0, []),
  (15, .goto (4), 3, 19, 0, 0, 0, 0, [])]
set_option maxRecDepth 100000 in
theorem lX12_leaf_0_ck : lX12_leaf_0.all (ra_ck mX12_leaf 12) = true := by decide +kernel
def nX12_leaf_0 (N : Nat) (a0 : Nat) (a1 : Int32) (a2 : Int32) (a3 : Int32) (h : ra_H) : Option ra_H :=
  if a1 = 0 then
    nX12_leaf_18 N a0 a2 a3 a0 h
  else
    (ra_fI h 12 a0 20).bind fun x1 =>
    if x1 < ((50 : Int32)) then
      nX12_leaf_19 N a0 a2 a3 a0 ((1 : Int32)) h
    else
      nX12_leaf_18 N a0 a2 a3 a0 h
def kX12_leaf_0 (N : Nat) : Nat → List (Option Value) → List Value → ra_H → Option ra_H := (ra_k1 18 (fun L S h => match L, S with
  | [some (.ref a0), _, some (.int a2), some (.int a3)], [.ref b0] => nX12_leaf_18 N a0 a2 a3 b0 h
  | _, _ => none) (ra_k1 19 (fun L S h => match L, S with
  | [some (.ref a0), _, some (.int a2), some (.int a3)], [.int b1, .ref b0] => nX12_leaf_19 N a0 a2 a3 b0 b1 h
  | _, _ => none) ra_k0))
theorem kX12_leaf_0_ok (N : Nat) : ra_kok 4 mX12_leaf ra_oV (kX12_leaf_0 N) := (ra_k1_ok (by
  intro L S h a e
  split at e
  · exact ra_Ru.weak (nX12_leaf_18_ok N _ _ _ _ _ _ e) ⟨rfl, ⟨rfl, ⟨rfl, trivial⟩⟩⟩
  · cases e) (ra_k1_ok (by
  intro L S h a e
  split at e
  · exact ra_Ru.weak (nX12_leaf_19_ok N _ _ _ _ _ _ _ e) ⟨rfl, ⟨rfl, ⟨rfl, trivial⟩⟩⟩
  · cases e) ra_k0_ok))
set_option maxRecDepth 100000 in
theorem nX12_leaf_0_ok (N : Nat) (a0 : Nat) (a1 : Int32) (a2 : Int32) (a3 : Int32) (h : ra_H) (r : ra_H) (e : nX12_leaf_0 N a0 a1 a2 a3 h = some r) : ra_Ru 4 mX12_leaf 0 [some (.ref a0), some (.int a1), some (.int a2), some (.int a3)] [] h (ra_oV r) :=
  ra_sound (by omega) rfl ra_rV_ok (kX12_leaf_0_ok N) (fun m av h h1 e => (tVX12_leaf_ok N) m av h h1 e) (fun m av h x h1 e => (ra_c0_ok (ro := ra_oI)) m av h (x, h1) e) (fun m av h x h1 e => (ra_c0_ok (ro := ra_oJ)) m av h (x, h1) e) (fun m av h x h1 e => (ra_c0_ok (ro := ra_oR)) m av h (x, h1) e) (fun m av h x h1 e => (ra_c0_ok (ro := ra_oN)) m av h (x, h1) e) (fun m av h x h1 e => (ra_c0_ok (ro := ra_oF)) m av h (x, h1) e) 10 lX12_leaf_0 _ _ _ _ lX12_leaf_0_ck (show ra_run ra_rV (kX12_leaf_0 N) (tVX12_leaf N) ra_c0 ra_c0 ra_c0 ra_c0 ra_c0 10 lX12_leaf_0 [some (.ref a0), some (.int a1), some (.int a2), some (.int a3)] [] h = some r from e) _ _ rfl
def fX12_leaf (N : Nat) (p0 : Nat) (p1 : Int32) (p2 : Int32) (p3 : Int32) (h : ra_H) : Option ra_H := match ra_isOb h p0 12 with
  | true => nX12_leaf_0 N p0 p1 p2 p3 h
  | false => none
set_option maxRecDepth 100000 in
theorem mtX12_leaf : ra_MT[247]? = some (mX12_leaf, 1, 3, (1, 13), (8, 16), (0, 80)) := rfl
theorem fX12_leaf_co (N : Nat) (p0 : Nat) (p1 : Int32) (p2 : Int32) (p3 : Int32) (h : ra_H) (r : ra_H) (e : fX12_leaf N p0 p1 p2 p3 h = some r) (D : Nat) (hD : 5 ≤ D) : ra_CO D 247 [.ref p0, .int p1, .int p2, .int p3] h (ra_oV r).1 (ra_oV r).2 := by
  have hw : ra_nw2 [.ref p0, .int p1, .int p2, .int p3] ≤ 4 := Nat.le_of_ble_eq_true rfl
  have hdb : ∀ v ∈ ([.ref p0, .int p1, .int p2, .int p3] : List Value), ∀ x, v ≠ .double x := by
    intro v hv x hx
    simp [hx] at hv
  unfold fX12_leaf at e
  split at e
  · rename_i ho
    have e1 := e
    exact ⟨4, _, mtX12_leaf, hD, ra_ev_of (by decide) hdb hw trivial (ra_Ru.weak (nX12_leaf_0_ok N p0 p1 p2 p3 h _ e1) ⟨rfl, ⟨rfl, ⟨rfl, ⟨rfl, trivial⟩⟩⟩⟩), (fun _ => ⟨_, _, rfl, ra_rcv_of ho (by decide) rfl⟩), (fun h => absurd h (by decide))⟩
  · cases e
/-! RedMarksModel.matchedLines()I -/
def mX12_matchedLines : ra_M := (yX12_matchedLines, cX12_matchedLines, 3, (some .int))
def tIX12_matchedLines (N : Nat) : Nat → List Value → ra_H → Option (Int32 × ra_H) := (ra_c1 292 (fun av h => match av with
  | [.ref z0, .int z1] => fX12_bookOf N z0 z1 h
  | _ => none) ra_c0)
theorem tIX12_matchedLines_ok (N : Nat) : ra_cok 2 ra_oI (tIX12_matchedLines N) := (ra_c1_ok (by
  intro av h a e
  split at e
  · exact fX12_bookOf_co N _ _ _ _ e 2 (by omega)
  · cases e) ra_c0_ok)
def lX12_matchedLines_31 : List ra_I := [(31, .iadd, 1, 0, 0, 0, 0, 0, []),
  (32, .istore_n 1, 1, 1, 0, 0, 0, 0, []),
  (33, .iinc 2 (1), 3, 2, 0, 0, (1), 0, []),
  (36, .goto (-32), 3, 4, 0, 0, 0, 0, [])]
set_option maxRecDepth 100000 in
theorem lX12_matchedLines_31_ck : lX12_matchedLines_31.all (ra_ck mX12_matchedLines 12) = true := by decide +kernel
def nX12_matchedLines_31 (N : Nat) (c4 : Nat → Int32 → Int32 → ra_H → Option (Int32 × ra_H)) (a0 : Nat) (a2 : Int32) (b0 : Int32) (b1 : Int32) (h : ra_H) : Option (Int32 × ra_H) :=
  let y1 := b0 + b1
  let y2 := a2 + (1 : Int32)
  c4 a0 y1 y2 h
def kX12_matchedLines_31 (N : Nat) (c4 : Nat → Int32 → Int32 → ra_H → Option (Int32 × ra_H)) : Nat → List (Option Value) → List Value → ra_H → Option (Int32 × ra_H) := (ra_k1 4 (fun L S h => match L, S with
  | [some (.ref a0), some (.int a1), some (.int a2)], [] => c4 a0 a1 a2 h
  | _, _ => none) ra_k0)
theorem kX12_matchedLines_31_ok (N : Nat) (c4 : Nat → Int32 → Int32 → ra_H → Option (Int32 × ra_H)) (hc4 : ∀ a0 a1 a2 h r, c4 a0 a1 a2 h = some r → ra_Ru 2 mX12_matchedLines 4 [some (.ref a0), some (.int a1), some (.int a2)] [] h (ra_oI r)) : ra_kok 2 mX12_matchedLines ra_oI (kX12_matchedLines_31 N c4) := (ra_k1_ok (by
  intro L S h a e
  split at e
  · exact ra_Ru.weak (hc4 _ _ _ _ _ e) ⟨rfl, ⟨rfl, ⟨rfl, trivial⟩⟩⟩
  · cases e) ra_k0_ok)
set_option maxRecDepth 100000 in
theorem nX12_matchedLines_31_ok (N : Nat) (c4 : Nat → Int32 → Int32 → ra_H → Option (Int32 × ra_H)) (hc4 : ∀ a0 a1 a2 h r, c4 a0 a1 a2 h = some r → ra_Ru 2 mX12_matchedLines 4 [some (.ref a0), some (.int a1), some (.int a2)] [] h (ra_oI r)) (a0 : Nat) (a2 : Int32) (b0 : Int32) (b1 : Int32) (h : ra_H) (r : (Int32 × ra_H)) (e : nX12_matchedLines_31 N c4 a0 a2 b0 b1 h = some r) : ra_Ru 2 mX12_matchedLines 31 [some (.ref a0), none, some (.int a2)] [.int b1, .int b0] h (ra_oI r) :=
  ra_sound (by omega) rfl ra_rI_ok (kX12_matchedLines_31_ok N c4 hc4) (fun m av h h1 e => (ra_c0_ok (ro := ra_oV)) m av h h1 e) (fun m av h x h1 e => (tIX12_matchedLines_ok N) m av h (x, h1) e) (fun m av h x h1 e => (ra_c0_ok (ro := ra_oJ)) m av h (x, h1) e) (fun m av h x h1 e => (ra_c0_ok (ro := ra_oR)) m av h (x, h1) e) (fun m av h x h1 e => (ra_c0_ok (ro := ra_oN)) m av h (x, h1) e) (fun m av h x h1 e => (ra_c0_ok (ro := ra_oF)) m av h (x, h1) e) 5 lX12_matchedLines_31 _ _ _ _ lX12_matchedLines_31_ck (show ra_run ra_rI (kX12_matchedLines_31 N c4) ra_c0 (tIX12_matchedLines N) ra_c0 ra_c0 ra_c0 ra_c0 5 lX12_matchedLines_31 [some (.ref a0), none, some (.int a2)] [.int b1, .int b0] h = some r from e) _ _ rfl
def lX12_matchedLines_4 : List ra_I := [(4, .iload_n 2, 1, 2, 0, 0, 0, 0, []),
  (5, .aload_n 0, 1, 0, 0, 0, 0, 0, []),
  (6, .getfield 13, 3, 12, 3, 2, 0, 0, []),
  (9, .sipush (482), 3, 0, 0, 0, (482), 0, []),
  (12, .iaload, 1, 0, 0, 0, 0, 0, []),
  (13, .if_icmp .ge (26), 3, 39, 0, 0, 0, 0, []),
  (16, .iload_n 1, 1, 1, 0, 0, 0, 0, []),
  (17, .aload_n 0, 1, 0, 0, 0, 0, 0, []),
  (18, .iload_n 2, 1, 2, 0, 0, 0, 0, []),
  (19, .invokevirtual 467, 3, 292, 2, 1, 0, 0, []),
  (22, .iconst (-1), 1, 0, 0, 0, (-1), 0, []),
  (23, .if_icmp .ne (7), 3, 30, 0, 0, 0, 0, []),
  (26, .iconst (0), 1, 0, 0, 0, (0), 0, []),
  (27, .goto (4), 3, 31, 0, 0, 0, 0, []),
  (30, .iconst (1), 1, 0, 0, 0, (1), 0, []),
  (39, .iload_n 1, 1, 1, 0, 0, 0, 0, []),
  (40, .ireturn, 1, 0, 0, 0, 0, 0, [])]
set_option maxRecDepth 100000 in
theorem lX12_matchedLines_4_ck : lX12_matchedLines_4.all (ra_ck mX12_matchedLines 12) = true := by decide +kernel
def nX12_matchedLines_4 (N : Nat) : Nat → Nat → Int32 → Int32 → ra_H → Option (Int32 × ra_H)
  | 0, _, _, _, _ => none
  | n + 1, a0, a1, a2, h =>
  (ra_fR h 12 a0 3).bind fun x1 =>
  (ra_aI h 0 x1 ((482 : Int32))).bind fun x2 =>
  if a2 < x2 then
    (fX12_bookOf N a0 a2 h).bind fun q3 =>
    if q3.1 = ((-1 : Int32)) then
      nX12_matchedLines_31 N (nX12_matchedLines_4 N n) a0 a2 a1 ((0 : Int32)) q3.2
    else
      nX12_matchedLines_31 N (nX12_matchedLines_4 N n) a0 a2 a1 ((1 : Int32)) q3.2
  else
    some (a1, h)
def kX12_matchedLines_4 (N : Nat) (cs : Nat → Int32 → Int32 → ra_H → Option (Int32 × ra_H)) : Nat → List (Option Value) → List Value → ra_H → Option (Int32 × ra_H) := (ra_k1 31 (fun L S h => match L, S with
  | [some (.ref a0), _, some (.int a2)], [.int b1, .int b0] => nX12_matchedLines_31 N cs a0 a2 b0 b1 h
  | _, _ => none) ra_k0)
theorem kX12_matchedLines_4_ok (N : Nat) (cs : Nat → Int32 → Int32 → ra_H → Option (Int32 × ra_H)) (hcs : ∀ a0 a1 a2 h r, cs a0 a1 a2 h = some r → ra_Ru 2 mX12_matchedLines 4 [some (.ref a0), some (.int a1), some (.int a2)] [] h (ra_oI r)) : ra_kok 2 mX12_matchedLines ra_oI (kX12_matchedLines_4 N cs) := (ra_k1_ok (by
  intro L S h a e
  split at e
  · exact ra_Ru.weak (nX12_matchedLines_31_ok N cs hcs _ _ _ _ _ _ e) ⟨rfl, ⟨rfl, trivial⟩⟩
  · cases e) ra_k0_ok)
set_option maxRecDepth 100000 in
theorem nX12_matchedLines_4_ok (N : Nat) : ∀ n a0 a1 a2 h r, nX12_matchedLines_4 N n a0 a1 a2 h = some r → ra_Ru 2 mX12_matchedLines 4 [some (.ref a0), some (.int a1), some (.int a2)] [] h (ra_oI r) := by
  intro n
  induction n with
  | zero => intro a0 a1 a2 h r e; cases e
  | succ n ih =>
    intro a0 a1 a2 h r e
    exact ra_sound (by omega) rfl ra_rI_ok (kX12_matchedLines_4_ok N (nX12_matchedLines_4 N n) ih) (fun m av h h1 e => (ra_c0_ok (ro := ra_oV)) m av h h1 e) (fun m av h x h1 e => (tIX12_matchedLines_ok N) m av h (x, h1) e) (fun m av h x h1 e => (ra_c0_ok (ro := ra_oJ)) m av h (x, h1) e) (fun m av h x h1 e => (ra_c0_ok (ro := ra_oR)) m av h (x, h1) e) (fun m av h x h1 e => (ra_c0_ok (ro := ra_oN)) m av h (x, h1) e) (fun m av h x h1 e => (ra_c0_ok (ro := ra_oF)) m av h (x, h1) e) 18 lX12_matchedLines_4 _ _ _ _ lX12_matchedLines_4_ck (show ra_run ra_rI (kX12_matchedLines_4 N (nX12_matchedLines_4 N n)) ra_c0 (tIX12_matchedLines N) ra_c0 ra_c0 ra_c0 ra_c0 18 lX12_matchedLines_4 [some (.ref a0), some (.int a1), some (.int a2)] [] h = some r from e) _ _ rfl
def lX12_matchedLines_0 : List ra_I := [(0, .iconst (0), 1, 0, 0, 0, (0), 0, []),
  (1, .istore_n 1, 1, 1, 0, 0, 0, 0, []),
  (2, .iconst (0), 1, 0, 0, 0, (0), 0, []),
  (3, .istore_n 2, 1, 2, 0, 0, 0, 0, [])]
set_option maxRecDepth 100000 in
theorem lX12_matchedLines_0_ck : lX12_matchedLines_0.all (ra_ck mX12_matchedLines 12) = true := by decide +kernel
def nX12_matchedLines_0 (N : Nat) (a0 : Nat) (h : ra_H) : Option (Int32 × ra_H) :=
  nX12_matchedLines_4 N N a0 ((0 : Int32)) ((0 : Int32)) h
def kX12_matchedLines_0 (N : Nat) : Nat → List (Option Value) → List Value → ra_H → Option (Int32 × ra_H) := (ra_k1 4 (fun L S h => match L, S with
  | [some (.ref a0), some (.int a1), some (.int a2)], [] => nX12_matchedLines_4 N N a0 a1 a2 h
  | _, _ => none) ra_k0)
theorem kX12_matchedLines_0_ok (N : Nat) : ra_kok 2 mX12_matchedLines ra_oI (kX12_matchedLines_0 N) := (ra_k1_ok (by
  intro L S h a e
  split at e
  · exact ra_Ru.weak (nX12_matchedLines_4_ok N N _ _ _ _ _ e) ⟨rfl, ⟨rfl, ⟨rfl, trivial⟩⟩⟩
  · cases e) ra_k0_ok)
set_option maxRecDepth 100000 in
theorem nX12_matchedLines_0_ok (N : Nat) (a0 : Nat) (h : ra_H) (r : (Int32 × ra_H)) (e : nX12_matchedLines_0 N a0 h = some r) : ra_Ru 2 mX12_matchedLines 0 [some (.ref a0), none, none] [] h (ra_oI r) :=
  ra_sound (by omega) rfl ra_rI_ok (kX12_matchedLines_0_ok N) (fun m av h h1 e => (ra_c0_ok (ro := ra_oV)) m av h h1 e) (fun m av h x h1 e => (tIX12_matchedLines_ok N) m av h (x, h1) e) (fun m av h x h1 e => (ra_c0_ok (ro := ra_oJ)) m av h (x, h1) e) (fun m av h x h1 e => (ra_c0_ok (ro := ra_oR)) m av h (x, h1) e) (fun m av h x h1 e => (ra_c0_ok (ro := ra_oN)) m av h (x, h1) e) (fun m av h x h1 e => (ra_c0_ok (ro := ra_oF)) m av h (x, h1) e) 5 lX12_matchedLines_0 _ _ _ _ lX12_matchedLines_0_ck (show ra_run ra_rI (kX12_matchedLines_0 N) ra_c0 (tIX12_matchedLines N) ra_c0 ra_c0 ra_c0 ra_c0 5 lX12_matchedLines_0 [some (.ref a0), none, none] [] h = some r from e) _ _ rfl
def fX12_matchedLines (N : Nat) (p0 : Nat) (h : ra_H) : Option (Int32 × ra_H) := match ra_isOb h p0 12 with
  | true => nX12_matchedLines_0 N p0 h
  | false => none
set_option maxRecDepth 100000 in
theorem mtX12_matchedLines : ra_MT[291]? = some (mX12_matchedLines, 1, 0, (1, 13), (8, 204), (0, 108)) := rfl
theorem fX12_matchedLines_co (N : Nat) (p0 : Nat) (h : ra_H) (r : (Int32 × ra_H)) (e : fX12_matchedLines N p0 h = some r) (D : Nat) (hD : 3 ≤ D) : ra_CO D 291 [.ref p0] h (ra_oI r).1 (ra_oI r).2 := by
  have hw : ra_nw2 [.ref p0] ≤ 3 := Nat.le_of_ble_eq_true rfl
  have hdb : ∀ v ∈ ([.ref p0] : List Value), ∀ x, v ≠ .double x := by
    intro v hv x hx
    simp [hx] at hv
  unfold fX12_matchedLines at e
  split at e
  · rename_i ho
    have e1 := e
    exact ⟨2, _, mtX12_matchedLines, hD, ra_ev_of (by decide) hdb hw trivial (ra_Ru.weak (nX12_matchedLines_0_ok N p0 h _ e1) ⟨rfl, trivial⟩), (fun _ => ⟨_, _, rfl, ra_rcv_of ho (by decide) rfl⟩), (fun h => absurd h (by decide))⟩
  · cases e
/-! RedMarksModel.left(I)I -/
def mX12_left : ra_M := (yX12_left, cX12_left, 3, (some .int))
def tVX12_left (N : Nat) : Nat → List Value → ra_H → Option ra_H := (ra_c1 286 (fun av h => match av with
  | [.ref z0] => fX12_matchAll N z0 h
  | _ => none) ra_c0)
theorem tVX12_left_ok (N : Nat) : ra_cok 6 ra_oV (tVX12_left N) := (ra_c1_ok (by
  intro av h a e
  split at e
  · exact fX12_matchAll_co N _ _ _ e 6 (by omega)
  · cases e) ra_c0_ok)
def tIX12_left (N : Nat) : Nat → List Value → ra_H → Option (Int32 × ra_H) := (ra_c1 209 (fun av h => match av with
  | [.long z0, .long z1, .long z2] => fX12_in N z0 z1 z2 h
  | _ => none) (ra_c1 291 (fun av h => match av with
  | [.ref z0] => fX12_matchedLines N z0 h
  | _ => none) (ra_c1 314 (fun av h => match av with
  | [.ref z0] => fX12_marked N z0 h
  | _ => none) ra_c0)))
theorem tIX12_left_ok (N : Nat) : ra_cok 6 ra_oI (tIX12_left N) := (ra_c1_ok (by
  intro av h a e
  split at e
  · exact fX12_in_co N _ _ _ _ _ e 6 (by omega)
  · cases e) (ra_c1_ok (by
  intro av h a e
  split at e
  · exact fX12_matchedLines_co N _ _ _ e 6 (by omega)
  · cases e) (ra_c1_ok (by
  intro av h a e
  split at e
  · exact fX12_marked_co N _ _ _ e 6 (by omega)
  · cases e) ra_c0_ok)))
def lX12_left_70 : List ra_I := [(70, .ireturn, 1, 0, 0, 0, 0, 0, [])]
set_option maxRecDepth 100000 in
theorem lX12_left_70_ck : lX12_left_70.all (ra_ck mX12_left 12) = true := by decide +kernel
def nX12_left_70 (N : Nat) (b0 : Int32) (h : ra_H) : Option (Int32 × ra_H) :=
  some (b0, h)
def kX12_left_70 (N : Nat) : Nat → List (Option Value) → List Value → ra_H → Option (Int32 × ra_H) := ra_k0
theorem kX12_left_70_ok (N : Nat) : ra_kok 6 mX12_left ra_oI (kX12_left_70 N) := ra_k0_ok
set_option maxRecDepth 100000 in
theorem nX12_left_70_ok (N : Nat) (b0 : Int32) (h : ra_H) (r : (Int32 × ra_H)) (e : nX12_left_70 N b0 h = some r) : ra_Ru 6 mX12_left 70 [none, none, none] [.int b0] h (ra_oI r) :=
  ra_sound (by omega) rfl ra_rI_ok (kX12_left_70_ok N) (fun m av h h1 e => (tVX12_left_ok N) m av h h1 e) (fun m av h x h1 e => (tIX12_left_ok N) m av h (x, h1) e) (fun m av h x h1 e => (ra_c0_ok (ro := ra_oJ)) m av h (x, h1) e) (fun m av h x h1 e => (ra_c0_ok (ro := ra_oR)) m av h (x, h1) e) (fun m av h x h1 e => (ra_c0_ok (ro := ra_oN)) m av h (x, h1) e) (fun m av h x h1 e => (ra_c0_ok (ro := ra_oF)) m av h (x, h1) e) 2 lX12_left_70 _ _ _ _ lX12_left_70_ck (show ra_run ra_rI (kX12_left_70 N) (tVX12_left N) (tIX12_left N) ra_c0 ra_c0 ra_c0 ra_c0 2 lX12_left_70 [none, none, none] [.int b0] h = some r from e) _ _ rfl
def lX12_left_0 : List ra_I := [(0, .aload_n 0, 1, 0, 0, 0, 0, 0, []),
  (1, .iconst (0), 1, 0, 0, 0, (0), 0, []),
  (2, .putfield 147, 3, 12, 0, 0, 0, 0, []),
  (5, .iload_n 1, 1, 1, 0, 0, 0, 0, []),
  (6, .i2l, 1, 0, 0, 0, 0, 0, []),
  (7, .lconst 0, 1, 0, 0, 0, 0, 0, []),
  (8, .lconst 1, 1, 0, 0, 0, 0, 1, []),
  (9, .invokestatic 153, 3, 209, 3, 1, 0, 0, []),
  (12, .ifCond .ne (5), 3, 17, 0, 0, 0, 0, []),
  (15, .iconst (-1), 1, 0, 0, 0, (-1), 0, []),
  (16, .ireturn, 1, 0, 0, 0, 0, 0, []),
  (17, .aload_n 0, 1, 0, 0, 0, 0, 0, []),
  (18, .invokevirtual 470, 3, 286, 1, 0, 0, 0, []),
  (21, .aload_n 0, 1, 0, 0, 0, 0, 0, []),
  (22, .invokevirtual 473, 3, 291, 1, 1, 0, 0, []),
  (25, .istore_n 2, 1, 2, 0, 0, 0, 0, []),
  (26, .iload_n 1, 1, 1, 0, 0, 0, 0, []),
  (27, .iconst (1), 1, 0, 0, 0, (1), 0, []),
  (28, .if_icmp .ne (19), 3, 47, 0, 0, 0, 0, []),
  (31, .aload_n 0, 1, 0, 0, 0, 0, 0, []),
  (32, .invokevirtual 497, 3, 314, 1, 1, 0, 0, []),
  (35, .aload_n 0, 1, 0, 0, 0, 0, 0, []),
  (36, .getfield 13, 3, 12, 3, 2, 0, 0, []),
  (39, .sipush (482), 3, 0, 0, 0, (482), 0, []),
  (42, .iaload, 1, 0, 0, 0, 0, 0, []),
  (43, .iadd, 1, 0, 0, 0, 0, 0, []),
  (44, .iload_n 2, 1, 2, 0, 0, 0, 0, []),
  (45, .isub, 1, 0, 0, 0, 0, 0, []),
  (46, .ireturn, 1, 0, 0, 0, 0, 0, []),
  (47, .iload_n 2, 1, 2, 0, 0, 0, 0, []),
  (48, .ifCond .ne (7), 3, 55, 0, 0, 0, 0, []),
  (51, .iconst (-1), 1, 0, 0, 0, (-1), 0, []),
  (52, .goto (18), 3, 70, 0, 0, 0, 0, []),
  (55, .aload_n 0, 1, 0, 0, 0, 0, 0, []),
  (56, .invokevirtual 497, 3, 314, 1, 1, 0, 0, []),
  (59, .aload_n 0, 1, 0, 0, 0, 0, 0, []),
  (60, .getfield 13, 3, 12, 3, 2, 0, 0, []),
  (63, .sipush (482), 3, 0, 0, 0, (482), 0, []),
  (66, .iaload, 1, 0, 0, 0, 0, 0, []),
  (67, .imul, 1, 0, 0, 0, 0, 0, []),
  (68, .iload_n 2, 1, 2, 0, 0, 0, 0, []),
  (69, .idiv, 1, 0, 0, 0, 0, 0, [])]
set_option maxRecDepth 100000 in
theorem lX12_left_0_ck : lX12_left_0.all (ra_ck mX12_left 12) = true := by decide +kernel
def nX12_left_0 (N : Nat) (a0 : Nat) (a1 : Int32) (h : ra_H) : Option (Int32 × ra_H) :=
  (ra_fW h 12 a0 0 (.int ((0 : Int32)))).bind fun h1 =>
  (fX12_in N (Int32.toInt64 a1) ((0 : Int64)) ((1 : Int64)) h1).bind fun q2 =>
  if q2.1 = 0 then
    some ((-1 : Int32), q2.2)
  else
    (fX12_matchAll N a0 q2.2).bind fun h3 =>
    (fX12_matchedLines N a0 h3).bind fun q4 =>
    if a1 = ((1 : Int32)) then
      (fX12_marked N a0 q4.2).bind fun q8 =>
      (ra_fR q8.2 12 a0 3).bind fun x9 =>
      (ra_aI q8.2 0 x9 ((482 : Int32))).bind fun x10 =>
      some ((q8.1 + x10) - q4.1, q8.2)
    else
      if q4.1 = 0 then
        nX12_left_70 N ((-1 : Int32)) q4.2
      else
        (fX12_marked N a0 q4.2).bind fun q5 =>
        (ra_fR q5.2 12 a0 3).bind fun x6 =>
        (ra_aI q5.2 0 x6 ((482 : Int32))).bind fun x7 =>
        if q4.1 = 0 then none else
        nX12_left_70 N ((q5.1 * x7) / q4.1) q5.2
def kX12_left_0 (N : Nat) : Nat → List (Option Value) → List Value → ra_H → Option (Int32 × ra_H) := (ra_k1 70 (fun L S h => match L, S with
  | [_, _, _], [.int b0] => nX12_left_70 N b0 h
  | _, _ => none) ra_k0)
theorem kX12_left_0_ok (N : Nat) : ra_kok 6 mX12_left ra_oI (kX12_left_0 N) := (ra_k1_ok (by
  intro L S h a e
  split at e
  · exact ra_Ru.weak (nX12_left_70_ok N _ _ _ e) trivial
  · cases e) ra_k0_ok)
set_option maxRecDepth 100000 in
theorem nX12_left_0_ok (N : Nat) (a0 : Nat) (a1 : Int32) (h : ra_H) (r : (Int32 × ra_H)) (e : nX12_left_0 N a0 a1 h = some r) : ra_Ru 6 mX12_left 0 [some (.ref a0), some (.int a1), none] [] h (ra_oI r) :=
  ra_sound (by omega) rfl ra_rI_ok (kX12_left_0_ok N) (fun m av h h1 e => (tVX12_left_ok N) m av h h1 e) (fun m av h x h1 e => (tIX12_left_ok N) m av h (x, h1) e) (fun m av h x h1 e => (ra_c0_ok (ro := ra_oJ)) m av h (x, h1) e) (fun m av h x h1 e => (ra_c0_ok (ro := ra_oR)) m av h (x, h1) e) (fun m av h x h1 e => (ra_c0_ok (ro := ra_oN)) m av h (x, h1) e) (fun m av h x h1 e => (ra_c0_ok (ro := ra_oF)) m av h (x, h1) e) 43 lX12_left_0 _ _ _ _ lX12_left_0_ck (show ra_run ra_rI (kX12_left_0 N) (tVX12_left N) (tIX12_left N) ra_c0 ra_c0 ra_c0 ra_c0 43 lX12_left_0 [some (.ref a0), some (.int a1), none] [] h = some r from e) _ _ rfl
def fX12_left (N : Nat) (p0 : Nat) (p1 : Int32) (h : ra_H) : Option (Int32 × ra_H) := match ra_isOb h p0 12 with
  | true => nX12_left_0 N p0 p1 h
  | false => none
set_option maxRecDepth 100000 in
theorem mtX12_left : ra_MT[313]? = some (mX12_left, 1, 1, (1, 13), (9, 54), (9, 55)) := rfl
theorem fX12_left_co (N : Nat) (p0 : Nat) (p1 : Int32) (h : ra_H) (r : (Int32 × ra_H)) (e : fX12_left N p0 p1 h = some r) (D : Nat) (hD : 7 ≤ D) : ra_CO D 313 [.ref p0, .int p1] h (ra_oI r).1 (ra_oI r).2 := by
  have hw : ra_nw2 [.ref p0, .int p1] ≤ 3 := Nat.le_of_ble_eq_true rfl
  have hdb : ∀ v ∈ ([.ref p0, .int p1] : List Value), ∀ x, v ≠ .double x := by
    intro v hv x hx
    simp [hx] at hv
  unfold fX12_left at e
  split at e
  · rename_i ho
    have e1 := e
    exact ⟨6, _, mtX12_left, hD, ra_ev_of (by decide) hdb hw trivial (ra_Ru.weak (nX12_left_0_ok N p0 p1 h _ e1) ⟨rfl, ⟨rfl, trivial⟩⟩), (fun _ => ⟨_, _, rfl, ra_rcv_of ho (by decide) rfl⟩), (fun h => absurd h (by decide))⟩
  · cases e
/-! RedMarksModel.line(IIIII)I -/
def mX12_line : ra_M := (yX12_line, cX12_line, 7, (some .int))
def tIX12_line (N : Nat) : Nat → List Value → ra_H → Option (Int32 × ra_H) := (ra_c1 210 (fun av h => match av with
  | [.ref z0, .int z1] => fX12_tell N z0 z1 h
  | _ => none) (ra_c1 214 (fun av h => match av with
  | [.int z0, .int z1] => fX12_isMark N z0 z1 h
  | _ => none) (ra_c1 215 (fun av h => match av with
  | [.int z0, .int z1] => fX12_fits N z0 z1 h
  | _ => none) ra_c0)))
theorem tIX12_line_ok (N : Nat) : ra_cok 3 ra_oI (tIX12_line N) := (ra_c1_ok (by
  intro av h a e
  split at e
  · exact fX12_tell_co N _ _ _ _ e 3 (by omega)
  · cases e) (ra_c1_ok (by
  intro av h a e
  split at e
  · exact fX12_isMark_co N _ _ _ _ e 3 (by omega)
  · cases e) (ra_c1_ok (by
  intro av h a e
  split at e
  · exact fX12_fits_co N _ _ _ _ e 3 (by omega)
  · cases e) ra_c0_ok)))
def lX12_line_41 : List ra_I := [(41, .aload_n 0, 1, 0, 0, 0, 0, 0, []),
  (42, .iconst (-1), 1, 0, 0, 0, (-1), 0, []),
  (43, .invokevirtual 157, 3, 210, 2, 1, 0, 0, []),
  (46, .ireturn, 1, 0, 0, 0, 0, 0, [])]
set_option maxRecDepth 100000 in
theorem lX12_line_41_ck : lX12_line_41.all (ra_ck mX12_line 12) = true := by decide +kernel
def nX12_line_41 (N : Nat) (a0 : Nat) (h : ra_H) : Option (Int32 × ra_H) :=
  (fX12_tell N a0 ((-1 : Int32)) h).bind fun q1 =>
  some (q1.1, q1.2)
def kX12_line_41 (N : Nat) : Nat → List (Option Value) → List Value → ra_H → Option (Int32 × ra_H) := ra_k0
theorem kX12_line_41_ok (N : Nat) : ra_kok 3 mX12_line ra_oI (kX12_line_41 N) := ra_k0_ok
set_option maxRecDepth 100000 in
theorem nX12_line_41_ok (N : Nat) (a0 : Nat) (h : ra_H) (r : (Int32 × ra_H)) (e : nX12_line_41 N a0 h = some r) : ra_Ru 3 mX12_line 41 [some (.ref a0), none, none, none, none, none, none] [] h (ra_oI r) :=
  ra_sound (by omega) rfl ra_rI_ok (kX12_line_41_ok N) (fun m av h h1 e => (ra_c0_ok (ro := ra_oV)) m av h h1 e) (fun m av h x h1 e => (tIX12_line_ok N) m av h (x, h1) e) (fun m av h x h1 e => (ra_c0_ok (ro := ra_oJ)) m av h (x, h1) e) (fun m av h x h1 e => (ra_c0_ok (ro := ra_oR)) m av h (x, h1) e) (fun m av h x h1 e => (ra_c0_ok (ro := ra_oN)) m av h (x, h1) e) (fun m av h x h1 e => (ra_c0_ok (ro := ra_oF)) m av h (x, h1) e) 5 lX12_line_41 _ _ _ _ lX12_line_41_ck (show ra_run ra_rI (kX12_line_41 N) ra_c0 (tIX12_line N) ra_c0 ra_c0 ra_c0 ra_c0 5 lX12_line_41 [some (.ref a0), none, none, none, none, none, none] [] h = some r from e) _ _ rfl
def lX12_line_0 : List ra_I := [(0, .aload_n 0, 1, 0, 0, 0, 0, 0, []),
  (1, .iconst (0), 1, 0, 0, 0, (0), 0, []),
  (2, .putfield 147, 3, 12, 0, 0, 0, 0, []),
  (5, .bipush (9), 2, 0, 0, 0, (9), 0, []),
  (7, .iload_n 1, 1, 1, 0, 0, 0, 0, []),
  (8, .invokestatic 187, 3, 215, 2, 1, 0, 0, []),
  (11, .ifCond .eq (30), 3, 41, 0, 0, 0, 0, []),
  (14, .bipush (10), 2, 0, 0, 0, (10), 0, []),
  (16, .iload_n 2, 1, 2, 0, 0, 0, 0, []),
  (17, .invokestatic 187, 3, 215, 2, 1, 0, 0, []),
  (20, .ifCond .eq (21), 3, 41, 0, 0, 0, 0, []),
  (23, .iconst (3), 1, 0, 0, 0, (3), 0, []),
  (24, .iload_n 3, 1, 3, 0, 0, 0, 0, []),
  (25, .invokestatic 187, 3, 215, 2, 1, 0, 0, []),
  (28, .ifCond .eq (13), 3, 41, 0, 0, 0, 0, []),
  (31, .iload 4, 2, 4, 0, 0, 0, 0, []),
  (33, .iload 5, 2, 5, 0, 0, 0, 0, []),
  (35, .invokestatic 183, 3, 214, 2, 1, 0, 0, []),
  (38, .ifCond .ne (9), 3, 47, 0, 0, 0, 0, []),
  (47, .aload_n 0, 1, 0, 0, 0, 0, 0, []),
  (48, .getfield 13, 3, 12, 3, 2, 0, 0, []),
  (51, .sipush (482), 3, 0, 0, 0, (482), 0, []),
  (54, .iaload, 1, 0, 0, 0, 0, 0, []),
  (55, .bipush (12), 2, 0, 0, 0, (12), 0, []),
  (57, .if_icmp .ne (10), 3, 67, 0, 0, 0, 0, []),
  (60, .aload_n 0, 1, 0, 0, 0, 0, 0, []),
  (61, .bipush (-5), 2, 0, 0, 0, (-5), 0, []),
  (63, .invokevirtual 157, 3, 210, 2, 1, 0, 0, []),
  (66, .ireturn, 1, 0, 0, 0, 0, 0, []),
  (67, .sipush (650), 3, 0, 0, 0, (650), 0, []),
  (70, .bipush (6), 2, 0, 0, 0, (6), 0, []),
  (72, .aload_n 0, 1, 0, 0, 0, 0, 0, []),
  (73, .getfield 13, 3, 12, 3, 2, 0, 0, []),
  (76, .sipush (482), 3, 0, 0, 0, (482), 0, []),
  (79, .iaload, 1, 0, 0, 0, 0, 0, []),
  (80, .imul, 1, 0, 0, 0, 0, 0, []),
  (81, .iadd, 1, 0, 0, 0, 0, 0, []),
  (82, .istore 6, 2, 6, 0, 0, 0, 0, []),
  (84, .aload_n 0, 1, 0, 0, 0, 0, 0, []),
  (85, .getfield 13, 3, 12, 3, 2, 0, 0, []),
  (88, .iload 6, 2, 6, 0, 0, 0, 0, []),
  (90, .iload_n 1, 1, 1, 0, 0, 0, 0, []),
  (91, .iastore, 1, 0, 0, 0, 0, 0, []),
  (92, .aload_n 0, 1, 0, 0, 0, 0, 0, []),
  (93, .getfield 13, 3, 12, 3, 2, 0, 0, []),
  (96, .iload 6, 2, 6, 0, 0, 0, 0, []),
  (98, .iconst (1), 1, 0, 0, 0, (1), 0, []),
  (99, .iadd, 1, 0, 0, 0, 0, 0, []),
  (100, .iload_n 2, 1, 2, 0, 0, 0, 0, []),
  (101, .iastore, 1, 0, 0, 0, 0, 0, []),
  (102, .aload_n 0, 1, 0, 0, 0, 0, 0, []),
  (103, .getfield 13, 3, 12, 3, 2, 0, 0, []),
  (106, .iload 6, 2, 6, 0, 0, 0, 0, []),
  (108, .iconst (2), 1, 0, 0, 0, (2), 0, []),
  (109, .iadd, 1, 0, 0, 0, 0, 0, []),
  (110, .iload_n 3, 1, 3, 0, 0, 0, 0, []),
  (111, .iastore, 1, 0, 0, 0, 0, 0, []),
  (112, .aload_n 0, 1, 0, 0, 0, 0, 0, []),
  (113, .getfield 13, 3, 12, 3, 2, 0, 0, []),
  (116, .iload 6, 2, 6, 0, 0, 0, 0, []),
  (118, .iconst (3), 1, 0, 0, 0, (3), 0, []),
  (119, .iadd, 1, 0, 0, 0, 0, 0, []),
  (120, .iload 4, 2, 4, 0, 0, 0, 0, []),
  (122, .iastore, 1, 0, 0, 0, 0, 0, []),
  (123, .aload_n 0, 1, 0, 0, 0, 0, 0, []),
  (124, .getfield 13, 3, 12, 3, 2, 0, 0, []),
  (127, .iload 6, 2, 6, 0, 0, 0, 0, []),
  (129, .iconst (4), 1, 0, 0, 0, (4), 0, []),
  (130, .iadd, 1, 0, 0, 0, 0, 0, []),
  (131, .iload 5, 2, 5, 0, 0, 0, 0, []),
  (133, .iastore, 1, 0, 0, 0, 0, 0, []),
  (134, .aload_n 0, 1, 0, 0, 0, 0, 0, []),
  (135, .getfield 13, 3, 12, 3, 2, 0, 0, []),
  (138, .iload 6, 2, 6, 0, 0, 0, 0, []),
  (140, .iconst (5), 1, 0, 0, 0, (5), 0, []),
  (141, .iadd, 1, 0, 0, 0, 0, 0, []),
  (142, .iconst (0), 1, 0, 0, 0, (0), 0, []),
  (143, .iastore, 1, 0, 0, 0, 0, 0, []),
  (144, .aload_n 0, 1, 0, 0, 0, 0, 0, []),
  (145, .getfield 13, 3, 12, 3, 2, 0, 0, []),
  (148, .sipush (482), 3, 0, 0, 0, (482), 0, []),
  (151, .dup2, 1, 0, 0, 0, 0, 0, []),
  (152, .iaload, 1, 0, 0, 0, 0, 0, []),
  (153, .iconst (1), 1, 0, 0, 0, (1), 0, []),
  (154, .iadd, 1, 0, 0, 0, 0, 0, []),
  (155, .iastore, 1, 0, 0, 0, 0, 0, []),
  (156, .aload_n 0, 1, 0, 0, 0, 0, 0, []),
  (157, .aload_n 0, 1, 0, 0, 0, 0, 0, []),
  (158, .getfield 13, 3, 12, 3, 2, 0, 0, []),
  (161, .sipush (482), 3, 0, 0, 0, (482), 0, []),
  (164, .iaload, 1, 0, 0, 0, 0, 0, []),
  (165, .iconst (1), 1, 0, 0, 0, (1), 0, []),
  (166, .isub, 1, 0, 0, 0, 0, 0, []),
  (167, .invokevirtual 157, 3, 210, 2, 1, 0, 0, []),
  (170, .ireturn, 1, 0, 0, 0, 0, 0, [])]
set_option maxRecDepth 100000 in
theorem lX12_line_0_ck : lX12_line_0.all (ra_ck mX12_line 12) = true := by decide +kernel
def nX12_line_0 (N : Nat) (a0 : Nat) (a1 : Int32) (a2 : Int32) (a3 : Int32) (a4 : Int32) (a5 : Int32) (h : ra_H) : Option (Int32 × ra_H) :=
  (ra_fW h 12 a0 0 (.int ((0 : Int32)))).bind fun h1 =>
  (fX12_fits N ((9 : Int32)) a1 h1).bind fun q2 =>
  if q2.1 = 0 then
    nX12_line_41 N a0 q2.2
  else
    (fX12_fits N ((10 : Int32)) a2 q2.2).bind fun q3 =>
    if q3.1 = 0 then
      nX12_line_41 N a0 q3.2
    else
      (fX12_fits N ((3 : Int32)) a3 q3.2).bind fun q4 =>
      if q4.1 = 0 then
        nX12_line_41 N a0 q4.2
      else
        (fX12_isMark N a4 a5 q4.2).bind fun q5 =>
        if q5.1 = 0 then
          nX12_line_41 N a0 q5.2
        else
          (ra_fR q5.2 12 a0 3).bind fun x6 =>
          (ra_aI q5.2 0 x6 ((482 : Int32))).bind fun x7 =>
          if x7 = ((12 : Int32)) then
            (fX12_tell N a0 ((-5 : Int32)) q5.2).bind fun q29 =>
            some (q29.1, q29.2)
          else
            (ra_fR q5.2 12 a0 3).bind fun x8 =>
            (ra_aI q5.2 0 x8 ((482 : Int32))).bind fun x9 =>
            let y10 := ((650 : Int32)) + (((6 : Int32)) * x9)
            (ra_fR q5.2 12 a0 3).bind fun x11 =>
            (ra_aW q5.2 0 x11 y10 a1).bind fun h12 =>
            (ra_fR h12 12 a0 3).bind fun x13 =>
            (ra_aW h12 0 x13 (y10 + ((1 : Int32))) a2).bind fun h14 =>
            (ra_fR h14 12 a0 3).bind fun x15 =>
            (ra_aW h14 0 x15 (y10 + ((2 : Int32))) a3).bind fun h16 =>
            (ra_fR h16 12 a0 3).bind fun x17 =>
            (ra_aW h16 0 x17 (y10 + ((3 : Int32))) a4).bind fun h18 =>
            (ra_fR h18 12 a0 3).bind fun x19 =>
            (ra_aW h18 0 x19 (y10 + ((4 : Int32))) a5).bind fun h20 =>
            (ra_fR h20 12 a0 3).bind fun x21 =>
            (ra_aW h20 0 x21 (y10 + ((5 : Int32))) ((0 : Int32))).bind fun h22 =>
            (ra_fR h22 12 a0 3).bind fun x23 =>
            (ra_aI h22 0 x23 ((482 : Int32))).bind fun x24 =>
            (ra_aW h22 0 x23 ((482 : Int32)) (x24 + ((1 : Int32)))).bind fun h25 =>
            (ra_fR h25 12 a0 3).bind fun x26 =>
            (ra_aI h25 0 x26 ((482 : Int32))).bind fun x27 =>
            (fX12_tell N a0 (x27 - ((1 : Int32))) h25).bind fun q28 =>
            some (q28.1, q28.2)
def kX12_line_0 (N : Nat) : Nat → List (Option Value) → List Value → ra_H → Option (Int32 × ra_H) := (ra_k1 41 (fun L S h => match L, S with
  | [some (.ref a0), _, _, _, _, _, _], [] => nX12_line_41 N a0 h
  | _, _ => none) ra_k0)
theorem kX12_line_0_ok (N : Nat) : ra_kok 3 mX12_line ra_oI (kX12_line_0 N) := (ra_k1_ok (by
  intro L S h a e
  split at e
  · exact ra_Ru.weak (nX12_line_41_ok N _ _ _ e) ⟨rfl, trivial⟩
  · cases e) ra_k0_ok)
set_option maxRecDepth 100000 in
theorem nX12_line_0_ok (N : Nat) (a0 : Nat) (a1 : Int32) (a2 : Int32) (a3 : Int32) (a4 : Int32) (a5 : Int32) (h : ra_H) (r : (Int32 × ra_H)) (e : nX12_line_0 N a0 a1 a2 a3 a4 a5 h = some r) : ra_Ru 3 mX12_line 0 [some (.ref a0), some (.int a1), some (.int a2), some (.int a3), some (.int a4), some (.int a5), none] [] h (ra_oI r) :=
  ra_sound (by omega) rfl ra_rI_ok (kX12_line_0_ok N) (fun m av h h1 e => (ra_c0_ok (ro := ra_oV)) m av h h1 e) (fun m av h x h1 e => (tIX12_line_ok N) m av h (x, h1) e) (fun m av h x h1 e => (ra_c0_ok (ro := ra_oJ)) m av h (x, h1) e) (fun m av h x h1 e => (ra_c0_ok (ro := ra_oR)) m av h (x, h1) e) (fun m av h x h1 e => (ra_c0_ok (ro := ra_oN)) m av h (x, h1) e) (fun m av h x h1 e => (ra_c0_ok (ro := ra_oF)) m av h (x, h1) e) 96 lX12_line_0 _ _ _ _ lX12_line_0_ck (show ra_run ra_rI (kX12_line_0 N) ra_c0 (tIX12_line N) ra_c0 ra_c0 ra_c0 ra_c0 96 lX12_line_0 [some (.ref a0), some (.int a1), some (.int a2), some (.int a3), some (.int a4), some (.int a5), none] [] h = some r from e) _ _ rfl
def fX12_line (N : Nat) (p0 : Nat) (p1 : Int32) (p2 : Int32) (p3 : Int32) (p4 : Int32) (p5 : Int32) (h : ra_H) : Option (Int32 × ra_H) := match ra_isOb h p0 12 with
  | true => nX12_line_0 N p0 p1 p2 p3 p4 p5 h
  | false => none
set_option maxRecDepth 100000 in
theorem mtX12_line : ra_MT[278]? = some (mX12_line, 1, 5, (1, 13), (8, 150), (8, 151)) := rfl
theorem fX12_line_co (N : Nat) (p0 : Nat) (p1 : Int32) (p2 : Int32) (p3 : Int32) (p4 : Int32) (p5 : Int32) (h : ra_H) (r : (Int32 × ra_H)) (e : fX12_line N p0 p1 p2 p3 p4 p5 h = some r) (D : Nat) (hD : 4 ≤ D) : ra_CO D 278 [.ref p0, .int p1, .int p2, .int p3, .int p4, .int p5] h (ra_oI r).1 (ra_oI r).2 := by
  have hw : ra_nw2 [.ref p0, .int p1, .int p2, .int p3, .int p4, .int p5] ≤ 7 := Nat.le_of_ble_eq_true rfl
  have hdb : ∀ v ∈ ([.ref p0, .int p1, .int p2, .int p3, .int p4, .int p5] : List Value), ∀ x, v ≠ .double x := by
    intro v hv x hx
    simp [hx] at hv
  unfold fX12_line at e
  split at e
  · rename_i ho
    have e1 := e
    exact ⟨3, _, mtX12_line, hD, ra_ev_of (by decide) hdb hw trivial (ra_Ru.weak (nX12_line_0_ok N p0 p1 p2 p3 p4 p5 h _ e1) ⟨rfl, ⟨rfl, ⟨rfl, ⟨rfl, ⟨rfl, ⟨rfl, trivial⟩⟩⟩⟩⟩⟩), (fun _ => ⟨_, _, rfl, ra_rcv_of ho (by decide) rfl⟩), (fun h => absurd h (by decide))⟩
  · cases e
/-! RedMarksModel.list(II)I -/
def mX12_list : ra_M := (yX12_list, cX12_list, 4, (some .int))
def tIX12_list (N : Nat) : Nat → List Value → ra_H → Option (Int32 × ra_H) := (ra_c1 209 (fun av h => match av with
  | [.long z0, .long z1, .long z2] => fX12_in N z0 z1 z2 h
  | _ => none) (ra_c1 210 (fun av h => match av with
  | [.ref z0, .int z1] => fX12_tell N z0 z1 h
  | _ => none) (ra_c1 219 (fun av h => match av with
  | [.ref z0, .int z1] => fX12_was N z0 z1 h
  | _ => none) (ra_c1 280 (fun av h => match av with
  | [.ref z0, .int z1] => fX12_isLine N z0 z1 h
  | _ => none) ra_c0))))
theorem tIX12_list_ok (N : Nat) : ra_cok 3 ra_oI (tIX12_list N) := (ra_c1_ok (by
  intro av h a e
  split at e
  · exact fX12_in_co N _ _ _ _ _ e 3 (by omega)
  · cases e) (ra_c1_ok (by
  intro av h a e
  split at e
  · exact fX12_tell_co N _ _ _ _ e 3 (by omega)
  · cases e) (ra_c1_ok (by
  intro av h a e
  split at e
  · exact fX12_was_co N _ _ _ _ e 3 (by omega)
  · cases e) (ra_c1_ok (by
  intro av h a e
  split at e
  · exact fX12_isLine_co N _ _ _ _ e 3 (by omega)
  · cases e) ra_c0_ok))))
def lX12_list_0 : List ra_I := [(0, .aload_n 0, 1, 0, 0, 0, 0, 0, []),
  (1, .iconst (0), 1, 0, 0, 0, (0), 0, []),
  (2, .putfield 147, 3, 12, 0, 0, 0, 0, []),
  (5, .iload_n 2, 1, 2, 0, 0, 0, 0, []),
  (6, .i2l, 1, 0, 0, 0, 0, 0, []),
  (7, .lconst 0, 1, 0, 0, 0, 0, 0, []),
  (8, .ldc2_w 406, 3, 0, 0, 0, 0, (3), []),
  (11, .invokestatic 153, 3, 209, 3, 1, 0, 0, []),
  (14, .ifCond .ne (9), 3, 23, 0, 0, 0, 0, []),
  (17, .aload_n 0, 1, 0, 0, 0, 0, 0, []),
  (18, .iconst (-1), 1, 0, 0, 0, (-1), 0, []),
  (19, .invokevirtual 157, 3, 210, 2, 1, 0, 0, []),
  (22, .ireturn, 1, 0, 0, 0, 0, 0, []),
  (23, .aload_n 0, 1, 0, 0, 0, 0, 0, []),
  (24, .iload_n 1, 1, 1, 0, 0, 0, 0, []),
  (25, .invokevirtual 440, 3, 280, 2, 1, 0, 0, []),
  (28, .ifCond .ne (10), 3, 38, 0, 0, 0, 0, []),
  (31, .aload_n 0, 1, 0, 0, 0, 0, 0, []),
  (32, .bipush (-2), 2, 0, 0, 0, (-2), 0, []),
  (34, .invokevirtual 157, 3, 210, 2, 1, 0, 0, []),
  (37, .ireturn, 1, 0, 0, 0, 0, 0, []),
  (38, .aload_n 0, 1, 0, 0, 0, 0, 0, []),
  (39, .getfield 13, 3, 12, 3, 2, 0, 0, []),
  (42, .sipush (650), 3, 0, 0, 0, (650), 0, []),
  (45, .bipush (6), 2, 0, 0, 0, (6), 0, []),
  (47, .iload_n 1, 1, 1, 0, 0, 0, 0, []),
  (48, .imul, 1, 0, 0, 0, 0, 0, []),
  (49, .iadd, 1, 0, 0, 0, 0, 0, []),
  (50, .iconst (5), 1, 0, 0, 0, (5), 0, []),
  (51, .iadd, 1, 0, 0, 0, 0, 0, []),
  (52, .iaload, 1, 0, 0, 0, 0, 0, []),
  (53, .istore_n 3, 1, 3, 0, 0, 0, 0, []),
  (54, .aload_n 0, 1, 0, 0, 0, 0, 0, []),
  (55, .getfield 13, 3, 12, 3, 2, 0, 0, []),
  (58, .sipush (650), 3, 0, 0, 0, (650), 0, []),
  (61, .bipush (6), 2, 0, 0, 0, (6), 0, []),
  (63, .iload_n 1, 1, 1, 0, 0, 0, 0, []),
  (64, .imul, 1, 0, 0, 0, 0, 0, []),
  (65, .iadd, 1, 0, 0, 0, 0, 0, []),
  (66, .iconst (5), 1, 0, 0, 0, (5), 0, []),
  (67, .iadd, 1, 0, 0, 0, 0, 0, []),
  (68, .iload_n 2, 1, 2, 0, 0, 0, 0, []),
  (69, .iastore, 1, 0, 0, 0, 0, 0, []),
  (70, .aload_n 0, 1, 0, 0, 0, 0, 0, []),
  (71, .iload_n 3, 1, 3, 0, 0, 0, 0, []),
  (72, .invokevirtual 202, 3, 219, 2, 1, 0, 0, []),
  (75, .ireturn, 1, 0, 0, 0, 0, 0, [])]
set_option maxRecDepth 100000 in
theorem lX12_list_0_ck : lX12_list_0.all (ra_ck mX12_list 12) = true := by decide +kernel
def nX12_list_0 (N : Nat) (a0 : Nat) (a1 : Int32) (a2 : Int32) (h : ra_H) : Option (Int32 × ra_H) :=
  (ra_fW h 12 a0 0 (.int ((0 : Int32)))).bind fun h1 =>
  (fX12_in N (Int32.toInt64 a2) ((0 : Int64)) ((3 : Int64)) h1).bind fun q2 =>
  if q2.1 = 0 then
    (fX12_tell N a0 ((-1 : Int32)) q2.2).bind fun q10 =>
    some (q10.1, q10.2)
  else
    (fX12_isLine N a0 a1 q2.2).bind fun q3 =>
    if q3.1 = 0 then
      (fX12_tell N a0 ((-2 : Int32)) q3.2).bind fun q9 =>
      some (q9.1, q9.2)
    else
      (ra_fR q3.2 12 a0 3).bind fun x4 =>
      (ra_aI q3.2 0 x4 ((((650 : Int32)) + (((6 : Int32)) * a1)) + ((5 : Int32)))).bind fun x5 =>
      (ra_fR q3.2 12 a0 3).bind fun x6 =>
      (ra_aW q3.2 0 x6 ((((650 : Int32)) + (((6 : Int32)) * a1)) + ((5 : Int32))) a2).bind fun h7 =>
      (fX12_was N a0 x5 h7).bind fun q8 =>
      some (q8.1, q8.2)
def kX12_list_0 (N : Nat) : Nat → List (Option Value) → List Value → ra_H → Option (Int32 × ra_H) := ra_k0
theorem kX12_list_0_ok (N : Nat) : ra_kok 3 mX12_list ra_oI (kX12_list_0 N) := ra_k0_ok
set_option maxRecDepth 100000 in
theorem nX12_list_0_ok (N : Nat) (a0 : Nat) (a1 : Int32) (a2 : Int32) (h : ra_H) (r : (Int32 × ra_H)) (e : nX12_list_0 N a0 a1 a2 h = some r) : ra_Ru 3 mX12_list 0 [some (.ref a0), some (.int a1), some (.int a2), none] [] h (ra_oI r) :=
  ra_sound (by omega) rfl ra_rI_ok (kX12_list_0_ok N) (fun m av h h1 e => (ra_c0_ok (ro := ra_oV)) m av h h1 e) (fun m av h x h1 e => (tIX12_list_ok N) m av h (x, h1) e) (fun m av h x h1 e => (ra_c0_ok (ro := ra_oJ)) m av h (x, h1) e) (fun m av h x h1 e => (ra_c0_ok (ro := ra_oR)) m av h (x, h1) e) (fun m av h x h1 e => (ra_c0_ok (ro := ra_oN)) m av h (x, h1) e) (fun m av h x h1 e => (ra_c0_ok (ro := ra_oF)) m av h (x, h1) e) 48 lX12_list_0 _ _ _ _ lX12_list_0_ck (show ra_run ra_rI (kX12_list_0 N) ra_c0 (tIX12_list N) ra_c0 ra_c0 ra_c0 ra_c0 48 lX12_list_0 [some (.ref a0), some (.int a1), some (.int a2), none] [] h = some r from e) _ _ rfl
def fX12_list (N : Nat) (p0 : Nat) (p1 : Int32) (p2 : Int32) (h : ra_H) : Option (Int32 × ra_H) := match ra_isOb h p0 12 with
  | true => nX12_list_0 N p0 p1 p2 h
  | false => none
set_option maxRecDepth 100000 in
theorem mtX12_list : ra_MT[279]? = some (mX12_list, 1, 2, (1, 13), (8, 154), (8, 155)) := rfl
theorem fX12_list_co (N : Nat) (p0 : Nat) (p1 : Int32) (p2 : Int32) (h : ra_H) (r : (Int32 × ra_H)) (e : fX12_list N p0 p1 p2 h = some r) (D : Nat) (hD : 4 ≤ D) : ra_CO D 279 [.ref p0, .int p1, .int p2] h (ra_oI r).1 (ra_oI r).2 := by
  have hw : ra_nw2 [.ref p0, .int p1, .int p2] ≤ 4 := Nat.le_of_ble_eq_true rfl
  have hdb : ∀ v ∈ ([.ref p0, .int p1, .int p2] : List Value), ∀ x, v ≠ .double x := by
    intro v hv x hx
    simp [hx] at hv
  unfold fX12_list at e
  split at e
  · rename_i ho
    have e1 := e
    exact ⟨3, _, mtX12_list, hD, ra_ev_of (by decide) hdb hw trivial (ra_Ru.weak (nX12_list_0_ok N p0 p1 p2 h _ e1) ⟨rfl, ⟨rfl, ⟨rfl, trivial⟩⟩⟩), (fun _ => ⟨_, _, rfl, ra_rcv_of ho (by decide) rfl⟩), (fun h => absurd h (by decide))⟩
  · cases e
/-! RedMarksModel.mark(III)I -/
def mX12_mark : ra_M := (yX12_mark, cX12_mark, 4, (some .int))
def tIX12_mark (N : Nat) : Nat → List Value → ra_H → Option (Int32 × ra_H) := (ra_c1 210 (fun av h => match av with
  | [.ref z0, .int z1] => fX12_tell N z0 z1 h
  | _ => none) (ra_c1 214 (fun av h => match av with
  | [.int z0, .int z1] => fX12_isMark N z0 z1 h
  | _ => none) (ra_c1 218 (fun av h => match av with
  | [.ref z0, .int z1] => fX12_isBook N z0 z1 h
  | _ => none) ra_c0)))
theorem tIX12_mark_ok (N : Nat) : ra_cok 3 ra_oI (tIX12_mark N) := (ra_c1_ok (by
  intro av h a e
  split at e
  · exact fX12_tell_co N _ _ _ _ e 3 (by omega)
  · cases e) (ra_c1_ok (by
  intro av h a e
  split at e
  · exact fX12_isMark_co N _ _ _ _ e 3 (by omega)
  · cases e) (ra_c1_ok (by
  intro av h a e
  split at e
  · exact fX12_isBook_co N _ _ _ _ e 3 (by omega)
  · cases e) ra_c0_ok)))
def lX12_mark_0 : List ra_I := [(0, .aload_n 0, 1, 0, 0, 0, 0, 0, []),
  (1, .iconst (0), 1, 0, 0, 0, (0), 0, []),
  (2, .putfield 147, 3, 12, 0, 0, 0, 0, []),
  (5, .iload_n 2, 1, 2, 0, 0, 0, 0, []),
  (6, .iload_n 3, 1, 3, 0, 0, 0, 0, []),
  (7, .invokestatic 183, 3, 214, 2, 1, 0, 0, []),
  (10, .ifCond .ne (9), 3, 19, 0, 0, 0, 0, []),
  (13, .aload_n 0, 1, 0, 0, 0, 0, 0, []),
  (14, .iconst (-1), 1, 0, 0, 0, (-1), 0, []),
  (15, .invokevirtual 157, 3, 210, 2, 1, 0, 0, []),
  (18, .ireturn, 1, 0, 0, 0, 0, 0, []),
  (19, .aload_n 0, 1, 0, 0, 0, 0, 0, []),
  (20, .iload_n 1, 1, 1, 0, 0, 0, 0, []),
  (21, .invokevirtual 198, 3, 218, 2, 1, 0, 0, []),
  (24, .ifCond .ne (10), 3, 34, 0, 0, 0, 0, []),
  (27, .aload_n 0, 1, 0, 0, 0, 0, 0, []),
  (28, .bipush (-2), 2, 0, 0, 0, (-2), 0, []),
  (30, .invokevirtual 157, 3, 210, 2, 1, 0, 0, []),
  (33, .ireturn, 1, 0, 0, 0, 0, 0, []),
  (34, .aload_n 0, 1, 0, 0, 0, 0, 0, []),
  (35, .getfield 13, 3, 12, 3, 2, 0, 0, []),
  (38, .bipush (12), 2, 0, 0, 0, (12), 0, []),
  (40, .iload_n 1, 1, 1, 0, 0, 0, 0, []),
  (41, .imul, 1, 0, 0, 0, 0, 0, []),
  (42, .iload_n 2, 1, 2, 0, 0, 0, 0, []),
  (43, .iastore, 1, 0, 0, 0, 0, 0, []),
  (44, .aload_n 0, 1, 0, 0, 0, 0, 0, []),
  (45, .getfield 13, 3, 12, 3, 2, 0, 0, []),
  (48, .bipush (12), 2, 0, 0, 0, (12), 0, []),
  (50, .iload_n 1, 1, 1, 0, 0, 0, 0, []),
  (51, .imul, 1, 0, 0, 0, 0, 0, []),
  (52, .iconst (1), 1, 0, 0, 0, (1), 0, []),
  (53, .iadd, 1, 0, 0, 0, 0, 0, []),
  (54, .iload_n 3, 1, 3, 0, 0, 0, 0, []),
  (55, .iastore, 1, 0, 0, 0, 0, 0, []),
  (56, .aload_n 0, 1, 0, 0, 0, 0, 0, []),
  (57, .iconst (0), 1, 0, 0, 0, (0), 0, []),
  (58, .invokevirtual 157, 3, 210, 2, 1, 0, 0, []),
  (61, .ireturn, 1, 0, 0, 0, 0, 0, [])]
set_option maxRecDepth 100000 in
theorem lX12_mark_0_ck : lX12_mark_0.all (ra_ck mX12_mark 12) = true := by decide +kernel
def nX12_mark_0 (N : Nat) (a0 : Nat) (a1 : Int32) (a2 : Int32) (a3 : Int32) (h : ra_H) : Option (Int32 × ra_H) :=
  (ra_fW h 12 a0 0 (.int ((0 : Int32)))).bind fun h1 =>
  (fX12_isMark N a2 a3 h1).bind fun q2 =>
  if q2.1 = 0 then
    (fX12_tell N a0 ((-1 : Int32)) q2.2).bind fun q10 =>
    some (q10.1, q10.2)
  else
    (fX12_isBook N a0 a1 q2.2).bind fun q3 =>
    if q3.1 = 0 then
      (fX12_tell N a0 ((-2 : Int32)) q3.2).bind fun q9 =>
      some (q9.1, q9.2)
    else
      (ra_fR q3.2 12 a0 3).bind fun x4 =>
      (ra_aW q3.2 0 x4 (((12 : Int32)) * a1) a2).bind fun h5 =>
      (ra_fR h5 12 a0 3).bind fun x6 =>
      (ra_aW h5 0 x6 ((((12 : Int32)) * a1) + ((1 : Int32))) a3).bind fun h7 =>
      (fX12_tell N a0 ((0 : Int32)) h7).bind fun q8 =>
      some (q8.1, q8.2)
def kX12_mark_0 (N : Nat) : Nat → List (Option Value) → List Value → ra_H → Option (Int32 × ra_H) := ra_k0
theorem kX12_mark_0_ok (N : Nat) : ra_kok 3 mX12_mark ra_oI (kX12_mark_0 N) := ra_k0_ok
set_option maxRecDepth 100000 in
theorem nX12_mark_0_ok (N : Nat) (a0 : Nat) (a1 : Int32) (a2 : Int32) (a3 : Int32) (h : ra_H) (r : (Int32 × ra_H)) (e : nX12_mark_0 N a0 a1 a2 a3 h = some r) : ra_Ru 3 mX12_mark 0 [some (.ref a0), some (.int a1), some (.int a2), some (.int a3)] [] h (ra_oI r) :=
  ra_sound (by omega) rfl ra_rI_ok (kX12_mark_0_ok N) (fun m av h h1 e => (ra_c0_ok (ro := ra_oV)) m av h h1 e) (fun m av h x h1 e => (tIX12_mark_ok N) m av h (x, h1) e) (fun m av h x h1 e => (ra_c0_ok (ro := ra_oJ)) m av h (x, h1) e) (fun m av h x h1 e => (ra_c0_ok (ro := ra_oR)) m av h (x, h1) e) (fun m av h x h1 e => (ra_c0_ok (ro := ra_oN)) m av h (x, h1) e) (fun m av h x h1 e => (ra_c0_ok (ro := ra_oF)) m av h (x, h1) e) 40 lX12_mark_0 _ _ _ _ lX12_mark_0_ck (show ra_run ra_rI (kX12_mark_0 N) ra_c0 (tIX12_mark N) ra_c0 ra_c0 ra_c0 ra_c0 40 lX12_mark_0 [some (.ref a0), some (.int a1), some (.int a2), some (.int a3)] [] h = some r from e) _ _ rfl
def fX12_mark (N : Nat) (p0 : Nat) (p1 : Int32) (p2 : Int32) (p3 : Int32) (h : ra_H) : Option (Int32 × ra_H) := match ra_isOb h p0 12 with
  | true => nX12_mark_0 N p0 p1 p2 p3 h
  | false => none
set_option maxRecDepth 100000 in
theorem mtX12_mark : ra_MT[220]? = some (mX12_mark, 1, 3, (1, 13), (7, 139), (7, 140)) := rfl
theorem fX12_mark_co (N : Nat) (p0 : Nat) (p1 : Int32) (p2 : Int32) (p3 : Int32) (h : ra_H) (r : (Int32 × ra_H)) (e : fX12_mark N p0 p1 p2 p3 h = some r) (D : Nat) (hD : 4 ≤ D) : ra_CO D 220 [.ref p0, .int p1, .int p2, .int p3] h (ra_oI r).1 (ra_oI r).2 := by
  have hw : ra_nw2 [.ref p0, .int p1, .int p2, .int p3] ≤ 4 := Nat.le_of_ble_eq_true rfl
  have hdb : ∀ v ∈ ([.ref p0, .int p1, .int p2, .int p3] : List Value), ∀ x, v ≠ .double x := by
    intro v hv x hx
    simp [hx] at hv
  unfold fX12_mark at e
  split at e
  · rename_i ho
    have e1 := e
    exact ⟨3, _, mtX12_mark, hD, ra_ev_of (by decide) hdb hw trivial (ra_Ru.weak (nX12_mark_0_ok N p0 p1 p2 p3 h _ e1) ⟨rfl, ⟨rfl, ⟨rfl, ⟨rfl, trivial⟩⟩⟩⟩), (fun _ => ⟨_, _, rfl, ra_rcv_of ho (by decide) rfl⟩), (fun h => absurd h (by decide))⟩
  · cases e
/-! RedMarksModel.match(I)I -/
def mX12_match : ra_M := (yX12_match, cX12_match, 2, (some .int))
def tVX12_match (N : Nat) : Nat → List Value → ra_H → Option ra_H := (ra_c1 286 (fun av h => match av with
  | [.ref z0] => fX12_matchAll N z0 h
  | _ => none) ra_c0)
theorem tVX12_match_ok (N : Nat) : ra_cok 6 ra_oV (tVX12_match N) := (ra_c1_ok (by
  intro av h a e
  split at e
  · exact fX12_matchAll_co N _ _ _ e 6 (by omega)
  · cases e) ra_c0_ok)
def tIX12_match (N : Nat) : Nat → List Value → ra_H → Option (Int32 × ra_H) := (ra_c1 209 (fun av h => match av with
  | [.long z0, .long z1, .long z2] => fX12_in N z0 z1 z2 h
  | _ => none) (ra_c1 291 (fun av h => match av with
  | [.ref z0] => fX12_matchedLines N z0 h
  | _ => none) ra_c0))
theorem tIX12_match_ok (N : Nat) : ra_cok 6 ra_oI (tIX12_match N) := (ra_c1_ok (by
  intro av h a e
  split at e
  · exact fX12_in_co N _ _ _ _ _ e 6 (by omega)
  · cases e) (ra_c1_ok (by
  intro av h a e
  split at e
  · exact fX12_matchedLines_co N _ _ _ e 6 (by omega)
  · cases e) ra_c0_ok))
def lX12_match_53 : List ra_I := [(53, .ireturn, 1, 0, 0, 0, 0, 0, [])]
set_option maxRecDepth 100000 in
theorem lX12_match_53_ck : lX12_match_53.all (ra_ck mX12_match 12) = true := by decide +kernel
def nX12_match_53 (N : Nat) (b0 : Int32) (h : ra_H) : Option (Int32 × ra_H) :=
  some (b0, h)
def kX12_match_53 (N : Nat) : Nat → List (Option Value) → List Value → ra_H → Option (Int32 × ra_H) := ra_k0
theorem kX12_match_53_ok (N : Nat) : ra_kok 6 mX12_match ra_oI (kX12_match_53 N) := ra_k0_ok
set_option maxRecDepth 100000 in
theorem nX12_match_53_ok (N : Nat) (b0 : Int32) (h : ra_H) (r : (Int32 × ra_H)) (e : nX12_match_53 N b0 h = some r) : ra_Ru 6 mX12_match 53 [none, none] [.int b0] h (ra_oI r) :=
  ra_sound (by omega) rfl ra_rI_ok (kX12_match_53_ok N) (fun m av h h1 e => (tVX12_match_ok N) m av h h1 e) (fun m av h x h1 e => (tIX12_match_ok N) m av h (x, h1) e) (fun m av h x h1 e => (ra_c0_ok (ro := ra_oJ)) m av h (x, h1) e) (fun m av h x h1 e => (ra_c0_ok (ro := ra_oR)) m av h (x, h1) e) (fun m av h x h1 e => (ra_c0_ok (ro := ra_oN)) m av h (x, h1) e) (fun m av h x h1 e => (ra_c0_ok (ro := ra_oF)) m av h (x, h1) e) 2 lX12_match_53 _ _ _ _ lX12_match_53_ck (show ra_run ra_rI (kX12_match_53 N) (tVX12_match N) (tIX12_match N) ra_c0 ra_c0 ra_c0 ra_c0 2 lX12_match_53 [none, none] [.int b0] h = some r from e) _ _ rfl
def lX12_match_0 : List ra_I := [(0, .aload_n 0, 1, 0, 0, 0, 0, 0, []),
  (1, .iconst (0), 1, 0, 0, 0, (0), 0, []),
  (2, .putfield 147, 3, 12, 0, 0, 0, 0, []),
  (5, .iload_n 1, 1, 1, 0, 0, 0, 0, []),
  (6, .i2l, 1, 0, 0, 0, 0, 0, []),
  (7, .lconst 0, 1, 0, 0, 0, 0, 0, []),
  (8, .ldc2_w 173, 3, 0, 0, 0, 0, (2), []),
  (11, .invokestatic 153, 3, 209, 3, 1, 0, 0, []),
  (14, .ifCond .ne (5), 3, 19, 0, 0, 0, 0, []),
  (17, .iconst (-1), 1, 0, 0, 0, (-1), 0, []),
  (18, .ireturn, 1, 0, 0, 0, 0, 0, []),
  (19, .aload_n 0, 1, 0, 0, 0, 0, 0, []),
  (20, .invokevirtual 470, 3, 286, 1, 0, 0, 0, []),
  (23, .iload_n 1, 1, 1, 0, 0, 0, 0, []),
  (24, .ifCond .ne (12), 3, 36, 0, 0, 0, 0, []),
  (27, .aload_n 0, 1, 0, 0, 0, 0, 0, []),
  (28, .getfield 111, 3, 12, 44, 2, 0, 0, []),
  (31, .iconst (0), 1, 0, 0, 0, (0), 0, []),
  (32, .iaload, 1, 0, 0, 0, 0, 0, []),
  (33, .goto (20), 3, 53, 0, 0, 0, 0, []),
  (36, .iload_n 1, 1, 1, 0, 0, 0, 0, []),
  (37, .iconst (1), 1, 0, 0, 0, (1), 0, []),
  (38, .if_icmp .ne (11), 3, 49, 0, 0, 0, 0, []),
  (41, .aload_n 0, 1, 0, 0, 0, 0, 0, []),
  (42, .getfield 458, 3, 12, 51, 1, 0, 0, []),
  (45, .l2i, 1, 0, 0, 0, 0, 0, []),
  (46, .goto (7), 3, 53, 0, 0, 0, 0, []),
  (49, .aload_n 0, 1, 0, 0, 0, 0, 0, []),
  (50, .invokevirtual 473, 3, 291, 1, 1, 0, 0, [])]
set_option maxRecDepth 100000 in
theorem lX12_match_0_ck : lX12_match_0.all (ra_ck mX12_match 12) = true := by decide +kernel
def nX12_match_0 (N : Nat) (a0 : Nat) (a1 : Int32) (h : ra_H) : Option (Int32 × ra_H) :=
  (ra_fW h 12 a0 0 (.int ((0 : Int32)))).bind fun h1 =>
  (fX12_in N (Int32.toInt64 a1) ((0 : Int64)) ((2 : Int64)) h1).bind fun q2 =>
  if q2.1 = 0 then
    some ((-1 : Int32), q2.2)
  else
    (fX12_matchAll N a0 q2.2).bind fun h3 =>
    if a1 = 0 then
      (ra_fR h3 12 a0 44).bind fun x6 =>
      (ra_aI h3 0 x6 ((0 : Int32))).bind fun x7 =>
      nX12_match_53 N x7 h3
    else
      if a1 = ((1 : Int32)) then
        (ra_fJ h3 12 a0 51).bind fun x5 =>
        nX12_match_53 N (Int64.toInt32 x5) h3
      else
        (fX12_matchedLines N a0 h3).bind fun q4 =>
        nX12_match_53 N q4.1 q4.2
def kX12_match_0 (N : Nat) : Nat → List (Option Value) → List Value → ra_H → Option (Int32 × ra_H) := (ra_k1 53 (fun L S h => match L, S with
  | [_, _], [.int b0] => nX12_match_53 N b0 h
  | _, _ => none) ra_k0)
theorem kX12_match_0_ok (N : Nat) : ra_kok 6 mX12_match ra_oI (kX12_match_0 N) := (ra_k1_ok (by
  intro L S h a e
  split at e
  · exact ra_Ru.weak (nX12_match_53_ok N _ _ _ e) trivial
  · cases e) ra_k0_ok)
set_option maxRecDepth 100000 in
theorem nX12_match_0_ok (N : Nat) (a0 : Nat) (a1 : Int32) (h : ra_H) (r : (Int32 × ra_H)) (e : nX12_match_0 N a0 a1 h = some r) : ra_Ru 6 mX12_match 0 [some (.ref a0), some (.int a1)] [] h (ra_oI r) :=
  ra_sound (by omega) rfl ra_rI_ok (kX12_match_0_ok N) (fun m av h h1 e => (tVX12_match_ok N) m av h h1 e) (fun m av h x h1 e => (tIX12_match_ok N) m av h (x, h1) e) (fun m av h x h1 e => (ra_c0_ok (ro := ra_oJ)) m av h (x, h1) e) (fun m av h x h1 e => (ra_c0_ok (ro := ra_oR)) m av h (x, h1) e) (fun m av h x h1 e => (ra_c0_ok (ro := ra_oN)) m av h (x, h1) e) (fun m av h x h1 e => (ra_c0_ok (ro := ra_oF)) m av h (x, h1) e) 30 lX12_match_0 _ _ _ _ lX12_match_0_ck (show ra_run ra_rI (kX12_match_0 N) (tVX12_match N) (tIX12_match N) ra_c0 ra_c0 ra_c0 ra_c0 30 lX12_match_0 [some (.ref a0), some (.int a1)] [] h = some r from e) _ _ rfl
def fX12_match (N : Nat) (p0 : Nat) (p1 : Int32) (h : ra_H) : Option (Int32 × ra_H) := match ra_isOb h p0 12 with
  | true => nX12_match_0 N p0 p1 h
  | false => none
set_option maxRecDepth 100000 in
theorem mtX12_match : ra_MT[285]? = some (mX12_match, 1, 1, (1, 13), (8, 179), (8, 180)) := rfl
theorem fX12_match_co (N : Nat) (p0 : Nat) (p1 : Int32) (h : ra_H) (r : (Int32 × ra_H)) (e : fX12_match N p0 p1 h = some r) (D : Nat) (hD : 7 ≤ D) : ra_CO D 285 [.ref p0, .int p1] h (ra_oI r).1 (ra_oI r).2 := by
  have hw : ra_nw2 [.ref p0, .int p1] ≤ 2 := Nat.le_of_ble_eq_true rfl
  have hdb : ∀ v ∈ ([.ref p0, .int p1] : List Value), ∀ x, v ≠ .double x := by
    intro v hv x hx
    simp [hx] at hv
  unfold fX12_match at e
  split at e
  · rename_i ho
    have e1 := e
    exact ⟨6, _, mtX12_match, hD, ra_ev_of (by decide) hdb hw trivial (ra_Ru.weak (nX12_match_0_ok N p0 p1 h _ e1) ⟨rfl, ⟨rfl, trivial⟩⟩), (fun _ => ⟨_, _, rfl, ra_rcv_of ho (by decide) rfl⟩), (fun h => absurd h (by decide))⟩
  · cases e
/-! RedMarksModel.matched(II)I -/
def mX12_matched : ra_M := (yX12_matched, cX12_matched, 3, (some .int))
def tVX12_matched (N : Nat) : Nat → List Value → ra_H → Option ra_H := (ra_c1 286 (fun av h => match av with
  | [.ref z0] => fX12_matchAll N z0 h
  | _ => none) ra_c0)
theorem tVX12_matched_ok (N : Nat) : ra_cok 6 ra_oV (tVX12_matched N) := (ra_c1_ok (by
  intro av h a e
  split at e
  · exact fX12_matchAll_co N _ _ _ e 6 (by omega)
  · cases e) ra_c0_ok)
def tIX12_matched (N : Nat) : Nat → List Value → ra_H → Option (Int32 × ra_H) := (ra_c1 209 (fun av h => match av with
  | [.long z0, .long z1, .long z2] => fX12_in N z0 z1 z2 h
  | _ => none) (ra_c1 218 (fun av h => match av with
  | [.ref z0, .int z1] => fX12_isBook N z0 z1 h
  | _ => none) ra_c0))
theorem tIX12_matched_ok (N : Nat) : ra_cok 6 ra_oI (tIX12_matched N) := (ra_c1_ok (by
  intro av h a e
  split at e
  · exact fX12_in_co N _ _ _ _ _ e 6 (by omega)
  · cases e) (ra_c1_ok (by
  intro av h a e
  split at e
  · exact fX12_isBook_co N _ _ _ _ e 6 (by omega)
  · cases e) ra_c0_ok))
def lX12_matched_23 : List ra_I := [(23, .iconst (-1), 1, 0, 0, 0, (-1), 0, []),
  (24, .ireturn, 1, 0, 0, 0, 0, 0, [])]
set_option maxRecDepth 100000 in
theorem lX12_matched_23_ck : lX12_matched_23.all (ra_ck mX12_matched 12) = true := by decide +kernel
def nX12_matched_23 (N : Nat) (h : ra_H) : Option (Int32 × ra_H) :=
  some ((-1 : Int32), h)
def kX12_matched_23 (N : Nat) : Nat → List (Option Value) → List Value → ra_H → Option (Int32 × ra_H) := ra_k0
theorem kX12_matched_23_ok (N : Nat) : ra_kok 6 mX12_matched ra_oI (kX12_matched_23 N) := ra_k0_ok
set_option maxRecDepth 100000 in
theorem nX12_matched_23_ok (N : Nat) (h : ra_H) (r : (Int32 × ra_H)) (e : nX12_matched_23 N h = some r) : ra_Ru 6 mX12_matched 23 [none, none, none] [] h (ra_oI r) :=
  ra_sound (by omega) rfl ra_rI_ok (kX12_matched_23_ok N) (fun m av h h1 e => (tVX12_matched_ok N) m av h h1 e) (fun m av h x h1 e => (tIX12_matched_ok N) m av h (x, h1) e) (fun m av h x h1 e => (ra_c0_ok (ro := ra_oJ)) m av h (x, h1) e) (fun m av h x h1 e => (ra_c0_ok (ro := ra_oR)) m av h (x, h1) e) (fun m av h x h1 e => (ra_c0_ok (ro := ra_oN)) m av h (x, h1) e) (fun m av h x h1 e => (ra_c0_ok (ro := ra_oF)) m av h (x, h1) e) 3 lX12_matched_23 _ _ _ _ lX12_matched_23_ck (show ra_run ra_rI (kX12_matched_23 N) (tVX12_matched N) (tIX12_matched N) ra_c0 ra_c0 ra_c0 ra_c0 3 lX12_matched_23 [none, none, none] [] h = some r from e) _ _ rfl
def lX12_matched_78 : List ra_I := [(78, .ireturn, 1, 0, 0, 0, 0, 0, [])]
set_option maxRecDepth 100000 in
theorem lX12_matched_78_ck : lX12_matched_78.all (ra_ck mX12_matched 12) = true := by decide +kernel
def nX12_matched_78 (N : Nat) (b0 : Int32) (h : ra_H) : Option (Int32 × ra_H) :=
  some (b0, h)
def kX12_matched_78 (N : Nat) : Nat → List (Option Value) → List Value → ra_H → Option (Int32 × ra_H) := ra_k0
theorem kX12_matched_78_ok (N : Nat) : ra_kok 6 mX12_matched ra_oI (kX12_matched_78 N) := ra_k0_ok
set_option maxRecDepth 100000 in
theorem nX12_matched_78_ok (N : Nat) (b0 : Int32) (h : ra_H) (r : (Int32 × ra_H)) (e : nX12_matched_78 N b0 h = some r) : ra_Ru 6 mX12_matched 78 [none, none, none] [.int b0] h (ra_oI r) :=
  ra_sound (by omega) rfl ra_rI_ok (kX12_matched_78_ok N) (fun m av h h1 e => (tVX12_matched_ok N) m av h h1 e) (fun m av h x h1 e => (tIX12_matched_ok N) m av h (x, h1) e) (fun m av h x h1 e => (ra_c0_ok (ro := ra_oJ)) m av h (x, h1) e) (fun m av h x h1 e => (ra_c0_ok (ro := ra_oR)) m av h (x, h1) e) (fun m av h x h1 e => (ra_c0_ok (ro := ra_oN)) m av h (x, h1) e) (fun m av h x h1 e => (ra_c0_ok (ro := ra_oF)) m av h (x, h1) e) 2 lX12_matched_78 _ _ _ _ lX12_matched_78_ck (show ra_run ra_rI (kX12_matched_78 N) (tVX12_matched N) (tIX12_matched N) ra_c0 ra_c0 ra_c0 ra_c0 2 lX12_matched_78 [none, none, none] [.int b0] h = some r from e) _ _ rfl
def lX12_matched_0 : List ra_I := [(0, .aload_n 0, 1, 0, 0, 0, 0, 0, []),
  (1, .iconst (0), 1, 0, 0, 0, (0), 0, []),
  (2, .putfield 147, 3, 12, 0, 0, 0, 0, []),
  (5, .aload_n 0, 1, 0, 0, 0, 0, 0, []),
  (6, .iload_n 1, 1, 1, 0, 0, 0, 0, []),
  (7, .invokevirtual 198, 3, 218, 2, 1, 0, 0, []),
  (10, .ifCond .eq (13), 3, 23, 0, 0, 0, 0, []),
  (13, .iload_n 2, 1, 2, 0, 0, 0, 0, []),
  (14, .i2l, 1, 0, 0, 0, 0, 0, []),
  (15, .lconst 0, 1, 0, 0, 0, 0, 0, []),
  (16, .lconst 1, 1, 0, 0, 0, 0, 1, []),
  (17, .invokestatic 153, 3, 209, 3, 1, 0, 0, []),
  (20, .ifCond .ne (5), 3, 25, 0, 0, 0, 0, []),
  (25, .aload_n 0, 1, 0, 0, 0, 0, 0, []),
  (26, .invokevirtual 470, 3, 286, 1, 0, 0, 0, []),
  (29, .iload_n 2, 1, 2, 0, 0, 0, 0, []),
  (30, .iconst (1), 1, 0, 0, 0, (1), 0, []),
  (31, .if_icmp .ne (20), 3, 51, 0, 0, 0, 0, []),
  (34, .aload_n 0, 1, 0, 0, 0, 0, 0, []),
  (35, .getfield 129, 3, 12, 50, 2, 0, 0, []),
  (38, .iload_n 1, 1, 1, 0, 0, 0, 0, []),
  (39, .baload, 1, 0, 0, 0, 0, 0, []),
  (40, .ifCond .eq (7), 3, 47, 0, 0, 0, 0, []),
  (43, .iconst (2), 1, 0, 0, 0, (2), 0, []),
  (44, .goto (34), 3, 78, 0, 0, 0, 0, []),
  (47, .iconst (1), 1, 0, 0, 0, (1), 0, []),
  (48, .goto (30), 3, 78, 0, 0, 0, 0, []),
  (51, .aload_n 0, 1, 0, 0, 0, 0, 0, []),
  (52, .getfield 126, 3, 12, 49, 2, 0, 0, []),
  (55, .iload_n 1, 1, 1, 0, 0, 0, 0, []),
  (56, .iaload, 1, 0, 0, 0, 0, 0, []),
  (57, .aload_n 0, 1, 0, 0, 0, 0, 0, []),
  (58, .getfield 13, 3, 12, 3, 2, 0, 0, []),
  (61, .sipush (482), 3, 0, 0, 0, (482), 0, []),
  (64, .iaload, 1, 0, 0, 0, 0, 0, []),
  (65, .if_icmp .ne (7), 3, 72, 0, 0, 0, 0, []),
  (68, .iconst (-1), 1, 0, 0, 0, (-1), 0, []),
  (69, .goto (9), 3, 78, 0, 0, 0, 0, []),
  (72, .aload_n 0, 1, 0, 0, 0, 0, 0, []),
  (73, .getfield 126, 3, 12, 49, 2, 0, 0, []),
  (76, .iload_n 1, 1, 1, 0, 0, 0, 0, []),
  (77, .iaload, 1, 0, 0, 0, 0, 0, [])]
set_option maxRecDepth 100000 in
theorem lX12_matched_0_ck : lX12_matched_0.all (ra_ck mX12_matched 12) = true := by decide +kernel
def nX12_matched_0 (N : Nat) (a0 : Nat) (a1 : Int32) (a2 : Int32) (h : ra_H) : Option (Int32 × ra_H) :=
  (ra_fW h 12 a0 0 (.int ((0 : Int32)))).bind fun h1 =>
  (fX12_isBook N a0 a1 h1).bind fun q2 =>
  if q2.1 = 0 then
    nX12_matched_23 N q2.2
  else
    (fX12_in N (Int32.toInt64 a2) ((0 : Int64)) ((1 : Int64)) q2.2).bind fun q3 =>
    if q3.1 = 0 then
      nX12_matched_23 N q3.2
    else
      (fX12_matchAll N a0 q3.2).bind fun h4 =>
      if a2 = ((1 : Int32)) then
        (ra_fR h4 12 a0 50).bind fun x11 =>
        (ra_aI h4 2 x11 a1).bind fun x12 =>
        if x12 = 0 then
          nX12_matched_78 N ((1 : Int32)) h4
        else
          nX12_matched_78 N ((2 : Int32)) h4
      else
        (ra_fR h4 12 a0 49).bind fun x5 =>
        (ra_aI h4 0 x5 a1).bind fun x6 =>
        (ra_fR h4 12 a0 3).bind fun x7 =>
        (ra_aI h4 0 x7 ((482 : Int32))).bind fun x8 =>
        if x6 = x8 then
          nX12_matched_78 N ((-1 : Int32)) h4
        else
          (ra_fR h4 12 a0 49).bind fun x9 =>
          (ra_aI h4 0 x9 a1).bind fun x10 =>
          nX12_matched_78 N x10 h4
def kX12_matched_0 (N : Nat) : Nat → List (Option Value) → List Value → ra_H → Option (Int32 × ra_H) := (ra_k1 23 (fun L S h => match L, S with
  | [_, _, _], [] => nX12_matched_23 N h
  | _, _ => none) (ra_k1 78 (fun L S h => match L, S with
  | [_, _, _], [.int b0] => nX12_matched_78 N b0 h
  | _, _ => none) ra_k0))
theorem kX12_matched_0_ok (N : Nat) : ra_kok 6 mX12_matched ra_oI (kX12_matched_0 N) := (ra_k1_ok (by
  intro L S h a e
  split at e
  · exact ra_Ru.weak (nX12_matched_23_ok N _ _ e) trivial
  · cases e) (ra_k1_ok (by
  intro L S h a e
  split at e
  · exact ra_Ru.weak (nX12_matched_78_ok N _ _ _ e) trivial
  · cases e) ra_k0_ok))
set_option maxRecDepth 100000 in
theorem nX12_matched_0_ok (N : Nat) (a0 : Nat) (a1 : Int32) (a2 : Int32) (h : ra_H) (r : (Int32 × ra_H)) (e : nX12_matched_0 N a0 a1 a2 h = some r) : ra_Ru 6 mX12_matched 0 [some (.ref a0), some (.int a1), some (.int a2)] [] h (ra_oI r) :=
  ra_sound (by omega) rfl ra_rI_ok (kX12_matched_0_ok N) (fun m av h h1 e => (tVX12_matched_ok N) m av h h1 e) (fun m av h x h1 e => (tIX12_matched_ok N) m av h (x, h1) e) (fun m av h x h1 e => (ra_c0_ok (ro := ra_oJ)) m av h (x, h1) e) (fun m av h x h1 e => (ra_c0_ok (ro := ra_oR)) m av h (x, h1) e) (fun m av h x h1 e => (ra_c0_ok (ro := ra_oN)) m av h (x, h1) e) (fun m av h x h1 e => (ra_c0_ok (ro := ra_oF)) m av h (x, h1) e) 43 lX12_matched_0 _ _ _ _ lX12_matched_0_ck (show ra_run ra_rI (kX12_matched_0 N) (tVX12_matched N) (tIX12_matched N) ra_c0 ra_c0 ra_c0 ra_c0 43 lX12_matched_0 [some (.ref a0), some (.int a1), some (.int a2)] [] h = some r from e) _ _ rfl
def fX12_matched (N : Nat) (p0 : Nat) (p1 : Int32) (p2 : Int32) (h : ra_H) : Option (Int32 × ra_H) := match ra_isOb h p0 12 with
  | true => nX12_matched_0 N p0 p1 p2 h
  | false => none
set_option maxRecDepth 100000 in
theorem mtX12_matched : ra_MT[293]? = some (mX12_matched, 1, 2, (1, 13), (8, 211), (8, 212)) := rfl
theorem fX12_matched_co (N : Nat) (p0 : Nat) (p1 : Int32) (p2 : Int32) (h : ra_H) (r : (Int32 × ra_H)) (e : fX12_matched N p0 p1 p2 h = some r) (D : Nat) (hD : 7 ≤ D) : ra_CO D 293 [.ref p0, .int p1, .int p2] h (ra_oI r).1 (ra_oI r).2 := by
  have hw : ra_nw2 [.ref p0, .int p1, .int p2] ≤ 3 := Nat.le_of_ble_eq_true rfl
  have hdb : ∀ v ∈ ([.ref p0, .int p1, .int p2] : List Value), ∀ x, v ≠ .double x := by
    intro v hv x hx
    simp [hx] at hv
  unfold fX12_matched at e
  split at e
  · rename_i ho
    have e1 := e
    exact ⟨6, _, mtX12_matched, hD, ra_ev_of (by decide) hdb hw trivial (ra_Ru.weak (nX12_matched_0_ok N p0 p1 p2 h _ e1) ⟨rfl, ⟨rfl, ⟨rfl, trivial⟩⟩⟩), (fun _ => ⟨_, _, rfl, ra_rcv_of ho (by decide) rfl⟩), (fun h => absurd h (by decide))⟩
  · cases e
