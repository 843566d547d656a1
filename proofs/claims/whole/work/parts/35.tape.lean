/-! java/util/Arrays.copyOf([II)[I -/
def mJ7_copyOf_59c91 : ra_M := (yJ7_copyOf_59c91, cJ7_copyOf_59c91, 3, (some (.array .int)))
def nJ7_copyOf_59c91_6 (N : Nat) (a0 : Nat) (h : ra_H) : Option (Nat × ra_H) := match h.1 a0 with
  | .inl (0, n, .inl f) => some (h.2.1, ra_mk h (.inl (0, n, .inl f)) n)
  | _ => none
theorem ra_w_cl1 : Cond.methodLink "java/util/Arrays" 316 ⟨"[I", "clone", "()Ljava/lang/Object;"⟩ ∈ ra_tbl := ra_yes_in (p := (4, 33)) (by decide +kernel)
theorem ra_w_cl2 : Cond.sameMethod "[I" "java/lang/Object" "clone" "()Ljava/lang/Object;" ∈ ra_tbl := ra_yes_in (p := (4, 34)) (by decide +kernel)
theorem ra_w_cl3 : Cond.native ⟨"java/lang/Object", "clone", "()Ljava/lang/Object;"⟩ ∈ ra_tbl := ra_yes_in (p := (4, 35)) (by decide +kernel)
theorem ra_w_cl4 : Cond.instanceMethod ⟨"java/lang/Object", "clone", "()Ljava/lang/Object;"⟩ ∈ ra_tbl := ra_yes_in (p := (4, 36)) (by decide +kernel)
theorem ra_w_cl5 : Cond.selects "[I" ⟨"[I", "clone", "()Ljava/lang/Object;"⟩ ⟨"java/lang/Object", "clone", "()Ljava/lang/Object;"⟩ ∈ ra_tbl := ra_yes_in (p := (4, 37)) (by decide +kernel)
theorem ra_w_cl6 : Cond.classLink "java/util/Arrays" 317 "[I" ∈ ra_tbl := ra_yes_in (p := (4, 39)) (by decide +kernel)
theorem nJ7_copyOf_59c91_6_ok (N : Nat) (a0 : Nat) (h : ra_H) (r : (Nat × ra_H)) (e : nJ7_copyOf_59c91_6 N a0 h = some r) : ra_Ru 1 mJ7_copyOf_59c91 6 [some (.ref a0), none, none] [] h (ra_oR r) := by
  have d6 : decode cJ7_copyOf_59c91 6 = .ok (.aload_n 0, 1) := by decide +kernel
  have d7 : decode cJ7_copyOf_59c91 7 = .ok (.invokevirtual 316, 3) := by decide +kernel
  have d10 : decode cJ7_copyOf_59c91 10 = .ok (.checkcast 317, 3) := by decide +kernel
  have d13 : decode cJ7_copyOf_59c91 13 = .ok (.areturn, 1) := by decide +kernel
  unfold nJ7_copyOf_59c91_6 at e
  split at e
  · rename_i n f hk
    cases e
    refine ra_rd (S' := [.ref a0]) (pc' := 7) (fun G p l e R s m args below meth c H locs cells slots ls Q cx x hR hS hL hcl hsl k => lv_aload_n cx.1 cx.2.1 d6 rfl (hL.at (v := .ref a0) rfl) k) ?_
    refine ra_al (cl := .inl (0, n, .inl f)) (n := n) (S' := []) (pc' := 10) (fun G p l e R s m args below meth c H locs cells slots ls Q cx hR hS hAq hcl hsl hml k => ?_) ?_
    · have hnm : s.vm.findClass "[I" = some (G.2.2.1 0) := (cx.2.2.2.2.2.2.2.2.1.1.2 0 _ rfl).2
      refine va_clone (x := (n, .inl f)) (ty := .int) cx.1 cx.2.1 hml cx.2.2.2.1 (cx.2.2.2.2.1 _ ra_w_cl1) (cx.2.2.2.2.1 _ ra_w_cl2) (cx.2.2.2.2.1 _ ra_w_cl3) (cx.2.2.2.2.1 _ ra_w_cl4) (cx.2.2.2.2.1 _ ra_w_cl5) cx.2.2.2.2.2.2.2.2.1.2.2.1.2.2 cx.2.2.2.2.2.2.2.2.1.1 hR.1 (ra_w_D G h) hS hAq a0 0 (ra_at_a hR hk) rfl hnm ?_ (by have := cx.2.2.2.2.2.2.1; omega) ?_ hcl hsl d7 (fun q H1 b0 b1 b2 b3 => k q H1 _ b1 b2 b3 rfl)
      · intro i v hv
        have hlt : i < n := by
          have := (Array.getElem?_eq_some_iff.mp hv).1
          rw [show (vp_cell (G.2.2.1 0) (n, .inl f)).slots.size = n from arrV_size _ _ _] at this
          exact this
        have h2 : (vp_cell (G.2.2.1 0) (n, .inl f)).slots[i]? = some (.int (f i)) := arrV_read _ _ hlt
        cases hv.symm.trans h2
        rfl
      · have := cx.2.2.2.2.2.2.2.1
        show 0 + 14 ≤ R.locals
        omega
    · have hnew : (ra_mk h (.inl (0, n, .inl f)) n).1 h.2.1 = .inl (0, n, .inl f) := by simp [ra_mk, ra_up]
      refine ra_rd (S' := [.ref h.2.1]) (pc' := 13) (fun G p l e R s m args below meth c H locs cells slots ls Q cx x hR hS hL hcl hsl k => ?_) (ra_ret_ok d13 rfl)
      have hnm : s.vm.findClass "[I" = some (G.2.2.1 0) := (cx.2.2.2.2.2.2.2.2.1.1.2 0 _ rfl).2
      exact va_castA cx.1 cx.2.1 cx.2.2.2.1 (cx.2.2.2.2.1 _ ra_w_cl6) hR.1 _ (ra_at_a hR hnew) hnm d10 k
  · cases e

def lJ7_copyOf_59c91_0 : List ra_I := [(0, .iload_n 1, 1, 1, 0, 0, 0, 0, []),
  (1, .aload_n 0, 1, 0, 0, 0, 0, 0, []),
  (2, .arraylength, 1, 0, 0, 0, 0, 0, []),
  (3, .if_icmp .ne (11), 3, 14, 0, 0, 0, 0, []),
  (14, .iload_n 1, 1, 1, 0, 0, 0, 0, []),
  (15, .newarray .int, 2, 0, 0, 0, 0, 0, []),
  (17, .astore_n 2, 1, 2, 0, 0, 0, 0, []),
  (18, .aload_n 0, 1, 0, 0, 0, 0, 0, []),
  (19, .iconst (0), 1, 0, 0, 0, (0), 0, []),
  (20, .aload_n 2, 1, 2, 0, 0, 0, 0, []),
  (21, .iconst (0), 1, 0, 0, 0, (0), 0, []),
  (22, .aload_n 0, 1, 0, 0, 0, 0, 0, []),
  (23, .arraylength, 1, 0, 0, 0, 0, 0, []),
  (24, .iload_n 1, 1, 1, 0, 0, 0, 0, []),
  (25, .invokestatic 304, 3, 46, 0, 21, 0, 0, []),
  (28, .invokestatic 150, 3, 0, 0, 22, 0, 0, []),
  (31, .aload_n 2, 1, 2, 0, 0, 0, 0, []),
  (32, .areturn, 1, 0, 0, 0, 0, 0, [])]
set_option maxRecDepth 100000 in
theorem lJ7_copyOf_59c91_0_ck : lJ7_copyOf_59c91_0.all (ra_ck mJ7_copyOf_59c91 21) = true := by decide +kernel
def nJ7_copyOf_59c91_0 (N : Nat) (a0 : Nat) (a1 : Int32) (h : ra_H) : Option (Nat × ra_H) :=
  (ra_aL h a0).bind fun x1 =>
  if a1 = x1 then
    nJ7_copyOf_59c91_6 N a0 h
  else
    if a1 < 0 ∨ 50000000 < (Int32.toNatClampNeg a1) then none else
    let h2 := ra_mk h (ra_na 0 (Int32.toNatClampNeg a1)) (Int32.toNatClampNeg a1)
    (ra_aL h2 a0).bind fun x3 =>
    (ra_cp h2 a0 ((0 : Int32)) h.2.1 ((0 : Int32)) (if a1 < x3 then a1 else x3)).bind fun h4 =>
    some (h.2.1, h4)
def kJ7_copyOf_59c91_0 (N : Nat) : Nat → List (Option Value) → List Value → ra_H → Option (Nat × ra_H) := (ra_k1 6 (fun L S h => match L, S with
  | [some (.ref a0), _, _], [] => nJ7_copyOf_59c91_6 N a0 h
  | _, _ => none) ra_k0)
theorem kJ7_copyOf_59c91_0_ok (N : Nat) : ra_kok 1 mJ7_copyOf_59c91 ra_oR (kJ7_copyOf_59c91_0 N) := (ra_k1_ok (by
  intro L S h a e
  split at e
  · exact ra_Ru.weak (nJ7_copyOf_59c91_6_ok N _ _ _ e) ⟨rfl, trivial⟩
  · cases e) ra_k0_ok)
set_option maxRecDepth 100000 in
theorem nJ7_copyOf_59c91_0_ok (N : Nat) (a0 : Nat) (a1 : Int32) (h : ra_H) (r : (Nat × ra_H)) (e : nJ7_copyOf_59c91_0 N a0 a1 h = some r) : ra_Ru 1 mJ7_copyOf_59c91 0 [some (.ref a0), some (.int a1), none] [] h (ra_oR r) :=
  ra_sound (by omega) rfl ra_rR_ok (kJ7_copyOf_59c91_0_ok N) (fun m av h h1 e => (ra_c0_ok (ro := ra_oV)) m av h h1 e) (fun m av h x h1 e => (ra_c0_ok (ro := ra_oI)) m av h (x, h1) e) (fun m av h x h1 e => (ra_c0_ok (ro := ra_oJ)) m av h (x, h1) e) (fun m av h x h1 e => (ra_c0_ok (ro := ra_oR)) m av h (x, h1) e) (fun m av h x h1 e => (ra_c0_ok (ro := ra_oN)) m av h (x, h1) e) (fun m av h x h1 e => (ra_c0_ok (ro := ra_oF)) m av h (x, h1) e) 19 lJ7_copyOf_59c91_0 _ _ _ _ lJ7_copyOf_59c91_0_ck (show ra_run ra_rR (kJ7_copyOf_59c91_0 N) ra_c0 ra_c0 ra_c0 ra_c0 ra_c0 ra_c0 19 lJ7_copyOf_59c91_0 [some (.ref a0), some (.int a1), none] [] h = some r from e) _ _ rfl
def fJ7_copyOf_59c91 (N : Nat) (p0 : Nat) (p1 : Int32) (h : ra_H) : Option (Nat × ra_H) := nJ7_copyOf_59c91_0 N p0 p1 h
set_option maxRecDepth 100000 in
theorem mtJ7_copyOf_59c91 : ra_MT[77]? = some (mJ7_copyOf_59c91, 0, 2, (1, 3), (4, 31), (0, 0)) := rfl
theorem fJ7_copyOf_59c91_co (N : Nat) (p0 : Nat) (p1 : Int32) (h : ra_H) (r : (Nat × ra_H)) (e : fJ7_copyOf_59c91 N p0 p1 h = some r) (D : Nat) (hD : 2 ≤ D) : ra_CO D 77 [.ref p0, .int p1] h (ra_oR r).1 (ra_oR r).2 := by
  have hw : ra_nw2 [.ref p0, .int p1] ≤ 3 := Nat.le_of_ble_eq_true rfl
  have hdb : ∀ v ∈ ([.ref p0, .int p1] : List Value), ∀ x, v ≠ .double x := by
    intro v hv x hx
    simp [hx] at hv
  unfold fJ7_copyOf_59c91 at e
  have e1 := e
  exact ⟨1, _, mtJ7_copyOf_59c91, hD, ra_ev_of (by decide) hdb hw trivial (ra_Ru.weak (nJ7_copyOf_59c91_0_ok N p0 p1 h _ e1) ⟨rfl, ⟨rfl, trivial⟩⟩), (fun h => absurd h (by decide)), (fun h => absurd h (by decide))⟩
/-! RedMarks$Tape.newScheme()LRedMarks$Scheme; -/
def mX8_newScheme : ra_M := (yX8_newScheme, cX8_newScheme, 1, (some (.object "RedMarks$Scheme")))
def tVX8_newScheme (N : Nat) : Nat → List Value → ra_H → Option ra_H := (ra_c1 78 (fun av h => match av with
  | [.ref z0, .ref z1, .ref z2, .ref z3] => fX4_init N z0 z1 z2 z3 h
  | _ => none) ra_c0)
theorem tVX8_newScheme_ok (N : Nat) : ra_cok 2 ra_oV (tVX8_newScheme N) := (ra_c1_ok (by
  intro av h a e
  split at e
  · exact fX4_init_co N _ _ _ _ _ _ e 2 (by omega)
  · cases e) ra_c0_ok)
def tRX8_newScheme (N : Nat) : Nat → List Value → ra_H → Option (Nat × ra_H) := (ra_c1 77 (fun av h => match av with
  | [.ref z0, .int z1] => fJ7_copyOf_59c91 N z0 z1 h
  | _ => none) ra_c0)
theorem tRX8_newScheme_ok (N : Nat) : ra_cok 2 ra_oR (tRX8_newScheme N) := (ra_c1_ok (by
  intro av h a e
  split at e
  · exact fJ7_copyOf_59c91_co N _ _ _ _ e 2 (by omega)
  · cases e) ra_c0_ok)
def lX8_newScheme_0 : List ra_I := [(0, .aload_n 0, 1, 0, 0, 0, 0, 0, []),
  (1, .getfield 23, 3, 8, 5, 2, 0, 0, []),
  (4, .iconst (2), 1, 0, 0, 0, (2), 0, []),
  (5, .aload_n 0, 1, 0, 0, 0, 0, 0, []),
  (6, .getfield 33, 3, 8, 7, 0, 0, 0, []),
  (9, .imul, 1, 0, 0, 0, 0, 0, []),
  (10, .aload_n 0, 1, 0, 0, 0, 0, 0, []),
  (11, .getfield 30, 3, 8, 6, 0, 0, 0, []),
  (14, .iastore, 1, 0, 0, 0, 0, 0, []),
  (15, .new 18, 3, 4, 3, 0, 0, 0, []),
  (18, .dup, 1, 0, 0, 0, 0, 0, []),
  (19, .aload_n 0, 1, 0, 0, 0, 0, 0, []),
  (20, .getfield 15, 3, 8, 3, 2, 0, 0, []),
  (23, .aload_n 0, 1, 0, 0, 0, 0, 0, []),
  (24, .getfield 30, 3, 8, 6, 0, 0, 0, []),
  (27, .invokestatic 60, 3, 77, 2, 3, 0, 0, []),
  (30, .aload_n 0, 1, 0, 0, 0, 0, 0, []),
  (31, .getfield 20, 3, 8, 4, 2, 0, 0, []),
  (34, .aload_n 0, 1, 0, 0, 0, 0, 0, []),
  (35, .getfield 33, 3, 8, 7, 0, 0, 0, []),
  (38, .invokestatic 60, 3, 77, 2, 3, 0, 0, []),
  (41, .aload_n 0, 1, 0, 0, 0, 0, 0, []),
  (42, .getfield 23, 3, 8, 5, 2, 0, 0, []),
  (45, .iconst (2), 1, 0, 0, 0, (2), 0, []),
  (46, .aload_n 0, 1, 0, 0, 0, 0, 0, []),
  (47, .getfield 33, 3, 8, 7, 0, 0, 0, []),
  (50, .imul, 1, 0, 0, 0, 0, 0, []),
  (51, .iconst (1), 1, 0, 0, 0, (1), 0, []),
  (52, .iadd, 1, 0, 0, 0, 0, 0, []),
  (53, .invokestatic 60, 3, 77, 2, 3, 0, 0, []),
  (56, .invokespecial 66, 3, 78, 4, 0, 0, 0, []),
  (59, .areturn, 1, 0, 0, 0, 0, 0, [])]
set_option maxRecDepth 100000 in
theorem lX8_newScheme_0_ck : lX8_newScheme_0.all (ra_ck mX8_newScheme 8) = true := by decide +kernel
def nX8_newScheme_0 (N : Nat) (a0 : Nat) (h : ra_H) : Option (Nat × ra_H) :=
  (ra_fR h 8 a0 5).bind fun x1 =>
  (ra_fI h 8 a0 7).bind fun x2 =>
  (ra_fI h 8 a0 6).bind fun x3 =>
  (ra_aW h 0 x1 (((2 : Int32)) * x2) x3).bind fun h4 =>
  let h5 := ra_mk h4 (.inr (4, ra_df 4)) 3
  (ra_fR h5 8 a0 3).bind fun x6 =>
  (ra_fI h5 8 a0 6).bind fun x7 =>
  (fJ7_copyOf_59c91 N x6 x7 h5).bind fun q8 =>
  (ra_fR q8.2 8 a0 4).bind fun x9 =>
  (ra_fI q8.2 8 a0 7).bind fun x10 =>
  (fJ7_copyOf_59c91 N x9 x10 q8.2).bind fun q11 =>
  (ra_fR q11.2 8 a0 5).bind fun x12 =>
  (ra_fI q11.2 8 a0 7).bind fun x13 =>
  (fJ7_copyOf_59c91 N x12 ((((2 : Int32)) * x13) + ((1 : Int32))) q11.2).bind fun q14 =>
  (fX4_init N h4.2.1 q8.1 q11.1 q14.1 q14.2).bind fun h15 =>
  some (h4.2.1, h15)
def kX8_newScheme_0 (N : Nat) : Nat → List (Option Value) → List Value → ra_H → Option (Nat × ra_H) := ra_k0
theorem kX8_newScheme_0_ok (N : Nat) : ra_kok 2 mX8_newScheme ra_oR (kX8_newScheme_0 N) := ra_k0_ok
set_option maxRecDepth 100000 in
theorem nX8_newScheme_0_ok (N : Nat) (a0 : Nat) (h : ra_H) (r : (Nat × ra_H)) (e : nX8_newScheme_0 N a0 h = some r) : ra_Ru 2 mX8_newScheme 0 [some (.ref a0)] [] h (ra_oR r) :=
  ra_sound (by omega) rfl ra_rR_ok (kX8_newScheme_0_ok N) (fun m av h h1 e => (tVX8_newScheme_ok N) m av h h1 e) (fun m av h x h1 e => (ra_c0_ok (ro := ra_oI)) m av h (x, h1) e) (fun m av h x h1 e => (ra_c0_ok (ro := ra_oJ)) m av h (x, h1) e) (fun m av h x h1 e => (tRX8_newScheme_ok N) m av h (x, h1) e) (fun m av h x h1 e => (ra_c0_ok (ro := ra_oN)) m av h (x, h1) e) (fun m av h x h1 e => (ra_c0_ok (ro := ra_oF)) m av h (x, h1) e) 33 lX8_newScheme_0 _ _ _ _ lX8_newScheme_0_ck (show ra_run ra_rR (kX8_newScheme_0 N) (tVX8_newScheme N) ra_c0 ra_c0 (tRX8_newScheme N) ra_c0 ra_c0 33 lX8_newScheme_0 [some (.ref a0)] [] h = some r from e) _ _ rfl
def fX8_newScheme (N : Nat) (p0 : Nat) (h : ra_H) : Option (Nat × ra_H) := match ra_isOb h p0 8 with
  | true => nX8_newScheme_0 N p0 h
  | false => none
set_option maxRecDepth 100000 in
theorem mtX8_newScheme : ra_MT[76]? = some (mX8_newScheme, 1, 0, (1, 4), (4, 26), (0, 23)) := rfl
theorem fX8_newScheme_co (N : Nat) (p0 : Nat) (h : ra_H) (r : (Nat × ra_H)) (e : fX8_newScheme N p0 h = some r) (D : Nat) (hD : 3 ≤ D) : ra_CO D 76 [.ref p0] h (ra_oR r).1 (ra_oR r).2 := by
  have hw : ra_nw2 [.ref p0] ≤ 1 := Nat.le_of_ble_eq_true rfl
  have hdb : ∀ v ∈ ([.ref p0] : List Value), ∀ x, v ≠ .double x := by
    intro v hv x hx
    simp [hx] at hv
  unfold fX8_newScheme at e
  split at e
  · rename_i ho
    have e1 := e
    exact ⟨2, _, mtX8_newScheme, hD, ra_ev_of (by decide) hdb hw trivial (ra_Ru.weak (nX8_newScheme_0_ok N p0 h _ e1) ⟨rfl, trivial⟩), (fun _ => ⟨_, _, rfl, ra_rcv_of ho (by decide) rfl⟩), (fun h => absurd h (by decide))⟩
  · cases e
/-! RedMarks$Tape.isWord(Ljava/lang/String;)Z -/
def mX8_isWord : ra_M := (yX8_isWord, cX8_isWord, 3, (some .boolean))
def tIX8_isWord (N : Nat) : Nat → List Value → ra_H → Option (Int32 × ra_H) := (ra_c1 51 (fun av h => match av with
  | [.float z0] => fJ0_length_8abf5 N z0 h
  | _ => none) (ra_c1 53 (fun av h => match av with
  | [.float z0, .int z1] => fJ0_charAt_5068e N z0 z1 h
  | _ => none) ra_c0))
theorem tIX8_isWord_ok (N : Nat) : ra_cok 6 ra_oI (tIX8_isWord N) := (ra_c1_ok (by
  intro av h a e
  split at e
  · exact fJ0_length_8abf5_co N _ _ _ e 6 (by omega)
  · cases e) (ra_c1_ok (by
  intro av h a e
  split at e
  · exact fJ0_charAt_5068e_co N _ _ _ _ e 6 (by omega)
  · cases e) ra_c0_ok))
def lX8_isWord_24 : List ra_I := [(24, .iconst (0), 1, 0, 0, 0, (0), 0, []),
  (25, .ireturn, 1, 0, 0, 0, 0, 0, [])]
set_option maxRecDepth 100000 in
theorem lX8_isWord_24_ck : lX8_isWord_24.all (ra_ck mX8_isWord 8) = true := by decide +kernel
def nX8_isWord_24 (N : Nat) (h : ra_H) : Option (Int32 × ra_H) :=
  some ((0 : Int32), h)
def kX8_isWord_24 (N : Nat) : Nat → List (Option Value) → List Value → ra_H → Option (Int32 × ra_H) := ra_k0
theorem kX8_isWord_24_ok (N : Nat) : ra_kok 6 mX8_isWord ra_oI (kX8_isWord_24 N) := ra_k0_ok
set_option maxRecDepth 100000 in
theorem nX8_isWord_24_ok (N : Nat) (h : ra_H) (r : (Int32 × ra_H)) (e : nX8_isWord_24 N h = some r) : ra_Ru 6 mX8_isWord 24 [none, none, none] [] h (ra_oI r) :=
  ra_sound (by omega) rfl ra_rI_ok (kX8_isWord_24_ok N) (fun m av h h1 e => (ra_c0_ok (ro := ra_oV)) m av h h1 e) (fun m av h x h1 e => (tIX8_isWord_ok N) m av h (x, h1) e) (fun m av h x h1 e => (ra_c0_ok (ro := ra_oJ)) m av h (x, h1) e) (fun m av h x h1 e => (ra_c0_ok (ro := ra_oR)) m av h (x, h1) e) (fun m av h x h1 e => (ra_c0_ok (ro := ra_oN)) m av h (x, h1) e) (fun m av h x h1 e => (ra_c0_ok (ro := ra_oF)) m av h (x, h1) e) 3 lX8_isWord_24 _ _ _ _ lX8_isWord_24_ck (show ra_run ra_rI (kX8_isWord_24 N) ra_c0 (tIX8_isWord N) ra_c0 ra_c0 ra_c0 ra_c0 3 lX8_isWord_24 [none, none, none] [] h = some r from e) _ _ rfl
def lX8_isWord_28 : List ra_I := [(28, .iload_n 2, 1, 2, 0, 0, 0, 0, []),
  (29, .aload_n 1, 1, 1, 0, 0, 0, 0, []),
  (30, .invokevirtual 88, 3, 51, 1, 1, 0, 0, []),
  (33, .if_icmp .ge (30), 3, 63, 0, 0, 0, 0, []),
  (36, .aload_n 0, 1, 0, 0, 0, 0, 0, []),
  (37, .getfield 9, 3, 8, 0, 2, 0, 0, []),
  (40, .aload_n 0, 1, 0, 0, 0, 0, 0, []),
  (41, .getfield 69, 3, 8, 2, 0, 0, 0, []),
  (44, .iload_n 2, 1, 2, 0, 0, 0, 0, []),
  (45, .iadd, 1, 0, 0, 0, 0, 0, []),
  (46, .iaload, 1, 0, 0, 0, 0, 0, []),
  (47, .aload_n 1, 1, 1, 0, 0, 0, 0, []),
  (48, .iload_n 2, 1, 2, 0, 0, 0, 0, []),
  (49, .invokevirtual 93, 3, 53, 2, 1, 0, 0, []),
  (52, .if_icmp .eq (5), 3, 57, 0, 0, 0, 0, []),
  (55, .iconst (0), 1, 0, 0, 0, (0), 0, []),
  (56, .ireturn, 1, 0, 0, 0, 0, 0, []),
  (57, .iinc 2 (1), 3, 2, 0, 0, (1), 0, []),
  (60, .goto (-32), 3, 28, 0, 0, 0, 0, []),
  (63, .iconst (1), 1, 0, 0, 0, (1), 0, []),
  (64, .ireturn, 1, 0, 0, 0, 0, 0, [])]
set_option maxRecDepth 100000 in
theorem lX8_isWord_28_ck : lX8_isWord_28.all (ra_ck mX8_isWord 8) = true := by decide +kernel
def nX8_isWord_28 (N : Nat) : Nat → Nat → UInt32 → Int32 → ra_H → Option (Int32 × ra_H)
  | 0, _, _, _, _ => none
  | n + 1, a0, a1, a2, h =>
  (fJ0_length_8abf5 N a1 h).bind fun q1 =>
  if a2 < q1.1 then
    (ra_fR q1.2 8 a0 0).bind fun x2 =>
    (ra_fI q1.2 8 a0 2).bind fun x3 =>
    (ra_aI q1.2 0 x2 (x3 + a2)).bind fun x4 =>
    (fJ0_charAt_5068e N a1 a2 q1.2).bind fun q5 =>
    if x4 = q5.1 then
      let y6 := a2 + (1 : Int32)
      nX8_isWord_28 N n a0 a1 y6 q5.2
    else
      some ((0 : Int32), q5.2)
  else
    some ((1 : Int32), q1.2)
def kX8_isWord_28 (N : Nat) (cs : Nat → UInt32 → Int32 → ra_H → Option (Int32 × ra_H)) : Nat → List (Option Value) → List Value → ra_H → Option (Int32 × ra_H) := (ra_k1 28 (fun L S h => match L, S with
  | [some (.ref a0), some (.float a1), some (.int a2)], [] => cs a0 a1 a2 h
  | _, _ => none) ra_k0)
theorem kX8_isWord_28_ok (N : Nat) (cs : Nat → UInt32 → Int32 → ra_H → Option (Int32 × ra_H)) (hcs : ∀ a0 a1 a2 h r, cs a0 a1 a2 h = some r → ra_Ru 6 mX8_isWord 28 [some (.ref a0), some (.float a1), some (.int a2)] [] h (ra_oI r)) : ra_kok 6 mX8_isWord ra_oI (kX8_isWord_28 N cs) := (ra_k1_ok (by
  intro L S h a e
  split at e
  · exact ra_Ru.weak (hcs _ _ _ _ _ e) ⟨rfl, ⟨rfl, ⟨rfl, trivial⟩⟩⟩
  · cases e) ra_k0_ok)
set_option maxRecDepth 100000 in
theorem nX8_isWord_28_ok (N : Nat) : ∀ n a0 a1 a2 h r, nX8_isWord_28 N n a0 a1 a2 h = some r → ra_Ru 6 mX8_isWord 28 [some (.ref a0), some (.float a1), some (.int a2)] [] h (ra_oI r) := by
  intro n
  induction n with
  | zero => intro a0 a1 a2 h r e; cases e
  | succ n ih =>
    intro a0 a1 a2 h r e
    exact ra_sound (by omega) rfl ra_rI_ok (kX8_isWord_28_ok N (nX8_isWord_28 N n) ih) (fun m av h h1 e => (ra_c0_ok (ro := ra_oV)) m av h h1 e) (fun m av h x h1 e => (tIX8_isWord_ok N) m av h (x, h1) e) (fun m av h x h1 e => (ra_c0_ok (ro := ra_oJ)) m av h (x, h1) e) (fun m av h x h1 e => (ra_c0_ok (ro := ra_oR)) m av h (x, h1) e) (fun m av h x h1 e => (ra_c0_ok (ro := ra_oN)) m av h (x, h1) e) (fun m av h x h1 e => (ra_c0_ok (ro := ra_oF)) m av h (x, h1) e) 22 lX8_isWord_28 _ _ _ _ lX8_isWord_28_ck (show ra_run ra_rI (kX8_isWord_28 N (nX8_isWord_28 N n)) ra_c0 (tIX8_isWord N) ra_c0 ra_c0 ra_c0 ra_c0 22 lX8_isWord_28 [some (.ref a0), some (.float a1), some (.int a2)] [] h = some r from e) _ _ rfl
def lX8_isWord_0 : List ra_I := [(0, .aload_n 0, 1, 0, 0, 0, 0, 0, []),
  (1, .getfield 49, 3, 8, 9, 0, 0, 0, []),
  (4, .iconst (1), 1, 0, 0, 0, (1), 0, []),
  (5, .if_icmp .ne (19), 3, 24, 0, 0, 0, 0, []),
  (8, .aload_n 0, 1, 0, 0, 0, 0, 0, []),
  (9, .getfield 39, 3, 8, 11, 0, 0, 0, []),
  (12, .aload_n 0, 1, 0, 0, 0, 0, 0, []),
  (13, .getfield 69, 3, 8, 2, 0, 0, 0, []),
  (16, .isub, 1, 0, 0, 0, 0, 0, []),
  (17, .aload_n 1, 1, 1, 0, 0, 0, 0, []),
  (18, .invokevirtual 88, 3, 51, 1, 1, 0, 0, []),
  (21, .if_icmp .eq (5), 3, 26, 0, 0, 0, 0, []),
  (26, .iconst (0), 1, 0, 0, 0, (0), 0, []),
  (27, .istore_n 2, 1, 2, 0, 0, 0, 0, [])]
set_option maxRecDepth 100000 in
theorem lX8_isWord_0_ck : lX8_isWord_0.all (ra_ck mX8_isWord 8) = true := by decide +kernel
def nX8_isWord_0 (N : Nat) (a0 : Nat) (a1 : UInt32) (h : ra_H) : Option (Int32 × ra_H) :=
  (ra_fI h 8 a0 9).bind fun x1 =>
  if x1 = ((1 : Int32)) then
    (ra_fI h 8 a0 11).bind fun x2 =>
    (ra_fI h 8 a0 2).bind fun x3 =>
    (fJ0_length_8abf5 N a1 h).bind fun q4 =>
    if (x2 - x3) = q4.1 then
      nX8_isWord_28 N N a0 a1 ((0 : Int32)) q4.2
    else
      nX8_isWord_24 N q4.2
  else
    nX8_isWord_24 N h
def kX8_isWord_0 (N : Nat) : Nat → List (Option Value) → List Value → ra_H → Option (Int32 × ra_H) := (ra_k1 24 (fun L S h => match L, S with
  | [_, _, _], [] => nX8_isWord_24 N h
  | _, _ => none) (ra_k1 28 (fun L S h => match L, S with
  | [some (.ref a0), some (.float a1), some (.int a2)], [] => nX8_isWord_28 N N a0 a1 a2 h
  | _, _ => none) ra_k0))
theorem kX8_isWord_0_ok (N : Nat) : ra_kok 6 mX8_isWord ra_oI (kX8_isWord_0 N) := (ra_k1_ok (by
  intro L S h a e
  split at e
  · exact ra_Ru.weak (nX8_isWord_24_ok N _ _ e) trivial
  · cases e) (ra_k1_ok (by
  intro L S h a e
  split at e
  · exact ra_Ru.weak (nX8_isWord_28_ok N N _ _ _ _ _ e) ⟨rfl, ⟨rfl, ⟨rfl, trivial⟩⟩⟩
  · cases e) ra_k0_ok))
set_option maxRecDepth 100000 in
theorem nX8_isWord_0_ok (N : Nat) (a0 : Nat) (a1 : UInt32) (h : ra_H) (r : (Int32 × ra_H)) (e : nX8_isWord_0 N a0 a1 h = some r) : ra_Ru 6 mX8_isWord 0 [some (.ref a0), some (.float a1), none] [] h (ra_oI r) :=
  ra_sound (by omega) rfl ra_rI_ok (kX8_isWord_0_ok N) (fun m av h h1 e => (ra_c0_ok (ro := ra_oV)) m av h h1 e) (fun m av h x h1 e => (tIX8_isWord_ok N) m av h (x, h1) e) (fun m av h x h1 e => (ra_c0_ok (ro := ra_oJ)) m av h (x, h1) e) (fun m av h x h1 e => (ra_c0_ok (ro := ra_oR)) m av h (x, h1) e) (fun m av h x h1 e => (ra_c0_ok (ro := ra_oN)) m av h (x, h1) e) (fun m av h x h1 e => (ra_c0_ok (ro := ra_oF)) m av h (x, h1) e) 15 lX8_isWord_0 _ _ _ _ lX8_isWord_0_ck (show ra_run ra_rI (kX8_isWord_0 N) ra_c0 (tIX8_isWord N) ra_c0 ra_c0 ra_c0 ra_c0 15 lX8_isWord_0 [some (.ref a0), some (.float a1), none] [] h = some r from e) _ _ rfl
def fX8_isWord (N : Nat) (p0 : Nat) (p1 : UInt32) (h : ra_H) : Option (Int32 × ra_H) := match ra_isOb h p0 8 with
  | true => (nX8_isWord_0 N p0 p1 h).bind (fun q => ra_rz q.1 q.2)
  | false => none
set_option maxRecDepth 100000 in
theorem mtX8_isWord : ra_MT[50]? = some (mX8_isWord, 1, 1, (1, 4), (3, 143), (0, 9)) := rfl
theorem fX8_isWord_co (N : Nat) (p0 : Nat) (p1 : UInt32) (h : ra_H) (r : (Int32 × ra_H)) (e : fX8_isWord N p0 p1 h = some r) (D : Nat) (hD : 7 ≤ D) : ra_CO D 50 [.ref p0, .float p1] h (ra_oI r).1 (ra_oI r).2 := by
  have hw : ra_nw2 [.ref p0, .float p1] ≤ 3 := Nat.le_of_ble_eq_true rfl
  have hdb : ∀ v ∈ ([.ref p0, .float p1] : List Value), ∀ x, v ≠ .double x := by
    intro v hv x hx
    simp [hx] at hv
  unfold fX8_isWord at e
  split at e
  · rename_i ho
    obtain ⟨q, e1, e2⟩ := Option.bind_eq_some_iff.mp e
    obtain ⟨rfl, hz⟩ := ra_rz_of e2
    exact ⟨6, _, mtX8_isWord, hD, ra_ev_of (by decide) hdb hw hz (ra_Ru.weak (nX8_isWord_0_ok N p0 p1 h _ e1) ⟨rfl, ⟨rfl, trivial⟩⟩), (fun _ => ⟨_, _, rfl, ra_rcv_of ho (by decide) rfl⟩), (fun h => absurd h (by decide))⟩
  · cases e
/-! RedMarks$Tape.headHere()I -/
def mX8_headHere : ra_M := (yX8_headHere, cX8_headHere, 2, (some .int))
def tIX8_headHere (N : Nat) : Nat → List Value → ra_H → Option (Int32 × ra_H) := (ra_c1 50 (fun av h => match av with
  | [.ref z0, .float z1] => fX8_isWord N z0 z1 h
  | _ => none) ra_c0)
theorem tIX8_headHere_ok (N : Nat) : ra_cok 7 ra_oI (tIX8_headHere N) := (ra_c1_ok (by
  intro av h a e
  split at e
  · exact fX8_isWord_co N _ _ _ _ e 7 (by omega)
  · cases e) ra_c0_ok)
def tFX8_headHere (N : Nat) : Nat → List Value → ra_H → Option (UInt32 × ra_H) := (ra_c1 49 (fun av h => match av with
  | [.int z0] => fX8_headName N z0 h
  | _ => none) ra_c0)
theorem tFX8_headHere_ok (N : Nat) : ra_cok 7 ra_oF (tFX8_headHere N) := (ra_c1_ok (by
  intro av h a e
  split at e
  · exact fX8_headName_co N _ _ _ e 7 (by omega)
  · cases e) ra_c0_ok)
def lX8_headHere_2 : List ra_I := [(2, .iload_n 1, 1, 1, 0, 0, 0, 0, []),
  (3, .iconst (4), 1, 0, 0, 0, (4), 0, []),
  (4, .if_icmp .gt (22), 3, 26, 0, 0, 0, 0, []),
  (7, .aload_n 0, 1, 0, 0, 0, 0, 0, []),
  (8, .iload_n 1, 1, 1, 0, 0, 0, 0, []),
  (9, .invokestatic 112, 3, 49, 1, 5, 0, 0, []),
  (12, .invokevirtual 105, 3, 50, 2, 1, 0, 0, []),
  (15, .ifCond .eq (5), 3, 20, 0, 0, 0, 0, []),
  (18, .iload_n 1, 1, 1, 0, 0, 0, 0, []),
  (19, .ireturn, 1, 0, 0, 0, 0, 0, []),
  (20, .iinc 1 (1), 3, 1, 0, 0, (1), 0, []),
  (23, .goto (-21), 3, 2, 0, 0, 0, 0, []),
  (26, .iconst (-1), 1, 0, 0, 0, (-1), 0, []),
  (27, .ireturn, 1, 0, 0, 0, 0, 0, [])]
set_option maxRecDepth 100000 in
theorem lX8_headHere_2_ck : lX8_headHere_2.all (ra_ck mX8_headHere 8) = true := by decide +kernel
def nX8_headHere_2 (N : Nat) : Nat → Nat → Int32 → ra_H → Option (Int32 × ra_H)
  | 0, _, _, _ => none
  | n + 1, a0, a1, h =>
  if a1 ≤ ((4 : Int32)) then
    (fX8_headName N a1 h).bind fun q1 =>
    (fX8_isWord N a0 q1.1 q1.2).bind fun q2 =>
    if q2.1 = 0 then
      let y3 := a1 + (1 : Int32)
      nX8_headHere_2 N n a0 y3 q2.2
    else
      some (a1, q2.2)
  else
    some ((-1 : Int32), h)
def kX8_headHere_2 (N : Nat) (cs : Nat → Int32 → ra_H → Option (Int32 × ra_H)) : Nat → List (Option Value) → List Value → ra_H → Option (Int32 × ra_H) := (ra_k1 2 (fun L S h => match L, S with
  | [some (.ref a0), some (.int a1)], [] => cs a0 a1 h
  | _, _ => none) ra_k0)
theorem kX8_headHere_2_ok (N : Nat) (cs : Nat → Int32 → ra_H → Option (Int32 × ra_H)) (hcs : ∀ a0 a1 h r, cs a0 a1 h = some r → ra_Ru 7 mX8_headHere 2 [some (.ref a0), some (.int a1)] [] h (ra_oI r)) : ra_kok 7 mX8_headHere ra_oI (kX8_headHere_2 N cs) := (ra_k1_ok (by
  intro L S h a e
  split at e
  · exact ra_Ru.weak (hcs _ _ _ _ e) ⟨rfl, ⟨rfl, trivial⟩⟩
  · cases e) ra_k0_ok)
set_option maxRecDepth 100000 in
theorem nX8_headHere_2_ok (N : Nat) : ∀ n a0 a1 h r, nX8_headHere_2 N n a0 a1 h = some r → ra_Ru 7 mX8_headHere 2 [some (.ref a0), some (.int a1)] [] h (ra_oI r) := by
  intro n
  induction n with
  | zero => intro a0 a1 h r e; cases e
  | succ n ih =>
    intro a0 a1 h r e
    exact ra_sound (by omega) rfl ra_rI_ok (kX8_headHere_2_ok N (nX8_headHere_2 N n) ih) (fun m av h h1 e => (ra_c0_ok (ro := ra_oV)) m av h h1 e) (fun m av h x h1 e => (tIX8_headHere_ok N) m av h (x, h1) e) (fun m av h x h1 e => (ra_c0_ok (ro := ra_oJ)) m av h (x, h1) e) (fun m av h x h1 e => (ra_c0_ok (ro := ra_oR)) m av h (x, h1) e) (fun m av h x h1 e => (ra_c0_ok (ro := ra_oN)) m av h (x, h1) e) (fun m av h x h1 e => (tFX8_headHere_ok N) m av h (x, h1) e) 15 lX8_headHere_2 _ _ _ _ lX8_headHere_2_ck (show ra_run ra_rI (kX8_headHere_2 N (nX8_headHere_2 N n)) ra_c0 (tIX8_headHere N) ra_c0 ra_c0 ra_c0 (tFX8_headHere N) 15 lX8_headHere_2 [some (.ref a0), some (.int a1)] [] h = some r from e) _ _ rfl
def lX8_headHere_0 : List ra_I := [(0, .iconst (0), 1, 0, 0, 0, (0), 0, []),
  (1, .istore_n 1, 1, 1, 0, 0, 0, 0, [])]
set_option maxRecDepth 100000 in
theorem lX8_headHere_0_ck : lX8_headHere_0.all (ra_ck mX8_headHere 8) = true := by decide +kernel
def nX8_headHere_0 (N : Nat) (a0 : Nat) (h : ra_H) : Option (Int32 × ra_H) :=
  nX8_headHere_2 N N a0 ((0 : Int32)) h
def kX8_headHere_0 (N : Nat) : Nat → List (Option Value) → List Value → ra_H → Option (Int32 × ra_H) := (ra_k1 2 (fun L S h => match L, S with
  | [some (.ref a0), some (.int a1)], [] => nX8_headHere_2 N N a0 a1 h
  | _, _ => none) ra_k0)
theorem kX8_headHere_0_ok (N : Nat) : ra_kok 7 mX8_headHere ra_oI (kX8_headHere_0 N) := (ra_k1_ok (by
  intro L S h a e
  split at e
  · exact ra_Ru.weak (nX8_headHere_2_ok N N _ _ _ _ e) ⟨rfl, ⟨rfl, trivial⟩⟩
  · cases e) ra_k0_ok)
set_option maxRecDepth 100000 in
theorem nX8_headHere_0_ok (N : Nat) (a0 : Nat) (h : ra_H) (r : (Int32 × ra_H)) (e : nX8_headHere_0 N a0 h = some r) : ra_Ru 7 mX8_headHere 0 [some (.ref a0), none] [] h (ra_oI r) :=
  ra_sound (by omega) rfl ra_rI_ok (kX8_headHere_0_ok N) (fun m av h h1 e => (ra_c0_ok (ro := ra_oV)) m av h h1 e) (fun m av h x h1 e => (tIX8_headHere_ok N) m av h (x, h1) e) (fun m av h x h1 e => (ra_c0_ok (ro := ra_oJ)) m av h (x, h1) e) (fun m av h x h1 e => (ra_c0_ok (ro := ra_oR)) m av h (x, h1) e) (fun m av h x h1 e => (ra_c0_ok (ro := ra_oN)) m av h (x, h1) e) (fun m av h x h1 e => (tFX8_headHere_ok N) m av h (x, h1) e) 3 lX8_headHere_0 _ _ _ _ lX8_headHere_0_ck (show ra_run ra_rI (kX8_headHere_0 N) ra_c0 (tIX8_headHere N) ra_c0 ra_c0 ra_c0 (tFX8_headHere N) 3 lX8_headHere_0 [some (.ref a0), none] [] h = some r from e) _ _ rfl
def fX8_headHere (N : Nat) (p0 : Nat) (h : ra_H) : Option (Int32 × ra_H) := match ra_isOb h p0 8 with
  | true => nX8_headHere_0 N p0 h
  | false => none
set_option maxRecDepth 100000 in
theorem mtX8_headHere : ra_MT[48]? = some (mX8_headHere, 1, 0, (1, 4), (3, 131), (0, 8)) := rfl
theorem fX8_headHere_co (N : Nat) (p0 : Nat) (h : ra_H) (r : (Int32 × ra_H)) (e : fX8_headHere N p0 h = some r) (D : Nat) (hD : 8 ≤ D) : ra_CO D 48 [.ref p0] h (ra_oI r).1 (ra_oI r).2 := by
  have hw : ra_nw2 [.ref p0] ≤ 2 := Nat.le_of_ble_eq_true rfl
  have hdb : ∀ v ∈ ([.ref p0] : List Value), ∀ x, v ≠ .double x := by
    intro v hv x hx
    simp [hx] at hv
  unfold fX8_headHere at e
  split at e
  · rename_i ho
    have e1 := e
    exact ⟨7, _, mtX8_headHere, hD, ra_ev_of (by decide) hdb hw trivial (ra_Ru.weak (nX8_headHere_0_ok N p0 h _ e1) ⟨rfl, trivial⟩), (fun _ => ⟨_, _, rfl, ra_rcv_of ho (by decide) rfl⟩), (fun h => absurd h (by decide))⟩
  · cases e
/-! RedMarks$Tape.factHere()I -/
def mX8_factHere : ra_M := (yX8_factHere, cX8_factHere, 2, (some .int))
def tIX8_factHere (N : Nat) : Nat → List Value → ra_H → Option (Int32 × ra_H) := (ra_c1 50 (fun av h => match av with
  | [.ref z0, .float z1] => fX8_isWord N z0 z1 h
  | _ => none) ra_c0)
theorem tIX8_factHere_ok (N : Nat) : ra_cok 7 ra_oI (tIX8_factHere N) := (ra_c1_ok (by
  intro av h a e
  split at e
  · exact fX8_isWord_co N _ _ _ _ e 7 (by omega)
  · cases e) ra_c0_ok)
def tFX8_factHere (N : Nat) : Nat → List Value → ra_H → Option (UInt32 × ra_H) := (ra_c1 68 (fun av h => match av with
  | [.int z0] => fX8_factName N z0 h
  | _ => none) ra_c0)
theorem tFX8_factHere_ok (N : Nat) : ra_cok 7 ra_oF (tFX8_factHere N) := (ra_c1_ok (by
  intro av h a e
  split at e
  · exact fX8_factName_co N _ _ _ e 7 (by omega)
  · cases e) ra_c0_ok)
def lX8_factHere_2 : List ra_I := [(2, .iload_n 1, 1, 1, 0, 0, 0, 0, []),
  (3, .bipush (12), 2, 0, 0, 0, (12), 0, []),
  (5, .if_icmp .ge (22), 3, 27, 0, 0, 0, 0, []),
  (8, .aload_n 0, 1, 0, 0, 0, 0, 0, []),
  (9, .iload_n 1, 1, 1, 0, 0, 0, 0, []),
  (10, .invokestatic 126, 3, 68, 1, 5, 0, 0, []),
  (13, .invokevirtual 105, 3, 50, 2, 1, 0, 0, []),
  (16, .ifCond .eq (5), 3, 21, 0, 0, 0, 0, []),
  (19, .iload_n 1, 1, 1, 0, 0, 0, 0, []),
  (20, .ireturn, 1, 0, 0, 0, 0, 0, []),
  (21, .iinc 1 (1), 3, 1, 0, 0, (1), 0, []),
  (24, .goto (-22), 3, 2, 0, 0, 0, 0, []),
  (27, .iconst (-1), 1, 0, 0, 0, (-1), 0, []),
  (28, .ireturn, 1, 0, 0, 0, 0, 0, [])]
set_option maxRecDepth 100000 in
theorem lX8_factHere_2_ck : lX8_factHere_2.all (ra_ck mX8_factHere 8) = true := by decide +kernel
def nX8_factHere_2 (N : Nat) : Nat → Nat → Int32 → ra_H → Option (Int32 × ra_H)
  | 0, _, _, _ => none
  | n + 1, a0, a1, h =>
  if a1 < ((12 : Int32)) then
    (fX8_factName N a1 h).bind fun q1 =>
    (fX8_isWord N a0 q1.1 q1.2).bind fun q2 =>
    if q2.1 = 0 then
      let y3 := a1 + (1 : Int32)
      nX8_factHere_2 N n a0 y3 q2.2
    else
      some (a1, q2.2)
  else
    some ((-1 : Int32), h)
def kX8_factHere_2 (N : Nat) (cs : Nat → Int32 → ra_H → Option (Int32 × ra_H)) : Nat → List (Option Value) → List Value → ra_H → Option (Int32 × ra_H) := (ra_k1 2 (fun L S h => match L, S with
  | [some (.ref a0), some (.int a1)], [] => cs a0 a1 h
  | _, _ => none) ra_k0)
theorem kX8_factHere_2_ok (N : Nat) (cs : Nat → Int32 → ra_H → Option (Int32 × ra_H)) (hcs : ∀ a0 a1 h r, cs a0 a1 h = some r → ra_Ru 7 mX8_factHere 2 [some (.ref a0), some (.int a1)] [] h (ra_oI r)) : ra_kok 7 mX8_factHere ra_oI (kX8_factHere_2 N cs) := (ra_k1_ok (by
  intro L S h a e
  split at e
  · exact ra_Ru.weak (hcs _ _ _ _ e) ⟨rfl, ⟨rfl, trivial⟩⟩
  · cases e) ra_k0_ok)
set_option maxRecDepth 100000 in
theorem nX8_factHere_2_ok (N : Nat) : ∀ n a0 a1 h r, nX8_factHere_2 N n a0 a1 h = some r → ra_Ru 7 mX8_factHere 2 [some (.ref a0), some (.int a1)] [] h (ra_oI r) := by
  intro n
  induction n with
  | zero => intro a0 a1 h r e; cases e
  | succ n ih =>
    intro a0 a1 h r e
    exact ra_sound (by omega) rfl ra_rI_ok (kX8_factHere_2_ok N (nX8_factHere_2 N n) ih) (fun m av h h1 e => (ra_c0_ok (ro := ra_oV)) m av h h1 e) (fun m av h x h1 e => (tIX8_factHere_ok N) m av h (x, h1) e) (fun m av h x h1 e => (ra_c0_ok (ro := ra_oJ)) m av h (x, h1) e) (fun m av h x h1 e => (ra_c0_ok (ro := ra_oR)) m av h (x, h1) e) (fun m av h x h1 e => (ra_c0_ok (ro := ra_oN)) m av h (x, h1) e) (fun m av h x h1 e => (tFX8_factHere_ok N) m av h (x, h1) e) 15 lX8_factHere_2 _ _ _ _ lX8_factHere_2_ck (show ra_run ra_rI (kX8_factHere_2 N (nX8_factHere_2 N n)) ra_c0 (tIX8_factHere N) ra_c0 ra_c0 ra_c0 (tFX8_factHere N) 15 lX8_factHere_2 [some (.ref a0), some (.int a1)] [] h = some r from e) _ _ rfl
def lX8_factHere_0 : List ra_I := [(0, .iconst (0), 1, 0, 0, 0, (0), 0, []),
  (1, .istore_n 1, 1, 1, 0, 0, 0, 0, [])]
set_option maxRecDepth 100000 in
theorem lX8_factHere_0_ck : lX8_factHere_0.all (ra_ck mX8_factHere 8) = true := by decide +kernel
def nX8_factHere_0 (N : Nat) (a0 : Nat) (h : ra_H) : Option (Int32 × ra_H) :=
  nX8_factHere_2 N N a0 ((0 : Int32)) h
def kX8_factHere_0 (N : Nat) : Nat → List (Option Value) → List Value → ra_H → Option (Int32 × ra_H) := (ra_k1 2 (fun L S h => match L, S with
  | [some (.ref a0), some (.int a1)], [] => nX8_factHere_2 N N a0 a1 h
  | _, _ => none) ra_k0)
theorem kX8_factHere_0_ok (N : Nat) : ra_kok 7 mX8_factHere ra_oI (kX8_factHere_0 N) := (ra_k1_ok (by
  intro L S h a e
  split at e
  · exact ra_Ru.weak (nX8_factHere_2_ok N N _ _ _ _ e) ⟨rfl, ⟨rfl, trivial⟩⟩
  · cases e) ra_k0_ok)
set_option maxRecDepth 100000 in
theorem nX8_factHere_0_ok (N : Nat) (a0 : Nat) (h : ra_H) (r : (Int32 × ra_H)) (e : nX8_factHere_0 N a0 h = some r) : ra_Ru 7 mX8_factHere 0 [some (.ref a0), none] [] h (ra_oI r) :=
  ra_sound (by omega) rfl ra_rI_ok (kX8_factHere_0_ok N) (fun m av h h1 e => (ra_c0_ok (ro := ra_oV)) m av h h1 e) (fun m av h x h1 e => (tIX8_factHere_ok N) m av h (x, h1) e) (fun m av h x h1 e => (ra_c0_ok (ro := ra_oJ)) m av h (x, h1) e) (fun m av h x h1 e => (ra_c0_ok (ro := ra_oR)) m av h (x, h1) e) (fun m av h x h1 e => (ra_c0_ok (ro := ra_oN)) m av h (x, h1) e) (fun m av h x h1 e => (tFX8_factHere_ok N) m av h (x, h1) e) 3 lX8_factHere_0 _ _ _ _ lX8_factHere_0_ck (show ra_run ra_rI (kX8_factHere_0 N) ra_c0 (tIX8_factHere N) ra_c0 ra_c0 ra_c0 (tFX8_factHere N) 3 lX8_factHere_0 [some (.ref a0), none] [] h = some r from e) _ _ rfl
def fX8_factHere (N : Nat) (p0 : Nat) (h : ra_H) : Option (Int32 × ra_H) := match ra_isOb h p0 8 with
  | true => nX8_factHere_0 N p0 h
  | false => none
set_option maxRecDepth 100000 in
theorem mtX8_factHere : ra_MT[67]? = some (mX8_factHere, 1, 0, (1, 4), (3, 215), (0, 15)) := rfl
theorem fX8_factHere_co (N : Nat) (p0 : Nat) (h : ra_H) (r : (Int32 × ra_H)) (e : fX8_factHere N p0 h = some r) (D : Nat) (hD : 8 ≤ D) : ra_CO D 67 [.ref p0] h (ra_oI r).1 (ra_oI r).2 := by
  have hw : ra_nw2 [.ref p0] ≤ 2 := Nat.le_of_ble_eq_true rfl
  have hdb : ∀ v ∈ ([.ref p0] : List Value), ∀ x, v ≠ .double x := by
    intro v hv x hx
    simp [hx] at hv
  unfold fX8_factHere at e
  split at e
  · rename_i ho
    have e1 := e
    exact ⟨7, _, mtX8_factHere, hD, ra_ev_of (by decide) hdb hw trivial (ra_Ru.weak (nX8_factHere_0_ok N p0 h _ e1) ⟨rfl, trivial⟩), (fun _ => ⟨_, _, rfl, ra_rcv_of ho (by decide) rfl⟩), (fun h => absurd h (by decide))⟩
  · cases e
