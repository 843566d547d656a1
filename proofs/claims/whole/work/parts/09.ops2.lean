theorem ra_w_least : Cond.fieldLink "RedMarks" 395 "RedMarks" "LEAST" "[I" ∈ ra_tbl := ra_yes_in (p := (3, 1)) (by decide +kernel)
theorem ra_w_most : Cond.fieldLink "RedMarks" 398 "RedMarks" "MOST" "[I" ∈ ra_tbl := ra_yes_in (p := (3, 3)) (by decide +kernel)
theorem ra_w_max : Cond.static Lib.Math.max.name ∈ ra_tbl := ra_yes_in (p := (4, 97)) (by decide +kernel)
theorem ra_w_min : Cond.static Lib.Math.min.name ∈ ra_tbl := ra_yes_in (p := (3, 123)) (by decide +kernel)
theorem ra_w_math : Cond.initialized "java/lang/Math" ∈ ra_tbl := ra_yes_in (p := (1, 14)) (by decide +kernel)
theorem ra_w_sys : Cond.initialized "java/lang/System" ∈ ra_tbl := ra_yes_in (p := (1, 20)) (by decide +kernel)
theorem ra_w_acn : Cond.native arraycopyName ∈ ra_tbl := ra_yes_in (p := (4, 43)) (by decide +kernel)
theorem ra_w_acs : Cond.static arraycopyName ∈ ra_tbl := ra_yes_in (p := (4, 42)) (by decide +kernel)
theorem ra_w_ac1 : Cond.methodLink "java/util/Arrays" 150 arraycopyName ∈ ra_tbl := ra_yes_in (p := (4, 41)) (by decide +kernel)
theorem ra_w_ac2 : Cond.methodLink "RedMarks$Holdings" 92 arraycopyName ∈ ra_tbl := ra_yes_in (p := (6, 102)) (by decide +kernel)
theorem ra_w_oi : Cond.instanceMethod objectInit ∈ ra_tbl := ra_yes_in (p := (1, 28)) (by decide +kernel)
theorem ra_w_oc : Cond.code objectInit ⟨#[0xb1]⟩ 1 none ∈ ra_tbl := ra_code_in (q := ((objectInit, object_method_1_code, 1, none), _)) (List.mem_of_getElem? (i := 0) rfl)
section
variable {d : Nat} {M : ra_M} {oc pc : Nat} {L L' : List (Option Value)} {S S' : List Value} {h h' : ra_H} {o : Option Value × ra_H}
theorem ra_newref {idx t : Nat} {n : Int32} (hcn : ra_cn[oc]? = some M.1.cls) (ht : t = 4 ∨ t = 5) (hK : ra_hasK oc idx (ra_ec t) = true) (hn : ¬ (n < 0 ∨ 50000000 < n.toNatClampNeg)) (hd : decode M.2.1 pc = .ok (.anewarray idx, 3)) (kk : ra_Ru d M (pc + 3) L (.ref h.2.1 :: S) (ra_mk h (ra_nr t n.toNatClampNeg) n.toNatClampNeg) o) : ra_Ru d M pc L (.int n :: S) h o := by
  have hn0 : ¬ n < 0 := fun z => hn (Or.inl z)
  have hn1 : n.toNatClampNeg ≤ 50000000 := Nat.le_of_not_lt fun z => hn (Or.inr z)
  obtain ⟨C, q1, q2⟩ := ra_hasK_ok hcn hK
  rcases ht with rfl | rfl
  · have hC : C = "RedMarks$Scheme" := (Option.some.inj q1).symm
    subst hC
    refine ra_al (fun G p l e R s m args below meth c H locs cells slots ls Q cx hR hS hAq hcl hsl hml k => ?_) kk
    refine va_newq cx.1 cx.2.1 cx.2.2.2.1 (cx.2.2.2.2.1 _ q2) cx.2.2.2.2.2.2.2.2.1.2.2.1.1 cx.2.2.2.2.2.2.2.2.1.1 hR.1 (ra_w_D G h) hS hAq hn0 rfl (by omega) hcl hsl hd (fun q cA H1 a0 a1 a2 a3 => k q H1 _ a1 a2 a3 ?_)
    obtain ⟨_, _, _, _, _, e1⟩ := (a0.2 6 (cA, .object "RedMarks$Scheme") rfl).2
    obtain ⟨_, _, _, _, _, e2⟩ := (a0.2 4 (G.2.2.1 4, .object "RedMarks$Scheme") rfl).2
    have e3 : cA = G.2.2.1 4 := Option.some.inj (e1.symm.trans e2)
    rw [e3]
    rfl
  · have hC : C = "RedMarks$Holdings" := (Option.some.inj q1).symm
    subst hC
    refine ra_al (fun G p l e R s m args below meth c H locs cells slots ls Q cx hR hS hAq hcl hsl hml k => ?_) kk
    refine va_newq cx.1 cx.2.1 cx.2.2.2.1 (cx.2.2.2.2.1 _ q2) cx.2.2.2.2.2.2.2.2.1.2.2.1.2.1 cx.2.2.2.2.2.2.2.2.1.1 hR.1 (ra_w_D G h) hS hAq hn0 rfl (by omega) hcl hsl hd (fun q cA H1 a0 a1 a2 a3 => k q H1 _ a1 a2 a3 ?_)
    obtain ⟨_, _, _, _, _, e1⟩ := (a0.2 6 (cA, .object "RedMarks$Holdings") rfl).2
    obtain ⟨_, _, _, _, _, e2⟩ := (a0.2 5 (G.2.2.1 5, .object "RedMarks$Holdings") rfl).2
    have e3 : cA = G.2.2.1 5 := Option.some.inj (e1.symm.trans e2)
    rw [e3]
    rfl
theorem ra_new {idx ci N : Nat} (hcn : ra_cn[oc]? = some M.1.cls) (hci : ci < 13) (hN : (vwCl[ci]?).map (fun q => q.2.2) = some N) (hK : ra_hasK oc idx ci = true) (hd : decode M.2.1 pc = .ok (.new idx, 3)) (kk : ra_Ru d M (pc + 3) L (.ref h.2.1 :: S) (ra_mk h (.inr (ci, ra_df ci)) N) o) : ra_Ru d M pc L S h o := by
  obtain ⟨C, q1, q2⟩ := ra_hasK_ok hcn hK
  cases hv : vwCl[ci]? with
  | none => rw [hv] at hN; cases hN
  | some r =>
    obtain ⟨C', T, N'⟩ := r
    rw [hv] at hN
    have hN : N' = N := Option.some.inj hN
    subst hN
    obtain ⟨p1, p2, p3, p4, ty, p5, p6, p7⟩ := ra_cls _ _ _ _ hv
    have hC : C' = C := Option.some.inj (p1.symm.trans q1)
    subst hC
    obtain ⟨r1, r2⟩ := ra_cls_df _ _ _ _ _ hv p5
    refine ra_al (fun G p l e R s m args below meth c H locs cells slots ls Q cx hR hS hAq hcl hsl hml k => ?_) kk
    exact va_new (fs := ra_df ci) cx.1 cx.2.1 cx.2.2.2.2.1 p2 ty p6 cx.2.2.2.1 (cx.2.2.2.2.1 _ q2) (cx.2.2.2.2.1 _ p3) (cx.2.2.2.2.1 _ p4) cx.2.2.2.2.2.2.2.2.1.1 hR.1 (ra_w_D G h) hS hAq hv r1 hcl hsl hd (fun q H1 a1 a2 a3 => k q H1 _ a1 a2 a3 (by show _ = Sum.inr (ci, (ra_df ci).map (ra_v G)); rw [r2 G]))
theorem ra_gets {idx j : Nat} (hc : M.1.cls = "RedMarks") (hj : (idx = 395 ∧ j = 1) ∨ (idx = 398 ∧ j = 2)) (hd : decode M.2.1 pc = .ok (.getstatic idx, 3)) (kk : ra_Ru d M (pc + 3) L (.float (UInt32.ofNat j) :: S) h o) : ra_Ru d M pc L S h o := by
  rcases hj with ⟨rfl, rfl⟩ | ⟨rfl, rfl⟩
  · exact ra_rd (fun G p l e R s m args below meth c H locs cells slots ls Q cx x hR hS hL hcl hsl k => va_gets cx.1 cx.2.1 x.2.1 hS cx.2.2.2.1 (by rw [hc]; exact cx.2.2.2.2.1 _ ra_w_least) (fun _ h9 => h9) hd k) kk
  · exact ra_rd (fun G p l e R s m args below meth c H locs cells slots ls Q cx x hR hS hL hcl hsl k => va_gets cx.1 cx.2.1 x.2.2.1 hS cx.2.2.2.1 (by rw [hc]; exact cx.2.2.2.2.1 _ ra_w_most) (fun _ h9 => h9) hd k) kk
theorem ra_ldcs {idx j : Nat} (hc : M.1.cls = "RedMarks$Tape") (hj : j < 30) (hs : ra_str.any (fun q => q.1 == idx && q.2.2 == j) = true) (hd : decode M.2.1 pc = .ok (.ldc idx, 2)) (kk : ra_Ru d M (pc + 2) L (.float (UInt32.ofNat j) :: S) h o) : ra_Ru d M pc L S h o := by
  obtain ⟨q, hq, e⟩ := List.any_eq_true.mp hs
  simp only [Bool.and_eq_true, beq_iff_eq] at e
  obtain ⟨rfl, rfl⟩ := e
  have hu : (UInt32.ofNat q.2.2).toNat = q.2.2 := by simp [UInt32.toNat_ofNat']; omega
  refine ra_rd (fun G p l e R s m args below meth c H locs cells slots ls Q cx x hR hS hL hcl hsl k => ?_) kk
  have hr := cx.2.2.2.2.2.2.2.2.1.2.2.2 q hq
  refine va_ldcS cx.1 cx.2.1 (by have h0 := cx.2.2.2.1; rw [hc] at h0; exact h0) hr hd ?_
  have : ra_v G (.float (UInt32.ofNat q.2.2)) = .ref (G.2.1 q.2.2) := by show Value.ref _ = _; rw [hu]
  rw [← this]
  exact k
theorem ra_max {idx mno : Nat} {x y : Int32} (hd1 : 1 ≤ d) (hcn : ra_cn[oc]? = some M.1.cls) (hM : (ra_MT[mno]?).map (fun q => q.1) = some (Lib.Math.max.name, Lib.Math.max.code, 2, some .int)) (hl : ra_hasL oc idx mno = true) (hcat : ra_cat S ≤ 8) (hd : decode M.2.1 pc = .ok (.invokestatic idx, 3)) (kk : ra_Ru d M (pc + 3) L (.int (if x < y then y else x) :: S) h o) : ra_Ru d M pc L (.int y :: .int x :: S) h o := by
  obtain ⟨q, q1, q2⟩ := ra_hasL_ok hcn hl
  rw [q1] at hM
  have hM : q.1 = (Lib.Math.max.name, Lib.Math.max.code, 2, some .int) := Option.some.inj hM
  have hcode := ra_code_in (List.mem_of_getElem? q1)
  rw [hM] at q2 hcode
  exact ra_rd (fun G p l e R s m args below meth c H locs cells slots ls Q cx x hR hS hL hcl hsl k => va_mmax cx.1 cx.2.1 (cx.2.2.1.trans hL.1.symm) cx.2.2.2.1 (cx.2.2.2.2.1 _ q2) (cx.2.2.2.2.1 _ ra_w_max) (cx.2.2.2.2.1 _ ra_w_math) (cx.2.2.2.2.1 _ hcode) (by have := cx.2.2.2.2.2.2.1; omega) (by rw [ra_cat_eq]; have := cx.2.2.2.2.2.2.2.1; omega) hcl hsl hd k) kk
theorem ra_min {idx mno : Nat} {x y : Int32} (hd1 : 1 ≤ d) (hcn : ra_cn[oc]? = some M.1.cls) (hM : (ra_MT[mno]?).map (fun q => q.1) = some (Lib.Math.min.name, Lib.Math.min.code, 2, some .int)) (hl : ra_hasL oc idx mno = true) (hcat : ra_cat S ≤ 8) (hd : decode M.2.1 pc = .ok (.invokestatic idx, 3)) (kk : ra_Ru d M (pc + 3) L (.int (if y < x then y else x) :: S) h o) : ra_Ru d M pc L (.int y :: .int x :: S) h o := by
  obtain ⟨q, q1, q2⟩ := ra_hasL_ok hcn hl
  rw [q1] at hM
  have hM : q.1 = (Lib.Math.min.name, Lib.Math.min.code, 2, some .int) := Option.some.inj hM
  have hcode := ra_code_in (List.mem_of_getElem? q1)
  rw [hM] at q2 hcode
  exact ra_rd (fun G p l e R s m args below meth c H locs cells slots ls Q cx x hR hS hL hcl hsl k => va_mmin cx.1 cx.2.1 (cx.2.2.1.trans hL.1.symm) cx.2.2.2.1 (cx.2.2.2.2.1 _ q2) (cx.2.2.2.2.1 _ ra_w_min) (cx.2.2.2.2.1 _ ra_w_math) (cx.2.2.2.2.1 _ hcode) (by have := cx.2.2.2.2.2.2.1; omega) (by rw [ra_cat_eq]; have := cx.2.2.2.2.2.2.2.1; omega) hcl hsl hd k) kk
theorem ra_oinit {idx a : Nat} (hd1 : 1 ≤ d) (hcn : ra_cn[oc]? = some M.1.cls) (hl : ra_hasL oc idx 0 = true) (hcat : ra_cat S ≤ 8) (hd : decode M.2.1 pc = .ok (.invokespecial idx, 3)) (kk : ra_Ru d M (pc + 3) L S h o) : ra_Ru d M pc L (.ref a :: S) h o := by
  obtain ⟨q, q1, q2⟩ := ra_hasL_ok hcn hl
  have hq : q.1.1 = Lib.objectInit := by
    have : ra_MT[0]? = some q := q1
    cases this
    rfl
  rw [hq] at q2
  exact ra_rd (fun G p l e R s m args below meth c H locs cells slots ls Q cx x hR hS hL hcl hsl k => W.objInit cx.1 cx.2.1 cx.2.2.2.1 (cx.2.2.2.2.1 _ q2) (cx.2.2.2.2.1 _ ra_w_oi) (cx.2.2.2.2.1 _ ra_w_oc) rfl (by rw [cx.2.2.1]; exact hL.1) rfl hd (by have := cx.2.2.2.2.2.2.1; omega) (by rw [ra_cat_eq]; show 2 * 0 + _ + 12 ≤ _; have := cx.2.2.2.2.2.2.2.1; omega) k) kk
theorem ra_cp_of {a b : Nat} {sp dp n : Int32} (e : ra_cp h a sp b dp n = some h') : ∃ n0 f n1 g, h.1 a = .inl (0, n0, .inl f) ∧ h.1 b = .inl (0, n1, .inl g) ∧ ¬ (sp < 0 ∨ dp < 0 ∨ n < 0 ∨ n0 < sp.toNatClampNeg + n.toNatClampNeg ∨ n1 < dp.toNatClampNeg + n.toNatClampNeg) ∧ h' = (ra_up h.1 b (.inl (0, n1, .inl (va_cpy f g sp.toNatClampNeg dp.toNatClampNeg n.toNatClampNeg))), h.2) := by
  unfold ra_cp at e
  split at e
  · rename_i n0 f n1 g h1 h2
    split at e
    · cases e
    · rename_i hc
      cases e
      exact ⟨n0, f, n1, g, h1, h2, hc, rfl⟩
  · cases e
theorem ra_copy {idx a b : Nat} {sp dp n : Int32} (hd1 : 1 ≤ d) (hc : (M.1.cls = "java/util/Arrays" ∧ idx = 150) ∨ (M.1.cls = "RedMarks$Holdings" ∧ idx = 92)) (hcat : ra_cat S ≤ 8) (e : ra_cp h a sp b dp n = some h') (hd : decode M.2.1 pc = .ok (.invokestatic idx, 3)) (kk : ra_Ru d M (pc + 3) L S h' o) : ra_Ru d M pc L (.int n :: .int dp :: .ref b :: .int sp :: .ref a :: S) h o := by
  obtain ⟨n0, f, n1, g, h1, h2, h3, rfl⟩ := ra_cp_of e
  simp only [not_or, Nat.not_lt] at h3
  have hl : Cond.methodLink M.1.cls idx arraycopyName ∈ ra_tbl := by
    rcases hc with ⟨hc, rfl⟩ | ⟨hc, rfl⟩
    · rw [hc]; exact ra_w_ac1
    · rw [hc]; exact ra_w_ac2
  refine ra_wr (fun G p l e R s m args below meth c H locs cells slots ls Q cx hR hS hml k => ?_) kk
  refine va_copyi cx.1 cx.2.1 hml cx.2.2.2.1 (cx.2.2.2.2.1 _ hl) (cx.2.2.2.2.1 _ ra_w_acn) (cx.2.2.2.2.1 _ ra_w_acs) (cx.2.2.2.2.1 _ ra_w_sys) cx.2.2.2.2.2.2.2.2.1.1 hR.1 (ra_w_D G h) hS a b 0 0 (ra_at_a hR h1) (ra_at_a hR h2) rfl rfl rfl h3.1 h3.2.1 h3.2.2.1 h3.2.2.2.1 h3.2.2.2.2 (fun _ _ => rfl) (by have := cx.2.2.2.2.2.2.1; omega) ?_ hd (fun H1 locs1 a1 a2 a3 => k H1 locs1 (ra_arr (t := 0) (n := n1) (x := .inl (va_cpy f g sp.toNatClampNeg dp.toNatClampNeg n.toNatClampNeg)) hR h2 a1) a3)
  rw [ra_cat_eq]
  have e1 : nativeFrameWords "java/lang/System" "arraycopy" 5 ≤ 40 := by decide
  have := cx.2.2.2.2.2.2.2.1
  omega
end
