theorem ra_s1_of {f : Int32 → Value} {S : List Value} {L : List (Option Value)} {h : ra_H} {z : ra_Z} (e : (ra_s1 f S).map (fun S => (L, S, h)) = some z) : ∃ x S0, S = .int x :: S0 ∧ (L, f x :: S0, h) = z := by
  unfold ra_s1 at e
  split at e
  · rename_i x S0
    exact ⟨x, S0, rfl, Option.some.inj e⟩
  · cases e
theorem ra_s2_of {f : Int32 → Int32 → Value} {S : List Value} {L : List (Option Value)} {h : ra_H} {z : ra_Z} (e : (ra_s2 f S).map (fun S => (L, S, h)) = some z) : ∃ x y S0, S = .int y :: .int x :: S0 ∧ (L, f x y :: S0, h) = z := by
  unfold ra_s2 at e
  split at e
  · rename_i y x S0
    exact ⟨x, y, S0, rfl, Option.some.inj e⟩
  · cases e
theorem ra_l1_of {f : Int64 → Value} {S : List Value} {L : List (Option Value)} {h : ra_H} {z : ra_Z} (e : (ra_l1 f S).map (fun S => (L, S, h)) = some z) : ∃ x S0, S = .long x :: S0 ∧ (L, f x :: S0, h) = z := by
  unfold ra_l1 at e
  split at e
  · rename_i x S0
    exact ⟨x, S0, rfl, Option.some.inj e⟩
  · cases e
theorem ra_l2_of {f : Int64 → Int64 → Value} {S : List Value} {L : List (Option Value)} {h : ra_H} {z : ra_Z} (e : (ra_l2 f S).map (fun S => (L, S, h)) = some z) : ∃ x y S0, S = .long y :: .long x :: S0 ∧ (L, f x y :: S0, h) = z := by
  unfold ra_l2 at e
  split at e
  · rename_i y x S0
    exact ⟨x, y, S0, rfl, Option.some.inj e⟩
  · cases e
theorem ra_kd0 {G : ra_G} {ty : FieldType} (h : ra_kd 0 ty = true) (x : Int32) : narrow ty (ra_v G (.int x)) = ra_v G (.int x) ∧ fits ty (ra_v G (.int x)) = true := by
  cases ty <;> simp [ra_kd] at h
  exact ⟨rfl, rfl⟩
theorem ra_kd1 {G : ra_G} {ty : FieldType} (h : ra_kd 1 ty = true) (x : Int64) : narrow ty (ra_v G (.long x)) = ra_v G (.long x) ∧ fits ty (ra_v G (.long x)) = true := by
  cases ty <;> simp [ra_kd] at h
  exact ⟨rfl, rfl⟩
theorem ra_kd2 {G : ra_G} {ty : FieldType} (h : ra_kd 2 ty = true) (x : Nat) : narrow ty (ra_v G (.ref x)) = ra_v G (.ref x) ∧ fits ty (ra_v G (.ref x)) = true := by
  cases ty <;> simp [ra_kd] at h <;> exact ⟨rfl, rfl⟩
theorem ra_kd2n {G : ra_G} {ty : FieldType} (h : ra_kd 2 ty = true) : narrow ty (ra_v G .null) = ra_v G .null ∧ fits ty (ra_v G .null) = true := by
  cases ty <;> simp [ra_kd] at h <;> exact ⟨rfl, rfl⟩
theorem ra_kd4 {G : ra_G} {ty : FieldType} (h : ra_kd 4 ty = true) {x : Int32} (hx : x = 0 ∨ x = 1) : narrow ty (ra_v G (.int x)) = ra_v G (.int x) ∧ fits ty (ra_v G (.int x)) = true := by
  cases ty <;> simp [ra_kd] at h
  rcases hx with rfl | rfl
  · exact ⟨rfl, rfl⟩
  · exact ⟨rfl, rfl⟩
set_option maxHeartbeats 4000000 in
theorem ra_x_ok {d : Nat} {M : ra_M} {oc pc : Nat} {L L' : List (Option Value)} {S S' : List Value} {h h' : ra_H} {o : Option Value × ra_H} {i : Instr} {len n1 n2 n3 : Nat} {v : Int32} {w : Int64} (hd1 : 1 ≤ d) (hcn : ra_cn[oc]? = some M.1.cls) (hd : decode M.2.1 pc = .ok (i, len)) (hc : ra_cx M oc i len n1 n2 n3 v w = true)
    (hx : ra_x i n1 n2 n3 v w L S h = some (L', S', h')) (k : ra_Ru d M (pc + len) L' S' h' o) : ra_Ru d M pc L S h o := by
  unfold ra_x at hx
  split at hx
  · simp only [ra_cx, Bool.and_eq_true, beq_iff_eq, decide_eq_true_eq] at hc
    obtain ⟨rfl, hv⟩ := hc
    cases hx
    exact ra_rd (fun G p l e R s m args below meth c H locs cells slots ls Q cx x hR hS hL hcl hsl k => lv_iconst cx.1 cx.2.1 hd hv k) k
  · simp only [ra_cx, Bool.and_eq_true, beq_iff_eq, decide_eq_true_eq] at hc
    obtain ⟨rfl, hv⟩ := hc
    cases hx
    exact ra_rd (fun G p l e R s m args below meth c H locs cells slots ls Q cx x hR hS hL hcl hsl k => lv_bipush cx.1 cx.2.1 hd hv k) k
  · simp only [ra_cx, Bool.and_eq_true, beq_iff_eq, decide_eq_true_eq] at hc
    obtain ⟨rfl, hv⟩ := hc
    cases hx
    exact ra_rd (fun G p l e R s m args below meth c H locs cells slots ls Q cx x hR hS hL hcl hsl k => lv_sipush cx.1 cx.2.1 hd hv k) k
  · rename_i index
    split at hx
    · simp only [ra_cx, Bool.and_eq_true, beq_iff_eq, decide_eq_true_eq] at hc
      obtain ⟨rfl, hv⟩ := hc
      cases hx
      have hw := ra_hasI_ok hcn hv
      exact ra_rd (fun G p l e R s m args below meth c H locs cells slots ls Q cx x hR hS hL hcl hsl k => lv_ldc cx.1 cx.2.1 cx.2.2.2.1 (cx.2.2.2.2.1 _ hw) hd k) k
    · rename_i hn3
      simp only [ra_cx] at hc
      simp only [Bool.and_eq_true, beq_iff_eq, decide_eq_true_eq] at hc
      obtain ⟨rfl, ⟨h1, h2⟩, h3⟩ := hc
      cases hx
      exact ra_ldcs h1 h2 h3 hd k
  · simp only [ra_cx, Bool.and_eq_true, beq_iff_eq, decide_eq_true_eq] at hc
    obtain ⟨rfl, hv⟩ := hc
    cases hx
    have hw := ra_hasI_ok hcn hv
    exact ra_rd (fun G p l e R s m args below meth c H locs cells slots ls Q cx x hR hS hL hcl hsl k => lv_ldcw cx.1 cx.2.1 cx.2.2.2.1 (cx.2.2.2.2.1 _ hw) hd k) k
  · simp only [ra_cx, Bool.and_eq_true, beq_iff_eq, decide_eq_true_eq] at hc
    obtain ⟨rfl, hv⟩ := hc
    cases hx
    have hw := ra_hasJ_ok hcn hv
    exact ra_rd (fun G p l e R s m args below meth c H locs cells slots ls Q cx x hR hS hL hcl hsl k => lv_ldc2 cx.1 cx.2.1 cx.2.2.2.1 (cx.2.2.2.2.1 _ hw) hd k) k
  · simp only [ra_cx, Bool.and_eq_true, beq_iff_eq, decide_eq_true_eq] at hc
    obtain ⟨rfl, hv⟩ := hc
    cases hx
    exact ra_rd (fun G p l e R s m args below meth c H locs cells slots ls Q cx x hR hS hL hcl hsl k => lv_lconst cx.1 cx.2.1 hd hv k) k
  · simp only [ra_cx, Bool.and_eq_true, beq_iff_eq, decide_eq_true_eq] at hc
    subst hc
    cases hx
    exact ra_rd (fun G p l e R s m args below meth c H locs cells slots ls Q cx x hR hS hL hcl hsl k => lv_null cx.1 cx.2.1 hd k) k
  · simp only [ra_cx, Bool.and_eq_true, beq_iff_eq, decide_eq_true_eq] at hc
    obtain ⟨rfl, hv⟩ := hc
    subst hv
    split at hx
    · rename_i y e1
      cases hx
      exact ra_rd (fun G p l e R s m args below meth c H locs cells slots ls Q cx x hR hS hL hcl hsl k => lv_iload cx.1 cx.2.1 hd (hL.at (ra_ld_eq _ _ _ e1)) k) k
    · cases hx
  · simp only [ra_cx, Bool.and_eq_true, beq_iff_eq, decide_eq_true_eq] at hc
    obtain ⟨rfl, hv⟩ := hc
    subst hv
    split at hx
    · rename_i y e1
      cases hx
      exact ra_rd (fun G p l e R s m args below meth c H locs cells slots ls Q cx x hR hS hL hcl hsl k => lv_iload_n cx.1 cx.2.1 hd rfl (hL.at (ra_ld_eq _ _ _ e1)) k) k
    · cases hx
  · simp only [ra_cx, Bool.and_eq_true, beq_iff_eq, decide_eq_true_eq] at hc
    obtain ⟨rfl, hv⟩ := hc
    subst hv
    split at hx
    · rename_i y e1
      cases hx
      exact ra_rd (fun G p l e R s m args below meth c H locs cells slots ls Q cx x hR hS hL hcl hsl k => lv_lload cx.1 cx.2.1 hd (hL.at (ra_ld_eq _ _ _ e1)) k) k
    · cases hx
  · simp only [ra_cx, Bool.and_eq_true, beq_iff_eq, decide_eq_true_eq] at hc
    obtain ⟨rfl, hv⟩ := hc
    subst hv
    split at hx
    · rename_i y e1
      cases hx
      exact ra_rd (fun G p l e R s m args below meth c H locs cells slots ls Q cx x hR hS hL hcl hsl k => lv_lload_n cx.1 cx.2.1 hd rfl (hL.at (ra_ld_eq _ _ _ e1)) k) k
    · cases hx
  · simp only [ra_cx, Bool.and_eq_true, beq_iff_eq, decide_eq_true_eq] at hc
    obtain ⟨rfl, hv⟩ := hc
    subst hv
    split at hx
    · rename_i y e1
      cases hx
      exact ra_rd (fun G p l e R s m args below meth c H locs cells slots ls Q cx x hR hS hL hcl hsl k => lv_aload cx.1 cx.2.1 hd (hL.at (v := .ref y) (ra_ld_eq _ _ _ e1)) k) k
    · rename_i e1
      cases hx
      exact ra_rd (fun G p l e R s m args below meth c H locs cells slots ls Q cx x hR hS hL hcl hsl k => lv_aloadN cx.1 cx.2.1 hd (hL.at (v := .null) (ra_ld_eq _ _ _ e1)) k) k
    · rename_i y e1
      cases hx
      exact ra_rd (fun G p l e R s m args below meth c H locs cells slots ls Q cx x hR hS hL hcl hsl k => lv_aload cx.1 cx.2.1 hd (hL.at (v := .float y) (ra_ld_eq _ _ _ e1)) k) k
    · cases hx
  · simp only [ra_cx, Bool.and_eq_true, beq_iff_eq, decide_eq_true_eq] at hc
    obtain ⟨rfl, hv⟩ := hc
    subst hv
    split at hx
    · rename_i y e1
      cases hx
      exact ra_rd (fun G p l e R s m args below meth c H locs cells slots ls Q cx x hR hS hL hcl hsl k => lv_aload_n cx.1 cx.2.1 hd rfl (hL.at (v := .ref y) (ra_ld_eq _ _ _ e1)) k) k
    · rename_i e1
      cases hx
      exact ra_rd (fun G p l e R s m args below meth c H locs cells slots ls Q cx x hR hS hL hcl hsl k => lv_aload_nN cx.1 cx.2.1 hd rfl (hL.at (v := .null) (ra_ld_eq _ _ _ e1)) k) k
    · rename_i y e1
      cases hx
      exact ra_rd (fun G p l e R s m args below meth c H locs cells slots ls Q cx x hR hS hL hcl hsl k => lv_aload_n cx.1 cx.2.1 hd rfl (hL.at (v := .float y) (ra_ld_eq _ _ _ e1)) k) k
    · cases hx
  · simp only [ra_cx, Bool.and_eq_true, beq_iff_eq, decide_eq_true_eq] at hc
    obtain ⟨⟨rfl, hv⟩, hn⟩ := hc
    subst hv
    split at hx
    · rename_i y S1
      cases hx
      exact ra_loc (fun G p l e R s m args below meth c H locs cells slots ls Q cx hL k => lv_istore cx.1 cx.2.1 hd hL hn rfl (fun ls1 h1 => k ls1 (ra_L.st (v := .int y) h1))) k
    · cases hx
  · simp only [ra_cx, Bool.and_eq_true, beq_iff_eq, decide_eq_true_eq] at hc
    obtain ⟨⟨rfl, hv⟩, hn⟩ := hc
    subst hv
    split at hx
    · rename_i y S1
      cases hx
      exact ra_loc (fun G p l e R s m args below meth c H locs cells slots ls Q cx hL k => lv_istore_n cx.1 cx.2.1 hd rfl hL hn rfl (fun ls1 h1 => k ls1 (ra_L.st (v := .int y) h1))) k
    · cases hx
  · simp only [ra_cx, Bool.and_eq_true, beq_iff_eq, decide_eq_true_eq] at hc
    obtain ⟨⟨rfl, hv⟩, hn⟩ := hc
    subst hv
    split at hx
    · rename_i y S1
      cases hx
      exact ra_loc (fun G p l e R s m args below meth c H locs cells slots ls Q cx hL k => lv_lstore cx.1 cx.2.1 hd hL hn rfl (fun ls1 h1 => k ls1 (ra_L.st2 (v := .long y) h1))) k
    · cases hx
  · simp only [ra_cx, Bool.and_eq_true, beq_iff_eq, decide_eq_true_eq] at hc
    obtain ⟨⟨rfl, hv⟩, hn⟩ := hc
    subst hv
    split at hx
    · rename_i y S1
      cases hx
      exact ra_loc (fun G p l e R s m args below meth c H locs cells slots ls Q cx hL k => lv_lstore_n cx.1 cx.2.1 hd rfl hL hn rfl (fun ls1 h1 => k ls1 (ra_L.st2 (v := .long y) h1))) k
    · cases hx
  · simp only [ra_cx, Bool.and_eq_true, beq_iff_eq, decide_eq_true_eq] at hc
    obtain ⟨⟨rfl, hv⟩, hn⟩ := hc
    subst hv
    split at hx
    · rename_i y S1
      cases hx
      exact ra_loc (fun G p l e R s m args below meth c H locs cells slots ls Q cx hL k => lv_astore cx.1 cx.2.1 hd hL hn rfl (fun ls1 h1 => k ls1 (ra_L.st (v := .ref y) h1))) k
    · rename_i S1
      cases hx
      exact ra_loc (fun G p l e R s m args below meth c H locs cells slots ls Q cx hL k => lv_astoreN cx.1 cx.2.1 hd hL hn rfl (fun ls1 h1 => k ls1 (ra_L.st (v := .null) h1))) k
    · rename_i y S1
      cases hx
      exact ra_loc (fun G p l e R s m args below meth c H locs cells slots ls Q cx hL k => lv_astore cx.1 cx.2.1 hd hL hn rfl (fun ls1 h1 => k ls1 (ra_L.st (v := .float y) h1))) k
    · cases hx
  · simp only [ra_cx, Bool.and_eq_true, beq_iff_eq, decide_eq_true_eq] at hc
    obtain ⟨⟨rfl, hv⟩, hn⟩ := hc
    subst hv
    split at hx
    · rename_i y S1
      cases hx
      exact ra_loc (fun G p l e R s m args below meth c H locs cells slots ls Q cx hL k => lv_astore_n cx.1 cx.2.1 hd rfl hL hn rfl (fun ls1 h1 => k ls1 (ra_L.st (v := .ref y) h1))) k
    · rename_i S1
      cases hx
      exact ra_loc (fun G p l e R s m args below meth c H locs cells slots ls Q cx hL k => lv_astore_nN cx.1 cx.2.1 hd rfl hL hn rfl (fun ls1 h1 => k ls1 (ra_L.st (v := .null) h1))) k
    · rename_i y S1
      cases hx
      exact ra_loc (fun G p l e R s m args below meth c H locs cells slots ls Q cx hL k => lv_astore_n cx.1 cx.2.1 hd rfl hL hn rfl (fun ls1 h1 => k ls1 (ra_L.st (v := .float y) h1))) k
    · cases hx
  · simp only [ra_cx, Bool.and_eq_true, beq_iff_eq, decide_eq_true_eq] at hc
    obtain ⟨⟨⟨rfl, hv⟩, hn⟩, hw⟩ := hc
    subst hv
    split at hx
    · rename_i y e1
      cases hx
      exact ra_loc (fun G p l e R s m args below meth c H locs cells slots ls Q cx hL k => by
        obtain ⟨k0, hk0⟩ := hL.pair (ra_ld_eq _ _ _ e1)
        exact lv_iinc cx.1 cx.2.1 hd hL hk0 (by rw [hw]) hn rfl (fun ls1 h1 => k ls1 (ra_L.st (v := .int (y + v)) h1))) k
    · cases hx
  · simp only [ra_cx, Bool.and_eq_true, beq_iff_eq, decide_eq_true_eq] at hc
    subst hc
    obtain ⟨x, y, S0, rfl, e2⟩ := ra_s2_of hx
    cases e2
    exact ra_rd (fun G p l e R s m args below meth c H locs cells slots ls Q cx x hR hS hL hcl hsl k => lv_iadd cx.1 cx.2.1 hd k) k
  · simp only [ra_cx, Bool.and_eq_true, beq_iff_eq, decide_eq_true_eq] at hc
    subst hc
    obtain ⟨x, y, S0, rfl, e2⟩ := ra_s2_of hx
    cases e2
    exact ra_rd (fun G p l e R s m args below meth c H locs cells slots ls Q cx x hR hS hL hcl hsl k => lv_isub cx.1 cx.2.1 hd k) k
  · simp only [ra_cx, Bool.and_eq_true, beq_iff_eq, decide_eq_true_eq] at hc
    subst hc
    obtain ⟨x, y, S0, rfl, e2⟩ := ra_s2_of hx
    cases e2
    exact ra_rd (fun G p l e R s m args below meth c H locs cells slots ls Q cx x hR hS hL hcl hsl k => lv_imul cx.1 cx.2.1 hd k) k
  · simp only [ra_cx, Bool.and_eq_true, beq_iff_eq, decide_eq_true_eq] at hc
    subst hc
    obtain ⟨x, y, S0, rfl, e2⟩ := ra_s2_of hx
    cases e2
    exact ra_rd (fun G p l e R s m args below meth c H locs cells slots ls Q cx x hR hS hL hcl hsl k => lv_iand cx.1 cx.2.1 hd k) k
  · simp only [ra_cx, Bool.and_eq_true, beq_iff_eq, decide_eq_true_eq] at hc
    subst hc
    obtain ⟨x, y, S0, rfl, e2⟩ := ra_s2_of hx
    cases e2
    exact ra_rd (fun G p l e R s m args below meth c H locs cells slots ls Q cx x hR hS hL hcl hsl k => lv_ior cx.1 cx.2.1 hd k) k
  · simp only [ra_cx, Bool.and_eq_true, beq_iff_eq, decide_eq_true_eq] at hc
    subst hc
    obtain ⟨x, y, S0, rfl, e2⟩ := ra_s2_of hx
    cases e2
    exact ra_rd (fun G p l e R s m args below meth c H locs cells slots ls Q cx x hR hS hL hcl hsl k => lv_ixor cx.1 cx.2.1 hd k) k
  · simp only [ra_cx, Bool.and_eq_true, beq_iff_eq, decide_eq_true_eq] at hc
    subst hc
    obtain ⟨x, y, S0, rfl, e2⟩ := ra_s2_of hx
    cases e2
    exact ra_rd (fun G p l e R s m args below meth c H locs cells slots ls Q cx x hR hS hL hcl hsl k => lv_ishl cx.1 cx.2.1 hd k) k
  · simp only [ra_cx, Bool.and_eq_true, beq_iff_eq, decide_eq_true_eq] at hc
    subst hc
    obtain ⟨x, y, S0, rfl, e2⟩ := ra_s2_of hx
    cases e2
    exact ra_rd (fun G p l e R s m args below meth c H locs cells slots ls Q cx x hR hS hL hcl hsl k => lv_ishr cx.1 cx.2.1 hd k) k
  · simp only [ra_cx, Bool.and_eq_true, beq_iff_eq, decide_eq_true_eq] at hc
    subst hc
    obtain ⟨x, y, S0, rfl, e2⟩ := ra_s2_of hx
    cases e2
    exact ra_rd (fun G p l e R s m args below meth c H locs cells slots ls Q cx x hR hS hL hcl hsl k => lv_iushr cx.1 cx.2.1 hd rfl k) k
  · simp only [ra_cx, Bool.and_eq_true, beq_iff_eq, decide_eq_true_eq] at hc
    subst hc
    obtain ⟨x, S0, rfl, e2⟩ := ra_s1_of hx
    cases e2
    exact ra_rd (fun G p l e R s m args below meth c H locs cells slots ls Q cx x hR hS hL hcl hsl k => lv_ineg cx.1 cx.2.1 hd k) k
  · simp only [ra_cx, Bool.and_eq_true, beq_iff_eq, decide_eq_true_eq] at hc
    subst hc
    obtain ⟨x, S0, rfl, e2⟩ := ra_s1_of hx
    cases e2
    exact ra_rd (fun G p l e R s m args below meth c H locs cells slots ls Q cx x hR hS hL hcl hsl k => lv_i2l cx.1 cx.2.1 hd rfl k) k
  · simp only [ra_cx, Bool.and_eq_true, beq_iff_eq, decide_eq_true_eq] at hc
    subst hc
    obtain ⟨x, S0, rfl, e2⟩ := ra_s1_of hx
    cases e2
    exact ra_rd (fun G p l e R s m args below meth c H locs cells slots ls Q cx x hR hS hL hcl hsl k => lv_i2s cx.1 cx.2.1 hd rfl k) k
  · simp only [ra_cx, Bool.and_eq_true, beq_iff_eq, decide_eq_true_eq] at hc
    subst hc
    obtain ⟨x, S0, rfl, e2⟩ := ra_l1_of hx
    cases e2
    exact ra_rd (fun G p l e R s m args below meth c H locs cells slots ls Q cx x hR hS hL hcl hsl k => lv_l2i cx.1 cx.2.1 hd rfl k) k
  · simp only [ra_cx, Bool.and_eq_true, beq_iff_eq, decide_eq_true_eq] at hc
    subst hc
    obtain ⟨x, y, S0, rfl, e2⟩ := ra_l2_of hx
    cases e2
    exact ra_rd (fun G p l e R s m args below meth c H locs cells slots ls Q cx x hR hS hL hcl hsl k => lv_ladd cx.1 cx.2.1 hd k) k
  · simp only [ra_cx, Bool.and_eq_true, beq_iff_eq, decide_eq_true_eq] at hc
    subst hc
    obtain ⟨x, y, S0, rfl, e2⟩ := ra_l2_of hx
    cases e2
    exact ra_rd (fun G p l e R s m args below meth c H locs cells slots ls Q cx x hR hS hL hcl hsl k => lv_lsub cx.1 cx.2.1 hd k) k
  · simp only [ra_cx, Bool.and_eq_true, beq_iff_eq, decide_eq_true_eq] at hc
    subst hc
    obtain ⟨x, y, S0, rfl, e2⟩ := ra_l2_of hx
    cases e2
    exact ra_rd (fun G p l e R s m args below meth c H locs cells slots ls Q cx x hR hS hL hcl hsl k => lv_lmul cx.1 cx.2.1 hd k) k
  · simp only [ra_cx, Bool.and_eq_true, beq_iff_eq, decide_eq_true_eq] at hc
    subst hc
    obtain ⟨x, y, S0, rfl, e2⟩ := ra_l2_of hx
    cases e2
    exact ra_rd (fun G p l e R s m args below meth c H locs cells slots ls Q cx x hR hS hL hcl hsl k => W.lcmp cx.1 cx.2.1 hd k) k
  · simp only [ra_cx, Bool.and_eq_true, beq_iff_eq, decide_eq_true_eq] at hc
    subst hc
    split at hx
    · split at hx
      · cases hx
      · rename_i hne
        cases hx
        exact ra_rd (fun G p l e R s m args below meth c H locs cells slots ls Q cx x hR hS hL hcl hsl k => lv_idiv cx.1 cx.2.1 hd hne k) k
    · cases hx
  · simp only [ra_cx, Bool.and_eq_true, beq_iff_eq, decide_eq_true_eq] at hc
    subst hc
    split at hx
    · split at hx
      · cases hx
      · rename_i hne
        cases hx
        exact ra_rd (fun G p l e R s m args below meth c H locs cells slots ls Q cx x hR hS hL hcl hsl k => lv_irem cx.1 cx.2.1 hd hne k) k
    · cases hx
  · simp only [ra_cx, Bool.and_eq_true, beq_iff_eq, decide_eq_true_eq] at hc
    subst hc
    split at hx
    · split at hx
      · cases hx
      · rename_i hne
        cases hx
        exact ra_rd (fun G p l e R s m args below meth c H locs cells slots ls Q cx x hR hS hL hcl hsl k => lv_ldiv cx.1 cx.2.1 hd hne k) k
    · cases hx
  · simp only [ra_cx, Bool.and_eq_true, beq_iff_eq, decide_eq_true_eq] at hc
    subst hc
    split at hx
    · split at hx
      · cases hx
      · rename_i hne
        cases hx
        exact ra_rd (fun G p l e R s m args below meth c H locs cells slots ls Q cx x hR hS hL hcl hsl k => lv_lrem cx.1 cx.2.1 hd hne k) k
    · cases hx
  · simp only [ra_cx, Bool.and_eq_true, beq_iff_eq, decide_eq_true_eq] at hc
    subst hc
    split at hx
    · split at hx
      · rename_i e1
        cases hx
        exact ra_rd (fun G p l e R s m args below meth c H locs cells slots ls Q cx x hR hS hL hcl hsl k => lv_dup cx.1 cx.2.1 hd (by rw [ra_v_cat]; exact e1) k) k
      · cases hx
    · cases hx
  · simp only [ra_cx, Bool.and_eq_true, beq_iff_eq, decide_eq_true_eq] at hc
    subst hc
    split at hx
    · split at hx
      · rename_i e1 e2
        cases hx
        exact ra_rd (fun G p l e R s m args below meth c H locs cells slots ls Q cx x hR hS hL hcl hsl k => lv_dup2_11 cx.1 cx.2.1 hd (by rw [ra_v_cat]; exact e1) (by rw [ra_v_cat]; exact e2) k) k
      · cases hx
    · cases hx
  · simp only [ra_cx, Bool.and_eq_true, beq_iff_eq, decide_eq_true_eq] at hc
    subst hc
    split at hx
    · split at hx
      · rename_i e1
        cases hx
        exact ra_rd (fun G p l e R s m args below meth c H locs cells slots ls Q cx x hR hS hL hcl hsl k => lv_pop cx.1 cx.2.1 hd (by rw [ra_v_cat]; exact e1) k) k
      · cases hx
    · cases hx
  · simp only [ra_cx, Bool.and_eq_true, beq_iff_eq, decide_eq_true_eq] at hc
    obtain ⟨rfl, hF⟩ := hc
    split at hx
    · split at hx
      · obtain ⟨y, e1, e2⟩ := Option.bind_eq_some_iff.mp hx
        cases e2
        obtain ⟨fs, f1, f2⟩ := ra_fI_of e1
        exact ra_getf hcn hF hd f1 f2 k
      · obtain ⟨y, e1, e2⟩ := Option.bind_eq_some_iff.mp hx
        cases e2
        obtain ⟨fs, f1, f2⟩ := ra_fJ_of e1
        exact ra_getf hcn hF hd f1 f2 k
      · obtain ⟨y, e1, e2⟩ := Option.bind_eq_some_iff.mp hx
        cases e2
        obtain ⟨fs, f1, f2⟩ := ra_fR_of e1
        exact ra_getf hcn hF hd f1 f2 k
    · cases hx
  · simp only [ra_cx, Bool.and_eq_true, beq_iff_eq, decide_eq_true_eq] at hc
    obtain ⟨⟨rfl, hF⟩, hok⟩ := hc
    split at hx
    · split at hx
      · obtain ⟨y, e1, e2⟩ := Option.bind_eq_some_iff.mp hx
        cases e2
        obtain ⟨fs, f1, f2, rfl⟩ := ra_fW_of e1
        exact ra_putf hcn hF hok hd f1 f2 (fun G ty hk => ra_kd0 hk _) k
      · split at hx
        · rename_i hb
          obtain ⟨y, e1, e2⟩ := Option.bind_eq_some_iff.mp hx
          cases e2
          obtain ⟨fs, f1, f2, rfl⟩ := ra_fW_of e1
          exact ra_putf hcn hF hok hd f1 f2 (fun G ty hk => ra_kd4 hk hb) k
        · cases hx
      · cases hx
    · split at hx
      · obtain ⟨y, e1, e2⟩ := Option.bind_eq_some_iff.mp hx
        cases e2
        obtain ⟨fs, f1, f2, rfl⟩ := ra_fW_of e1
        exact ra_putf hcn hF hok hd f1 f2 (fun G ty hk => ra_kd1 hk _) k
      · cases hx
    · split at hx
      · obtain ⟨y, e1, e2⟩ := Option.bind_eq_some_iff.mp hx
        cases e2
        obtain ⟨fs, f1, f2, rfl⟩ := ra_fW_of e1
        exact ra_putf hcn hF hok hd f1 f2 (fun G ty hk => ra_kd2 hk _) k
      · cases hx
    · split at hx
      · obtain ⟨y, e1, e2⟩ := Option.bind_eq_some_iff.mp hx
        cases e2
        obtain ⟨fs, f1, f2, rfl⟩ := ra_fW_of e1
        exact ra_putf hcn hF hok hd f1 f2 (fun G ty hk => ra_kd2n hk) k
      · cases hx
    · cases hx
  · simp only [ra_cx, Bool.and_eq_true, beq_iff_eq, decide_eq_true_eq] at hc
    subst hc
    split at hx
    · obtain ⟨y, e1, e2⟩ := Option.bind_eq_some_iff.mp hx
      cases e2
      exact ra_iaload hd e1 k
    · obtain ⟨y, e1, e2⟩ := Option.bind_eq_some_iff.mp hx
      cases e2
      exact ra_xload hd e1 k
    · cases hx
  · simp only [ra_cx, Bool.and_eq_true, beq_iff_eq, decide_eq_true_eq] at hc
    subst hc
    split at hx
    · obtain ⟨y, e1, e2⟩ := Option.bind_eq_some_iff.mp hx
      cases e2
      exact ra_baload hd e1 k
    · cases hx
  · simp only [ra_cx, Bool.and_eq_true, beq_iff_eq, decide_eq_true_eq] at hc
    subst hc
    split at hx
    · obtain ⟨y, e1, e2⟩ := Option.bind_eq_some_iff.mp hx
      cases e2
      exact ra_saload hd e1 k
    · cases hx
  · simp only [ra_cx, Bool.and_eq_true, beq_iff_eq, decide_eq_true_eq] at hc
    subst hc
    split at hx
    · obtain ⟨y, e1, e2⟩ := Option.bind_eq_some_iff.mp hx
      cases e2
      exact ra_laload hd e1 k
    · cases hx
  · simp only [ra_cx, Bool.and_eq_true, beq_iff_eq, decide_eq_true_eq] at hc
    subst hc
    split at hx
    · obtain ⟨y, e1, e2⟩ := Option.bind_eq_some_iff.mp hx
      cases e2
      exact ra_iastore hd e1 k
    · cases hx
  · simp only [ra_cx, Bool.and_eq_true, beq_iff_eq, decide_eq_true_eq] at hc
    subst hc
    split at hx
    · obtain ⟨y, e1, e2⟩ := Option.bind_eq_some_iff.mp hx
      cases e2
      exact ra_bastore hd e1 k
    · cases hx
  · simp only [ra_cx, Bool.and_eq_true, beq_iff_eq, decide_eq_true_eq] at hc
    subst hc
    split at hx
    · obtain ⟨y, e1, e2⟩ := Option.bind_eq_some_iff.mp hx
      cases e2
      exact ra_sastore hd e1 k
    · cases hx
  · simp only [ra_cx, Bool.and_eq_true, beq_iff_eq, decide_eq_true_eq] at hc
    subst hc
    split at hx
    · obtain ⟨y, e1, e2⟩ := Option.bind_eq_some_iff.mp hx
      cases e2
      exact ra_lastore hd e1 k
    · cases hx
  · simp only [ra_cx, Bool.and_eq_true, beq_iff_eq, decide_eq_true_eq] at hc
    subst hc
    split at hx
    · obtain ⟨y, e1, e2⟩ := Option.bind_eq_some_iff.mp hx
      cases e2
      exact ra_aastore hd e1 k
    · obtain ⟨y, e1, e2⟩ := Option.bind_eq_some_iff.mp hx
      cases e2
      exact ra_aastoreN hd e1 k
    · cases hx
  · simp only [ra_cx, Bool.and_eq_true, beq_iff_eq, decide_eq_true_eq] at hc
    subst hc
    split at hx
    · obtain ⟨y, e1, e2⟩ := Option.bind_eq_some_iff.mp hx
      cases e2
      exact ra_alen hd e1 k
    · obtain ⟨y, e1, e2⟩ := Option.bind_eq_some_iff.mp hx
      cases e2
      exact ra_xlen hd e1 k
    · cases hx
  · simp only [ra_cx, Bool.and_eq_true, beq_iff_eq, decide_eq_true_eq] at hc
    obtain ⟨⟨rfl, h1⟩, h2⟩ := hc
    split at hx
    · split at hx
      · cases hx
      · rename_i hn
        cases hx
        exact ra_newarr h1 h2 hn hd k
    · cases hx
  · simp only [ra_cx, Bool.and_eq_true, Bool.or_eq_true, beq_iff_eq, decide_eq_true_eq] at hc
    obtain ⟨⟨rfl, h1⟩, h2⟩ := hc
    split at hx
    · split at hx
      · cases hx
      · rename_i hn
        cases hx
        exact ra_newref hcn h1 h2 hn hd k
    · cases hx
  · simp only [ra_cx, Bool.and_eq_true, beq_iff_eq, decide_eq_true_eq] at hc
    obtain ⟨⟨⟨rfl, h1⟩, h2⟩, h3⟩ := hc
    cases hx
    exact ra_new hcn h1 h2 h3 hd k
  · simp only [ra_cx, Bool.and_eq_true, Bool.or_eq_true, beq_iff_eq, decide_eq_true_eq] at hc
    obtain ⟨⟨rfl, h1⟩, h2⟩ := hc
    cases hx
    exact ra_gets h1 h2 hd k
  · split at hx
    · rename_i hcat
      have hcat := Nat.le_of_ble_eq_true hcat
      split at hx
      · simp only [ra_cx, Bool.and_eq_true, beq_iff_eq, decide_eq_true_eq] at hc
        obtain ⟨rfl, h1, h2⟩ := hc
        obtain ⟨x, y, S0, rfl, e2⟩ := ra_s2_of hx
        cases e2
        exact ra_max hd1 hcn h1 h2 (by simp only [ra_cat, Value.category] at hcat; omega) hd k
      · simp only [ra_cx, Bool.and_eq_true, beq_iff_eq, decide_eq_true_eq] at hc
        obtain ⟨rfl, h1, h2⟩ := hc
        obtain ⟨x, y, S0, rfl, e2⟩ := ra_s2_of hx
        cases e2
        exact ra_min hd1 hcn h1 h2 (by simp only [ra_cat, Value.category] at hcat; omega) hd k
      · simp only [ra_cx, Bool.and_eq_true, Bool.or_eq_true, beq_iff_eq, decide_eq_true_eq] at hc
        obtain ⟨rfl, h1⟩ := hc
        split at hx
        · obtain ⟨y, e1, e2⟩ := Option.bind_eq_some_iff.mp hx
          cases e2
          exact ra_copy hd1 h1 (by simp only [ra_cat, Value.category] at hcat; omega) e1 hd k
        · cases hx
      · cases hx
    · cases hx
  · split at hx
    · rename_i hcat
      have hcat := Nat.le_of_ble_eq_true hcat
      split at hx
      · simp only [ra_cx, Bool.and_eq_true, beq_iff_eq, decide_eq_true_eq] at hc
        obtain ⟨⟨rfl, h1⟩, h2⟩ := hc
        split at hx
        · cases hx
          exact ra_oinit hd1 hcn h2 (by simp only [ra_cat, Value.category] at hcat; omega) hd k
        · cases hx
      · cases hx
    · cases hx
  · cases hx
