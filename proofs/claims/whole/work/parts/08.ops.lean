section
variable {d : Nat} {M : ra_M} {oc pc : Nat} {L L' : List (Option Value)} {S S' : List Value} {h h' : ra_H} {o : Option Value × ra_H}
theorem ra_getf {idx ci j k : Nat} {fs : List Value} {v : Value} (hcn : ra_cn[oc]? = some M.1.cls) (hF : ra_hasF oc idx ci j = true) (hd : decode M.2.1 pc = .ok (.getfield idx, 3)) (hk : h.1 k = .inr (ci, fs)) (hv : fs[j]? = some v) (kk : ra_Ru d M (pc + 3) L (v :: S) h o) : ra_Ru d M pc L (.ref k :: S) h o := by
  obtain ⟨C, T, N, h1, h2, h3⟩ := ra_hasF_ok hcn hF
  exact ra_rd (fun G p l e R s m args below meth c H locs cells slots ls Q cx x hR hS hL hcl hsl k => va_get (C := C) (T := T) (N := N) cx.1 cx.2.1 cx.2.2.2.2.1 (ra_cls _ _ _ _ h1).2.1 cx.2.2.2.1 cx.2.2.2.2.2.2.2.2.1.1 hR.1 _ (ra_at_o hR hk (ra_ne_of_at hv)) h1 j h2 (cx.2.2.2.2.1 _ h3) (fun _ h9 => h9) (v := ra_v G v) (by simp [hv]) hd k) kk
theorem ra_putf {idx ci j n3 k : Nat} {fs : List Value} {v : Value} (hcn : ra_cn[oc]? = some M.1.cls) (hF : ra_hasF oc idx ci j = true) (hok : ra_putok M ci j n3 = true) (hd : decode M.2.1 pc = .ok (.putfield idx, 3)) (hk : h.1 k = .inr (ci, fs)) (hj : j < fs.length)
    (hv : ∀ (G : ra_G) (ty : FieldType), ra_kd n3 ty = true → narrow ty (ra_v G v) = ra_v G v ∧ fits ty (ra_v G v) = true) (kk : ra_Ru d M (pc + 3) L S (ra_up h.1 k (.inr (ci, fs.set j v)), h.2) o) : ra_Ru d M pc L (v :: .ref k :: S) h o := by
  obtain ⟨C, T, N, h1, h2, h3⟩ := ra_hasF_ok hcn hF
  obtain ⟨-, q2, -, -, ty, q5, q6, q7⟩ := ra_cls _ _ _ _ h1
  unfold ra_putok at hok
  rw [q5, h1] at hok
  simp only [Bool.and_eq_true, Bool.or_eq_true, Bool.not_eq_true', decide_eq_true_eq] at hok
  obtain ⟨o1, o2⟩ := hok
  have hne : fs ≠ [] := by rintro rfl; simp at hj
  refine ra_wr (fun G p l e R s m args below meth c H locs cells slots ls Q cx hR hS hml k9 => ?_) kk
  obtain ⟨w1, w2⟩ := hv G _ o1
  have fin : ∀ (H1 : Heap) (locs1 : List Loc), va_P G.2.2.2 vwCl ((ra_w G h).set k (G.1 + k, .inr (ci, (fs.map (ra_v G)).set j (ra_v G v)))) H1 → va_D (ra_A G) ((ra_w G h).set k (G.1 + k, .inr (ci, (fs.map (ra_v G)).set j (ra_v G v)))) → va_S (ra_A G) s.heap H1 locs1 → W p l e R s m args below meth c H1 locs1 cells slots Q (F0 m (pc + 3) ls (S.map (ra_v G))) := by
    intro H1 locs1 a1 a2 a3
    refine k9 H1 locs1 ?_ a3
    obtain ⟨σ, n, r⟩ := h
    refine hR.set (hR.lt (by rw [hk]; intro z; unfold ra_junk at z; cases z; exact hne rfl)) ?_
    have : ra_e G (.inr (ci, fs.set j v)) = .inr (ci, (fs.map (ra_v G)).set j (ra_v G v)) := by simp [ra_e, List.map_set]
    rw [this]
    exact a1
  by_cases hf : (T j).2.2.2 = true
  · rcases o2 with o2 | o2
    · rw [o2] at hf; cases hf
    · exact va_putF (C := C) (T := T) (N := N) (ty := ty j) cx.1 cx.2.1 cx.2.2.2.2.1 q2 ty q6 q7 cx.2.2.2.1 cx.2.2.2.2.2.2.2.2.1.1 hR.1 (ra_w_D G h) hS _ (ra_at_o hR hk hne) h1 j h2 (cx.2.2.2.2.1 _ h3) (fun _ h9 => h9) hf (cx.2.2.2.2.2.1 o2.1) o2.2 (q6 j h2) w1 w2 (by simpa using hj) hd fin
  · exact va_put (C := C) (T := T) (N := N) (ty := ty j) cx.1 cx.2.1 cx.2.2.2.2.1 q2 ty q6 q7 cx.2.2.2.1 cx.2.2.2.2.2.2.2.2.1.1 hR.1 (ra_w_D G h) hS _ (ra_at_o hR hk hne) h1 j h2 (cx.2.2.2.2.1 _ h3) (fun _ h9 => h9) (by simpa using hf) (q6 j h2) w1 w2 (by simpa using hj) hd fin
theorem ra_arr {t n a : Nat} {x : (Nat → Int32) ⊕ (Nat → Int64) ⊕ (Nat → UInt32) ⊕ (Nat → UInt64) ⊕ (Nat → Option Nat)} {G : ra_G} {H H1 : Heap} (hR : ra_Rep G h H) {y : Nat × vp_A} (hk : h.1 a = .inl y) (hP : va_P G.2.2.2 vwCl ((ra_w G h).set a (G.1 + a, ra_e G (.inl (t, n, x)))) H1) : ra_Rep G (ra_up h.1 a (.inl (t, n, x)), h.2) H1 := by
  obtain ⟨σ, n, r⟩ := h
  exact hR.set (hR.lt (by rw [hk]; intro z; unfold ra_junk at z; cases z)) hP
theorem ra_up_map (G : ra_G) (f : Nat → Option Nat) (i : Nat) (v : Option Nat) : ra_fr G (va_up f i v) = va_up (ra_fr G f) i (v.map (fun k => G.1 + k)) := by
  funext q
  simp only [ra_fr, va_up]
  split <;> rfl

theorem ra_iaload {a : Nat} {i x : Int32} (hd : decode M.2.1 pc = .ok (.iaload, 1)) (e : ra_aI h 0 a i = some x) (kk : ra_Ru d M (pc + 1) L (.int x :: S) h o) : ra_Ru d M pc L (.int i :: .ref a :: S) h o := by
  obtain ⟨n, f, h1, h2, rfl⟩ := ra_aI_of e
  exact ra_rd (fun G p l e R s m args below meth c H locs cells slots ls Q cx x hR hS hL hcl hsl k => va_iald cx.1 cx.2.1 cx.2.2.2.2.2.2.2.2.1.1 hR.1 _ 0 (ra_at_a hR h1) rfl h2 hd k) kk

theorem ra_baload {a : Nat} {i x : Int32} (hd : decode M.2.1 pc = .ok (.baload, 1)) (e : ra_aI h 2 a i = some x) (kk : ra_Ru d M (pc + 1) L (.int x :: S) h o) : ra_Ru d M pc L (.int i :: .ref a :: S) h o := by
  obtain ⟨n, f, h1, h2, rfl⟩ := ra_aI_of e
  exact ra_rd (fun G p l e R s m args below meth c H locs cells slots ls Q cx x hR hS hL hcl hsl k => va_zald cx.1 cx.2.1 cx.2.2.2.2.2.2.2.2.1.1 hR.1 _ 2 (ra_at_a hR h1) rfl h2 hd k) kk

theorem ra_saload {a : Nat} {i x : Int32} (hd : decode M.2.1 pc = .ok (.saload, 1)) (e : ra_aI h 3 a i = some x) (kk : ra_Ru d M (pc + 1) L (.int x :: S) h o) : ra_Ru d M pc L (.int i :: .ref a :: S) h o := by
  obtain ⟨n, f, h1, h2, rfl⟩ := ra_aI_of e
  exact ra_rd (fun G p l e R s m args below meth c H locs cells slots ls Q cx x hR hS hL hcl hsl k => va_sald cx.1 cx.2.1 cx.2.2.2.2.2.2.2.2.1.1 hR.1 _ 3 (ra_at_a hR h1) rfl h2 hd k) kk

theorem ra_laload {a : Nat} {i : Int32} {x : Int64} (hd : decode M.2.1 pc = .ok (.laload, 1)) (e : ra_aJ h a i = some x) (kk : ra_Ru d M (pc + 1) L (.long x :: S) h o) : ra_Ru d M pc L (.int i :: .ref a :: S) h o := by
  obtain ⟨n, f, h1, h2, rfl⟩ := ra_aJ_of e
  exact ra_rd (fun G p l e R s m args below meth c H locs cells slots ls Q cx x hR hS hL hcl hsl k => va_lald cx.1 cx.2.1 cx.2.2.2.2.2.2.2.2.1.1 hR.1 _ 1 (ra_at_a hR h1) rfl h2 hd k) kk

theorem ra_aaload {a : Nat} {i : Int32} {x : Option Nat} (hd : decode M.2.1 pc = .ok (.aaload, 1)) (e : ra_aN h a i = some x) (kk : ra_Ru d M (pc + 1) L (va_rf x :: S) h o) : ra_Ru d M pc L (.int i :: .ref a :: S) h o := by
  obtain ⟨t, n, f, h1, ht, h2, rfl⟩ := ra_aN_of e
  have key : ∀ G : ra_G, ra_v G (va_rf (f i.toNatClampNeg)) = va_rf (ra_fr G f i.toNatClampNeg) := by
    intro G
    unfold ra_fr
    cases f i.toNatClampNeg <;> rfl
  rcases ht with rfl | rfl
  · exact ra_rd (fun G p l e R s m args below meth c H locs cells slots ls Q cx x hR hS hL hcl hsl k => va_aldq (f := ra_fr G f) cx.1 cx.2.1 cx.2.2.2.2.2.2.2.2.1.1 hR.1 _ 4 (ra_at_a hR h1) rfl h2 hd (by rw [← key]; exact k)) kk
  · exact ra_rd (fun G p l e R s m args below meth c H locs cells slots ls Q cx x hR hS hL hcl hsl k => va_aldq (f := ra_fr G f) cx.1 cx.2.1 cx.2.2.2.2.2.2.2.2.1.1 hR.1 _ 5 (ra_at_a hR h1) rfl h2 hd (by rw [← key]; exact k)) kk

theorem ra_iastore {a : Nat} {i x : Int32} (hd : decode M.2.1 pc = .ok (.iastore, 1)) (e : ra_aW h 0 a i x = some h') (kk : ra_Ru d M (pc + 1) L S h' o) : ra_Ru d M pc L (.int x :: .int i :: .ref a :: S) h o := by
  obtain ⟨n, f, h1, h2, rfl⟩ := ra_aW_of e
  exact ra_wr (fun G p l e R s m args below meth c H locs cells slots ls Q cx hR hS hml k => va_iast cx.1 cx.2.1 cx.2.2.2.2.2.2.2.2.1.1 hR.1 (ra_w_D G h) hS _ 0 (ra_at_a hR h1) rfl h2 hd (fun H1 locs1 a1 a2 a3 => k H1 locs1 (ra_arr (t := 0) (n := n) (x := .inl (upd f i.toNatClampNeg x)) hR h1 a1) a3)) kk

theorem ra_bastore {a : Nat} {i x : Int32} (hd : decode M.2.1 pc = .ok (.bastore, 1)) (e : ra_aW h 2 a i (vp_nar .boolean x) = some h') (kk : ra_Ru d M (pc + 1) L S h' o) : ra_Ru d M pc L (.int x :: .int i :: .ref a :: S) h o := by
  obtain ⟨n, f, h1, h2, rfl⟩ := ra_aW_of e
  exact ra_wr (fun G p l e R s m args below meth c H locs cells slots ls Q cx hR hS hml k => va_zast cx.1 cx.2.1 cx.2.2.2.2.2.2.2.2.1.1 hR.1 (ra_w_D G h) hS _ 2 (ra_at_a hR h1) rfl h2 hd (fun H1 locs1 a1 a2 a3 => k H1 locs1 (ra_arr (t := 2) (n := n) (x := .inl (upd f i.toNatClampNeg (vp_nar .boolean x))) hR h1 a1) a3)) kk

theorem ra_sastore {a : Nat} {i x : Int32} (hd : decode M.2.1 pc = .ok (.sastore, 1)) (e : ra_aW h 3 a i (vp_nar .short x) = some h') (kk : ra_Ru d M (pc + 1) L S h' o) : ra_Ru d M pc L (.int x :: .int i :: .ref a :: S) h o := by
  obtain ⟨n, f, h1, h2, rfl⟩ := ra_aW_of e
  exact ra_wr (fun G p l e R s m args below meth c H locs cells slots ls Q cx hR hS hml k => va_sast cx.1 cx.2.1 cx.2.2.2.2.2.2.2.2.1.1 hR.1 (ra_w_D G h) hS _ 3 (ra_at_a hR h1) rfl h2 hd (fun H1 locs1 a1 a2 a3 => k H1 locs1 (ra_arr (t := 3) (n := n) (x := .inl (upd f i.toNatClampNeg (vp_nar .short x))) hR h1 a1) a3)) kk

theorem ra_lastore {a : Nat} {i : Int32} {x : Int64} (hd : decode M.2.1 pc = .ok (.lastore, 1)) (e : ra_aWJ h a i x = some h') (kk : ra_Ru d M (pc + 1) L S h' o) : ra_Ru d M pc L (.long x :: .int i :: .ref a :: S) h o := by
  obtain ⟨n, f, h1, h2, rfl⟩ := ra_aWJ_of e
  exact ra_wr (fun G p l e R s m args below meth c H locs cells slots ls Q cx hR hS hml k => va_last cx.1 cx.2.1 cx.2.2.2.2.2.2.2.2.1.1 hR.1 (ra_w_D G h) hS _ 1 (ra_at_a hR h1) rfl h2 hd (fun H1 locs1 a1 a2 a3 => k H1 locs1 (ra_arr (t := 1) (n := n) (x := .inr (.inl (vp_updL f i.toNatClampNeg x))) hR h1 a1) a3)) kk

theorem ra_aastore {a k : Nat} {i : Int32} (hd : decode M.2.1 pc = .ok (.aastore, 1)) (e : ra_aWR h a i k = some h') (kk : ra_Ru d M (pc + 1) L S h' o) : ra_Ru d M pc L (.ref k :: .int i :: .ref a :: S) h o := by
  obtain ⟨t, n, f, fs, h1, ht, h3, h2, rfl⟩ := ra_aWR_of e
  rcases ht with rfl | rfl
  · refine ra_wr (fun G p l e R s m args below meth c H locs cells slots ls Q cx hR hS hml k9 => ?_) kk
    have hk : (ra_w G h)[k]? = some (G.1 + k, .inr (4, fs.map (ra_v G))) := by
      rw [ra_w_at G (hR.lt (by rw [h3]; intro z; unfold ra_junk at z; cases z)), h3]
      rfl
    refine va_astq (r := (RX4, TX4, 3)) (f := ra_fr G f) cx.1 cx.2.1 cx.2.2.2.2.2.2.2.2.1.1 hR.1 (ra_w_D G h) hS _ 4 k 4 (ra_at_a hR h1) rfl hk rfl h2 hd (fun H1 locs1 a1 a2 a3 => k9 H1 locs1 (ra_arr hR h1 ?_) a3)
    show va_P _ _ ((ra_w G h).set a (G.1 + a, .inl (G.2.2.1 4, n, .inr (.inr (.inr (.inr (ra_fr G (va_up f i.toNatClampNeg (some k))))))))) H1
    rw [ra_up_map]
    exact a1
  · refine ra_wr (fun G p l e R s m args below meth c H locs cells slots ls Q cx hR hS hml k9 => ?_) kk
    have hk : (ra_w G h)[k]? = some (G.1 + k, .inr (2, fs.map (ra_v G))) := by
      rw [ra_w_at G (hR.lt (by rw [h3]; intro z; unfold ra_junk at z; cases z)), h3]
      rfl
    refine va_astq (r := (RX2, TX2, 20)) (f := ra_fr G f) cx.1 cx.2.1 cx.2.2.2.2.2.2.2.2.1.1 hR.1 (ra_w_D G h) hS _ 5 k 2 (ra_at_a hR h1) rfl hk rfl h2 hd (fun H1 locs1 a1 a2 a3 => k9 H1 locs1 (ra_arr hR h1 ?_) a3)
    show va_P _ _ ((ra_w G h).set a (G.1 + a, .inl (G.2.2.1 5, n, .inr (.inr (.inr (.inr (ra_fr G (va_up f i.toNatClampNeg (some k))))))))) H1
    rw [ra_up_map]
    exact a1
theorem ra_aastoreN {a : Nat} {i : Int32} (hd : decode M.2.1 pc = .ok (.aastore, 1)) (e : ra_aWN h a i = some h') (kk : ra_Ru d M (pc + 1) L S h' o) : ra_Ru d M pc L (.null :: .int i :: .ref a :: S) h o := by
  obtain ⟨t, n, f, h1, ht, h2, rfl⟩ := ra_aWN_of e
  rcases ht with rfl | rfl
  · refine ra_wr (fun G p l e R s m args below meth c H locs cells slots ls Q cx hR hS hml k9 => ?_) kk
    refine va_astqN (C := "RedMarks$Scheme") (f := ra_fr G f) cx.1 cx.2.1 cx.2.2.2.2.2.2.2.2.1.1 hR.1 (ra_w_D G h) hS _ 4 (ra_at_a hR h1) rfl h2 hd (fun H1 locs1 a1 a2 a3 => k9 H1 locs1 (ra_arr hR h1 ?_) a3)
    show va_P _ _ ((ra_w G h).set a (G.1 + a, .inl (G.2.2.1 4, n, .inr (.inr (.inr (.inr (ra_fr G (va_up f i.toNatClampNeg none)))))))) H1
    rw [ra_up_map]
    exact a1
  · refine ra_wr (fun G p l e R s m args below meth c H locs cells slots ls Q cx hR hS hml k9 => ?_) kk
    refine va_astqN (C := "RedMarks$Holdings") (f := ra_fr G f) cx.1 cx.2.1 cx.2.2.2.2.2.2.2.2.1.1 hR.1 (ra_w_D G h) hS _ 5 (ra_at_a hR h1) rfl h2 hd (fun H1 locs1 a1 a2 a3 => k9 H1 locs1 (ra_arr hR h1 ?_) a3)
    show va_P _ _ ((ra_w G h).set a (G.1 + a, .inl (G.2.2.1 5, n, .inr (.inr (.inr (.inr (ra_fr G (va_up f i.toNatClampNeg none)))))))) H1
    rw [ra_up_map]
    exact a1
theorem ra_e_len (G : ra_G) (t n : Nat) (x : (Nat → Int32) ⊕ (Nat → Int64) ⊕ (Nat → UInt32) ⊕ (Nat → UInt64) ⊕ (Nat → Option Nat)) : ∃ y, ra_e G (.inl (t, n, x)) = .inl (G.2.2.1 t, n, y) := by
  rcases x with x | x | x | x | x
  · exact ⟨_, rfl⟩
  · exact ⟨_, rfl⟩
  · exact ⟨_, rfl⟩
  · exact ⟨_, rfl⟩
  · exact ⟨_, rfl⟩
theorem ra_alen {a : Nat} {x : Int32} (hd : decode M.2.1 pc = .ok (.arraylength, 1)) (e : ra_aL h a = some x) (kk : ra_Ru d M (pc + 1) L (.int x :: S) h o) : ra_Ru d M pc L (.ref a :: S) h o := by
  unfold ra_aL at e
  split at e
  · rename_i t n y hk
    split at e
    · rename_i ht
      cases e
      refine ra_rd (fun G p l e R s m args below meth c H locs cells slots ls Q cx x hR hS hL hcl hsl k => ?_) kk
      obtain ⟨y', hy⟩ := ra_e_len G t n y
      have ha := ra_at_a hR hk
      rw [hy] at ha
      have htt : ∃ ty, (ra_tys G)[t]? = some (G.2.2.1 t, ty) := by
        match t, ht with
        | 0, _ => exact ⟨_, rfl⟩
        | 1, _ => exact ⟨_, rfl⟩
        | 2, _ => exact ⟨_, rfl⟩
        | 3, _ => exact ⟨_, rfl⟩
        | 4, _ => exact ⟨_, rfl⟩
        | 5, _ => exact ⟨_, rfl⟩
      obtain ⟨ty, htt⟩ := htt
      exact va_alen cx.1 cx.2.1 cx.2.2.2.2.2.2.2.2.1.1 hR.1 _ t ha htt rfl hd k
    · cases e
  · cases e
theorem ra_keptX {s : State} {G : ra_G} {H : Heap} {locs : List Loc} (hS : va_S (ra_A G) s.heap H locs) : ∀ a : Nat, a < s.heap.size → ¬ ra_A G a → H[a]? = s.heap[a]? := fun a h1 h2 => hS.2.1 a h1 h2
theorem ra_xload {u : UInt32} {i x : Int32} (hd : decode M.2.1 pc = .ok (.iaload, 1)) (e : ra_xI h u i = some x) (kk : ra_Ru d M (pc + 1) L (.int x :: S) h o) : ra_Ru d M pc L (.int i :: .float u :: S) h o := by
  unfold ra_xI at e
  split at e
  · rename_i hu
    split at e
    · cases e
    · rename_i hin
      cases e
      refine ra_rd (fun G p l e R s m args below meth c H locs cells slots ls Q cx x hR hS hL hcl hsl k => ?_) kk
      obtain ⟨cell, q1, q2, q3, q4, q5, q6, q7⟩ := (x.1 _ hu).kept (ra_keptX hS)
      have hi : ¬ (i < 0 ∨ cell.slots.size ≤ i.toNatClampNeg) := fun z => hin (z.elim Or.inl fun z => Or.inr (by omega))
      exact W.iald cx.1 cx.2.1 q1 q2 q3 hi (q6 _ (Nat.lt_of_not_le fun z => hin (Or.inr z))) rfl rfl hd k
  · cases e
theorem ra_xlen {u : UInt32} {x : Int32} (hd : decode M.2.1 pc = .ok (.arraylength, 1)) (e : ra_xL h u = some x) (kk : ra_Ru d M (pc + 1) L (.int x :: S) h o) : ra_Ru d M pc L (.float u :: S) h o := by
  unfold ra_xL at e
  split at e
  · rename_i hu
    cases e
    refine ra_rd (fun G p l e R s m args below meth c H locs cells slots ls Q cx x hR hS hL hcl hsl k => ?_) kk
    obtain ⟨cell, q1, q2, q3, q4, q5, q6, q7⟩ := (x.1 _ hu).kept (ra_keptX hS)
    exact W.alen cx.1 cx.2.1 q1 q2 q5 rfl rfl hd k
  · cases e
theorem ra_newarr {a : ArrayType} {t : Nat} {n : Int32} (ht : t < 4) (hty : newarray.typeOf a = ra_aty t) (hn : ¬ (n < 0 ∨ 50000000 < n.toNatClampNeg)) (hd : decode M.2.1 pc = .ok (.newarray a, 2)) (kk : ra_Ru d M (pc + 2) L (.ref h.2.1 :: S) (ra_mk h (ra_na t n.toNatClampNeg) n.toNatClampNeg) o) : ra_Ru d M pc L (.int n :: S) h o := by
  have hn0 : ¬ n < 0 := fun z => hn (Or.inl z)
  have hn1 : n.toNatClampNeg ≤ 50000000 := Nat.le_of_not_lt fun z => hn (Or.inr z)
  have hall := List.all_eq_true.mp ra_AP_ok
  have hA : Cond.arrayClass (newarray.typeOf a) ∈ ra_tbl ∧ n.toNatClampNeg * componentBytes (ra_aty t) ≤ 536870912 ∧ (∀ G : ra_G, (ra_tys G)[t]? = some (G.2.2.1 t, ra_aty t)) ∧ (∀ U cA, va_RA U cA (ra_aty t) = (U.vm.findClass ("[" ++ (ra_aty t).toString) = some cA)) ∧ ∃ x : vp_A, ra_na t n.toNatClampNeg = .inl (t, x) ∧ (∀ G, ra_e G (.inl (t, x)) = .inl (G.2.2.1 t, x)) ∧ ∀ cA, vp_cell cA x = arrV cA n.toNatClampNeg (fun _ => defaultValue (ra_aty t)) := by
    rw [hty]
    match t, ht with
    | 0, _ => exact ⟨ra_yes_in (hall (.int, _) (List.mem_of_getElem? (i := 0) rfl)), by show _ * 4 ≤ _; omega, fun _ => rfl, fun _ _ => rfl, (n.toNatClampNeg, .inl fun _ => 0), rfl, fun _ => rfl, fun _ => rfl⟩
    | 1, _ => exact ⟨ra_yes_in (hall (.long, _) (List.mem_of_getElem? (i := 1) rfl)), by show _ * 8 ≤ _; omega, fun _ => rfl, fun _ _ => rfl, (n.toNatClampNeg, .inr (.inl fun _ => 0)), rfl, fun _ => rfl, fun _ => rfl⟩
    | 2, _ => exact ⟨ra_yes_in (hall (.boolean, _) (List.mem_of_getElem? (i := 2) rfl)), by show _ * 1 ≤ _; omega, fun _ => rfl, fun _ _ => rfl, (n.toNatClampNeg, .inl fun _ => 0), rfl, fun _ => rfl, fun _ => rfl⟩
    | 3, _ => exact ⟨ra_yes_in (hall (.short, _) (List.mem_of_getElem? (i := 3) rfl)), by show _ * 2 ≤ _; omega, fun _ => rfl, fun _ _ => rfl, (n.toNatClampNeg, .inl fun _ => 0), rfl, fun _ => rfl, fun _ => rfl⟩
  obtain ⟨g1, g2, g3, g4, x, g5, g6, g7⟩ := hA
  refine ra_al (fun G p l e R s m args below meth c H locs cells slots ls Q cx hR hS hAq hcl hsl hml k => ?_) kk
  refine va_newa (a0 := x) cx.1 cx.2.1 (cx.2.2.2.2.1 _ g1) hty cx.2.2.2.2.2.2.2.2.1.1 hR.1 (ra_w_D G h) hS hAq (fun cA => g7 cA) hn0 rfl g2 hcl hsl hd (fun q cA H1 a0 a1 a2 a3 => k q H1 _ a1 a2 a3 ?_)
  rw [g5, g6]
  have e1 := (a0.2 6 (cA, ra_aty t) rfl).2
  have e2 := (a0.2 t (G.2.2.1 t, ra_aty t) (by rw [List.getElem?_append_left (by show t < 6; omega)]; exact g3 G)).2
  rw [g4] at e1 e2
  have e3 : cA = G.2.2.1 t := Option.some.inj (e1.symm.trans e2)
  rw [e3]

end
