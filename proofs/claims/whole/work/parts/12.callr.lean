theorem ra_good {M : ra_M} (hc : Cond.code M.1 M.2.1 M.2.2.1 M.2.2.2 ∈ ra_tbl) : GoodIn ra_tbl (ra_ws M) := by
  intro w hw
  have hin : w ∈ ra_tbl := by
    rcases List.mem_cons.mp hw with rfl | hw
    · exact hc
    · exact hw
  exact ⟨hin, good_of_word (List.mem_filter.mp hin).2⟩
theorem ra_good1 {w : Cond} (h : w ∈ ra_tbl) : w ∈ ra_tbl ∧ ((w.onTables && w.keeps) = true ∨ ∃ ty, w = .arrayClass ty) := ⟨h, good_of_word (List.mem_filter.mp h).2⟩
section
variable {p : Program} {l : Launch} {e : Env} {R : Room} {s : State} {m : MethodId} {args : Array Value} {below : List Frame} {meth : Method} {c : Code} {H : Heap} {locs : List Loc} {cells slots : Nat} {Q : State → Prop}
theorem ra_back {pc : Nat} {ls : Array Slot} {rest st0 : List Value} {a : Array Value} {mc ms : Nat} {G : ra_G} {r : Option Value} {h' : ra_H} (hr : va_Run p l e R s m args below meth c H locs cells slots mc ms (F0 m pc ls st0) rest (ra_Qc G r h' a) (ra_A G)) (hS : va_S (ra_A G) s.heap H locs)
    (kk : ∀ (H1 : Heap) (locs1 : List Loc), ra_Rep G h' H1 → va_S (ra_A G) s.heap H1 locs1 → W p l e R s m args below meth c H1 locs1 (cells + mc) (slots + ms) Q (F0 m (pc + 3) ls ((r.map (ra_v G)).toList ++ rest))) : W p l e R s m args below meth c H locs cells slots Q (F0 m pc ls st0) := by
  intro T hT X
  obtain ⟨v, st₀, t, T', L, h0, X', hL, e1, e2, ⟨hv, hrep, hz, hk⟩, st⟩ := hr T hT X
  cases hv
  rw [h0] at hz hk
  obtain ⟨t2, a1, b1⟩ := kk T'.heap (locs ++ L) (by rw [e1]; exact hrep) ⟨Nat.le_trans hS.1 (by rw [e1]; exact hz), fun q h1 h2 => by rw [e1, hk q (Nat.lt_of_lt_of_le h1 hS.1) h2]; exact hS.2.1 q h1 h2, fun q hq => by
      rcases List.mem_append.mp hq with h | h
      · exact hS.2.2 q h
      · exact hL q h⟩ T' rfl X'
  exact ⟨t2, st t2 a1, b1⟩
end
theorem ra_blind (G : ra_G) (av : List Value) (h : ra_H) : FrameBlind (ra_Pc G av h) := by
  intro a U g mk hp
  obtain ⟨q0, q1, q2, q3, q4⟩ := hp
  exact ⟨q0, q1, q2, q3.same rfl, q4.moved (Vm.Alike.refl U.vm)⟩
theorem ra_calls {d d' : Nat} {M M' : ra_M} {pc : Nat} {L : List (Option Value)} {S rest : List Value} {av : List Value} {h h1 : ra_H} {r : Option Value} {o : Option Value × ra_H} (hv : ra_Ev d' M' av h r h1) (hdd : d' + 1 ≤ d) (hcat : ra_cat rest ≤ 8)
    (hrun : ∀ (G : ra_G) (p : Program) (l : Launch) (e : Env) (R : Room) (s : State) (m : MethodId) (args : Array Value) (below : List Frame) (meth : Method) (c : Code) (H : Heap) (locs : List Loc) (cells slots : Nat) (ls : Array Slot),
      ra_Cx M d G p R s m args meth c → ra_X G h.2.2.2 s s.heap → ra_Rep G h H → va_S (ra_A G) s.heap H locs → ls.size = M.2.2.1 → (∀ U : State, U.heap = H → s.WarmedH U.vm → ra_Pc G av h (av.map (ra_v G)).toArray U) → cells + (h1.2.1 - h.2.1) ≤ R.cells ∧ slots + (h1.2.2.1 - h.2.2.1) ≤ R.slots → d' + 1 ≤ R.frames → 60 * d' + 60 ≤ R.locals → 2 * (F0 m pc ls (S.map (ra_v G))).monitorRoom + ((rest.map (ra_v G)).map fun v => v.category).sum ≤ 8 →
      Met l M'.1 (ra_ws M') (ra_rm d' h h1) (ra_Pc G av h) (ra_Qc G r h1) (h1.2.1 - h.2.1) (h1.2.2.1 - h.2.2.1) (ra_A G) →
      va_Run p l e R s m args below meth c H locs cells slots (h1.2.1 - h.2.1) (h1.2.2.1 - h.2.2.1) (F0 m pc ls (S.map (ra_v G))) (rest.map (ra_v G)) (ra_Qc G r h1 (av.map (ra_v G)).toArray) (ra_A G))
    (k : ra_Ru d M (pc + 3) L (r.toList ++ rest) h1 o) : ra_Ru d M pc L S h o := by
  have m1 := hv.1
  have m2 := k.1
  refine ⟨⟨by omega, by omega, m2.2.2.trans m1.2.2⟩, fun G p l e R s m args below meth c H locs cells slots ls Q cx x hR hS hL hz hc hs fin => ra_sz fun hsz => ?_⟩
  have hsize := hR.size cx.2.2.2.2.2.2.2.2.2 hS.1 hsz hz
  have hfr := cx.2.2.2.2.2.2.1
  have hlo := cx.2.2.2.2.2.2.2.1
  refine ra_back (hrun G p l e R s m args below meth c H locs cells slots ls cx x hR hS hL.1 (fun U hU hW => ⟨rfl, by rw [hU]; exact hsize, by rw [hU]; exact hR, cx.2.2.2.2.2.2.2.2.1.warm hW, ?_⟩) ⟨by omega, by omega⟩ (by omega) (by omega) (by rw [ra_cat_eq]; show 2 * 0 + _ ≤ 8; omega) (hv.2 G l)) hS (fun H1 locs1 hR1 hS1 => ?_)
  · rw [hU]
    exact (x.kept (ra_keptX hS)).moved hW.alike
  · have e1 : (r.map (ra_v G)).toList ++ rest.map (ra_v G) = (r.toList ++ rest).map (ra_v G) := by cases r <;> rfl
    rw [e1]
    refine k.2 G p l e R s m args below meth c H1 locs1 _ _ ls Q cx (by rw [m1.2.2]; exact x) hR1 hS1 hL (by omega) (by omega) (by omega) ?_
    intro pc' ls' i H' locs' a1 a2 a3 a4
    have := fin pc' ls' i H' locs' a1 a2 a3 a4
    have e2 : cells + (h1.2.1 - h.2.1) + (o.2.2.1 - h1.2.1) = cells + (o.2.2.1 - h.2.1) := by omega
    have e3 : slots + (h1.2.2.1 - h.2.2.1) + (o.2.2.2.1 - h1.2.2.1) = slots + (o.2.2.2.1 - h.2.2.1) := by omega
    rw [e2, e3]
    exact this
theorem ra_MT_of {mno : Nat} {q : ra_M × Nat × Nat × ra_P × ra_P × ra_P} (h0 : mno ≠ 0) (h : ra_MT[mno]? = some q) : ra_okM q = true := by
  refine List.all_eq_true.mp ra_MT_ok q ?_
  have : (ra_MT.drop 1)[mno - 1]? = some q := by
    rw [List.getElem?_drop]
    rw [show 1 + (mno - 1) = mno by omega]
    exact h
  exact List.mem_of_getElem? this
section
variable {d d' : Nat} {M : ra_M} {oc pc mno idx : Nat} {L : List (Option Value)} {av rest : List Value} {h h1 : ra_H} {r : Option Value} {o : Option Value × ra_H} {q : ra_M × Nat × Nat × ra_P × ra_P × ra_P}
set_option maxHeartbeats 1000000 in
theorem ra_callS (hcn : ra_cn[oc]? = some M.1.cls) (h0 : mno ≠ 0) (hq : ra_MT[mno]? = some q) (hkd : q.2.1 = 0) (hnp : av.length = q.2.2.1) (hl : ra_hasL oc idx mno = true) (hd : decode M.2.1 pc = .ok (.invokestatic idx, 3)) (hv : ra_Ev d' q.1 av h r h1) (hdd : d' + 1 ≤ d) (hcat : ra_cat rest ≤ 8)
    (k : ra_Ru d M (pc + 3) L (r.toList ++ rest) h1 o) : ra_Ru d M pc L (av.reverse ++ rest) h o := by
  obtain ⟨q', q1, q2⟩ := ra_hasL_ok hcn hl
  cases hq.symm.trans q1
  have ok := ra_MT_of h0 hq
  have hcode := ra_code_in (List.mem_of_getElem? hq)
  obtain ⟨M', kd, np, pin, pk, ps⟩ := q
  dsimp only at hkd hnp hv hcode q2
  subst hkd
  simp only [ra_okM, Bool.and_eq_true, Bool.or_eq_true, decide_eq_true_eq] at ok
  obtain ⟨⟨⟨⟨⟨⟨o1, o2⟩, o3⟩, o4⟩, o5⟩, o6⟩, o7⟩ := ok
  have o1 : Cond.initialized M'.1.cls ∈ ra_tbl := ra_yes_in (o1.resolve_left (by decide))
  refine ra_calls hv hdd hcat (fun G p l e R s m args below meth c H locs cells slots ls cx x hR hS hls hPc hf hfr hlo hmon hM => ?_) k
  refine va_runS (cc := M.2.1) (nL := M.2.2.1) (Ts := ra_tbl) (own := M.1.cls) (n := np) ⟨cx.1, cx.2.1, cx.2.2.1, cx.2.2.2.1, cx.2.2.2.2.1⟩ hM (va_cwS (bytes := M'.2.1) (maxL := M'.2.2.1) (ret := M'.2.2.2) (index := idx) np cx.2.2.2.2.1 ?_ rfl rfl rfl ⟨o3, o4, o5⟩ ⟨hfr, ?_⟩) ⟨ra_blind G av h, hPc⟩ rfl (by rw [List.length_map]; exact hnp) hls (by rw [List.map_append, List.map_reverse]) hmon hd hf
  · intro w hw
    rcases List.mem_append.mp hw with hw | hw
    · simp only [List.mem_cons, List.not_mem_nil, or_false] at hw
      rcases hw with rfl | rfl | rfl
      · exact ra_good1 q2
      · exact ra_good1 (ra_yes_in o2)
      · exact ra_good1 o1
    · exact ra_good hcode w hw
  · show 8 + (M'.2.2.1 + 11) + 60 * d' ≤ R.locals
    omega
/-- who is called: an object of the class, or a text -/
def ra_rcv (h : ra_H) (C : String) (v : Value) : Prop := (∃ k ci fs, v = .ref k ∧ h.1 k = .inr (ci, fs) ∧ ci < 13 ∧ ra_cn[ci]? = some C) ∨ (∃ u : UInt32, v = .float u ∧ 3 ≤ u.toNat ∧ u.toNat < 24 ∧ C = "java/lang/String")
theorem ra_rcv_ok {G : ra_G} {C : String} {v : Value} {s : State} {H : Heap} {locs : List Loc} (hv : ra_rcv h C v) (hK : ra_K G s) (hX : ra_X G h.2.2.2 s s.heap) (hR : ra_Rep G h H) (hS : va_S (ra_A G) s.heap H locs) : ∃ b, ra_v G v = .ref b ∧ ∃ cellB : Cell, H[b]? = some cellB ∧ cellB.vm.isStatics = false ∧ s.vm.findClass C = some cellB.cls := by
  rcases hv with ⟨k, ci, fs, rfl, hk, hci, hn⟩ | ⟨u, rfl, h3, h4, rfl⟩
  · refine ⟨G.1 + k, rfl, ?_⟩
    have hat : (ra_w G h)[k]? = some (G.1 + k, .inr (ci, fs.map (ra_v G))) := by
      rw [ra_w_at G (hR.lt (by rw [hk]; intro z; unfold ra_junk at z; cases z; omega)), hk]
      rfl
    cases hv : vwCl[ci]? with
    | none => exact absurd (List.getElem?_eq_none_iff.mp hv) (by show ¬ 13 ≤ ci; omega)
    | some r =>
      obtain ⟨C', T, N⟩ := r
      have := (ra_cls _ _ _ _ hv).1
      cases hn.symm.trans this
      exact va_recv hK.1 hR.1 hv hat
  · have hv := hX.2.2.2.1
    refine ⟨G.2.1 u.toNat, rfl, ?_⟩
    have := vk_recv hv (i := u.toNat - 3) (by omega) hS
    rw [show u.toNat - 3 + 3 = u.toNat by omega] at this
    exact this
set_option maxHeartbeats 1000000 in
theorem ra_callV {rv : Value} (hcn : ra_cn[oc]? = some M.1.cls) (h0 : mno ≠ 0) (hq : ra_MT[mno]? = some q) (hkd : q.2.1 = 1) (hnp : av.length = q.2.2.1) (hl : ra_hasL oc idx mno = true) (hd : decode M.2.1 pc = .ok (.invokevirtual idx, 3)) (hrv : ra_rcv h q.1.1.cls rv) (hv : ra_Ev d' q.1 (rv :: av) h r h1) (hdd : d' + 1 ≤ d) (hcat : ra_cat rest ≤ 8)
    (k : ra_Ru d M (pc + 3) L (r.toList ++ rest) h1 o) : ra_Ru d M pc L ((rv :: av).reverse ++ rest) h o := by
  obtain ⟨q', q1, q2⟩ := ra_hasL_ok hcn hl
  cases hq.symm.trans q1
  have ok := ra_MT_of h0 hq
  have hcode := ra_code_in (List.mem_of_getElem? hq)
  obtain ⟨M', kd, np, pin, pk, ps⟩ := q
  dsimp only at hkd hnp hv hcode q2 hrv
  subst hkd
  simp only [ra_okM, Bool.and_eq_true, Bool.or_eq_true, decide_eq_true_eq] at ok
  obtain ⟨⟨⟨⟨⟨⟨o1, ⟨o2, o8⟩, o9⟩, o3⟩, o4⟩, o5⟩, o6⟩, o7⟩ := ok
  have o1 : Cond.initialized M'.1.cls ∈ ra_tbl := ra_yes_in (o1.resolve_left (by decide))
  refine ra_calls hv hdd hcat (fun G p l e R s m args below meth c H locs cells slots ls cx x hR hS hls hPc hf hfr hlo hmon hM => ?_) k
  obtain ⟨b, hb, hcell⟩ := ra_rcv_ok hrv cx.2.2.2.2.2.2.2.2.1 x hR hS
  have e1 : (rv :: av).map (ra_v G) = .ref b :: av.map (ra_v G) := by rw [List.map_cons, hb]
  rw [e1] at hPc ⊢
  refine va_runV (cc := M.2.1) (nL := M.2.2.1) (Ts := ra_tbl) (own := M.1.cls) (C := M'.1.cls) (n := np) (As := av.map (ra_v G)) ⟨cx.1, cx.2.1, cx.2.2.1, cx.2.2.2.1, cx.2.2.2.2.1⟩ hM (cwV (bytes := M'.2.1) (maxL := M'.2.2.1) (ret := M'.2.2.2) (index := idx) np cx.2.2.2.2.1 ?_ rfl rfl rfl ⟨rfl, o3, o4, o5⟩ ⟨hfr, ?_⟩) ⟨ra_blind G (rv :: av) h, hcell, hPc⟩ rfl (by rw [List.length_map]; exact hnp) hls (by simp [hb]) hmon hd hf
  · intro w hw
    rcases List.mem_append.mp hw with hw | hw
    · simp only [List.mem_cons, List.not_mem_nil, or_false] at hw
      rcases hw with rfl | rfl | rfl | rfl
      · exact ra_good1 q2
      · exact ra_good1 (ra_yes_in o2)
      · exact ra_good1 (ra_yes_in o8)
      · exact ra_good1 o1
    · exact ra_good hcode w hw
  · show 8 + (M'.2.2.1 + 11) + 60 * d' ≤ R.locals
    omega
set_option maxHeartbeats 1000000 in
theorem ra_callI {b : Nat} (hcn : ra_cn[oc]? = some M.1.cls) (h0 : mno ≠ 0) (hq : ra_MT[mno]? = some q) (hkd : q.2.1 = 2) (hret : q.1.2.2.2 = none) (hnp : av.length = q.2.2.1) (hl : ra_hasL oc idx mno = true) (hd : decode M.2.1 pc = .ok (.invokespecial idx, 3)) (hv : ra_Ev d' q.1 (.ref b :: av) h r h1) (hdd : d' + 1 ≤ d) (hcat : ra_cat rest ≤ 8)
    (k : ra_Ru d M (pc + 3) L (r.toList ++ rest) h1 o) : ra_Ru d M pc L ((.ref b :: av).reverse ++ rest) h o := by
  obtain ⟨q', q1, q2⟩ := ra_hasL_ok hcn hl
  cases hq.symm.trans q1
  have ok := ra_MT_of h0 hq
  have hcode := ra_code_in (List.mem_of_getElem? hq)
  obtain ⟨⟨y, cc, nL, ret⟩, kd, np, pin, pk, ps⟩ := q
  dsimp only at hkd hnp hv hcode q2 hret
  subst hkd
  subst hret
  simp only [ra_okM, Bool.and_eq_true, Bool.or_eq_true, decide_eq_true_eq] at ok
  obtain ⟨⟨⟨⟨⟨⟨o1, o2, o9⟩, o3⟩, o4⟩, o5⟩, o6⟩, o7⟩ := ok
  have o1 : Cond.initialized y.cls ∈ ra_tbl := ra_yes_in (o1.resolve_left (by decide))
  refine ra_calls hv hdd hcat (fun G p l e R s m args below meth c H locs cells slots ls cx x hR hS hls hPc hf hfr hlo hmon hM => ?_) k
  refine va_runI (cc := M.2.1) (nL := M.2.2.1) (Ts := ra_tbl) (own := M.1.cls) (n := np) (As := av.map (ra_v G)) (b := G.1 + b) ⟨cx.1, cx.2.1, cx.2.2.1, cx.2.2.2.1, cx.2.2.2.2.1⟩ hM (cwI (bytes := cc) (maxL := nL) (index := idx) np cx.2.2.2.2.1 (ra_good hcode) rfl rfl rfl (cx.2.2.2.2.1 _ o1) (cx.2.2.2.2.1 _ q2) (cx.2.2.2.2.1 _ (ra_yes_in o2)) o9 ⟨o3, o4, o5⟩ ⟨hfr, ?_⟩) ⟨ra_blind G (.ref b :: av) h, hPc⟩ rfl (by rw [List.length_map]; exact hnp) hls (by simp [ra_v]) hmon hd hf
  show 8 + (nL + 11) + 60 * d' ≤ R.locals
  omega
set_option maxHeartbeats 1000000 in
theorem ra_callSN (h0 : mno ≠ 0) (hq : ra_MT[mno]? = some q) (hkd : q.2.1 = 0) (hnp : av.length = q.2.2.1) (hl : (M.1.cls, idx, q.1.1) ∈ ra_nw) (hd : decode M.2.1 pc = .ok (.invokestatic idx, 3)) (hv : ra_Ev d' q.1 av h r h1) (hdd : d' + 1 ≤ d) (hcat : ra_cat rest ≤ 8)
    (k : ra_Ru d M (pc + 3) L (r.toList ++ rest) h1 o) : ra_Ru d M pc L (av.reverse ++ rest) h o := by
  have ok := ra_MT_of h0 hq
  have hcode := ra_code_in (List.mem_of_getElem? hq)
  obtain ⟨M', kd, np, pin, pk, ps⟩ := q
  dsimp only at hkd hnp hv hcode hl
  subst hkd
  simp only [ra_okM, Bool.and_eq_true, Bool.or_eq_true, decide_eq_true_eq] at ok
  obtain ⟨⟨⟨⟨⟨⟨o1, o2⟩, o3⟩, o4⟩, o5⟩, o6⟩, o7⟩ := ok
  have o1 : Cond.initialized M'.1.cls ∈ ra_tbl := ra_yes_in (o1.resolve_left (by decide))
  refine ra_calls hv hdd hcat (fun G p l e R s m args below meth c H locs cells slots ls cx x hR hS hls hPc hf hfr hlo hmon hM => ?_) k
  refine va_runSN (cc := M.2.1) (nL := M.2.2.1) (Ts := ra_tbl) (own := M.1.cls) (host := "RedMarks") (n := np) ⟨cx.1, cx.2.1, cx.2.2.1, cx.2.2.2.1, cx.2.2.2.2.1⟩ hM ⟨va_cnB (bytes := M'.2.1) (maxL := M'.2.2.1) (ret := M'.2.2.2) (index := idx) np cx.2.2.2.2.1 (ra_good hcode) rfl rfl rfl (cx.2.2.2.2.2.2.2.2.1.2.1 _ hl) (cx.2.2.2.2.1 _ o1) ⟨o3, o4, o5⟩ ⟨hfr, ?_⟩, cx.2.2.2.2.1 _ (ra_yes_in o2), trivial⟩ ⟨ra_blind G av h, hPc⟩ rfl (by rw [List.length_map]; exact hnp) hls (by rw [List.map_append, List.map_reverse]) hmon hd hf
  show 8 + (M'.2.2.1 + 11) + 60 * d' ≤ R.locals
  omega
set_option maxHeartbeats 1000000 in
theorem ra_callIN {b : Nat} (h0 : mno ≠ 0) (hq : ra_MT[mno]? = some q) (hkd : q.2.1 = 2) (hret : q.1.2.2.2 = none) (hnp : av.length = q.2.2.1) (hl : (M.1.cls, idx, q.1.1) ∈ ra_nw) (hd : decode M.2.1 pc = .ok (.invokespecial idx, 3)) (hv : ra_Ev d' q.1 (.ref b :: av) h r h1) (hdd : d' + 1 ≤ d) (hcat : ra_cat rest ≤ 8)
    (k : ra_Ru d M (pc + 3) L (r.toList ++ rest) h1 o) : ra_Ru d M pc L ((.ref b :: av).reverse ++ rest) h o := by
  have ok := ra_MT_of h0 hq
  have hcode := ra_code_in (List.mem_of_getElem? hq)
  obtain ⟨⟨y, cc, nL, ret⟩, kd, np, pin, pk, ps⟩ := q
  dsimp only at hkd hnp hv hcode hl hret
  subst hkd
  subst hret
  simp only [ra_okM, Bool.and_eq_true, Bool.or_eq_true, decide_eq_true_eq] at ok
  obtain ⟨⟨⟨⟨⟨⟨o1, o2, o9⟩, o3⟩, o4⟩, o5⟩, o6⟩, o7⟩ := ok
  have o1 : Cond.initialized y.cls ∈ ra_tbl := ra_yes_in (o1.resolve_left (by decide))
  refine ra_calls hv hdd hcat (fun G p l e R s m args below meth c H locs cells slots ls cx x hR hS hls hPc hf hfr hlo hmon hM => ?_) k
  refine va_runIN (cc := M.2.1) (nL := M.2.2.1) (Ts := ra_tbl) (own := M.1.cls) (host := "RedMarks") (n := np) (As := av.map (ra_v G)) (b := G.1 + b) ⟨cx.1, cx.2.1, cx.2.2.1, cx.2.2.2.1, cx.2.2.2.2.1⟩ hM ⟨va_cnB (bytes := cc) (maxL := nL) (ret := none) (index := idx) np cx.2.2.2.2.1 (ra_good hcode) rfl rfl rfl (cx.2.2.2.2.2.2.2.2.1.2.1 _ hl) (cx.2.2.2.2.1 _ o1) ⟨o3, o4, o5⟩ ⟨hfr, ?_⟩, o9, cx.2.2.2.2.1 _ (ra_yes_in o2)⟩ ⟨ra_blind G (.ref b :: av) h, hPc⟩ rfl (by rw [List.length_map]; exact hnp) hls (by simp [ra_v]) hmon hd hf
  show 8 + (nL + 11) + 60 * d' ≤ R.locals
  omega
end
