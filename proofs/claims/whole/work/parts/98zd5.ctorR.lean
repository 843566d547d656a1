/-! the reference made -/
def oX12 (b : Nat) : List Value := [.int 0, .int 0, .ref (b + 1), .ref (b + 2), .ref (b + 3), .ref (b + 4), .int 0, .ref (b + 5), .int 0, .int 0, .int 0, .int 0, .long 0, .int ((-1 : Int32)), .int 0, .int 0, .ref (b + 6), .int 0, .ref (b + 7), .ref (b + 8), .int 0, .ref (b + 9), .ref (b + 10), .int 0, .int 0, .ref (b + 11), .ref (b + 12), .int 0, .ref (b + 13), .ref (b + 14), .int 0, .long 0, .long 0, .int 0, .long 0, .ref (b + 15), .ref (b + 16), .ref (b + 17), .int 0, .ref (b + 18), .ref (b + 19), .int 0, .ref (b + 20), .int 0, .ref (b + 21), .ref (b + 22), .ref (b + 23), .ref (b + 24), .ref (b + 25), .ref (b + 26), .ref (b + 27), .long 0, .ref (b + 28), .ref (b + 29), .ref (b + 30), .long 0, .int ((-1 : Int32)), .ref (b + 31)]
def rX12 (b : Nat) : List ra_C := [.inl (0, 7, .inl (fun _ => 0)), .inl (0, 7960, .inl (fun _ => 0)), .inl (0, 15920, .inl (fun _ => 0)), .inl (2, 2, .inl (fun _ => 0)), .inl (0, 400, .inl (fun _ => 0)), .inl (0, 96, .inl (fun _ => 0)), .inl (0, 400, .inl (fun _ => 0)), .inl (0, 400, .inl (fun _ => 0)), .inl (0, 400, .inl (fun _ => 0)), .inl (0, 400, .inl (fun _ => 0)), .inl (1, 12, .inr (.inl (vp_updL (vp_updL (vp_updL (vp_updL (vp_updL (vp_updL (vp_updL (vp_updL (vp_updL (vp_updL (vp_updL (vp_updL (fun _ => 0) 0 (408572082 : Int64)) 1 (492210354 : Int64)) 2 (99749 : Int64)) 3 (21242987 : Int64)) 4 (656780 : Int64)) 5 (277893 : Int64)) 6 (273980692 : Int64)) 7 (643122 : Int64)) 8 (132528 : Int64)) 9 (769604 : Int64)) 10 (21108167796 : Int64)) 11 (8902245 : Int64)))), .inl (1, 5, .inr (.inl (vp_updL (vp_updL (vp_updL (vp_updL (vp_updL (fun _ => 0) 0 (2105 : Int64)) 1 (20190598 : Int64)) 2 (17171557 : Int64)) 3 (513619 : Int64)) 4 (6337125 : Int64)))), .inl (1, 13, .inr (.inl (fun _ => 0))), .inl (1, 400, .inr (.inl (fun _ => 0))), .inl (0, 320, .inl (fun _ => 0)), .inl (2, 320, .inl (fun _ => 0)), .inl (0, 5400, .inl (fun _ => 0)), .inl (0, 40, .inl (fun _ => 0)), .inl (0, 40, .inl (fun _ => 0)), .inl (0, 100, .inl (fun _ => 0)), .inl (0, 167936, .inl (fun _ => 0)), .inl (1, 4096, .inr (.inl (fun _ => 0))), .inl (1, 4096, .inr (.inl (fun _ => 0))), .inl (2, 4096, .inl (fun _ => 0)), .inl (2, 4096, .inl (fun _ => 0)), .inl (0, 40, .inl (fun _ => 0)), .inl (2, 40, .inl (fun _ => 0)), .inl (0, 361, .inl (fun _ => 0)), .inl (0, 4608, .inl (fun _ => 0)), .inl (0, 9, .inl (fun _ => 0)), .inl (0, 40, .inl (fun _ => 0))]
def kX12 (N : Nat) (a : Nat) (h : ra_H) : Option ra_H := (ra_fR h 12 a 3).bind fun x => (ra_aW h 0 x ((484 : Int32)) ((-1 : Int32))).bind fun h1 => nX12_init_396 N N a ((0 : Int32)) h1
section
variable {h0 : ra_H} {a c : Nat} {o : List Value} {r : List ra_C} {s : Nat} {f : ra_H → Option ra_H}
theorem st_arr {K : Int32} {n j i m t : Nat} (hL : o.length = m) (hr : r.length = i) (h1 : ¬ (K < 0 ∨ 50000000 < K.toNatClampNeg)) (h2 : K.toNatClampNeg = n) (hj : j < m) : (if K < 0 ∨ 50000000 < K.toNatClampNeg then none else (ra_fW (ra_mk (ch h0 a c o r s) (ra_na t K.toNatClampNeg) K.toNatClampNeg) c a j (.ref (ch h0 a c o r s).2.1)).bind f) = f (ch h0 a c (o.set j (.ref (a + 1 + i))) (r ++ [ra_na t n]) (s + n)) := by
  rw [if_neg h1, h2, ch_mk, ch_n, hr, ch_fW (by omega), Option.bind_some]
theorem st_int {j m : Nat} {v : Value} (hL : o.length = m) (hj : j < m) : (ra_fW (ch h0 a c o r s) c a j v).bind f = f (ch h0 a c (o.set j v) r s) := by
  rw [ch_fW (by omega), Option.bind_some]
theorem st_ref {j m i A : Nat} (hL : o.length = m) (hj : j < m) (hA : A = a + 1 + i) : (ra_fW (ch h0 a c o r s) c a j (.ref A)).bind f = f (ch h0 a c (o.set j (.ref (a + 1 + i))) r s) := by
  rw [ch_fW (by omega), Option.bind_some, hA]
theorem st_mk1 {K : Int32} {n : Nat} (h2 : K.toNatClampNeg = n) : ra_mk (ch h0 a c o r s) (ra_na 1 K.toNatClampNeg) K.toNatClampNeg = ch h0 a c o (r ++ [.inl (1, n, .inr (.inl (fun _ => 0)))]) (s + n) := by
  rw [h2, ch_mk]
  rfl
theorem st_w {n k A : Nat} {F : Nat → Int64} {x : Int32} {v : Int64} (hA : A = a + 1 + r.length) (hx : ¬ (x < 0 ∨ n ≤ x.toNatClampNeg)) (hk : x.toNatClampNeg = k) : (ra_aWJ (ch h0 a c o (r ++ [.inl (1, n, .inr (.inl F))]) s) A x v).bind f = f (ch h0 a c o (r ++ [.inl (1, n, .inr (.inl (vp_updL F k v)))]) s) := by
  rw [hA, ch_wL hx, Option.bind_some, hk]
end
set_option maxHeartbeats 4000000 in
theorem i_X12 (N : Nat) (h : ra_H) (b s0 : Nat) : fX12_init N b (ch h b 12 (ra_df 12) [] s0) = kX12 N b (ch h b 12 (oX12 b) (rX12 b) (s0 + 222053)) := by
  obtain ⟨o0, eo0⟩ : ∃ o : List Value, o = ra_df 12 := ⟨_, rfl⟩
  obtain ⟨r0, er0⟩ : ∃ r : List ra_C, r = [] := ⟨_, rfl⟩
  rw [← eo0, ← er0]
  have lo0 : o0.length = 58 := by rw [eo0]; rfl
  have lr0 : r0.length = 0 := by rw [er0]; rfl
  unfold fX12_init nX12_init_0
  refine (st_arr (t := 0) (n := 7) (j := 2) lo0 lr0 (by decide) (by decide) (by omega)).trans ?_
  obtain ⟨o1, eo1⟩ : ∃ o : List Value, o = o0.set 2 (.ref (b + 1 + 0)) := ⟨_, rfl⟩
  rw [← eo1]
  have lo1 : o1.length = 58 := by rw [eo1, List.length_set]; exact lo0
  obtain ⟨r1, er1⟩ : ∃ r : List ra_C, r = r0 ++ [ra_na 0 7] := ⟨_, rfl⟩
  rw [← er1]
  have lr1 : r1.length = 1 := by rw [er1, List.length_append, lr0]; rfl
  obtain ⟨s1, es1⟩ : ∃ s : Nat, s = s0 + 7 := ⟨_, rfl⟩
  rw [← es1]
  refine (st_arr (t := 0) (n := 7960) (j := 3) lo1 lr1 (by decide) (by decide) (by omega)).trans ?_
  obtain ⟨o2, eo2⟩ : ∃ o : List Value, o = o1.set 3 (.ref (b + 1 + 1)) := ⟨_, rfl⟩
  rw [← eo2]
  have lo2 : o2.length = 58 := by rw [eo2, List.length_set]; exact lo1
  obtain ⟨r2, er2⟩ : ∃ r : List ra_C, r = r1 ++ [ra_na 0 7960] := ⟨_, rfl⟩
  rw [← er2]
  have lr2 : r2.length = 2 := by rw [er2, List.length_append, lr1]; rfl
  obtain ⟨s2, es2⟩ : ∃ s : Nat, s = s1 + 7960 := ⟨_, rfl⟩
  rw [← es2]
  refine (st_arr (t := 0) (n := 15920) (j := 4) lo2 lr2 (by decide) (by decide) (by omega)).trans ?_
  obtain ⟨o3, eo3⟩ : ∃ o : List Value, o = o2.set 4 (.ref (b + 1 + 2)) := ⟨_, rfl⟩
  rw [← eo3]
  have lo3 : o3.length = 58 := by rw [eo3, List.length_set]; exact lo2
  obtain ⟨r3, er3⟩ : ∃ r : List ra_C, r = r2 ++ [ra_na 0 15920] := ⟨_, rfl⟩
  rw [← er3]
  have lr3 : r3.length = 3 := by rw [er3, List.length_append, lr2]; rfl
  obtain ⟨s3, es3⟩ : ∃ s : Nat, s = s2 + 15920 := ⟨_, rfl⟩
  rw [← es3]
  refine (st_arr (t := 2) (n := 2) (j := 5) lo3 lr3 (by decide) (by decide) (by omega)).trans ?_
  obtain ⟨o4, eo4⟩ : ∃ o : List Value, o = o3.set 5 (.ref (b + 1 + 3)) := ⟨_, rfl⟩
  rw [← eo4]
  have lo4 : o4.length = 58 := by rw [eo4, List.length_set]; exact lo3
  obtain ⟨r4, er4⟩ : ∃ r : List ra_C, r = r3 ++ [ra_na 2 2] := ⟨_, rfl⟩
  rw [← er4]
  have lr4 : r4.length = 4 := by rw [er4, List.length_append, lr3]; rfl
  obtain ⟨s4, es4⟩ : ∃ s : Nat, s = s3 + 2 := ⟨_, rfl⟩
  rw [← es4]
  refine (st_arr (t := 0) (n := 400) (j := 7) lo4 lr4 (by decide) (by decide) (by omega)).trans ?_
  obtain ⟨o5, eo5⟩ : ∃ o : List Value, o = o4.set 7 (.ref (b + 1 + 4)) := ⟨_, rfl⟩
  rw [← eo5]
  have lo5 : o5.length = 58 := by rw [eo5, List.length_set]; exact lo4
  obtain ⟨r5, er5⟩ : ∃ r : List ra_C, r = r4 ++ [ra_na 0 400] := ⟨_, rfl⟩
  rw [← er5]
  have lr5 : r5.length = 5 := by rw [er5, List.length_append, lr4]; rfl
  obtain ⟨s5, es5⟩ : ∃ s : Nat, s = s4 + 400 := ⟨_, rfl⟩
  rw [← es5]
  refine (st_int (j := 13) lo5 (by omega)).trans ?_
  obtain ⟨o6, eo6⟩ : ∃ o : List Value, o = o5.set 13 (.int ((-1 : Int32))) := ⟨_, rfl⟩
  rw [← eo6]
  have lo6 : o6.length = 58 := by rw [eo6, List.length_set]; exact lo5
  refine (st_arr (t := 0) (n := 96) (j := 16) lo6 lr5 (by decide) (by decide) (by omega)).trans ?_
  obtain ⟨o7, eo7⟩ : ∃ o : List Value, o = o6.set 16 (.ref (b + 1 + 5)) := ⟨_, rfl⟩
  rw [← eo7]
  have lo7 : o7.length = 58 := by rw [eo7, List.length_set]; exact lo6
  obtain ⟨r6, er6⟩ : ∃ r : List ra_C, r = r5 ++ [ra_na 0 96] := ⟨_, rfl⟩
  rw [← er6]
  have lr6 : r6.length = 6 := by rw [er6, List.length_append, lr5]; rfl
  obtain ⟨s6, es6⟩ : ∃ s : Nat, s = s5 + 96 := ⟨_, rfl⟩
  rw [← es6]
  refine (st_arr (t := 0) (n := 400) (j := 18) lo7 lr6 (by decide) (by decide) (by omega)).trans ?_
  obtain ⟨o8, eo8⟩ : ∃ o : List Value, o = o7.set 18 (.ref (b + 1 + 6)) := ⟨_, rfl⟩
  rw [← eo8]
  have lo8 : o8.length = 58 := by rw [eo8, List.length_set]; exact lo7
  obtain ⟨r7, er7⟩ : ∃ r : List ra_C, r = r6 ++ [ra_na 0 400] := ⟨_, rfl⟩
  rw [← er7]
  have lr7 : r7.length = 7 := by rw [er7, List.length_append, lr6]; rfl
  obtain ⟨s7, es7⟩ : ∃ s : Nat, s = s6 + 400 := ⟨_, rfl⟩
  rw [← es7]
  refine (st_arr (t := 0) (n := 400) (j := 19) lo8 lr7 (by decide) (by decide) (by omega)).trans ?_
  obtain ⟨o9, eo9⟩ : ∃ o : List Value, o = o8.set 19 (.ref (b + 1 + 7)) := ⟨_, rfl⟩
  rw [← eo9]
  have lo9 : o9.length = 58 := by rw [eo9, List.length_set]; exact lo8
  obtain ⟨r8, er8⟩ : ∃ r : List ra_C, r = r7 ++ [ra_na 0 400] := ⟨_, rfl⟩
  rw [← er8]
  have lr8 : r8.length = 8 := by rw [er8, List.length_append, lr7]; rfl
  obtain ⟨s8, es8⟩ : ∃ s : Nat, s = s7 + 400 := ⟨_, rfl⟩
  rw [← es8]
  refine (st_arr (t := 0) (n := 400) (j := 21) lo9 lr8 (by decide) (by decide) (by omega)).trans ?_
  obtain ⟨o10, eo10⟩ : ∃ o : List Value, o = o9.set 21 (.ref (b + 1 + 8)) := ⟨_, rfl⟩
  rw [← eo10]
  have lo10 : o10.length = 58 := by rw [eo10, List.length_set]; exact lo9
  obtain ⟨r9, er9⟩ : ∃ r : List ra_C, r = r8 ++ [ra_na 0 400] := ⟨_, rfl⟩
  rw [← er9]
  have lr9 : r9.length = 9 := by rw [er9, List.length_append, lr8]; rfl
  obtain ⟨s9, es9⟩ : ∃ s : Nat, s = s8 + 400 := ⟨_, rfl⟩
  rw [← es9]
  refine (st_arr (t := 0) (n := 400) (j := 22) lo10 lr9 (by decide) (by decide) (by omega)).trans ?_
  obtain ⟨o11, eo11⟩ : ∃ o : List Value, o = o10.set 22 (.ref (b + 1 + 9)) := ⟨_, rfl⟩
  rw [← eo11]
  have lo11 : o11.length = 58 := by rw [eo11, List.length_set]; exact lo10
  obtain ⟨r10, er10⟩ : ∃ r : List ra_C, r = r9 ++ [ra_na 0 400] := ⟨_, rfl⟩
  rw [← er10]
  have lr10 : r10.length = 10 := by rw [er10, List.length_append, lr9]; rfl
  obtain ⟨s10, es10⟩ : ∃ s : Nat, s = s9 + 400 := ⟨_, rfl⟩
  rw [← es10]
  refine (if_neg (by decide)).trans ?_
  rw [st_mk1 (n := 12) (by decide)]
  obtain ⟨s11, es11⟩ : ∃ s : Nat, s = s10 + 12 := ⟨_, rfl⟩
  rw [← es11]
  obtain ⟨F0, eF0⟩ : ∃ F : Nat → Int64, F = (fun _ => 0) := ⟨_, rfl⟩
  rw [← eF0]
  refine (st_w (n := 12) (k := 0) rfl (by decide) (by decide)).trans ?_
  obtain ⟨F1, eF1⟩ : ∃ F : Nat → Int64, F = vp_updL F0 0 (408572082 : Int64) := ⟨_, rfl⟩
  rw [← eF1]
  refine (st_w (n := 12) (k := 1) rfl (by decide) (by decide)).trans ?_
  obtain ⟨F2, eF2⟩ : ∃ F : Nat → Int64, F = vp_updL F1 1 (492210354 : Int64) := ⟨_, rfl⟩
  rw [← eF2]
  refine (st_w (n := 12) (k := 2) rfl (by decide) (by decide)).trans ?_
  obtain ⟨F3, eF3⟩ : ∃ F : Nat → Int64, F = vp_updL F2 2 (99749 : Int64) := ⟨_, rfl⟩
  rw [← eF3]
  refine (st_w (n := 12) (k := 3) rfl (by decide) (by decide)).trans ?_
  obtain ⟨F4, eF4⟩ : ∃ F : Nat → Int64, F = vp_updL F3 3 (21242987 : Int64) := ⟨_, rfl⟩
  rw [← eF4]
  refine (st_w (n := 12) (k := 4) rfl (by decide) (by decide)).trans ?_
  obtain ⟨F5, eF5⟩ : ∃ F : Nat → Int64, F = vp_updL F4 4 (656780 : Int64) := ⟨_, rfl⟩
  rw [← eF5]
  refine (st_w (n := 12) (k := 5) rfl (by decide) (by decide)).trans ?_
  obtain ⟨F6, eF6⟩ : ∃ F : Nat → Int64, F = vp_updL F5 5 (277893 : Int64) := ⟨_, rfl⟩
  rw [← eF6]
  refine (st_w (n := 12) (k := 6) rfl (by decide) (by decide)).trans ?_
  obtain ⟨F7, eF7⟩ : ∃ F : Nat → Int64, F = vp_updL F6 6 (273980692 : Int64) := ⟨_, rfl⟩
  rw [← eF7]
  refine (st_w (n := 12) (k := 7) rfl (by decide) (by decide)).trans ?_
  obtain ⟨F8, eF8⟩ : ∃ F : Nat → Int64, F = vp_updL F7 7 (643122 : Int64) := ⟨_, rfl⟩
  rw [← eF8]
  refine (st_w (n := 12) (k := 8) rfl (by decide) (by decide)).trans ?_
  obtain ⟨F9, eF9⟩ : ∃ F : Nat → Int64, F = vp_updL F8 8 (132528 : Int64) := ⟨_, rfl⟩
  rw [← eF9]
  refine (st_w (n := 12) (k := 9) rfl (by decide) (by decide)).trans ?_
  obtain ⟨F10, eF10⟩ : ∃ F : Nat → Int64, F = vp_updL F9 9 (769604 : Int64) := ⟨_, rfl⟩
  rw [← eF10]
  refine (st_w (n := 12) (k := 10) rfl (by decide) (by decide)).trans ?_
  obtain ⟨F11, eF11⟩ : ∃ F : Nat → Int64, F = vp_updL F10 10 (21108167796 : Int64) := ⟨_, rfl⟩
  rw [← eF11]
  refine (st_w (n := 12) (k := 11) rfl (by decide) (by decide)).trans ?_
  obtain ⟨F12, eF12⟩ : ∃ F : Nat → Int64, F = vp_updL F11 11 (8902245 : Int64) := ⟨_, rfl⟩
  rw [← eF12]
  refine (st_ref (j := 25) (i := 10) lo11 (by omega) (by rw [ch_n, lr10])).trans ?_
  obtain ⟨o12, eo12⟩ : ∃ o : List Value, o = o11.set 25 (.ref (b + 1 + 10)) := ⟨_, rfl⟩
  rw [← eo12]
  have lo12 : o12.length = 58 := by rw [eo12, List.length_set]; exact lo11
  obtain ⟨r11, er11⟩ : ∃ r : List ra_C, r = r10 ++ [.inl (1, 12, .inr (.inl F12))] := ⟨_, rfl⟩
  rw [← er11]
  have lr11 : r11.length = 11 := by rw [er11, List.length_append, lr10]; rfl
  rw [eF12, eF11, eF10, eF9, eF8, eF7, eF6, eF5, eF4, eF3, eF2, eF1, eF0] at er11
  clear eF12 eF11 eF10 eF9 eF8 eF7 eF6 eF5 eF4 eF3 eF2 eF1 eF0
  refine (if_neg (by decide)).trans ?_
  rw [st_mk1 (n := 5) (by decide)]
  obtain ⟨s12, es12⟩ : ∃ s : Nat, s = s11 + 5 := ⟨_, rfl⟩
  rw [← es12]
  obtain ⟨F0, eF0⟩ : ∃ F : Nat → Int64, F = (fun _ => 0) := ⟨_, rfl⟩
  rw [← eF0]
  refine (st_w (n := 5) (k := 0) rfl (by decide) (by decide)).trans ?_
  obtain ⟨F1, eF1⟩ : ∃ F : Nat → Int64, F = vp_updL F0 0 (2105 : Int64) := ⟨_, rfl⟩
  rw [← eF1]
  refine (st_w (n := 5) (k := 1) rfl (by decide) (by decide)).trans ?_
  obtain ⟨F2, eF2⟩ : ∃ F : Nat → Int64, F = vp_updL F1 1 (20190598 : Int64) := ⟨_, rfl⟩
  rw [← eF2]
  refine (st_w (n := 5) (k := 2) rfl (by decide) (by decide)).trans ?_
  obtain ⟨F3, eF3⟩ : ∃ F : Nat → Int64, F = vp_updL F2 2 (17171557 : Int64) := ⟨_, rfl⟩
  rw [← eF3]
  refine (st_w (n := 5) (k := 3) rfl (by decide) (by decide)).trans ?_
  obtain ⟨F4, eF4⟩ : ∃ F : Nat → Int64, F = vp_updL F3 3 (513619 : Int64) := ⟨_, rfl⟩
  rw [← eF4]
  refine (st_w (n := 5) (k := 4) rfl (by decide) (by decide)).trans ?_
  obtain ⟨F5, eF5⟩ : ∃ F : Nat → Int64, F = vp_updL F4 4 (6337125 : Int64) := ⟨_, rfl⟩
  rw [← eF5]
  refine (st_ref (j := 26) (i := 11) lo12 (by omega) (by rw [ch_n, lr11])).trans ?_
  obtain ⟨o13, eo13⟩ : ∃ o : List Value, o = o12.set 26 (.ref (b + 1 + 11)) := ⟨_, rfl⟩
  rw [← eo13]
  have lo13 : o13.length = 58 := by rw [eo13, List.length_set]; exact lo12
  obtain ⟨r12, er12⟩ : ∃ r : List ra_C, r = r11 ++ [.inl (1, 5, .inr (.inl F5))] := ⟨_, rfl⟩
  rw [← er12]
  have lr12 : r12.length = 12 := by rw [er12, List.length_append, lr11]; rfl
  rw [eF5, eF4, eF3, eF2, eF1, eF0] at er12
  clear eF5 eF4 eF3 eF2 eF1 eF0
  refine (st_arr (t := 1) (n := 13) (j := 28) lo13 lr12 (by decide) (by decide) (by omega)).trans ?_
  obtain ⟨o14, eo14⟩ : ∃ o : List Value, o = o13.set 28 (.ref (b + 1 + 12)) := ⟨_, rfl⟩
  rw [← eo14]
  have lo14 : o14.length = 58 := by rw [eo14, List.length_set]; exact lo13
  obtain ⟨r13, er13⟩ : ∃ r : List ra_C, r = r12 ++ [ra_na 1 13] := ⟨_, rfl⟩
  rw [← er13]
  have lr13 : r13.length = 13 := by rw [er13, List.length_append, lr12]; rfl
  obtain ⟨s13, es13⟩ : ∃ s : Nat, s = s12 + 13 := ⟨_, rfl⟩
  rw [← es13]
  refine (st_arr (t := 1) (n := 400) (j := 29) lo14 lr13 (by decide) (by decide) (by omega)).trans ?_
  obtain ⟨o15, eo15⟩ : ∃ o : List Value, o = o14.set 29 (.ref (b + 1 + 13)) := ⟨_, rfl⟩
  rw [← eo15]
  have lo15 : o15.length = 58 := by rw [eo15, List.length_set]; exact lo14
  obtain ⟨r14, er14⟩ : ∃ r : List ra_C, r = r13 ++ [ra_na 1 400] := ⟨_, rfl⟩
  rw [← er14]
  have lr14 : r14.length = 14 := by rw [er14, List.length_append, lr13]; rfl
  obtain ⟨s14, es14⟩ : ∃ s : Nat, s = s13 + 400 := ⟨_, rfl⟩
  rw [← es14]
  refine (st_arr (t := 0) (n := 320) (j := 35) lo15 lr14 (by decide) (by decide) (by omega)).trans ?_
  obtain ⟨o16, eo16⟩ : ∃ o : List Value, o = o15.set 35 (.ref (b + 1 + 14)) := ⟨_, rfl⟩
  rw [← eo16]
  have lo16 : o16.length = 58 := by rw [eo16, List.length_set]; exact lo15
  obtain ⟨r15, er15⟩ : ∃ r : List ra_C, r = r14 ++ [ra_na 0 320] := ⟨_, rfl⟩
  rw [← er15]
  have lr15 : r15.length = 15 := by rw [er15, List.length_append, lr14]; rfl
  obtain ⟨s15, es15⟩ : ∃ s : Nat, s = s14 + 320 := ⟨_, rfl⟩
  rw [← es15]
  refine (st_arr (t := 2) (n := 320) (j := 36) lo16 lr15 (by decide) (by decide) (by omega)).trans ?_
  obtain ⟨o17, eo17⟩ : ∃ o : List Value, o = o16.set 36 (.ref (b + 1 + 15)) := ⟨_, rfl⟩
  rw [← eo17]
  have lo17 : o17.length = 58 := by rw [eo17, List.length_set]; exact lo16
  obtain ⟨r16, er16⟩ : ∃ r : List ra_C, r = r15 ++ [ra_na 2 320] := ⟨_, rfl⟩
  rw [← er16]
  have lr16 : r16.length = 16 := by rw [er16, List.length_append, lr15]; rfl
  obtain ⟨s16, es16⟩ : ∃ s : Nat, s = s15 + 320 := ⟨_, rfl⟩
  rw [← es16]
  refine (st_arr (t := 0) (n := 5400) (j := 37) lo17 lr16 (by decide) (by decide) (by omega)).trans ?_
  obtain ⟨o18, eo18⟩ : ∃ o : List Value, o = o17.set 37 (.ref (b + 1 + 16)) := ⟨_, rfl⟩
  rw [← eo18]
  have lo18 : o18.length = 58 := by rw [eo18, List.length_set]; exact lo17
  obtain ⟨r17, er17⟩ : ∃ r : List ra_C, r = r16 ++ [ra_na 0 5400] := ⟨_, rfl⟩
  rw [← er17]
  have lr17 : r17.length = 17 := by rw [er17, List.length_append, lr16]; rfl
  obtain ⟨s17, es17⟩ : ∃ s : Nat, s = s16 + 5400 := ⟨_, rfl⟩
  rw [← es17]
  refine (st_arr (t := 0) (n := 40) (j := 39) lo18 lr17 (by decide) (by decide) (by omega)).trans ?_
  obtain ⟨o19, eo19⟩ : ∃ o : List Value, o = o18.set 39 (.ref (b + 1 + 17)) := ⟨_, rfl⟩
  rw [← eo19]
  have lo19 : o19.length = 58 := by rw [eo19, List.length_set]; exact lo18
  obtain ⟨r18, er18⟩ : ∃ r : List ra_C, r = r17 ++ [ra_na 0 40] := ⟨_, rfl⟩
  rw [← er18]
  have lr18 : r18.length = 18 := by rw [er18, List.length_append, lr17]; rfl
  obtain ⟨s18, es18⟩ : ∃ s : Nat, s = s17 + 40 := ⟨_, rfl⟩
  rw [← es18]
  refine (st_arr (t := 0) (n := 40) (j := 40) lo19 lr18 (by decide) (by decide) (by omega)).trans ?_
  obtain ⟨o20, eo20⟩ : ∃ o : List Value, o = o19.set 40 (.ref (b + 1 + 18)) := ⟨_, rfl⟩
  rw [← eo20]
  have lo20 : o20.length = 58 := by rw [eo20, List.length_set]; exact lo19
  obtain ⟨r19, er19⟩ : ∃ r : List ra_C, r = r18 ++ [ra_na 0 40] := ⟨_, rfl⟩
  rw [← er19]
  have lr19 : r19.length = 19 := by rw [er19, List.length_append, lr18]; rfl
  obtain ⟨s19, es19⟩ : ∃ s : Nat, s = s18 + 40 := ⟨_, rfl⟩
  rw [← es19]
  refine (st_arr (t := 0) (n := 100) (j := 42) lo20 lr19 (by decide) (by decide) (by omega)).trans ?_
  obtain ⟨o21, eo21⟩ : ∃ o : List Value, o = o20.set 42 (.ref (b + 1 + 19)) := ⟨_, rfl⟩
  rw [← eo21]
  have lo21 : o21.length = 58 := by rw [eo21, List.length_set]; exact lo20
  obtain ⟨r20, er20⟩ : ∃ r : List ra_C, r = r19 ++ [ra_na 0 100] := ⟨_, rfl⟩
  rw [← er20]
  have lr20 : r20.length = 20 := by rw [er20, List.length_append, lr19]; rfl
  obtain ⟨s20, es20⟩ : ∃ s : Nat, s = s19 + 100 := ⟨_, rfl⟩
  rw [← es20]
  refine (st_arr (t := 0) (n := 167936) (j := 44) lo21 lr20 (by decide) (by decide) (by omega)).trans ?_
  obtain ⟨o22, eo22⟩ : ∃ o : List Value, o = o21.set 44 (.ref (b + 1 + 20)) := ⟨_, rfl⟩
  rw [← eo22]
  have lo22 : o22.length = 58 := by rw [eo22, List.length_set]; exact lo21
  obtain ⟨r21, er21⟩ : ∃ r : List ra_C, r = r20 ++ [ra_na 0 167936] := ⟨_, rfl⟩
  rw [← er21]
  have lr21 : r21.length = 21 := by rw [er21, List.length_append, lr20]; rfl
  obtain ⟨s21, es21⟩ : ∃ s : Nat, s = s20 + 167936 := ⟨_, rfl⟩
  rw [← es21]
  refine (st_arr (t := 1) (n := 4096) (j := 45) lo22 lr21 (by decide) (by decide) (by omega)).trans ?_
  obtain ⟨o23, eo23⟩ : ∃ o : List Value, o = o22.set 45 (.ref (b + 1 + 21)) := ⟨_, rfl⟩
  rw [← eo23]
  have lo23 : o23.length = 58 := by rw [eo23, List.length_set]; exact lo22
  obtain ⟨r22, er22⟩ : ∃ r : List ra_C, r = r21 ++ [ra_na 1 4096] := ⟨_, rfl⟩
  rw [← er22]
  have lr22 : r22.length = 22 := by rw [er22, List.length_append, lr21]; rfl
  obtain ⟨s22, es22⟩ : ∃ s : Nat, s = s21 + 4096 := ⟨_, rfl⟩
  rw [← es22]
  refine (st_arr (t := 1) (n := 4096) (j := 46) lo23 lr22 (by decide) (by decide) (by omega)).trans ?_
  obtain ⟨o24, eo24⟩ : ∃ o : List Value, o = o23.set 46 (.ref (b + 1 + 22)) := ⟨_, rfl⟩
  rw [← eo24]
  have lo24 : o24.length = 58 := by rw [eo24, List.length_set]; exact lo23
  obtain ⟨r23, er23⟩ : ∃ r : List ra_C, r = r22 ++ [ra_na 1 4096] := ⟨_, rfl⟩
  rw [← er23]
  have lr23 : r23.length = 23 := by rw [er23, List.length_append, lr22]; rfl
  obtain ⟨s23, es23⟩ : ∃ s : Nat, s = s22 + 4096 := ⟨_, rfl⟩
  rw [← es23]
  refine (st_arr (t := 2) (n := 4096) (j := 47) lo24 lr23 (by decide) (by decide) (by omega)).trans ?_
  obtain ⟨o25, eo25⟩ : ∃ o : List Value, o = o24.set 47 (.ref (b + 1 + 23)) := ⟨_, rfl⟩
  rw [← eo25]
  have lo25 : o25.length = 58 := by rw [eo25, List.length_set]; exact lo24
  obtain ⟨r24, er24⟩ : ∃ r : List ra_C, r = r23 ++ [ra_na 2 4096] := ⟨_, rfl⟩
  rw [← er24]
  have lr24 : r24.length = 24 := by rw [er24, List.length_append, lr23]; rfl
  obtain ⟨s24, es24⟩ : ∃ s : Nat, s = s23 + 4096 := ⟨_, rfl⟩
  rw [← es24]
  refine (st_arr (t := 2) (n := 4096) (j := 48) lo25 lr24 (by decide) (by decide) (by omega)).trans ?_
  obtain ⟨o26, eo26⟩ : ∃ o : List Value, o = o25.set 48 (.ref (b + 1 + 24)) := ⟨_, rfl⟩
  rw [← eo26]
  have lo26 : o26.length = 58 := by rw [eo26, List.length_set]; exact lo25
  obtain ⟨r25, er25⟩ : ∃ r : List ra_C, r = r24 ++ [ra_na 2 4096] := ⟨_, rfl⟩
  rw [← er25]
  have lr25 : r25.length = 25 := by rw [er25, List.length_append, lr24]; rfl
  obtain ⟨s25, es25⟩ : ∃ s : Nat, s = s24 + 4096 := ⟨_, rfl⟩
  rw [← es25]
  refine (st_arr (t := 0) (n := 40) (j := 49) lo26 lr25 (by decide) (by decide) (by omega)).trans ?_
  obtain ⟨o27, eo27⟩ : ∃ o : List Value, o = o26.set 49 (.ref (b + 1 + 25)) := ⟨_, rfl⟩
  rw [← eo27]
  have lo27 : o27.length = 58 := by rw [eo27, List.length_set]; exact lo26
  obtain ⟨r26, er26⟩ : ∃ r : List ra_C, r = r25 ++ [ra_na 0 40] := ⟨_, rfl⟩
  rw [← er26]
  have lr26 : r26.length = 26 := by rw [er26, List.length_append, lr25]; rfl
  obtain ⟨s26, es26⟩ : ∃ s : Nat, s = s25 + 40 := ⟨_, rfl⟩
  rw [← es26]
  refine (st_arr (t := 2) (n := 40) (j := 50) lo27 lr26 (by decide) (by decide) (by omega)).trans ?_
  obtain ⟨o28, eo28⟩ : ∃ o : List Value, o = o27.set 50 (.ref (b + 1 + 26)) := ⟨_, rfl⟩
  rw [← eo28]
  have lo28 : o28.length = 58 := by rw [eo28, List.length_set]; exact lo27
  obtain ⟨r27, er27⟩ : ∃ r : List ra_C, r = r26 ++ [ra_na 2 40] := ⟨_, rfl⟩
  rw [← er27]
  have lr27 : r27.length = 27 := by rw [er27, List.length_append, lr26]; rfl
  obtain ⟨s27, es27⟩ : ∃ s : Nat, s = s26 + 40 := ⟨_, rfl⟩
  rw [← es27]
  refine (st_arr (t := 0) (n := 361) (j := 52) lo28 lr27 (by decide) (by decide) (by omega)).trans ?_
  obtain ⟨o29, eo29⟩ : ∃ o : List Value, o = o28.set 52 (.ref (b + 1 + 27)) := ⟨_, rfl⟩
  rw [← eo29]
  have lo29 : o29.length = 58 := by rw [eo29, List.length_set]; exact lo28
  obtain ⟨r28, er28⟩ : ∃ r : List ra_C, r = r27 ++ [ra_na 0 361] := ⟨_, rfl⟩
  rw [← er28]
  have lr28 : r28.length = 28 := by rw [er28, List.length_append, lr27]; rfl
  obtain ⟨s28, es28⟩ : ∃ s : Nat, s = s27 + 361 := ⟨_, rfl⟩
  rw [← es28]
  refine (st_arr (t := 0) (n := 4608) (j := 53) lo29 lr28 (by decide) (by decide) (by omega)).trans ?_
  obtain ⟨o30, eo30⟩ : ∃ o : List Value, o = o29.set 53 (.ref (b + 1 + 28)) := ⟨_, rfl⟩
  rw [← eo30]
  have lo30 : o30.length = 58 := by rw [eo30, List.length_set]; exact lo29
  obtain ⟨r29, er29⟩ : ∃ r : List ra_C, r = r28 ++ [ra_na 0 4608] := ⟨_, rfl⟩
  rw [← er29]
  have lr29 : r29.length = 29 := by rw [er29, List.length_append, lr28]; rfl
  obtain ⟨s29, es29⟩ : ∃ s : Nat, s = s28 + 4608 := ⟨_, rfl⟩
  rw [← es29]
  refine (st_arr (t := 0) (n := 9) (j := 54) lo30 lr29 (by decide) (by decide) (by omega)).trans ?_
  obtain ⟨o31, eo31⟩ : ∃ o : List Value, o = o30.set 54 (.ref (b + 1 + 29)) := ⟨_, rfl⟩
  rw [← eo31]
  have lo31 : o31.length = 58 := by rw [eo31, List.length_set]; exact lo30
  obtain ⟨r30, er30⟩ : ∃ r : List ra_C, r = r29 ++ [ra_na 0 9] := ⟨_, rfl⟩
  rw [← er30]
  have lr30 : r30.length = 30 := by rw [er30, List.length_append, lr29]; rfl
  obtain ⟨s30, es30⟩ : ∃ s : Nat, s = s29 + 9 := ⟨_, rfl⟩
  rw [← es30]
  refine (st_int (j := 56) lo31 (by omega)).trans ?_
  obtain ⟨o32, eo32⟩ : ∃ o : List Value, o = o31.set 56 (.int ((-1 : Int32))) := ⟨_, rfl⟩
  rw [← eo32]
  have lo32 : o32.length = 58 := by rw [eo32, List.length_set]; exact lo31
  refine (st_arr (t := 0) (n := 40) (j := 57) lo32 lr30 (by decide) (by decide) (by omega)).trans ?_
  obtain ⟨o33, eo33⟩ : ∃ o : List Value, o = o32.set 57 (.ref (b + 1 + 30)) := ⟨_, rfl⟩
  rw [← eo33]
  have lo33 : o33.length = 58 := by rw [eo33, List.length_set]; exact lo32
  obtain ⟨r31, er31⟩ : ∃ r : List ra_C, r = r30 ++ [ra_na 0 40] := ⟨_, rfl⟩
  rw [← er31]
  have lr31 : r31.length = 31 := by rw [er31, List.length_append, lr30]; rfl
  obtain ⟨s31, es31⟩ : ∃ s : Nat, s = s30 + 40 := ⟨_, rfl⟩
  rw [← es31]
  have eo : o33 = oX12 b := by
    rw [eo33, eo32, eo31, eo30, eo29, eo28, eo27, eo26, eo25, eo24, eo23, eo22, eo21, eo20, eo19, eo18, eo17, eo16, eo15, eo14, eo13, eo12, eo11, eo10, eo9, eo8, eo7, eo6, eo5, eo4, eo3, eo2, eo1, eo0]
    unfold oX12
    simp only [ra_df, List.set_cons_zero, List.set_cons_succ]
  have er : r31 = rX12 b := by
    rw [er31, er30, er29, er28, er27, er26, er25, er24, er23, er22, er21, er20, er19, er18, er17, er16, er15, er14, er13, er12, er11, er10, er9, er8, er7, er6, er5, er4, er3, er2, er1, er0]
    simp only [List.nil_append, List.cons_append, na_0, na_1, na_2]
    exact rfl
  have es : s31 = s0 + 222053 := by omega
  rw [eo, er, es]
  unfold kX12
  exact rfl
