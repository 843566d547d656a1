section
variable {d : Nat} {M : ra_M} {oc pc : Nat} {L : List (Option Value)} {S : List Value} {h : ra_H} {o : Option Value × ra_H}
theorem ra_goto_ok {off : Int} {t : Nat} (hd : decode M.2.1 pc = .ok (.goto off, 3)) (ht : (pc : Int) + off = (t : Int)) (k : ra_Ru d M t L S h o) : ra_Ru d M pc L S h o :=
  ra_rd (fun G p l e R s m args below meth c H locs cells slots ls Q cx x hR hS hL hcl hsl k => lv_goto cx.1 cx.2.1 hd ht k) k
/-- two ways on, of which one is taken -/
theorem ra_two {t1 t2 : Nat} {S' : List Value} {P : Prop} (hstep : ∀ (G : ra_G) (p : Program) (l : Launch) (e : Env) (R : Room) (s : State) (m : MethodId) (args : Array Value) (below : List Frame) (meth : Method) (c : Code) (H : Heap) (locs : List Loc) (cells slots : Nat) (ls : Array Slot) (Q : State → Prop),
    ra_Cx M d G p R s m args meth c → (P → W p l e R s m args below meth c H locs cells slots Q (F0 m t1 ls (S'.map (ra_v G)))) → (¬ P → W p l e R s m args below meth c H locs cells slots Q (F0 m t2 ls (S'.map (ra_v G)))) → W p l e R s m args below meth c H locs cells slots Q (F0 m pc ls (S.map (ra_v G))))
    (k1 : P → ra_Ru d M t1 L S' h o) (k2 : ¬ P → ra_Ru d M t2 L S' h o) : ra_Ru d M pc L S h o := by
  by_cases hp : P
  · exact ra_rd (fun G p l e R s m args below meth c H locs cells slots ls Q cx x hR hS hL hcl hsl k => hstep G p l e R s m args below meth c H locs cells slots ls Q cx (fun _ => k) (fun hn => absurd hp hn)) (k1 hp)
  · exact ra_rd (fun G p l e R s m args below meth c H locs cells slots ls Q cx x hR hS hL hcl hsl k => hstep G p l e R s m args below meth c H locs cells slots ls Q cx (fun hy => absurd hy hp) (fun _ => k)) (k2 hp)
theorem ra_i32_not_lt {a b : Int32} : ¬ a < b ↔ b ≤ a := by
  rw [Int32.lt_iff_toInt_lt, Int32.le_iff_toInt_le]; omega
theorem ra_i32_not_le {a b : Int32} : ¬ a ≤ b ↔ b < a := by
  rw [Int32.lt_iff_toInt_lt, Int32.le_iff_toInt_le]; omega
theorem ra_if1_ok {β : Type} {cd : Jvm.ClassFile.Cond} {off : Int} {t : Nat} {x : Int32} {A B : Option β} {z : β} (hd : decode M.2.1 pc = .ok (.ifCond cd off, 3)) (ht : (pc : Int) + off = (t : Int)) (e : ra_if1 cd x A B = some z) (k1 : A = some z → ra_Ru d M t L S h o) (k2 : B = some z → ra_Ru d M (pc + 3) L S h o) : ra_Ru d M pc L (.int x :: S) h o := by
  cases cd
  · refine ra_two (P := x = 0) (fun G p l e R s m args below meth c H locs cells slots ls Q cx w1 w2 => lv_if_eq cx.1 cx.2.1 hd ht w1 w2) (fun hp => k1 ?_) (fun hp => k2 ?_)
    · simpa [ra_if1, hp] using e
    · simpa [ra_if1, hp] using e
  · refine ra_two (P := ¬ x = 0) (fun G p l e R s m args below meth c H locs cells slots ls Q cx w1 w2 => lv_if_ne cx.1 cx.2.1 hd ht w1 (fun q => w2 (fun z => z q))) (fun hp => k1 ?_) (fun hp => k2 ?_)
    · simpa [ra_if1, hp] using e
    · simpa [ra_if1, Classical.not_not.mp hp] using e
  · refine ra_two (P := x < 0) (fun G p l e R s m args below meth c H locs cells slots ls Q cx w1 w2 => lv_if_lt cx.1 cx.2.1 hd ht w1 w2) (fun hp => k1 ?_) (fun hp => k2 ?_)
    · simpa [ra_if1, hp] using e
    · simpa [ra_if1, hp] using e
  · refine ra_two (P := 0 ≤ x) (fun G p l e R s m args below meth c H locs cells slots ls Q cx w1 w2 => lv_if_ge cx.1 cx.2.1 hd ht w1 w2) (fun hp => k1 ?_) (fun hp => k2 ?_)
    · have hp := ra_i32_not_lt.mpr hp
      simpa [ra_if1, hp] using e
    · have hp := ra_i32_not_le.mp hp
      simpa [ra_if1, hp] using e
  · refine ra_two (P := 0 < x) (fun G p l e R s m args below meth c H locs cells slots ls Q cx w1 w2 => lv_if_gt cx.1 cx.2.1 hd ht w1 w2) (fun hp => k1 ?_) (fun hp => k2 ?_)
    · have hp := ra_i32_not_le.mpr hp
      simpa [ra_if1, hp] using e
    · have hp := ra_i32_not_lt.mp hp
      simpa [ra_if1, hp] using e
  · refine ra_two (P := x ≤ 0) (fun G p l e R s m args below meth c H locs cells slots ls Q cx w1 w2 => lv_if_le cx.1 cx.2.1 hd ht w1 w2) (fun hp => k1 ?_) (fun hp => k2 ?_)
    · simpa [ra_if1, hp] using e
    · simpa [ra_if1, hp] using e
theorem ra_if2_ok {β : Type} {cd : Jvm.ClassFile.Cond} {off : Int} {t : Nat} {x y : Int32} {A B : Option β} {z : β} (hd : decode M.2.1 pc = .ok (.if_icmp cd off, 3)) (ht : (pc : Int) + off = (t : Int)) (e : ra_if2 cd x y A B = some z) (k1 : A = some z → ra_Ru d M t L S h o) (k2 : B = some z → ra_Ru d M (pc + 3) L S h o) : ra_Ru d M pc L (.int y :: .int x :: S) h o := by
  cases cd
  · refine ra_two (P := x = y) (fun G p l e R s m args below meth c H locs cells slots ls Q cx w1 w2 => lv_icmp_eq cx.1 cx.2.1 hd ht w1 w2) (fun hp => k1 ?_) (fun hp => k2 ?_)
    · simpa [ra_if2, hp] using e
    · simpa [ra_if2, hp] using e
  · refine ra_two (P := ¬ x = y) (fun G p l e R s m args below meth c H locs cells slots ls Q cx w1 w2 => lv_icmp_ne cx.1 cx.2.1 hd ht w1 (fun q => w2 (fun z => z q))) (fun hp => k1 ?_) (fun hp => k2 ?_)
    · simpa [ra_if2, hp] using e
    · simpa [ra_if2, Classical.not_not.mp hp] using e
  · refine ra_two (P := x < y) (fun G p l e R s m args below meth c H locs cells slots ls Q cx w1 w2 => lv_icmp_lt cx.1 cx.2.1 hd ht w1 w2) (fun hp => k1 ?_) (fun hp => k2 ?_)
    · simpa [ra_if2, hp] using e
    · simpa [ra_if2, hp] using e
  · refine ra_two (P := y ≤ x) (fun G p l e R s m args below meth c H locs cells slots ls Q cx w1 w2 => lv_icmp_ge cx.1 cx.2.1 hd ht w1 w2) (fun hp => k1 ?_) (fun hp => k2 ?_)
    · have hp := ra_i32_not_lt.mpr hp
      simpa [ra_if2, hp] using e
    · have hp := ra_i32_not_le.mp hp
      simpa [ra_if2, hp] using e
  · refine ra_two (P := y < x) (fun G p l e R s m args below meth c H locs cells slots ls Q cx w1 w2 => lv_icmp_gt cx.1 cx.2.1 hd ht w1 w2) (fun hp => k1 ?_) (fun hp => k2 ?_)
    · have hp := ra_i32_not_le.mpr hp
      simpa [ra_if2, hp] using e
    · have hp := ra_i32_not_lt.mp hp
      simpa [ra_if2, hp] using e
  · refine ra_two (P := x ≤ y) (fun G p l e R s m args below meth c H locs cells slots ls Q cx w1 w2 => lv_icmp_le cx.1 cx.2.1 hd ht w1 w2) (fun hp => k1 ?_) (fun hp => k2 ?_)
    · simpa [ra_if2, hp] using e
    · simpa [ra_if2, hp] using e
theorem ra_sw_ok {β : Type} {dflt lo hi : Int} {offs : Array Int} {len n1 : Nat} {sw : List (Int32 × Nat)} {x : Int32} {kf : Nat → Option β} {z : β} (hd : decode M.2.1 pc = .ok (.tableswitch dflt lo hi offs, len)) (hc : ra_cksw pc dflt lo hi offs n1 sw = true) (e : ra_sw x sw kf n1 = some z) (k : ∀ t, kf t = some z → ra_Ru d M t L S h o) : ra_Ru d M pc L (.int x :: S) h o := by
  simp only [ra_cksw, Bool.and_eq_true, decide_eq_true_eq] at hc
  obtain ⟨⟨c1, c2⟩, c3⟩ := hc
  have key : ∀ (j : Nat) (c : Int32) (t : Nat), sw[j]? = some (c, t) → c.toInt = lo + (j : Int) ∧ j < sw.length ∧ ∃ off, offs[j]? = some off ∧ (pc : Int) + off = (t : Int) := by
    intro j c t hj
    have hlt := (List.getElem?_eq_some_iff.mp hj).1
    have h1 := List.all_eq_true.mp c3 j (List.mem_range.mpr hlt)
    rw [hj] at h1
    cases ho : offs[j]? with
    | none => rw [ho] at h1; cases h1
    | some off =>
      rw [ho] at h1
      simp only [Bool.and_eq_true, decide_eq_true_eq] at h1
      exact ⟨h1.1, hlt, off, rfl, h1.2⟩
  rcases ra_sw_of (x := x) (k := kf) (t := n1) sw with ⟨j, c, t, h1, rfl, h3⟩ | ⟨h1, h2⟩
  · obtain ⟨k1, k2, off, k3, k4⟩ := key j x t h1
    refine ra_rd (fun G p l e R s m args below meth c H locs cells slots ls Q cx x hR hS hL hcl hsl k => lv_tableIn cx.1 cx.2.1 hd (by omega) (by omega) (off := off) ?_ k4 k) (k t (h3.symm.trans e))
    rw [k1, show (lo + (j : Int) - lo).toNat = j by omega]
    exact k3
  · refine ra_rd (fun G p l e R s m args below meth c H locs cells slots ls Q cx y hR hS hL hcl hsl k => lv_tableOut cx.1 cx.2.1 hd ?_ c1 k) (k n1 (h2.symm.trans e))
    rcases Int.lt_or_le x.toInt lo with hl | hl
    · exact Or.inl hl
    · right
      apply Int.not_le.mp
      intro hh
      have hlt : (x.toInt - lo).toNat < sw.length := by omega
      have hj : sw[(x.toInt - lo).toNat]? = some (sw[(x.toInt - lo).toNat]) := List.getElem?_eq_getElem hlt
      have hq := key _ _ _ hj
      refine h1 _ _ _ hj ?_
      apply Int32.toInt_inj.mp
      rw [hq.1]
      omega
theorem ra_ret_ok {i : Instr} {r : Option Value} (hd : decode M.2.1 pc = .ok (i, 1)) (hi : ra_isret i r = true) : ra_Ru d M pc L r.toList h (r, h) := by
  refine ⟨⟨Nat.le_refl _, Nat.le_refl _, rfl⟩, fun G p l e R s m args below meth c H locs cells slots ls Q cx x hR hS hL hz hc hs fin => ?_⟩
  have := fin pc ls i H locs hd hi hR hS
  dsimp only at this
  rw [Nat.sub_self, Nat.sub_self] at this
  exact this
end
theorem ra_to_all (p : ra_I → Bool) (t : Nat) : ∀ is : List ra_I, is.all p = true → (ra_to t is).all p = true
  | [], _ => rfl
  | e :: l, h => by
    unfold ra_to
    split
    · exact h
    · simp only [List.all_cons, Bool.and_eq_true] at h
      exact ra_to_all p t l h.2
theorem ra_to_head (t : Nat) : ∀ (is : List ra_I) (e : ra_I) (l : List ra_I), ra_to t is = e :: l → e.1 = t
  | [], e, l, h => by cases h
  | e' :: l', e, l, h => by
    unfold ra_to at h
    split at h
    · rename_i hb
      cases h
      exact Nat.eq_of_beq_eq_true hb
    · exact ra_to_head t l' e l h
set_option maxHeartbeats 4000000 in
theorem ra_sound {α : Type} {d : Nat} {M : ra_M} {oc : Nat} {rt : List Value → ra_H → Option α} {K : Nat → List (Option Value) → List Value → ra_H → Option α} {Cv : Nat → List Value → ra_H → Option ra_H} {Ci : Nat → List Value → ra_H → Option (Int32 × ra_H)} {Cj : Nat → List Value → ra_H → Option (Int64 × ra_H)} {Cr : Nat → List Value → ra_H → Option (Nat × ra_H)} {Cn : Nat → List Value → ra_H → Option (Option Nat × ra_H)} {Cf : Nat → List Value → ra_H → Option (UInt32 × ra_H)} {ro : α → Option Value × ra_H}
    (hd1 : 1 ≤ d) (hcn : ra_cn[oc]? = some M.1.cls) (hrt : ∀ S h a, rt S h = some a → ∃ r, ro a = (r, h) ∧ S = r.toList) (hK : ∀ pc L S h a, K pc L S h = some a → ra_Ru d M pc L S h (ro a))
    (hv : ∀ mno av h h', Cv mno av h = some h' → ra_CO d mno av h none h') (hi : ∀ mno av h x h', Ci mno av h = some (x, h') → ra_CO d mno av h (some (.int x)) h') (hj : ∀ mno av h x h', Cj mno av h = some (x, h') → ra_CO d mno av h (some (.long x)) h') (hr : ∀ mno av h x h', Cr mno av h = some (x, h') → ra_CO d mno av h (some (.ref x)) h') (hn : ∀ mno av h x h', Cn mno av h = some (x, h') → ra_CO d mno av h (some (va_rf x)) h') (hf : ∀ mno av h x h', Cf mno av h = some (x, h') → ra_CO d mno av h (some (.float x)) h') :
    ∀ (n : Nat) (is : List ra_I) (L : List (Option Value)) (S : List Value) (h : ra_H) (a : α), is.all (ra_ck M oc) = true → ra_run rt K Cv Ci Cj Cr Cn Cf n is L S h = some a → ∀ e es, is = e :: es → ra_Ru d M e.1 L S h (ro a) := by
  intro n
  induction n with
  | zero => intro is L S h a _ e; cases e
  | succ n ihn =>
    intro is L S h a hall e e0 es he
    subst he
    obtain ⟨pc, i, len, n1, n2, n3, v, w, sw⟩ := e0
    have hck : ra_ck M oc (pc, i, len, n1, n2, n3, v, w, sw) = true := by
      simp only [List.all_cons, Bool.and_eq_true] at hall; exact hall.1
    have hes : es.all (ra_ck M oc) = true := by
      simp only [List.all_cons, Bool.and_eq_true] at hall; exact hall.2
    have nxt : ∀ (q : Nat) (L : List (Option Value)) (S : List Value) (h : ra_H), ra_nxt K (ra_run rt K Cv Ci Cj Cr Cn Cf n) q es L S h = some a → ra_Ru d M q L S h (ro a) := by
      intro q L S h e
      unfold ra_nxt at e
      split at e
      · exact hK _ _ _ _ _ e
      · rename_i e1 l1 z1
        split at e
        · rename_i hb
          have := ihn _ L S h a hes e e1 l1 rfl
          rw [Nat.eq_of_beq_eq_true hb] at this
          exact this
        · exact hK _ _ _ _ _ e
    have jmp : ∀ (t : Nat) (L : List (Option Value)) (S : List Value) (h : ra_H), ra_jmp K (ra_run rt K Cv Ci Cj Cr Cn Cf n) t es L S h = some a → ra_Ru d M t L S h (ro a) := by
      intro t L S h e
      unfold ra_jmp at e
      split at e
      · exact hK _ _ _ _ _ e
      · rename_i e1 l1 hto
        have hall2 := ra_to_all (ra_ck M oc) t es hes
        rw [hto] at hall2
        have := ihn _ L S h a hall2 e e1 l1 rfl
        rw [ra_to_head t es e1 l1 hto] at this
        exact this
    simp only [ra_ck, Bool.and_eq_true, decide_eq_true_eq] at hck
    obtain ⟨hd, hc⟩ := hck
    change ra_body rt K Cv Ci Cj Cr Cn Cf (ra_run rt K Cv Ci Cj Cr Cn Cf n) ((pc, i, len, n1, n2, n3, v, w, sw) :: es) L S h = some a at e
    have gen : ra_cx M oc i len n1 n2 n3 v w = true → ra_xk i n1 n2 n3 v w L S h (fun L S h => ra_nxt K (ra_run rt K Cv Ci Cj Cr Cn Cf n) (pc + len) es L S h) = some a → ra_Ru d M pc L S h (ro a) := by
      intro hcx ex
      obtain ⟨L', S', h', e1, e2⟩ := ra_xk_of ex
      exact ra_x_ok hd1 hcn hd hcx e1 (nxt _ _ _ _ e2)
    have cal : ra_chkC M oc i len n1 n2 n3 = true → ra_doc Cv Ci Cj Cr Cn Cf n1 n2 n3 S h (fun S h => ra_nxt K (ra_run rt K Cv Ci Cj Cr Cn Cf n) (pc + len) es L S h) = some a → ra_Ru d M pc L S h (ro a) := by
      intro hcc ed
      obtain ⟨av, rest, r, h', rfl, d2, d3, d4, d5⟩ := ra_doc_of hv hi hj hr hn hf ed
      exact ra_call_ok hcn hd hcc d2 d3 d4 (nxt _ _ _ _ d5)
    unfold ra_body at e
    dsimp only at e
    split at e
    · simp only [Bool.and_eq_true, beq_iff_eq, decide_eq_true_eq] at hc
      obtain ⟨rfl, hc⟩ := hc
      exact ra_goto_ok hd hc (jmp _ _ _ _ e)
    · simp only [Bool.and_eq_true, beq_iff_eq, decide_eq_true_eq] at hc
      obtain ⟨rfl, hc⟩ := hc
      split at e
      · exact ra_if1_ok hd hc e (jmp _ _ _ _) (nxt _ _ _ _)
      · cases e
    · simp only [Bool.and_eq_true, beq_iff_eq, decide_eq_true_eq] at hc
      obtain ⟨rfl, hc⟩ := hc
      split at e
      · exact ra_if2_ok hd hc e (jmp _ _ _ _) (nxt _ _ _ _)
      · cases e
    · simp only [Bool.and_eq_true, beq_iff_eq, decide_eq_true_eq] at hc
      obtain ⟨rfl, hc⟩ := hc
      split at e
      · exact ra_rd (fun G p l e R s m args below meth c H locs cells slots ls Q cx x hR hS hL hcl hsl k => lv_ifnullN cx.1 cx.2.1 hd hc k) (jmp _ _ _ _ e)
      · exact ra_rd (fun G p l e R s m args below meth c H locs cells slots ls Q cx x hR hS hL hcl hsl k => lv_ifnull cx.1 cx.2.1 hd k) (nxt _ _ _ _ e)
      · exact ra_rd (fun G p l e R s m args below meth c H locs cells slots ls Q cx x hR hS hL hcl hsl k => lv_ifnull cx.1 cx.2.1 hd k) (nxt _ _ _ _ e)
      · cases e
    · simp only [Bool.and_eq_true, beq_iff_eq, decide_eq_true_eq] at hc
      obtain ⟨rfl, hc⟩ := hc
      split at e
      · exact ra_rd (fun G p l e R s m args below meth c H locs cells slots ls Q cx x hR hS hL hcl hsl k => lv_ifnonnullN cx.1 cx.2.1 hd k) (nxt _ _ _ _ e)
      · exact ra_rd (fun G p l e R s m args below meth c H locs cells slots ls Q cx x hR hS hL hcl hsl k => lv_ifnonnull cx.1 cx.2.1 hd hc k) (jmp _ _ _ _ e)
      · exact ra_rd (fun G p l e R s m args below meth c H locs cells slots ls Q cx x hR hS hL hcl hsl k => lv_ifnonnull cx.1 cx.2.1 hd hc k) (jmp _ _ _ _ e)
      · cases e
    · split at e
      · exact ra_sw_ok hd hc e (fun t et => jmp _ _ _ _ et)
      · cases e
    · have hl : len = 1 := by simpa [ra_cx] using hc
      subst hl
      split at e
      · obtain ⟨r, r1, r2⟩ := hrt _ _ _ e
        rw [r1, r2]
        refine ra_ret_ok hd ?_
        cases r with
        | none => cases r2
        | some y => cases r2; rfl
      · cases e
    · have hl : len = 1 := by simpa [ra_cx] using hc
      subst hl
      split at e
      · obtain ⟨r, r1, r2⟩ := hrt _ _ _ e
        rw [r1, r2]
        refine ra_ret_ok hd ?_
        cases r with
        | none => cases r2
        | some y => cases r2; rfl
      · cases e
    · have hl : len = 1 := by simpa [ra_cx] using hc
      subst hl
      split at e
      · obtain ⟨r, r1, r2⟩ := hrt _ _ _ e
        rw [r1, r2]
        refine ra_ret_ok hd ?_
        cases r with
        | none => cases r2
        | some y => cases r2; rfl
      · obtain ⟨r, r1, r2⟩ := hrt _ _ _ e
        rw [r1, r2]
        refine ra_ret_ok hd ?_
        cases r with
        | none => cases r2
        | some y => cases r2; rfl
      · obtain ⟨r, r1, r2⟩ := hrt _ _ _ e
        rw [r1, r2]
        refine ra_ret_ok hd ?_
        cases r with
        | none => cases r2
        | some y => cases r2; rfl
      · cases e
    · have hl : len = 1 := by simpa [ra_cx] using hc
      subst hl
      split at e
      · obtain ⟨r, r1, r2⟩ := hrt _ _ _ e
        rw [r1, r2]
        refine ra_ret_ok hd ?_
        cases r with
        | none => rfl
        | some y => cases r2
      · cases e
    · rename_i idx
      split at e
      · split at e
        · simp only [ra_cx, Bool.and_eq_true, beq_iff_eq] at hc
          obtain ⟨rfl, hF⟩ := hc
          obtain ⟨y, e1, e2⟩ := Option.bind_eq_some_iff.mp e
          obtain ⟨fs, f1, f2⟩ := ra_fN_of e1
          cases y with
          | none => exact ra_getf hcn hF hd f1 f2 (nxt _ _ _ _ e2)
          | some y => exact ra_getf hcn hF hd f1 f2 (nxt _ _ _ _ e2)
        · cases e
      · exact gen hc e
    · have hl : len = 1 := by simpa [ra_cx] using hc
      subst hl
      split at e
      · obtain ⟨y, e1, e2⟩ := Option.bind_eq_some_iff.mp e
        cases y with
        | none => exact ra_aaload hd e1 (nxt _ _ _ _ e2)
        | some y => exact ra_aaload hd e1 (nxt _ _ _ _ e2)
      · cases e
    · split at e
      · rename_i hb
        rw [hb] at hc
        exact cal hc e
      · rename_i hb
        rw [hb] at hc
        exact gen hc e
    · split at e
      · rename_i hb
        rw [hb] at hc
        exact cal hc e
      · rename_i hb
        rw [hb] at hc
        exact gen hc e
    · exact cal hc e
    · refine gen ?_ e
      revert hc
      split <;> first | exact id | (intro _; exact (‹∀ (a b c : Int) (d : Array Int), Instr.tableswitch _ _ _ _ = Instr.tableswitch a b c d → False› _ _ _ _ rfl).elim) | (intro _; simp_all; done)
/-! fewer known locals -/
def ra_le : List (Option Value) → List (Option Value) → Prop
  | [], _ => True
  | none :: l', _ :: l => ra_le l' l
  | some v :: l', x :: l => x = some v ∧ ra_le l' l
  | none :: l', [] => ra_le l' []
  | some _ :: _, [] => False
theorem ra_le_at : ∀ (L' L : List (Option Value)), ra_le L' L → ∀ (i : Nat) (v : Value), L'[i]? = some (some v) → L[i]? = some (some v)
  | [], _, _, i, v, h => by simp at h
  | none :: l', y :: l, hl, i, v, h => by
    cases i with
    | zero => simp at h
    | succ i => simpa using ra_le_at l' l hl i v (by simpa using h)
  | some w :: l', x :: l, hl, i, v, h => by
    cases i with
    | zero =>
      simp at h
      rw [hl.1, h]
      rfl
    | succ i => simpa using ra_le_at l' l hl.2 i v (by simpa using h)
  | none :: l', [], hl, i, v, h => by
    cases i with
    | zero => simp at h
    | succ i => exact absurd (ra_le_at l' [] hl i v (by simpa using h)) (by simp)
  | some _ :: _, [], hl, _, _, _ => hl.elim
theorem ra_Ru.weak {d : Nat} {M : ra_M} {pc : Nat} {L L' : List (Option Value)} {S : List Value} {h : ra_H} {o : Option Value × ra_H} (k : ra_Ru d M pc L' S h o) (hl : ra_le L' L) : ra_Ru d M pc L S h o :=
  ⟨k.1, fun G p l e R s m args below meth c H locs cells slots ls Q cx x hR hS hL hz hc hs fin => k.2 G p l e R s m args below meth c H locs cells slots ls Q cx x hR hS ⟨hL.1, hL.2.1, fun q hq => by
    obtain ⟨i, v, h1, rfl⟩ := (ra_pr_mem _ _ 0 q).mp hq
    exact hL.2.2 _ ((ra_pr_mem _ _ 0 _).mpr ⟨i, v, ra_le_at _ _ hl i v h1, rfl⟩)⟩ hz hc hs fin⟩
/-! tables of nodes and of calls -/
section
variable {α : Type} {ro : α → Option Value × ra_H} {d : Nat} {M : ra_M}
def ra_k0 (_ : Nat) (_ : List (Option Value)) (_ : List Value) (_ : ra_H) : Option α := none
def ra_k1 (p : Nat) (f : List (Option Value) → List Value → ra_H → Option α) (r : Nat → List (Option Value) → List Value → ra_H → Option α) (pc : Nat) (L : List (Option Value)) (S : List Value) (h : ra_H) : Option α := match Nat.beq pc p with
  | true => f L S h
  | false => r pc L S h
def ra_kok (d : Nat) (M : ra_M) (ro : α → Option Value × ra_H) (K : Nat → List (Option Value) → List Value → ra_H → Option α) : Prop := ∀ pc L S h a, K pc L S h = some a → ra_Ru d M pc L S h (ro a)
theorem ra_k0_ok : ra_kok d M ro ra_k0 := fun _ _ _ _ _ e => by cases e
theorem ra_k1_ok {p : Nat} {f : List (Option Value) → List Value → ra_H → Option α} {r : Nat → List (Option Value) → List Value → ra_H → Option α} (hf : ∀ L S h a, f L S h = some a → ra_Ru d M p L S h (ro a)) (hr : ra_kok d M ro r) : ra_kok d M ro (ra_k1 p f r) := by
  intro pc L S h a e
  unfold ra_k1 at e
  split at e
  · rename_i hb
    rw [Nat.eq_of_beq_eq_true hb]
    exact hf _ _ _ _ e
  · exact hr _ _ _ _ _ e
end
def ra_c0 {α : Type} (_ : Nat) (_ : List Value) (_ : ra_H) : Option α := none
def ra_c1 {α : Type} (p : Nat) (f : List Value → ra_H → Option α) (r : Nat → List Value → ra_H → Option α) (m : Nat) (av : List Value) (h : ra_H) : Option α := match Nat.beq m p with
  | true => f av h
  | false => r m av h
def ra_cok {α : Type} (d : Nat) (ro : α → Option Value × ra_H) (C : Nat → List Value → ra_H → Option α) : Prop := ∀ mno av h a, C mno av h = some a → ra_CO d mno av h (ro a).1 (ro a).2
theorem ra_c0_ok {α : Type} {d : Nat} {ro : α → Option Value × ra_H} : ra_cok d ro ra_c0 := fun _ _ _ _ e => by cases e
theorem ra_c1_ok {α : Type} {d : Nat} {ro : α → Option Value × ra_H} {p : Nat} {f : List Value → ra_H → Option α} {r : Nat → List Value → ra_H → Option α} (hf : ∀ av h a, f av h = some a → ra_CO d p av h (ro a).1 (ro a).2) (hr : ra_cok d ro r) : ra_cok d ro (ra_c1 p f r) := by
  intro m av h a e
  unfold ra_c1 at e
  split at e
  · rename_i hb
    rw [Nat.eq_of_beq_eq_true hb]
    exact hf _ _ _ e
  · exact hr _ _ _ _ e
def ra_oV (a : ra_H) : Option Value × ra_H := (none, a)
def ra_oI (a : Int32 × ra_H) : Option Value × ra_H := (some (.int a.1), a.2)
def ra_oJ (a : Int64 × ra_H) : Option Value × ra_H := (some (.long a.1), a.2)
def ra_oR (a : Nat × ra_H) : Option Value × ra_H := (some (.ref a.1), a.2)
def ra_oN (a : Option Nat × ra_H) : Option Value × ra_H := (some (va_rf a.1), a.2)
def ra_oF (a : UInt32 × ra_H) : Option Value × ra_H := (some (.float a.1), a.2)
def ra_rV (S : List Value) (h : ra_H) : Option ra_H := match S with
  | [] => some h
  | _ => none
def ra_rI (S : List Value) (h : ra_H) : Option (Int32 × ra_H) := match S with
  | [.int x] => some (x, h)
  | _ => none
def ra_rz (x : Int32) (h : ra_H) : Option (Int32 × ra_H) := if x = 0 ∨ x = 1 then some (x, h) else none
def ra_rZ (S : List Value) (h : ra_H) : Option (Int32 × ra_H) := match S with
  | [.int x] => ra_rz x h
  | _ => none
def ra_rJ (S : List Value) (h : ra_H) : Option (Int64 × ra_H) := match S with
  | [.long x] => some (x, h)
  | _ => none
def ra_rR (S : List Value) (h : ra_H) : Option (Nat × ra_H) := match S with
  | [.ref x] => some (x, h)
  | _ => none
def ra_rN (S : List Value) (h : ra_H) : Option (Option Nat × ra_H) := match S with
  | [.ref x] => some (some x, h)
  | [.null] => some (none, h)
  | _ => none
def ra_rF (S : List Value) (h : ra_H) : Option (UInt32 × ra_H) := match S with
  | [.float x] => some (x, h)
  | _ => none
theorem ra_rV_ok : ∀ S h a, ra_rV S h = some a → ∃ r, ra_oV a = (r, h) ∧ S = r.toList := by
  intro S h a e
  unfold ra_rV at e
  split at e
  · cases e; exact ⟨none, rfl, rfl⟩
  · cases e
theorem ra_rI_ok : ∀ S h a, ra_rI S h = some a → ∃ r, ra_oI a = (r, h) ∧ S = r.toList := by
  intro S h a e
  unfold ra_rI at e
  split at e
  · cases e; exact ⟨_, rfl, rfl⟩
  · cases e
theorem ra_rz_of {x : Int32} {h : ra_H} {a : Int32 × ra_H} (e : ra_rz x h = some a) : a = (x, h) ∧ (x = 0 ∨ x = 1) := by
  unfold ra_rz at e
  split at e
  · rename_i hx; cases e; exact ⟨rfl, hx⟩
  · cases e
theorem ra_rZ_ok : ∀ S h a, ra_rZ S h = some a → ∃ r, ra_oI a = (r, h) ∧ S = r.toList := by
  intro S h a e
  unfold ra_rZ at e
  split at e
  · obtain ⟨rfl, -⟩ := ra_rz_of e; exact ⟨_, rfl, rfl⟩
  · cases e
theorem ra_rJ_ok : ∀ S h a, ra_rJ S h = some a → ∃ r, ra_oJ a = (r, h) ∧ S = r.toList := by
  intro S h a e
  unfold ra_rJ at e
  split at e
  · cases e; exact ⟨_, rfl, rfl⟩
  · cases e
theorem ra_rR_ok : ∀ S h a, ra_rR S h = some a → ∃ r, ra_oR a = (r, h) ∧ S = r.toList := by
  intro S h a e
  unfold ra_rR at e
  split at e
  · cases e; exact ⟨_, rfl, rfl⟩
  · cases e
theorem ra_rN_ok : ∀ S h a, ra_rN S h = some a → ∃ r, ra_oN a = (r, h) ∧ S = r.toList := by
  intro S h a e
  unfold ra_rN at e
  split at e
  · cases e; exact ⟨_, rfl, rfl⟩
  · cases e; exact ⟨_, rfl, rfl⟩
  · cases e
theorem ra_rF_ok : ∀ S h a, ra_rF S h = some a → ∃ r, ra_oF a = (r, h) ∧ S = r.toList := by
  intro S h a e
  unfold ra_rF at e
  split at e
  · cases e; exact ⟨_, rfl, rfl⟩
  · cases e
