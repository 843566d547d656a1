/-! texts, and copyOf's clone: by hand -/
section
variable {d : Nat} {M : ra_M} {pc pc' : Nat} {L : List (Option Value)} {S S' : List Value} {h : ra_H} {o : Option Value × ra_H}
theorem ra_cmp (hstep : ∀ (G : ra_G) (p : Program) (l : Launch) (e : Env) (R : Room) (s : State) (m : MethodId) (args : Array Value) (below : List Frame) (meth : Method) (c : Code) (H : Heap) (locs : List Loc) (cells slots : Nat) (ls : Array Slot) (Q : State → Prop),
    ra_Cx M d G p R s m args meth c → ra_X G h.2.2.2 s s.heap → ra_Rep G h H → va_S (ra_A G) s.heap H locs → ra_L G ls M.2.2.1 L → cells ≤ R.cells → slots ≤ R.slots → H.size = G.1 + h.2.1 → (∀ H1 locs1, ra_Rep G h H1 → va_S (ra_A G) s.heap H1 locs1 → W p l e R s m args below meth c H1 locs1 cells slots Q (F0 m pc' ls (S'.map (ra_v G)))) → W p l e R s m args below meth c H locs cells slots Q (F0 m pc ls (S.map (ra_v G))))
    (k : ra_Ru d M pc' L S' h o) : ra_Ru d M pc L S h o :=
  ⟨k.1, fun G p l e R s m args below meth c H locs cells slots ls Q cx x hR hS hL hz hc hs fin => ra_sz fun hsz => hstep G p l e R s m args below meth c H locs cells slots ls Q cx x hR hS hL (by have := k.1.1; omega) (by have := k.1.2.1; omega) (hR.size cx.2.2.2.2.2.2.2.2.2 hS.1 hsz hz) (fun H1 locs1 hR1 hS1 => k.2 G p l e R s m args below meth c H1 locs1 cells slots ls Q cx x hR1 hS1 hL hz hc hs fin)⟩
end
theorem ra_w_fl9 : Cond.fieldLink "java/lang/String" 9 "java/lang/String" "value" "[B" ∈ ra_tbl := ra_yes_in (p := (9, 96)) (by decide +kernel)
theorem ra_w_fl15 : Cond.fieldLink "java/lang/String" 15 "java/lang/String" "coder" "B" ∈ ra_tbl := ra_yes_in (p := (9, 97)) (by decide +kernel)
theorem ra_w_fl38 : Cond.fieldLink "java/lang/String" 38 "java/lang/String" "COMPACT_STRINGS" "Z" ∈ ra_tbl := ra_yes_in (p := (3, 153)) (by decide +kernel)
theorem ra_w_fl1053 : Cond.fieldLink "java/lang/String" 1053 "jdk/internal/util/Preconditions" "SIOOBE_FORMATTER" "Ljava/util/function/BiFunction;" ∈ ra_tbl := ra_yes_in (p := (3, 169)) (by decide +kernel)
def mJ0_coder : ra_M := (yJ0_coder_7d493, cJ0_coder_7d493, 1, some .byte)
def mJ0_isLatin1 : ra_M := (yJ0_isLatin1_aae02, cJ0_isLatin1_aae02, 1, some .boolean)
def mJ0_length : ra_M := (yJ0_length_8abf5, cJ0_length_8abf5, 1, some .int)
def mJ0_charAt : ra_M := (yJ0_charAt_5068e, cJ0_charAt_5068e, 2, some .char)
def mJ0_checkIndex : ra_M := (yJ0_checkIndex_df160, cJ0_checkIndex_df160, 2, none)
def mJ1_charAt : ra_M := (yJ1_charAt_3b067, cJ1_charAt_3b067, 2, some .char)
def mJ3_checkIndex : ra_M := (yJ3_checkIndex_8e157, cJ3_checkIndex_8e157, 3, some .int)
set_option maxRecDepth 100000 in
theorem mt_51 : ra_MT[51]? = some (mJ0_length, 1, 0, (1, 15), (3, 146), (3, 147)) := rfl
set_option maxRecDepth 100000 in
theorem mt_52 : ra_MT[52]? = some (mJ0_coder, 1, 0, (1, 15), (3, 150), (3, 151)) := rfl
set_option maxRecDepth 100000 in
theorem mt_53 : ra_MT[53]? = some (mJ0_charAt, 1, 1, (1, 15), (3, 156), (3, 157)) := rfl
set_option maxRecDepth 100000 in
theorem mt_54 : ra_MT[54]? = some (mJ0_isLatin1, 1, 0, (1, 15), (3, 160), (3, 161)) := rfl
set_option maxRecDepth 100000 in
theorem mt_55 : ra_MT[55]? = some (mJ1_charAt, 0, 2, (1, 16), (3, 164), (0, 0)) := rfl
set_option maxRecDepth 100000 in
theorem mt_56 : ra_MT[56]? = some (mJ0_checkIndex, 0, 2, (1, 15), (3, 167), (0, 0)) := rfl
set_option maxRecDepth 100000 in
theorem mt_57 : ra_MT[57]? = some (mJ3_checkIndex, 0, 3, (1, 17), (3, 172), (0, 0)) := rfl
/-- what is known of text j -/
theorem ra_txt {G : ra_G} {ex : ra_EX} {s : State} (x : ra_X G ex s s.heap) {u : UInt32} (h3 : 3 ≤ u.toNat) (h4 : u.toNat < 24) : va_OF "java/lang/String" "coder" "B" (.int 0) (G.2.1 u.toNat) (ra_A G) s s.heap ∧ va_OF "java/lang/String" "value" "[B" (.ref (G.2.1 (u.toNat - 3 + 100))) (G.2.1 u.toNat) (ra_A G) s s.heap ∧ va_T .byte (G.2.1 (u.toNat - 3 + 100)) (ra_slen.getD (u.toNat - 3) 0) (fun j => .int ((ra_sbyt.getD (u.toNat - 3) []).getD j 0)) (ra_A G) s s.heap := by
  have hv := x.2.2.2.1.1 (u.toNat - 3) (by omega)
  dsimp only at hv
  rw [show u.toNat - 3 + 3 = u.toNat by omega] at hv
  exact ⟨hv.2.1, hv.2.2.1, hv.2.2.2⟩
theorem ra_coder (h : ra_H) {u : UInt32} (h3 : 3 ≤ u.toNat) (h4 : u.toNat < 24) : ra_Ev 1 mJ0_coder [.float u] h (some (.int 0)) h := by
  have d0 : decode cJ0_coder_7d493 0 = .ok (.getstatic 38, 3) := by decide +kernel
  have d3 : decode cJ0_coder_7d493 3 = .ok (.ifCond .eq 10, 3) := by decide +kernel
  have d6 : decode cJ0_coder_7d493 6 = .ok (.aload_n 0, 1) := by decide +kernel
  have d7 : decode cJ0_coder_7d493 7 = .ok (.getfield 15, 3) := by decide +kernel
  have d10 : decode cJ0_coder_7d493 10 = .ok (.goto 4, 3) := by decide +kernel
  have d14 : decode cJ0_coder_7d493 14 = .ok (.ireturn, 1) := by decide +kernel
  refine ra_ev_of (by decide) (by simp) (Nat.le_of_ble_eq_true rfl) rfl ?_
  refine ra_rd (S' := [.int 0]) (pc' := 14) (fun G p l e R s m args below meth c H locs cells slots ls Q cx x hR hS hL hcl hsl k => ?_) (ra_ret_ok d14 rfl)
  obtain ⟨t1, t2, t3⟩ := ra_txt x h3 h4
  refine va_gets cx.1 cx.2.1 x.2.2.2.2.1 hS cx.2.2.2.1 (cx.2.2.2.2.1 _ ra_w_fl38) (fun _ h9 => h9) d0 ?_
  refine lv_if_eq cx.1 cx.2.1 d3 rfl (fun hz => absurd hz (by decide)) (fun _ => ?_)
  refine lv_aload_n cx.1 cx.2.1 d6 rfl (hL.at (v := .float u) rfl) ?_
  refine vk_getf cx.1 cx.2.1 t1 hS cx.2.2.2.1 (cx.2.2.2.2.1 _ ra_w_fl15) (fun _ h9 => h9) d7 ?_
  exact lv_goto cx.1 cx.2.1 d10 rfl k
theorem ra_isLatin1 (h : ra_H) {u : UInt32} (h3 : 3 ≤ u.toNat) (h4 : u.toNat < 24) : ra_Ev 1 mJ0_isLatin1 [.float u] h (some (.int 1)) h := by
  have d0 : decode cJ0_isLatin1_aae02 0 = .ok (.getstatic 38, 3) := by decide +kernel
  have d3 : decode cJ0_isLatin1_aae02 3 = .ok (.ifCond .eq 14, 3) := by decide +kernel
  have d6 : decode cJ0_isLatin1_aae02 6 = .ok (.aload_n 0, 1) := by decide +kernel
  have d7 : decode cJ0_isLatin1_aae02 7 = .ok (.getfield 15, 3) := by decide +kernel
  have d10 : decode cJ0_isLatin1_aae02 10 = .ok (.ifCond .ne 7, 3) := by decide +kernel
  have d13 : decode cJ0_isLatin1_aae02 13 = .ok (.iconst 1, 1) := by decide +kernel
  have d14 : decode cJ0_isLatin1_aae02 14 = .ok (.goto 4, 3) := by decide +kernel
  have d18 : decode cJ0_isLatin1_aae02 18 = .ok (.ireturn, 1) := by decide +kernel
  refine ra_ev_of (by decide) (by simp) (Nat.le_of_ble_eq_true rfl) (Or.inr rfl) ?_
  refine ra_rd (S' := [.int 1]) (pc' := 18) (fun G p l e R s m args below meth c H locs cells slots ls Q cx x hR hS hL hcl hsl k => ?_) (ra_ret_ok d18 rfl)
  obtain ⟨t1, t2, t3⟩ := ra_txt x h3 h4
  refine va_gets cx.1 cx.2.1 x.2.2.2.2.1 hS cx.2.2.2.1 (cx.2.2.2.2.1 _ ra_w_fl38) (fun _ h9 => h9) d0 ?_
  refine lv_if_eq cx.1 cx.2.1 d3 rfl (fun hz => absurd hz (by decide)) (fun _ => ?_)
  refine lv_aload_n cx.1 cx.2.1 d6 rfl (hL.at (v := .float u) rfl) ?_
  refine vk_getf cx.1 cx.2.1 t1 hS cx.2.2.2.1 (cx.2.2.2.2.1 _ ra_w_fl15) (fun _ h9 => h9) d7 ?_
  refine lv_if_ne cx.1 cx.2.1 d10 rfl (fun hz => absurd rfl hz) (fun _ => ?_)
  refine lv_iconst cx.1 cx.2.1 d13 rfl ?_
  exact lv_goto cx.1 cx.2.1 d14 rfl k
theorem ra_rcvS (h : ra_H) {u : UInt32} (h3 : 3 ≤ u.toNat) (h4 : u.toNat < 24) : ra_rcv h "java/lang/String" (.float u) := Or.inr ⟨u, rfl, h3, h4, rfl⟩
theorem ra_sh0 (x : Int32) : x >>> ((0 : Int32) &&& 31) = x := by
  apply Int32.toBitVec_inj.mp
  simp
theorem ra_length (h : ra_H) {u : UInt32} (h3 : 3 ≤ u.toNat) (h4 : u.toNat < 24) : ra_Ev 2 mJ0_length [.float u] h (some (.int (Int32.ofNat (ra_slen.getD (u.toNat - 3) 0)))) h := by
  have d0 : decode cJ0_length_8abf5 0 = .ok (.aload_n 0, 1) := by decide +kernel
  have d1 : decode cJ0_length_8abf5 1 = .ok (.getfield 9, 3) := by decide +kernel
  have d4 : decode cJ0_length_8abf5 4 = .ok (.arraylength, 1) := by decide +kernel
  have d5 : decode cJ0_length_8abf5 5 = .ok (.aload_n 0, 1) := by decide +kernel
  have d6 : decode cJ0_length_8abf5 6 = .ok (.invokevirtual 335, 3) := by decide +kernel
  have d9 : decode cJ0_length_8abf5 9 = .ok (.ishr, 1) := by decide +kernel
  have d10 : decode cJ0_length_8abf5 10 = .ok (.ireturn, 1) := by decide +kernel
  refine ra_ev_of (by decide) (by simp) (Nat.le_of_ble_eq_true rfl) trivial ?_
  refine ra_rd (S' := [.float u, .int (Int32.ofNat (ra_slen.getD (u.toNat - 3) 0))]) (pc' := 6) (fun G p l e R s m args below meth c H locs cells slots ls Q cx x hR hS hL hcl hsl k => ?_) ?_
  · obtain ⟨t1, t2, t3⟩ := ra_txt x h3 h4
    obtain ⟨cell, q1, q2, q3, q4, q5, q6, q7⟩ := t3.kept (ra_keptX hS)
    refine lv_aload_n cx.1 cx.2.1 d0 rfl (hL.at (v := .float u) rfl) ?_
    refine vk_getf cx.1 cx.2.1 t2 hS cx.2.2.2.1 (cx.2.2.2.2.1 _ ra_w_fl9) (fun _ h9 => h9) d1 ?_
    refine W.alen cx.1 cx.2.1 q1 q2 q5 rfl rfl d4 ?_
    exact lv_aload_n cx.1 cx.2.1 d5 rfl (hL.at (v := .float u) rfl) k
  · refine ra_call_ok (oc := 17) (n1 := 52) (n2 := 1) (n3 := 1) (av := [.float u]) (rest := [.int (Int32.ofNat (ra_slen.getD (u.toNat - 3) 0))]) (r := some (.int 0)) (h1 := h) rfl d6 (by decide +kernel) rfl (Nat.le_of_ble_eq_true rfl) ⟨1, _, mt_52, by decide, ra_coder h h3 h4, fun _ => ⟨_, _, rfl, ra_rcvS h h3 h4⟩, fun h => absurd h (by decide)⟩ ?_
    refine ra_rd (S' := [.int (Int32.ofNat (ra_slen.getD (u.toNat - 3) 0))]) (pc' := 10) (fun G p l e R s m args below meth c H locs cells slots ls Q cx x hR hS hL hcl hsl k => lv_ishr cx.1 cx.2.1 d9 (by rw [ra_sh0]; exact k)) (ra_ret_ok d10 rfl)
/-- Preconditions.checkIndex where the index is in -/
theorem ra_pre (G : ra_G) (l : Launch) (h : ra_H) (i n : Int32) (vv : Value) (hvv : vv.category = 1) (h0 : ¬ i < 0) (h1 : i < n) : Met l yJ3_checkIndex_8e157 (ra_ws mJ3_checkIndex) (ra_rm 1 h h) (fun v U => v = #[.int i, .int n, vv] ∧ ra_Rep G h U.heap) (ra_Qc G (some (.int i)) h) (h.2.1 - h.2.1) (h.2.2.1 - h.2.2.1) (ra_A G) := by
  have d0 : decode cJ3_checkIndex_8e157 0 = .ok (.iload_n 0, 1) := by decide +kernel
  have d1 : decode cJ3_checkIndex_8e157 1 = .ok (.ifCond .lt 8, 3) := by decide +kernel
  have d4 : decode cJ3_checkIndex_8e157 4 = .ok (.iload_n 0, 1) := by decide +kernel
  have d5 : decode cJ3_checkIndex_8e157 5 = .ok (.iload_n 1, 1) := by decide +kernel
  have d6 : decode cJ3_checkIndex_8e157 6 = .ok (.if_icmp .lt 10, 3) := by decide +kernel
  have d16 : decode cJ3_checkIndex_8e157 16 = .ok (.iload_n 0, 1) := by decide +kernel
  have d17 : decode cJ3_checkIndex_8e157 17 = .ok (.ireturn, 1) := by decide +kernel
  rw [Nat.sub_self, Nat.sub_self]
  refine Met.ofW (cc := cJ3_checkIndex_8e157) (maxL := 3) (ret := some .int) (by decide) rfl ?_
  intro p e s m args below meth c s₁ B hml hv
  obtain ⟨rfl, hR⟩ := hv
  have hx := B.exec
  have hb := B.bytes
  have hrr := B.returns
  have hlocks := B.notSynchronized
  have hlen : (lg_sl [.int i, .int n, vv]).length ≤ 3 := by
    have e9 : lg_sl [.int i, .int n, vv] = [.val (.int i), .val (.int n)] ++ ((if vv.category = 2 then [.val vv, .second] else [.val vv]) ++ []) := rfl
    rw [e9, hvv]
    simp
  have hl := lv_entry [.int i, .int n, vv] (n := 3) hlen
  rw [show (#[.int i, .int n, vv] : Array Value) = [Value.int i, .int n, vv].toArray from rfl, lg_entry_eq]
  generalize (lg_sl [Value.int i, .int n, vv] ++ List.replicate (3 - (lg_sl [Value.int i, .int n, vv]).length) Slot.unset).toArray = ls at hl ⊢
  have a0 : ls[0]? = some (.val (.int i)) := hl.2.2 (0, .int i) (by simp [lv_args])
  have a1 : ls[1]? = some (.val (.int n)) := hl.2.2 (1, .int n) (by simp [lv_args, Value.category])
  refine lv_iload_n hx hb d0 rfl a0 ?_
  refine lv_if_lt hx hb d1 rfl (fun z => absurd z h0) (fun _ => ?_)
  refine lv_iload_n hx hb d4 rfl a0 ?_
  refine lv_iload_n hx hb d5 rfl a1 ?_
  refine lv_icmp_lt hx hb d6 rfl (fun _ => ?_) (fun z => absurd h1 z)
  refine lv_iload_n hx hb d16 rfl a0 ?_
  exact W.iret hx hb hrr (fun t ht hW => ⟨rfl, by rw [ht]; exact hR, by rw [ht]; exact Nat.le_refl _, fun q _ _ => by rw [ht]⟩) (fun q hq => by cases hq) d17
theorem ra_checkIndex (h : ra_H) {i n : Int32} (h0 : ¬ i < 0) (h1 : i < n) : ra_Ev 2 mJ0_checkIndex [.int i, .int n] h none h := by
  have d0 : decode cJ0_checkIndex_df160 0 = .ok (.iload_n 0, 1) := by decide +kernel
  have d1 : decode cJ0_checkIndex_df160 1 = .ok (.iload_n 1, 1) := by decide +kernel
  have d2 : decode cJ0_checkIndex_df160 2 = .ok (.getstatic 1053, 3) := by decide +kernel
  have d5 : decode cJ0_checkIndex_df160 5 = .ok (.invokestatic 1059, 3) := by decide +kernel
  have d8 : decode cJ0_checkIndex_df160 8 = .ok (.pop, 1) := by decide +kernel
  have d9 : decode cJ0_checkIndex_df160 9 = .ok (.return_, 1) := by decide +kernel
  refine ra_ev_of (by decide) (by simp) (Nat.le_of_ble_eq_true rfl) trivial ?_
  refine ra_cmp (S' := []) (pc' := 9) (fun G p l e R s m args below meth c H locs cells slots ls Q cx x hR hS hL hcl hsl hsz k => ?_) (ra_ret_ok (r := none) d9 rfl)
  refine lv_iload_n cx.1 cx.2.1 d0 rfl (hL.at (v := .int i) rfl) ?_
  refine lv_iload_n cx.1 cx.2.1 d1 rfl (hL.at (v := .int n) rfl) ?_
  obtain ⟨q', q1, q2⟩ := ra_hasL_ok (oc := 17) (idx := 1059) (mno := 57) (own := "java/lang/String") rfl (by decide +kernel)
  cases mt_57.symm.trans q1
  have ok := ra_MT_of (by decide) mt_57
  have hcode := ra_code_in (List.mem_of_getElem? mt_57)
  simp only [ra_okM, Bool.and_eq_true, Bool.or_eq_true, decide_eq_true_eq] at ok
  obtain ⟨⟨⟨⟨⟨⟨o1, o2⟩, o3⟩, o4⟩, o5⟩, o6⟩, o7⟩ := ok
  have o1 : Cond.initialized mJ3_checkIndex.1.cls ∈ ra_tbl := ra_yes_in (o1.resolve_left (by decide))
  have fin : ∀ vv : Value, vv.category = 1 → W p l e R s m args below meth c H locs cells slots Q (F0 m 5 ls [vv, .int n, .int i]) := by
    intro vv hvv
    refine ra_back (pc := 5) (rest := []) (a := [Value.int i, .int n, vv].toArray) (G := G) (r := some (.int i)) (h' := h) (mc := h.2.1 - h.2.1) (ms := h.2.2.1 - h.2.2.1) (va_runS (cc := cJ0_checkIndex_df160) (nL := 2) (Ts := ra_tbl) (own := "java/lang/String") (n := 3) (As := [Value.int i, .int n, vv]) (rest := []) ⟨cx.1, cx.2.1, cx.2.2.1, cx.2.2.2.1, cx.2.2.2.2.1⟩ (ra_pre G l h i n vv hvv h0 h1) (va_cwS (bytes := cJ3_checkIndex_8e157) (maxL := 3) (ret := some .int) (index := 1059) 3 cx.2.2.2.2.1 ?_ rfl rfl rfl ⟨o3, o4, o5⟩ ⟨?_, ?_⟩) ⟨fun a U g mk q => q, fun U hU hW => ⟨rfl, by rw [hU]; exact hR⟩⟩ rfl rfl hL.1 rfl (lv_room (Nat.le_of_ble_eq_true rfl)) d5 ⟨by omega, by omega⟩) hS (fun H1 locs1 hR1 hS1 => ?_)
    · intro w hw
      rcases List.mem_append.mp hw with hw | hw
      · simp only [List.mem_cons, List.not_mem_nil, or_false] at hw
        rcases hw with rfl | rfl | rfl
        · exact ra_good1 q2
        · exact ra_good1 (ra_yes_in o2)
        · exact ra_good1 o1
      · exact ra_good hcode w hw
    · have := cx.2.2.2.2.2.2.1
      exact this
    · have := cx.2.2.2.2.2.2.2.1
      show 8 + (3 + 11) + 60 * 1 ≤ R.locals
      omega
    · rw [Nat.sub_self, Nat.sub_self]
      refine lv_pop cx.1 cx.2.1 d8 rfl ?_
      exact k H1 locs1 hR1 hS1
  rcases x.2.2.2.2.2 with hz | ⟨t, hz⟩
  · exact va_gets cx.1 cx.2.1 hz hS cx.2.2.2.1 (cx.2.2.2.2.1 _ ra_w_fl1053) (fun _ h9 => h9) d2 (fin _ rfl)
  · exact va_gets cx.1 cx.2.1 hz hS cx.2.2.2.1 (cx.2.2.2.2.1 _ ra_w_fl1053) (fun _ h9 => h9) d2 (fin _ rfl)
def ra_ch (j i : Nat) : Int32 := (((ra_sbyt.getD j []).getD i 0 &&& 255).toUInt32 % 65536).toInt32
set_option maxRecDepth 100000 in
theorem ra_ch_ok : ∀ j, j < 21 → ∀ i, i < 8 → narrow .char (.int (ra_ch j i)) = .int (ra_ch j i) := by decide +kernel
set_option maxRecDepth 100000 in
theorem ra_slen_lt : ∀ j, j < 21 → ra_slen.getD j 0 < 8 := by decide +kernel
theorem ra_charAt1 (h : ra_H) {v : UInt32} {i : Int32} (h3 : 100 ≤ v.toNat) (h4 : v.toNat < 121) (h0 : ¬ i < 0) (h1 : i.toNatClampNeg < ra_slen.getD (v.toNat - 100) 0) : ra_Ev 3 mJ1_charAt [.float v, .int i] h (some (.int (ra_ch (v.toNat - 100) i.toNatClampNeg))) h := by
  have d0 : decode cJ1_charAt_3b067 0 = .ok (.iload_n 1, 1) := by decide +kernel
  have d1 : decode cJ1_charAt_3b067 1 = .ok (.aload_n 0, 1) := by decide +kernel
  have d2 : decode cJ1_charAt_3b067 2 = .ok (.arraylength, 1) := by decide +kernel
  have d3 : decode cJ1_charAt_3b067 3 = .ok (.invokestatic 9, 3) := by decide +kernel
  have d6 : decode cJ1_charAt_3b067 6 = .ok (.aload_n 0, 1) := by decide +kernel
  have d7 : decode cJ1_charAt_3b067 7 = .ok (.iload_n 1, 1) := by decide +kernel
  have d8 : decode cJ1_charAt_3b067 8 = .ok (.baload, 1) := by decide +kernel
  have d9 : decode cJ1_charAt_3b067 9 = .ok (.sipush 255, 3) := by decide +kernel
  have d12 : decode cJ1_charAt_3b067 12 = .ok (.iand, 1) := by decide +kernel
  have d13 : decode cJ1_charAt_3b067 13 = .ok (.i2c, 1) := by decide +kernel
  have d14 : decode cJ1_charAt_3b067 14 = .ok (.ireturn, 1) := by decide +kernel
  have hlt := ra_slen_lt (v.toNat - 100) (by omega)
  have hin : i < Int32.ofNat (ra_slen.getD (v.toNat - 100) 0) := by
    rw [Int32.lt_iff_toInt_lt, Int32.toInt_ofNat_of_lt (by omega)]
    have h00 : ¬ i.toInt < 0 := fun z => h0 (by rw [Int32.lt_iff_toInt_lt]; exact z)
    have : i.toNatClampNeg = i.toInt.toNat := rfl
    omega
  refine ra_ev_of (by decide) (by simp) (Nat.le_of_ble_eq_true rfl) (ra_ch_ok _ (by omega) _ (by omega)) ?_
  have txt : ∀ {G : ra_G} {s : State}, ra_X G h.2.2.2 s s.heap → va_T .byte (G.2.1 v.toNat) (ra_slen.getD (v.toNat - 100) 0) (fun j => .int ((ra_sbyt.getD (v.toNat - 100) []).getD j 0)) (ra_A G) s s.heap := by
    intro G s x
    have hv := (x.2.2.2.1.1 (v.toNat - 100) (by omega)).2.2.2
    dsimp only at hv
    rw [show v.toNat - 100 + 100 = v.toNat by omega] at hv
    exact hv
  refine ra_rd (S' := [.int (Int32.ofNat (ra_slen.getD (v.toNat - 100) 0)), .int i]) (pc' := 3) (fun G p l e R s m args below meth c H locs cells slots ls Q cx x hR hS hL hcl hsl k => ?_) ?_
  · obtain ⟨cell, q1, q2, q3, q4, q5, q6, q7⟩ := (txt x).kept (ra_keptX hS)
    refine lv_iload_n cx.1 cx.2.1 d0 rfl (hL.at (v := .int i) rfl) ?_
    refine lv_aload_n cx.1 cx.2.1 d1 rfl (hL.at (v := .float v) rfl) ?_
    exact W.alen cx.1 cx.2.1 q1 q2 q5 rfl rfl d2 k
  · refine ra_call_ok (oc := 18) (n1 := 56) (n2 := 2) (n3 := 0) (av := [.int i, .int (Int32.ofNat (ra_slen.getD (v.toNat - 100) 0))]) (rest := []) (r := none) (h1 := h) rfl d3 (by decide +kernel) rfl (Nat.le_of_ble_eq_true rfl) ⟨2, _, mt_56, by decide, ra_checkIndex h h0 hin, fun h => absurd h (by decide), fun h => absurd h (by decide)⟩ ?_
    refine ra_rd (S' := [.int (ra_ch (v.toNat - 100) i.toNatClampNeg)]) (pc' := 14) (fun G p l e R s m args below meth c H locs cells slots ls Q cx x hR hS hL hcl hsl k => ?_) (ra_ret_ok d14 rfl)
    obtain ⟨cell, q1, q2, q3, q4, q5, q6, q7⟩ := (txt x).kept (ra_keptX hS)
    refine lv_aload_n cx.1 cx.2.1 d6 rfl (hL.at (v := .float v) rfl) ?_
    refine lv_iload_n cx.1 cx.2.1 d7 rfl (hL.at (v := .int i) rfl) ?_
    refine W.bald cx.1 cx.2.1 q1 q2 q3 (fun z => z.elim h0 (fun z => by omega)) (q6 _ h1) rfl rfl d8 ?_
    refine lv_sipush cx.1 cx.2.1 d9 rfl ?_
    refine lv_iand cx.1 cx.2.1 d12 ?_
    exact lv_i2c cx.1 cx.2.1 d13 rfl k
theorem ra_u32 {n : Nat} (h : n < 1000) : (UInt32.ofNat n).toNat = n := by simp [UInt32.toNat_ofNat']; omega
theorem ra_charAt (h : ra_H) {u : UInt32} {i : Int32} (h3 : 3 ≤ u.toNat) (h4 : u.toNat < 24) (h0 : ¬ i < 0) (h1 : i.toNatClampNeg < ra_slen.getD (u.toNat - 3) 0) : ra_Ev 4 mJ0_charAt [.float u, .int i] h (some (.int (ra_ch (u.toNat - 3) i.toNatClampNeg))) h := by
  have d0 : decode cJ0_charAt_5068e 0 = .ok (.aload_n 0, 1) := by decide +kernel
  have d1 : decode cJ0_charAt_5068e 1 = .ok (.invokevirtual 492, 3) := by decide +kernel
  have d4 : decode cJ0_charAt_5068e 4 = .ok (.ifCond .eq 12, 3) := by decide +kernel
  have d7 : decode cJ0_charAt_5068e 7 = .ok (.aload_n 0, 1) := by decide +kernel
  have d8 : decode cJ0_charAt_5068e 8 = .ok (.getfield 9, 3) := by decide +kernel
  have d11 : decode cJ0_charAt_5068e 11 = .ok (.iload_n 1, 1) := by decide +kernel
  have d12 : decode cJ0_charAt_5068e 12 = .ok (.invokestatic 495, 3) := by decide +kernel
  have d15 : decode cJ0_charAt_5068e 15 = .ok (.ireturn, 1) := by decide +kernel
  have hlt := ra_slen_lt (u.toNat - 3) (by omega)
  refine ra_ev_of (by decide) (by simp) (Nat.le_of_ble_eq_true rfl) (ra_ch_ok _ (by omega) _ (by omega)) ?_
  refine ra_rd (S' := [.float u]) (pc' := 1) (fun G p l e R s m args below meth c H locs cells slots ls Q cx x hR hS hL hcl hsl k => lv_aload_n cx.1 cx.2.1 d0 rfl (hL.at (v := .float u) rfl) k) ?_
  refine ra_call_ok (oc := 17) (n1 := 54) (n2 := 1) (n3 := 1) (av := [.float u]) (rest := []) (r := some (.int 1)) (h1 := h) rfl d1 (by decide +kernel) rfl (Nat.le_of_ble_eq_true rfl) ⟨1, _, mt_54, by decide, ra_isLatin1 h h3 h4, fun _ => ⟨_, _, rfl, ra_rcvS h h3 h4⟩, fun h => absurd h (by decide)⟩ ?_
  have hw : (UInt32.ofNat (u.toNat - 3 + 100)).toNat = u.toNat - 3 + 100 := ra_u32 (by omega)
  refine ra_rd (S' := [.int i, .float (UInt32.ofNat (u.toNat - 3 + 100))]) (pc' := 12) (fun G p l e R s m args below meth c H locs cells slots ls Q cx x hR hS hL hcl hsl k => ?_) ?_
  · obtain ⟨t1, t2, t3⟩ := ra_txt x h3 h4
    refine lv_if_eq cx.1 cx.2.1 d4 rfl (fun hz => absurd hz (by decide)) (fun _ => ?_)
    refine lv_aload_n cx.1 cx.2.1 d7 rfl (hL.at (v := .float u) rfl) ?_
    refine vk_getf cx.1 cx.2.1 t2 hS cx.2.2.2.1 (cx.2.2.2.2.1 _ ra_w_fl9) (fun _ h9 => h9) d8 ?_
    refine lv_iload_n cx.1 cx.2.1 d11 rfl (hL.at (v := .int i) rfl) ?_
    have e1 : ra_v G (.float (UInt32.ofNat (u.toNat - 3 + 100))) = .ref (G.2.1 (u.toNat - 3 + 100)) := by show Value.ref _ = _; rw [hw]
    rw [← e1]
    exact k
  · have hev := ra_charAt1 h (v := UInt32.ofNat (u.toNat - 3 + 100)) (i := i) (by omega) (by omega) h0 (by rw [hw, show u.toNat - 3 + 100 - 100 = u.toNat - 3 by omega]; exact h1)
    rw [hw, show u.toNat - 3 + 100 - 100 = u.toNat - 3 by omega] at hev
    exact ra_call_ok (oc := 17) (n1 := 55) (n2 := 2) (n3 := 1) (av := [.float (UInt32.ofNat (u.toNat - 3 + 100)), .int i]) (rest := []) (r := some (.int (ra_ch (u.toNat - 3) i.toNatClampNeg))) (h1 := h) rfl d12 (by decide +kernel) rfl (Nat.le_of_ble_eq_true rfl) ⟨3, _, mt_55, by decide, hev, fun h => absurd h (by decide), fun h => absurd h (by decide)⟩ (ra_ret_ok d15 rfl)
def fJ0_length_8abf5 (N : Nat) (p0 : UInt32) (h : ra_H) : Option (Int32 × ra_H) := if 3 ≤ p0.toNat ∧ p0.toNat < 24 then some (Int32.ofNat (ra_slen.getD (p0.toNat - 3) 0), h) else none
theorem fJ0_length_8abf5_co (N : Nat) (p0 : UInt32) (h : ra_H) (r : (Int32 × ra_H)) (e : fJ0_length_8abf5 N p0 h = some r) (D : Nat) (hD : 6 ≤ D) : ra_CO D 51 [.float p0] h (ra_oI r).1 (ra_oI r).2 := by
  unfold fJ0_length_8abf5 at e
  split at e
  · rename_i hp
    cases e
    exact ⟨2, _, mt_51, by omega, ra_length h hp.1 hp.2, fun _ => ⟨_, _, rfl, ra_rcvS h hp.1 hp.2⟩, fun h => absurd h (by decide)⟩
  · cases e
def fJ0_charAt_5068e (N : Nat) (p0 : UInt32) (p1 : Int32) (h : ra_H) : Option (Int32 × ra_H) := if 3 ≤ p0.toNat ∧ p0.toNat < 24 ∧ ¬ p1 < 0 ∧ p1.toNatClampNeg < ra_slen.getD (p0.toNat - 3) 0 then some (ra_ch (p0.toNat - 3) p1.toNatClampNeg, h) else none
theorem fJ0_charAt_5068e_co (N : Nat) (p0 : UInt32) (p1 : Int32) (h : ra_H) (r : (Int32 × ra_H)) (e : fJ0_charAt_5068e N p0 p1 h = some r) (D : Nat) (hD : 6 ≤ D) : ra_CO D 53 [.float p0, .int p1] h (ra_oI r).1 (ra_oI r).2 := by
  unfold fJ0_charAt_5068e at e
  split at e
  · rename_i hp
    cases e
    exact ⟨4, _, mt_53, by omega, ra_charAt h hp.1 hp.2.1 hp.2.2.1 hp.2.2.2, fun _ => ⟨_, _, rfl, ra_rcvS h hp.1 hp.2.1⟩, fun h => absurd h (by decide)⟩
  · cases e
