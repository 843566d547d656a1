def ra_ex0 (L : Nat) (xs : Nat → Int32) : ra_EX := fun j => match j with
  | 0 => (L, xs)
  | 1 => (12, fun i => ([0, 1, 0, 1, 1, 0, 0, 0, 0, 0, 0, 0] : List Int32).getD i 0)
  | 2 => (12, fun i => ([8, 99, 199, 30, 40, 2, 40, 9, 9, 999, 7, 11] : List Int32).getD i 0)
  | _ => (0, fun _ => 0)
def ra_h0 (L : Nat) (xs : Nat → Int32) : ra_H := (fun _ => ra_junk, 0, 0, ra_ex0 L xs)
def ra_flat : List Cond := flatC (Jvm.Cond.and given_1 narrow_1)
def ra_tm (i : Nat) : Term := .string "RedMarks$Tape" ((ra_SL.map (fun q => q.1)).getD i 0)
def ra_sc (i : Nat) : List Cond := [.exactly (ra_tm i) "java/lang/String", .eq (.field (ra_tm i) "java/lang/String" "coder" "B") (.int 0), .arrayOf (.field (ra_tm i) "java/lang/String" "value" "[B") .byte, .eq (.length (.field (ra_tm i) "java/lang/String" "value" "[B")) (.int (Int32.ofNat (ra_slen.getD i 0)))]
def ra_sel (i j : Nat) : Cond := .eq (.elem (.field (ra_tm i) "java/lang/String" "value" "[B") (.int (Int32.ofNat j))) (.int ((ra_sbyt.getD i []).getD j 0))
set_option maxRecDepth 100000 in
theorem ra_sc_in : ∀ i, i < 21 → ∀ c ∈ ra_sc i, c ∈ ra_flat := by decide +kernel
set_option maxRecDepth 100000 in
theorem ra_sel_in : ∀ i, i < 21 → ∀ j, j < ra_slen.getD i 0 → ra_sel i j ∈ ra_flat := by decide +kernel
def ra_ne (c : Cond) : Option (Nat × Nat) := match c with
  | .not (.eq (.string o a) (.string o' b)) => (match decide (o = "RedMarks$Tape"), decide (o' = "RedMarks$Tape") with
    | true, true => some (a, b)
    | _, _ => none)
  | _ => none
theorem ra_ne_of {c : Cond} {a b : Nat} (h : ra_ne c = some (a, b)) : c = .not (.eq (.string "RedMarks$Tape" a) (.string "RedMarks$Tape" b)) := by
  unfold ra_ne at h
  split at h
  · split at h
    · rename_i h1 h2
      cases h
      simp only [decide_eq_true_eq] at h1 h2
      rw [h1, h2]
    · cases h
  · cases h
def ra_nel : List (Nat × Nat) := ra_flat.filterMap ra_ne
def ra_ks : List Nat := ra_SL.map (fun q => q.1)
set_option maxRecDepth 100000 in
theorem ra_nel_all : (List.range 21).all (fun i => (List.range i).all (fun j => ra_nel.any (fun q => (q.1 == ra_ks.getD i 0 && q.2 == ra_ks.getD j 0) || (q.1 == ra_ks.getD j 0 && q.2 == ra_ks.getD i 0)))) = true := by decide +kernel
theorem ra_sne_in : ∀ i, i < 21 → ∀ j, j < i → (Cond.not (.eq (ra_tm i) (ra_tm j)) ∈ ra_flat ∨ Cond.not (.eq (ra_tm j) (ra_tm i)) ∈ ra_flat) := by
  intro i hi j hj
  have h1 := List.all_eq_true.mp (List.all_eq_true.mp ra_nel_all i (List.mem_range.mpr hi)) j (List.mem_range.mpr hj)
  obtain ⟨⟨a, b⟩, hq, e⟩ := List.any_eq_true.mp h1
  obtain ⟨c, hc, hn⟩ := List.mem_filterMap.mp hq
  have hcc := ra_ne_of hn
  simp only [Bool.or_eq_true, Bool.and_eq_true, beq_iff_eq] at e
  rcases e with ⟨e1, e2⟩ | ⟨e1, e2⟩
  · left
    subst e1; subst e2
    rw [hcc] at hc
    exact hc
  · right
    subst e1; subst e2
    rw [hcc] at hc
    exact hc
def ra_stc (n : String) (e : Nat) : List Cond := [.arrayOf (.static "RedMarks" n "[I") .int, .eq (.length (.static "RedMarks" n "[I")) (.int (Int32.ofNat 12))] ++ (List.range 12).map (fun j => .eq (.elem (.static "RedMarks" n "[I") (.int (Int32.ofNat j))) (.int ((ra_ex0 0 (fun _ => 0) e).2 j)))
set_option maxRecDepth 100000 in
theorem ra_least_in : ∀ c ∈ ra_stc "LEAST" 1, c ∈ ra_flat := by decide +kernel
set_option maxRecDepth 100000 in
theorem ra_most_in : ∀ c ∈ ra_stc "MOST" 2, c ∈ ra_flat := by decide +kernel
set_option maxRecDepth 100000 in
theorem ra_stat_in : ∀ c ∈ ([.eq (.static "java/lang/String" "COMPACT_STRINGS" "Z") (.int 1), .isRef (.static "jdk/internal/util/Preconditions" "SIOOBE_FORMATTER" "Ljava/util/function/BiFunction;")] : List Cond), c ∈ ra_flat := by decide +kernel
set_option maxRecDepth 100000 in
theorem ra_lay_in : ∀ c ∈ ([.laysStatic "RedMarks" "LEAST" "[I", .laysStatic "RedMarks" "MOST" "[I", .laysStatic "java/lang/String" "COMPACT_STRINGS" "Z", .laysStatic "jdk/internal/util/Preconditions" "SIOOBE_FORMATTER" "Ljava/util/function/BiFunction;", .initialized "RedMarks", .initialized "java/lang/String", .initialized "jdk/internal/util/Preconditions", .arrayOver (.object "RedMarks$Scheme"), .arrayOver (.object "RedMarks$Holdings"), .castable "[I" "java/lang/Cloneable", .arrayClass .int, .arrayClass .long, .arrayClass .boolean, .arrayClass .short] : List Cond), c ∈ lw_tbl := by decide +kernel
set_option maxRecDepth 100000 in
theorem ra_nw_in : ∀ q ∈ ra_nw, Cond.methodLinkNest q.1 q.2.1 q.2.2 "RedMarks" ∈ lw_tbl := by decide +kernel
set_option maxRecDepth 100000 in
theorem ra_str_in : ∀ i, i < 21 → Cond.stringRef "RedMarks$Tape" ((ra_SL.map (fun q => q.1)).getD i 0) ((ra_SL.map (fun q => q.2.1)).getD i "") ∈ lw_tbl := by decide +kernel
set_option maxRecDepth 100000 in
theorem ra_str_all : ∀ q ∈ ra_str, ∃ i, i < 21 ∧ q = ((ra_SL.map (fun q => q.1)).getD i 0, (ra_SL.map (fun q => q.2.1)).getD i "", i + 3) := by
  intro q hq
  have h : ra_str = (List.range 21).map (fun i => ((ra_SL.map (fun q => q.1)).getD i 0, (ra_SL.map (fun q => q.2.1)).getD i "", i + 3)) := by decide +kernel
  rw [h] at hq
  obtain ⟨i, hi, rfl⟩ := List.mem_map.mp hq
  exact ⟨i, List.mem_range.mp hi, rfl⟩
theorem ra_known {args : Array Value} {s : State} (hts : ∀ w ∈ lw_tbl, w.before args s = true) : ∃ D : va_G, ∀ (c : Nat) (q : vw_C), vwCl[c]? = some q → u_Kn s q.1 q.2.1 q.2.2 (D.1 c) (D.2 c) := by
  have h : ∀ c : Nat, ∃ z : ClassId × (Nat → Nat), ∀ q : vw_C, vwCl[c]? = some q → u_Kn s q.1 q.2.1 q.2.2 z.1 z.2 := by
    intro c
    cases hc : vwCl[c]? with
    | none => exact ⟨(0, fun _ => 0), fun q hq => by cases hq⟩
    | some q =>
      obtain ⟨C, T, N⟩ := q
      obtain ⟨-, h1, h2, -⟩ := ra_cls _ _ _ _ hc
      obtain ⟨cC, iS, hk⟩ := u_known (ws := ra_tbl) (T := T) (N := N) (fun w hw => hts w (List.mem_filter.mp hw).1) h1 (hts _ (List.mem_filter.mp h2).1)
      exact ⟨(cC, iS), fun q hq => by cases hq; exact hk⟩
  exact ⟨(fun c => (Classical.choose (h c)).1, fun c => (Classical.choose (h c)).2), fun c q hq => Classical.choose_spec (h c) q hq⟩
theorem ra_arrs {args : Array Value} {s : State} (hts : ∀ w ∈ lw_tbl, w.before args s = true) : ∃ tc : Nat → ClassId, ∀ (k : Nat) (q : ClassId × FieldType), (ra_tys (0, fun _ => 0, tc, (fun _ => 0, fun _ _ => 0)))[k]? = some q → ArrOfT s q.1 q.2 ∧ va_RA s q.1 q.2 := by
  have prim : ∀ ty : FieldType, Cond.arrayClass ty ∈ lw_tbl → (∀ cA, va_RA s cA ty = (s.vm.findClass ("[" ++ ty.toString) = some cA)) → ∃ cA, ArrOfT s cA ty ∧ va_RA s cA ty := by
    intro ty hin hra
    obtain ⟨c, k, comp, h1, h2, h3⟩ := Cond.arrayClass_spec (hts _ hin)
    exact ⟨c, fun n z => ⟨fun k h => (by cases h), k, h2, comp, h3⟩, by rw [hra]; exact h1⟩
  have obj : ∀ C : String, Cond.arrayOver (.object C) ∈ lw_tbl → ∃ cA, ArrOfT s cA (.object C) ∧ va_RA s cA (.object C) := by
    intro C hin
    obtain ⟨comp, c, k, h1, -, h2, h3, h4⟩ := Cond.arrayOver_spec (hts _ hin)
    exact ⟨c, fun n z => ⟨fun k h => (by cases h), k, h2, comp, h3⟩, k, comp, h2, h3, h1, h4⟩
  obtain ⟨c0, p0⟩ := prim .int (ra_lay_in _ (by simp)) (fun _ => rfl)
  obtain ⟨c1, p1⟩ := prim .long (ra_lay_in _ (by simp)) (fun _ => rfl)
  obtain ⟨c2, p2⟩ := prim .boolean (ra_lay_in _ (by simp)) (fun _ => rfl)
  obtain ⟨c3, p3⟩ := prim .short (ra_lay_in _ (by simp)) (fun _ => rfl)
  obtain ⟨c4, p4⟩ := obj "RedMarks$Scheme" (ra_lay_in _ (by simp))
  obtain ⟨c5, p5⟩ := obj "RedMarks$Holdings" (ra_lay_in _ (by simp))
  refine ⟨fun t => match t with
    | 0 => c0
    | 1 => c1
    | 2 => c2
    | 3 => c3
    | 4 => c4
    | _ => c5, ?_⟩
  intro k q hq
  match k, hq with
  | 0, hq => cases hq; exact p0
  | 1, hq => cases hq; exact p1
  | 2, hq => cases hq; exact p2
  | 3, hq => cases hq; exact p3
  | 4, hq => cases hq; exact p4
  | 5, hq => cases hq; exact p5
  | n + 6, hq => cases hq
set_option maxHeartbeats 2000000 in
theorem whole_start_open {p : Program} {e : Env} {s : State} {m : MethodId} {below : List Frame} {meth : Method} {c : Code} (l : Launch) {b L : Nat} {xs : Nat → Int32} (hL : L ≤ 3072) (C0 : lw_At p s m meth c b L xs)
    (hpure : ∃ N h', nL_law_0 N 0 (ra_h0 L xs) = some (1, h') ∧ h'.2.1 ≤ 600000 ∧ h'.2.2.1 ≤ 7302250) : W p l e room_1 s m #[Value.ref b] below meth c s.heap [] 0 0 (lw_Z below #[Value.ref b] s) (entryFrame m ([Value.ref b] : List Value).toArray 4) := by
  obtain ⟨N, h', hlaw, hcells, hslots⟩ := hpure
  obtain ⟨hx, hb, hrr, hml, hown, hts, hX, hbl, hlk, hgv⟩ := C0
  have nar := flat_of_before _ hgv
  have hA : ∀ a : Nat, a < s.heap.size → ¬ s.heap.size ≤ a := fun a h => Nat.not_le.mpr h
  obtain ⟨D, hD⟩ := ra_known hts
  obtain ⟨tc, htc⟩ := ra_arrs hts
  have lay : ∀ c ∈ ([.laysStatic "RedMarks" "LEAST" "[I", .laysStatic "RedMarks" "MOST" "[I", .laysStatic "java/lang/String" "COMPACT_STRINGS" "Z", .laysStatic "jdk/internal/util/Preconditions" "SIOOBE_FORMATTER" "Ljava/util/function/BiFunction;", .initialized "RedMarks", .initialized "java/lang/String", .initialized "jdk/internal/util/Preconditions", .arrayOver (.object "RedMarks$Scheme"), .arrayOver (.object "RedMarks$Holdings"), .castable "[I" "java/lang/Cloneable", .arrayClass .int, .arrayClass .long, .arrayClass .boolean, .arrayClass .short] : List Cond), c.before #[Value.ref b] s = true := fun c hc => hts c (ra_lay_in c hc)
  have stat : ∀ (n : String) (j : Nat), (∀ c ∈ ra_stc n j, c ∈ ra_flat) → (j = 1 ∨ j = 2) → ∃ t : Nat, (Term.static "RedMarks" n "[I").eval #[Value.ref b] s none [] s = some (.ref t) ∧ va_T .int t (ra_ex0 L xs j).1 (fun i => .int ((ra_ex0 L xs j).2 i)) (fun q => s.heap.size ≤ q) s s.heap := by
    intro n j hin hj
    have e1 : (ra_ex0 L xs j) = (12, (ra_ex0 0 (fun _ => 0) j).2) := by rcases hj with rfl | rfl <;> rfl
    rw [e1]
    refine va_Tof (by show 12 < 2 ^ 31; decide) (nar _ (hin _ (by simp [ra_stc]))) (va_eqt (nar _ (hin _ (by simp [ra_stc])))) (fun i hi => va_eqt (nar _ (hin _ ?_))) hA
    refine List.mem_append_right _ (List.mem_map.mpr ⟨i, List.mem_range.mpr hi, rfl⟩)
  obtain ⟨t1, ht1, hT1⟩ := stat "LEAST" 1 ra_least_in (Or.inl rfl)
  obtain ⟨t2, ht2, hT2⟩ := stat "MOST" 2 ra_most_in (Or.inr rfl)
  obtain ⟨adK, adV, hvk, hev⟩ := vk_Sof (args := #[Value.ref b]) (s := s) (N := 21) (tm := ra_tm) (len := ra_slen) (byt := ra_sbyt) (A := fun q => s.heap.size ≤ q) (fun i hi => Nat.lt_trans (ra_slen_lt i hi) (by decide)) (fun i hi => nar _ (ra_sc_in i hi _ (by simp [ra_sc]))) (fun i hi => nar _ (ra_sc_in i hi _ (by simp [ra_sc]))) (fun i hi => nar _ (ra_sc_in i hi _ (by simp [ra_sc]))) (fun i hi => nar _ (ra_sc_in i hi _ (by simp [ra_sc]))) (fun i hi j hj => nar _ (ra_sel_in i hi j hj)) (fun i j hi hj hij => by
    rcases Nat.lt_or_gt_of_ne hij with z | z
    · exact (ra_sne_in j hj i z).symm.imp (nar _) (nar _)
    · exact (ra_sne_in i hi j z).imp (nar _) (nar _)) hA
  let G : ra_G := (s.heap.size, fun j => if j = 0 then b else if j = 1 then t1 else if j = 2 then t2 else if j < 100 then adK (j - 3) else adV (j - 100), tc, D)
  have hK : ra_K G s := by
    refine ⟨⟨hD, htc⟩, fun q hq => va_Nw.of rfl (hts _ (ra_nw_in q hq)), ⟨va_AO.of (lay _ (by simp)), va_AO.of (lay _ (by simp)), va_Nw.of rfl (lay _ (by simp))⟩, fun q hq => ?_⟩
    obtain ⟨i, hi, rfl⟩ := ra_str_all q hq
    have e1 : G.2.1 (i + 3) = adK i := by
      show (if i + 3 = 0 then b else if i + 3 = 1 then t1 else if i + 3 = 2 then t2 else if i + 3 < 100 then adK (i + 3 - 3) else adV (i + 3 - 100)) = adK i
      rw [if_neg (by omega), if_neg (by omega), if_neg (by omega), if_pos (by omega), Nat.add_sub_cancel]
    dsimp only
    rw [e1]
    exact vk_R.of (hts _ (ra_str_in i hi)) (hev i hi)
  have hXX : ra_X G (ra_h0 L xs).2.2.2 s s.heap := by
    refine ⟨fun j hj => ?_, ?_, ?_, ?_, ?_, ?_⟩
    · match j, hj with
      | 0, _ =>
        obtain ⟨scr, q1, q2, q3, q4, q5⟩ := hX
        exact ⟨scr, q1, q2, q3, by show L ≤ _; omega, by rw [q4]; rfl, q5, fun z => by have : s.heap.size ≤ b := z; omega⟩
      | 1, _ => exact hT1
      | 2, _ => exact hT2
    · exact va_Zof (lay _ (by simp)) (lay _ (by simp)) ht1 hA
    · exact va_Zof (lay _ (by simp)) (lay _ (by simp)) ht2 hA
    · have e3 : ∀ i, i < 21 → G.2.1 (i + 3) = adK i := by
        intro i hi
        show (if i + 3 = 0 then b else if i + 3 = 1 then t1 else if i + 3 = 2 then t2 else if i + 3 < 100 then adK (i + 3 - 3) else adV (i + 3 - 100)) = adK i
        rw [if_neg (by omega), if_neg (by omega), if_neg (by omega), if_pos (by omega), Nat.add_sub_cancel]
      have e4 : ∀ i, i < 21 → G.2.1 (i + 100) = adV i := by
        intro i hi
        show (if i + 100 = 0 then b else if i + 100 = 1 then t1 else if i + 100 = 2 then t2 else if i + 100 < 100 then adK (i + 100 - 3) else adV (i + 100 - 100)) = adV i
        rw [if_neg (by omega), if_neg (by omega), if_neg (by omega), if_neg (by omega), Nat.add_sub_cancel]
      refine ⟨fun i hi => ?_, fun i j hi hj hij => ?_⟩
      · dsimp only
        rw [e3 i hi, e4 i hi]
        exact hvk.1 i hi
      · dsimp only at hij
        rw [e3 i hi, e3 j hj] at hij
        exact hvk.2 i j hi hj hij
    · exact va_Zof (lay _ (by simp)) (lay _ (by simp)) (va_eqi (nar _ (ra_stat_in _ (by simp)))) hA
    · exact va_Zqof (lay _ (by simp)) (lay _ (by simp)) (nar _ (ra_stat_in _ (by simp))) hA
  have hl := lv_entry [Value.ref b] (n := 4) (Nat.le_of_ble_eq_true rfl)
  rw [lg_entry_eq]
  generalize (lg_sl [Value.ref b] ++ List.replicate (4 - (lg_sl [Value.ref b]).length) Slot.unset).toArray = ls at hl ⊢
  have hLL : ra_L G ls 4 [some (.float 0), none, none, none] := ⟨hl.1, hl.2.1, fun q hq => hl.2.2 q (by
    simp only [ra_pr, List.mem_cons, List.not_mem_nil, or_false] at hq
    rw [hq]
    exact List.mem_cons_self)⟩
  have run := nL_law_0_ok N 0 (ra_h0 L xs) (1, h') hlaw
  have m1 := run.1
  refine run.2 G p l e room_1 s m #[Value.ref b] below meth c s.heap [] 0 0 ls _ ⟨hx, hb, hml, hown, fun w hw => hts w (List.mem_filter.mp hw).1, fun z => absurd z (by decide), by decide, by decide, hK, Nat.le_refl _⟩ hXX ⟨fun k q hq => by obtain ⟨hk, -⟩ := ra_w_of G hq; exact absurd hk (Nat.not_lt_zero _), fun k _ => rfl⟩ va_S.rf hLL rfl (by show 0 + h'.2.1 ≤ 600000 + 0; omega) (by show 0 + h'.2.2.1 ≤ 7302250 + 0; omega) ?_
  intro pc' ls' i H' locs' hdec hi hR' hS'
  have hi2 : i = .ireturn := by
    cases i <;> simp [ra_isret, ra_oI] at hi
    rfl
  subst hi2
  refine va_forget (fun q hq => hS'.2.2 q hq) ?_
  refine W.widen (k := 600000) (n := 7302250) (by show 0 + (h'.2.1 - 0) ≤ _; omega) (by show 0 + (h'.2.2.1 - 0) ≤ _; omega) ?_
  exact lw_ret hx hb hrr hlk hdec
