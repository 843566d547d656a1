/-- an instruction: pc, itself, its length, what its operands say, a switch's targets -/
abbrev ra_I : Type := Nat × Instr × Nat × Nat × Nat × Nat × Int32 × Int64 × List (Int32 × Nat)
def ra_hasF (oc idx ci j : Nat) : Bool := ra_FL.any (fun q => q.1 == oc && q.2.1 == idx && q.2.2.1 == ci && q.2.2.2.1 == j)
def ra_hasI (oc idx : Nat) (v : Int32) : Bool := ra_CI.any (fun q => q.1 == oc && q.2.1 == idx && q.2.2.1 == v)
def ra_hasJ (oc idx : Nat) (v : Int64) : Bool := ra_CL.any (fun q => q.1 == oc && q.2.1 == idx && q.2.2.1 == v)
def ra_hasK (oc idx ci : Nat) : Bool := ra_KL.any (fun q => q.1 == oc && q.2.1 == idx && q.2.2.1 == ci)
def ra_hasL (oc idx mno : Nat) : Bool := ra_ML.any (fun q => q.1 == oc && q.2.1 == idx && q.2.2.1 == mno)
/-- may a value of this kind be put there? kinds: 0 int, 1 long, 2 a reference, 4 boolean -/
def ra_kd (n3 : Nat) (ty : FieldType) : Bool := match n3, ty with
  | 0, .int => true
  | 1, .long => true
  | 2, .object _ => true
  | 2, .array _ => true
  | 4, .boolean => true
  | _, _ => false
def ra_putok (M : ra_M) (ci j n3 : Nat) : Bool := match ra_tyl[ci]?, vwCl[ci]? with
  | some ty, some (C, T, N) => ra_kd n3 (ty j) && (!(T j).2.2.2 || (decide (M.1.name = "<init>") && decide ((T j).1 = M.1.cls)))
  | _, _ => false
def ra_aty : Nat → FieldType
  | 0 => .int
  | 1 => .long
  | 2 => .boolean
  | _ => .short
def ra_cx (M : ra_M) (oc : Nat) (i : Instr) (len n1 n2 n3 : Nat) (v : Int32) (w : Int64) : Bool := match i with
  | .iconst n => len == 1 && decide (Int32.ofInt n = v)
  | .bipush n => len == 2 && decide ((Int8.ofInt n).toInt32 = v)
  | .sipush n => len == 3 && decide ((Int16.ofInt n).toInt32 = v)
  | .ldc idx => len == 2 && (match n3 with
    | 0 => ra_hasI oc idx v
    | _ => decide (M.1.cls = "RedMarks$Tape") && decide (n1 < 30) && ra_str.any (fun q => q.1 == idx && q.2.2 == n1))
  | .ldc_w idx => len == 3 && ra_hasI oc idx v
  | .ldc2_w idx => len == 3 && ra_hasJ oc idx w
  | .lconst k => len == 1 && decide (Int64.ofNat (k : Nat) = w)
  | .iload i => len == 2 && i == n1
  | .iload_n k => len == 1 && (k : Nat) == n1
  | .lload i => len == 2 && i == n1
  | .lload_n k => len == 1 && (k : Nat) == n1
  | .aload i => len == 2 && i == n1
  | .aload_n k => len == 1 && (k : Nat) == n1
  | .istore i => len == 2 && i == n1 && decide (n1 < M.2.2.1)
  | .istore_n k => len == 1 && (k : Nat) == n1 && decide (n1 < M.2.2.1)
  | .lstore i => len == 2 && i == n1 && decide (n1 + 1 < M.2.2.1)
  | .lstore_n k => len == 1 && (k : Nat) == n1 && decide (n1 + 1 < M.2.2.1)
  | .astore i => len == 2 && i == n1 && decide (n1 < M.2.2.1)
  | .astore_n k => len == 1 && (k : Nat) == n1 && decide (n1 < M.2.2.1)
  | .iinc i n => len == 3 && i == n1 && decide (n1 < M.2.2.1) && decide (Int32.ofInt n = v)
  | .getfield idx => len == 3 && ra_hasF oc idx n1 n2
  | .putfield idx => len == 3 && ra_hasF oc idx n1 n2 && ra_putok M n1 n2 n3
  | .newarray a => len == 2 && decide (n1 < 4) && decide (newarray.typeOf a = ra_aty n1)
  | .anewarray idx => len == 3 && (n1 == 4 || n1 == 5) && ra_hasK oc idx (ra_ec n1)
  | .new idx => len == 3 && decide (n1 < 13) && decide ((vwCl[n1]?).map (fun q => q.2.2) = some n2) && ra_hasK oc idx n1
  | .getstatic idx => len == 3 && decide (M.1.cls = "RedMarks") && ((idx == 395 && n1 == 1) || (idx == 398 && n1 == 2))
  | .invokestatic idx => len == 3 && (match n3 with
    | 20 => decide ((ra_MT[n1]?).map (fun q => q.1) = some (Lib.Math.max.name, Lib.Math.max.code, 2, some .int)) && ra_hasL oc idx n1
    | 21 => decide ((ra_MT[n1]?).map (fun q => q.1) = some (Lib.Math.min.name, Lib.Math.min.code, 2, some .int)) && ra_hasL oc idx n1
    | 22 => (decide (M.1.cls = "java/util/Arrays") && idx == 150) || (decide (M.1.cls = "RedMarks$Holdings") && idx == 92)
    | _ => false)
  | .invokespecial idx => len == 3 && n1 == 0 && ra_hasL oc idx 0
  | _ => len == 1
/-! what the tables say -/
theorem ra_in_tbl {w : Cond} (h : w ∈ lw_tbl) (hg : goodWord w = true) : w ∈ ra_tbl := List.mem_filter.mpr ⟨h, hg⟩
theorem ra_hasF_ok {oc idx ci j : Nat} {own : String} (hcn : ra_cn[oc]? = some own) (h : ra_hasF oc idx ci j = true) : ∃ C T N, vwCl[ci]? = some (C, T, N) ∧ j < N ∧ Cond.fieldLink own idx (T j).1 (T j).2.1 (T j).2.2.1 ∈ ra_tbl := by
  obtain ⟨q, hq, e⟩ := List.any_eq_true.mp h
  simp only [Bool.and_eq_true, beq_iff_eq] at e
  obtain ⟨⟨⟨rfl, rfl⟩, rfl⟩, rfl⟩ := e
  have h1 := List.all_eq_true.mp ra_FL_ok q hq
  unfold ra_okFL at h1
  rw [hcn] at h1
  cases hv : vwCl[q.2.2.1]? with
  | none => rw [hv] at h1; cases h1
  | some r =>
    rw [hv] at h1
    obtain ⟨C, T, N⟩ := r
    simp only [Bool.and_eq_true, decide_eq_true_eq] at h1
    exact ⟨C, T, N, rfl, h1.1, ra_yes_in h1.2⟩
theorem ra_hasI_ok {oc idx : Nat} {v : Int32} {own : String} (hcn : ra_cn[oc]? = some own) (h : ra_hasI oc idx v = true) : Cond.constant own idx v ∈ ra_tbl := by
  obtain ⟨q, hq, e⟩ := List.any_eq_true.mp h
  simp only [Bool.and_eq_true, beq_iff_eq] at e
  obtain ⟨⟨rfl, rfl⟩, rfl⟩ := e
  have h1 := List.all_eq_true.mp ra_CI_ok q hq
  unfold ra_okCI at h1
  rw [hcn] at h1
  exact ra_yes_in h1
theorem ra_hasJ_ok {oc idx : Nat} {v : Int64} {own : String} (hcn : ra_cn[oc]? = some own) (h : ra_hasJ oc idx v = true) : Cond.constantLong own idx v ∈ ra_tbl := by
  obtain ⟨q, hq, e⟩ := List.any_eq_true.mp h
  simp only [Bool.and_eq_true, beq_iff_eq] at e
  obtain ⟨⟨rfl, rfl⟩, rfl⟩ := e
  have h1 := List.all_eq_true.mp ra_CL_ok q hq
  unfold ra_okCL at h1
  rw [hcn] at h1
  exact ra_yes_in h1
theorem ra_hasK_ok {oc idx ci : Nat} {own : String} (hcn : ra_cn[oc]? = some own) (h : ra_hasK oc idx ci = true) : ∃ C, ra_cn[ci]? = some C ∧ Cond.classLink own idx C ∈ ra_tbl := by
  obtain ⟨q, hq, e⟩ := List.any_eq_true.mp h
  simp only [Bool.and_eq_true, beq_iff_eq] at e
  obtain ⟨⟨rfl, rfl⟩, rfl⟩ := e
  have h1 := List.all_eq_true.mp ra_KL_ok q hq
  unfold ra_okKL at h1
  rw [hcn] at h1
  cases hv : ra_cn[q.2.2.1]? with
  | none => rw [hv] at h1; cases h1
  | some C => rw [hv] at h1; exact ⟨C, rfl, ra_yes_in h1⟩
theorem ra_hasL_ok {oc idx mno : Nat} {own : String} (hcn : ra_cn[oc]? = some own) (h : ra_hasL oc idx mno = true) : ∃ q, ra_MT[mno]? = some q ∧ Cond.methodLink own idx q.1.1 ∈ ra_tbl := by
  obtain ⟨q, hq, e⟩ := List.any_eq_true.mp h
  simp only [Bool.and_eq_true, beq_iff_eq] at e
  obtain ⟨⟨rfl, rfl⟩, rfl⟩ := e
  have h1 := List.all_eq_true.mp ra_ML_ok q hq
  unfold ra_okML at h1
  rw [hcn] at h1
  cases hv : ra_MT[q.2.2.1]? with
  | none => rw [hv] at h1; cases h1
  | some M => rw [hv] at h1; exact ⟨M, rfl, ra_yes_in h1⟩
theorem ra_code_in {q : ra_M × Nat × Nat × ra_P × ra_P × ra_P} (h : q ∈ ra_MT) : Cond.code q.1.1 q.1.2.1 q.1.2.2.1 q.1.2.2.2 ∈ ra_tbl := by
  have h1 : Cond.code q.1.1 q.1.2.1 q.1.2.2.1 q.1.2.2.2 ∈ ra_MT.map (fun q => Cond.code q.1.1 q.1.2.1 q.1.2.2.1 q.1.2.2.2) := List.mem_map.mpr ⟨q, h, rfl⟩
  refine ra_in_tbl ?_ rfl
  generalize Cond.code q.1.1 q.1.2.1 q.1.2.2.1 q.1.2.2.2 = w at h1 ⊢
  rw [ra_cd_all, List.mem_cons] at h1
  simp only [List.mem_append, List.mem_filter] at h1
  rcases h1 with rfl | ⟨h1, -⟩ | h1 | h1 | h1 | h1 | h1 | h1 | h1 | h1
  · exact ra_pc_in 1 _ (List.mem_filter.mp (by rw [ra_cd_1_ok]; exact List.mem_of_getElem? (i := 1) rfl : _ ∈ tables_1_1.filter k2_isCode)).1
  · exact ra_pc_in 1 w (List.mem_filter.mp (by rw [ra_cd_1_ok]; exact h1 : w ∈ tables_1_1.filter k2_isCode)).1
  · exact ra_pc_in 2 w (List.mem_filter.mp (by rw [ra_cd_2_ok]; exact h1 : w ∈ tables_1_2.filter k2_isCode)).1
  · exact ra_pc_in 3 w (List.mem_filter.mp (by rw [ra_cd_3_ok]; exact h1 : w ∈ tables_1_3.filter k2_isCode)).1
  · exact ra_pc_in 4 w (List.mem_filter.mp (by rw [ra_cd_4_ok]; exact h1 : w ∈ tables_1_4.filter k2_isCode)).1
  · exact ra_pc_in 5 w (List.mem_filter.mp (by rw [ra_cd_5_ok]; exact h1 : w ∈ tables_1_5.filter k2_isCode)).1
  · exact ra_pc_in 6 w (List.mem_filter.mp (by rw [ra_cd_6_ok]; exact h1 : w ∈ tables_1_6.filter k2_isCode)).1
  · exact ra_pc_in 7 w (List.mem_filter.mp (by rw [ra_cd_7_ok]; exact h1 : w ∈ tables_1_7.filter k2_isCode)).1
  · exact ra_pc_in 8 w (List.mem_filter.mp (by rw [ra_cd_8_ok]; exact h1 : w ∈ tables_1_8.filter k2_isCode)).1
  · exact ra_pc_in 9 w (List.mem_filter.mp (by rw [ra_cd_9_ok]; exact h1 : w ∈ tables_1_9.filter k2_isCode)).1
theorem ra_cls : ∀ (ci : Nat) (C : String) (T : u_T) (N : Nat), vwCl[ci]? = some (C, T, N) → ra_cn[ci]? = some C ∧ (∀ w ∈ u_ws C T N, w ∈ ra_tbl) ∧ Cond.instantiable C N ∈ ra_tbl ∧ Cond.initialized C ∈ ra_tbl ∧
    ∃ ty, ra_tyl[ci]? = some ty ∧ (∀ k, k < N → parseFieldDescriptor (T k).2.2.1 = some (ty k)) ∧ (∀ a, a < N → ∀ b, b < N → a ≠ b → (T a).2.1 ≠ (T b).2.1) := by
  intro ci C T N h
  have hlt : ci < 13 := (List.getElem?_eq_some_iff.mp h).1
  have h1 := List.all_eq_true.mp ra_CP_ok ci (List.mem_range.mpr hlt)
  unfold ra_okC at h1
  rw [h] at h1
  cases hp : ra_CP[ci]? with
  | none => rw [hp] at h1; cases h1
  | some r =>
    obtain ⟨p1, p2, ps⟩ := r
    rw [hp] at h1
    cases hn : ra_cn[ci]? with
    | none => rw [hn] at h1; cases h1
    | some nm =>
      rw [hn] at h1
      simp only [Bool.and_eq_true, decide_eq_true_eq] at h1
      obtain ⟨⟨⟨a1, a2⟩, rfl⟩, a4⟩ := h1
      refine ⟨rfl, fun w hw => ?_, ra_yes_in a1, ra_yes_in a2, ?_⟩
      · obtain ⟨k, hk, rfl⟩ := List.mem_map.mp hw
        have := List.all_eq_true.mp a4 k hk
        cases hq : ps[k]? with
        | none => rw [hq] at this; cases this
        | some p => rw [hq] at this; exact ra_yes_in this
      · match ci, h with
        | 0, h => cases h; exact ⟨tyX0, rfl, tyX0_ok, nmX0⟩
        | 1, h => cases h; exact ⟨tyX1, rfl, tyX1_ok, nmX1⟩
        | 2, h => cases h; exact ⟨tyX2, rfl, tyX2_ok, nmX2⟩
        | 3, h => cases h; exact ⟨tyX3, rfl, tyX3_ok, nmX3⟩
        | 4, h => cases h; exact ⟨tyX4, rfl, tyX4_ok, nmX4⟩
        | 5, h => cases h; exact ⟨tyX5, rfl, tyX5_ok, nmX5⟩
        | 6, h => cases h; exact ⟨tyX6, rfl, tyX6_ok, nmX6⟩
        | 7, h => cases h; exact ⟨tyX7, rfl, tyX7_ok, nmX7⟩
        | 8, h => cases h; exact ⟨tyX8, rfl, tyX8_ok, nmX8⟩
        | 9, h => cases h; exact ⟨tyX9, rfl, tyX9_ok, nmX9⟩
        | 10, h => cases h; exact ⟨tyX10, rfl, tyX10_ok, nmX10⟩
        | 11, h => cases h; exact ⟨tyX11, rfl, tyX11_ok, nmX11⟩
        | 12, h => cases h; exact ⟨tyX12, rfl, tyX12_ok, nmX12⟩
        | n + 13, h => cases h
theorem ra_cls_df : ∀ (ci : Nat) (C : String) (T : u_T) (N : Nat) (ty : Nat → FieldType), vwCl[ci]? = some (C, T, N) → ra_tyl[ci]? = some ty → (∀ j, j < N → defaultValue (ty j) = vp_V (ra_df ci) j) ∧ ∀ G : ra_G, (ra_df ci).map (ra_v G) = ra_df ci := by
  intro ci C T N ty h ht
  match ci, h, ht with
  | 0, h, ht => cases h; cases ht; exact ⟨by decide +kernel, fun _ => rfl⟩
  | 1, h, ht => cases h; cases ht; exact ⟨by decide +kernel, fun _ => rfl⟩
  | 2, h, ht => cases h; cases ht; exact ⟨by decide +kernel, fun _ => rfl⟩
  | 3, h, ht => cases h; cases ht; exact ⟨by decide +kernel, fun _ => rfl⟩
  | 4, h, ht => cases h; cases ht; exact ⟨by decide +kernel, fun _ => rfl⟩
  | 5, h, ht => cases h; cases ht; exact ⟨by decide +kernel, fun _ => rfl⟩
  | 6, h, ht => cases h; cases ht; exact ⟨by decide +kernel, fun _ => rfl⟩
  | 7, h, ht => cases h; cases ht; exact ⟨by decide +kernel, fun _ => rfl⟩
  | 8, h, ht => cases h; cases ht; exact ⟨by decide +kernel, fun _ => rfl⟩
  | 9, h, ht => cases h; cases ht; exact ⟨by decide +kernel, fun _ => rfl⟩
  | 10, h, ht => cases h; cases ht; exact ⟨by decide +kernel, fun _ => rfl⟩
  | 11, h, ht => cases h; cases ht; exact ⟨by decide +kernel, fun _ => rfl⟩
  | 12, h, ht => cases h; cases ht; exact ⟨by decide +kernel, fun _ => rfl⟩
  | n + 13, h, ht => cases h
