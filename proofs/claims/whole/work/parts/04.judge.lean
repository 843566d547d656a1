/-! what is known of the machine at a method's start -/
def ra_nw : List (String × Nat × MethodName) := [("RedMarks", 22, yX8_init), ("RedMarks", 29, yX0_init), ("RedMarks$Histories", 33, yX7_init), ("RedMarks$Matches", 11, yX10_init), ("RedMarks$Histories", 89, yX11_isShelf), ("RedMarks$Holdings", 113, yX11_apart)]
def ra_str : List (Nat × String × Nat) := (ra_SL.zipIdx).map (fun q => (q.1.1, q.1.2.1, q.2 + 3))
def ra_K (G : ra_G) (U : State) : Prop := va_K G.2.2.2 vwCl (ra_tys G) U ∧ (∀ q ∈ ra_nw, va_Nw (.methodLinkNest q.1 q.2.1 q.2.2 "RedMarks") U) ∧ (va_AO "RedMarks$Scheme" U ∧ va_AO "RedMarks$Holdings" U ∧ va_Nw (.castable "[I" "java/lang/Cloneable") U) ∧ ∀ q ∈ ra_str, vk_R "RedMarks$Tape" q.1 q.2.1 (G.2.1 q.2.2) U
theorem ra_K.warm {G : ra_G} {s U : State} (hW : s.WarmedH U.vm) (h : ra_K G s) : ra_K G U :=
  ⟨h.1.moved hW.alike, fun q hq => (h.2.1 q hq).warmM hW, ⟨h.2.2.1.1.moved hW.alike, h.2.2.1.2.1.moved hW.alike, h.2.2.1.2.2.warmC hW⟩, fun q hq => (h.2.2.2 q hq).warm hW⟩
theorem ra_K.same {G : ra_G} {s U : State} (hv : U.vm = s.vm) (h : ra_K G s) : ra_K G U :=
  ⟨h.1.moved (by rw [hv]; exact Vm.Alike.refl _), fun q hq => (h.2.1 q hq).same rfl hv.symm, ⟨h.2.2.1.1.moved (by rw [hv]; exact Vm.Alike.refl _), h.2.2.1.2.1.moved (by rw [hv]; exact Vm.Alike.refl _), h.2.2.1.2.2.same rfl hv.symm⟩, fun q hq => (h.2.2.2 q hq).same hv⟩
/-- the texts' lengths and letters -/
def ra_slen : List Nat := ra_SL.map (fun q => q.2.1.length)
def ra_sbyt : List (List Int32) := ra_SL.map (fun q => q.2.1.toList.map (fun c => Int32.ofNat c.toNat))
def ra_X (G : ra_G) (ex : ra_EX) (U : State) (H : Heap) : Prop :=
  (∀ j, j < 3 → va_T .int (G.2.1 j) (ex j).1 (fun i => .int ((ex j).2 i)) (ra_A G) U H) ∧ va_Z "RedMarks" "LEAST" "[I" (.ref (G.2.1 1)) (ra_A G) U H ∧ va_Z "RedMarks" "MOST" "[I" (.ref (G.2.1 2)) (ra_A G) U H ∧
  vk_S 21 ra_slen ra_sbyt (fun i => G.2.1 (i + 3)) (fun i => G.2.1 (i + 100)) (ra_A G) U H ∧ va_Z "java/lang/String" "COMPACT_STRINGS" "Z" (.int 1) (ra_A G) U H ∧ va_Zq "jdk/internal/util/Preconditions" "SIOOBE_FORMATTER" "Ljava/util/function/BiFunction;" (ra_A G) U H
theorem ra_X.moved {G : ra_G} {ex : ra_EX} {u U : State} {H : Heap} (hvm : u.vm.Alike U.vm) (h : ra_X G ex u H) : ra_X G ex U H := by
  obtain ⟨h1, h2, h3, h4, h5, h6⟩ := h
  exact ⟨fun j hj => (h1 j hj).moved hvm, h2.moved hvm, h3.moved hvm, h4.moved hvm, h5.moved hvm, h6.moved hvm⟩
theorem ra_X.kept {G : ra_G} {ex : ra_EX} {U : State} {H H1 : Heap} (h : ra_X G ex U H) (hq : ∀ a : Nat, a < H.size → ¬ ra_A G a → H1[a]? = H[a]?) : ra_X G ex U H1 := by
  obtain ⟨h1, h2, h3, h4, h5, h6⟩ := h
  exact ⟨fun j hj => (h1 j hj).kept hq, h2.kept hq, h3.kept hq, h4.kept hq, h5.kept hq, h6.kept hq⟩
def ra_ws (M : ra_M) : List Cond := .code M.1 M.2.1 M.2.2.1 M.2.2.2 :: ra_tbl
def ra_Cx (M : ra_M) (d : Nat) (G : ra_G) (p : Program) (R : Room) (s : State) (m : MethodId) (args : Array Value) (meth : Method) (c : Code) : Prop :=
  p.tables.exec = Jvm.exec ∧ c.code = M.2.1 ∧ c.maxLocals = M.2.2.1 ∧ s.vm.findClass M.1.cls = some m.cls ∧ (∀ w ∈ ra_tbl, w.before args s = true) ∧ (M.1.name = "<init>" → meth.name = "<init>") ∧ d ≤ R.frames ∧ 60 * d ≤ R.locals ∧ ra_K G s ∧ G.1 ≤ s.heap.size
def ra_isret (i : Instr) (v : Option Value) : Bool := match i, v with
  | .ireturn, some (.int _) => true
  | .lreturn, some (.long _) => true
  | .areturn, some (.ref _) => true
  | .areturn, some .null => true
  | .areturn, some (.float _) => true
  | .return_, none => true
  | _, _ => false
/-- from pc on, with these locals and this stack, in this heap, the method comes to its end with this outcome -/
def ra_Ru (d : Nat) (M : ra_M) (pc : Nat) (L : List (Option Value)) (S : List Value) (h : ra_H) (o : Option Value × ra_H) : Prop :=
  (h.2.1 ≤ o.2.2.1 ∧ h.2.2.1 ≤ o.2.2.2.1 ∧ o.2.2.2.2 = h.2.2.2) ∧
  ∀ (G : ra_G) (p : Program) (l : Launch) (e : Env) (R : Room) (s : State) (m : MethodId) (args : Array Value) (below : List Frame) (meth : Method) (c : Code) (H : Heap) (locs : List Loc) (cells slots : Nat) (ls : Array Slot) (Q : State → Prop),
    ra_Cx M d G p R s m args meth c → ra_X G h.2.2.2 s s.heap → ra_Rep G h H → va_S (ra_A G) s.heap H locs → ra_L G ls M.2.2.1 L → s.heap.size + cells = G.1 + h.2.1 → cells + o.2.2.1 ≤ R.cells + h.2.1 → slots + o.2.2.2.1 ≤ R.slots + h.2.2.1 →
    (∀ (pc' : Nat) (ls' : Array Slot) (i : Instr) (H' : Heap) (locs' : List Loc), decode M.2.1 pc' = .ok (i, 1) → ra_isret i o.1 = true → ra_Rep G o.2 H' → va_S (ra_A G) s.heap H' locs' → W p l e R s m args below meth c H' locs' (cells + (o.2.2.1 - h.2.1)) (slots + (o.2.2.2.1 - h.2.2.1)) Q (F0 m pc' ls' (o.1.toList.map (ra_v G)))) →
    W p l e R s m args below meth c H locs cells slots Q (F0 m pc ls (S.map (ra_v G)))
theorem ra_sz {p : Program} {l : Launch} {e : Env} {R : Room} {s : State} {m : MethodId} {args : Array Value} {below : List Frame} {meth : Method} {c : Code} {H : Heap} {locs : List Loc} {cells slots : Nat} {Q : State → Prop} {g : JFrame} (k : H.size ≤ s.heap.size + cells → W p l e R s m args below meth c H locs cells slots Q g) : W p l e R s m args below meth c H locs cells slots Q g := by
  intro T hT X
  exact k (by have := X.same.2.2.1; rw [← hT]; exact this) T hT X
section
variable {d : Nat} {M : ra_M} {pc pc' : Nat} {L L' : List (Option Value)} {S S' : List Value} {h : ra_H} {o : Option Value × ra_H}
/-- a step that leaves the heap and the locals -/
theorem ra_pure (hstep : ∀ (G : ra_G) (p : Program) (l : Launch) (e : Env) (R : Room) (s : State) (m : MethodId) (args : Array Value) (below : List Frame) (meth : Method) (c : Code) (H : Heap) (locs : List Loc) (cells slots : Nat) (ls : Array Slot) (Q : State → Prop),
    ra_Cx M d G p R s m args meth c → ra_L G ls M.2.2.1 L → cells ≤ R.cells → slots ≤ R.slots → W p l e R s m args below meth c H locs cells slots Q (F0 m pc' ls (S'.map (ra_v G))) → W p l e R s m args below meth c H locs cells slots Q (F0 m pc ls (S.map (ra_v G))))
    (k : ra_Ru d M pc' L S' h o) : ra_Ru d M pc L S h o :=
  ⟨k.1, fun G p l e R s m args below meth c H locs cells slots ls Q cx x hR hS hL hz hc hs fin => hstep G p l e R s m args below meth c H locs cells slots ls Q cx hL (by have := k.1.1; omega) (by have := k.1.2.1; omega) (k.2 G p l e R s m args below meth c H locs cells slots ls Q cx x hR hS hL hz hc hs fin)⟩
theorem ra_iadd {x y : Int32} (hd : decode M.2.1 pc = .ok (.iadd, 1)) (k : ra_Ru d M (pc + 1) L (.int (x + y) :: S) h o) : ra_Ru d M pc L (.int y :: .int x :: S) h o :=
  ra_pure (fun G p l e R s m args below meth c H locs cells slots ls Q cx hL _ _ k => lv_iadd cx.1 cx.2.1 hd k) k
end
