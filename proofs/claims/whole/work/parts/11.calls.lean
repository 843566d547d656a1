def ra_Pc (G : ra_G) (av : List Value) (h : ra_H) : Array Value → State → Prop := fun v U => v = (av.map (ra_v G)).toArray ∧ U.heap.size = G.1 + h.2.1 ∧ ra_Rep G h U.heap ∧ ra_K G U ∧ ra_X G h.2.2.2 U U.heap
def ra_Qc (G : ra_G) (r : Option Value) (h' : ra_H) : Array Value → State → Outcome → State → Prop := fun _ st oc t => oc = .returned (r.map (ra_v G)) ∧ ra_Rep G h' t.heap ∧ va_F (ra_A G) st t
def ra_rm (d : Nat) (h h' : ra_H) : Room := { frames := d, cells := h'.2.1 - h.2.1, slots := h'.2.2.1 - h.2.2.1, locals := 60 * d }
/-- the method, called with these values in this heap, ends with this answer and this heap; at most d frames deep -/
def ra_Ev (d : Nat) (M : ra_M) (av : List Value) (h : ra_H) (r : Option Value) (h' : ra_H) : Prop :=
  (h.2.1 ≤ h'.2.1 ∧ h.2.2.1 ≤ h'.2.2.1 ∧ h'.2.2.2 = h.2.2.2) ∧ ∀ (G : ra_G) (l : Launch), Met l M.1 (ra_ws M) (ra_rm d h h') (ra_Pc G av h) (ra_Qc G r h') (h'.2.1 - h.2.1) (h'.2.2.1 - h.2.2.1) (ra_A G)
def ra_rok (ret : Option FieldType) (r : Option Value) : Prop := match ret, r with
  | some .int, some (.int _) => True
  | some .boolean, some (.int v) => v = 0 ∨ v = 1
  | some .char, some (.int v) => narrow .char (.int v) = .int v
  | some .byte, some (.int v) => narrow .byte (.int v) = .int v
  | some .long, some (.long _) => True
  | some (.object _), some (.ref _) => True
  | some (.object _), some .null => True
  | some (.object _), some (.float _) => True
  | some (.array _), some (.ref _) => True
  | none, none => True
  | _, _ => False
/-- the locals at a method's start -/
def ra_en : List Value → Nat → List (Option Value)
  | [], n => List.replicate n none
  | _ :: _, 0 => []
  | .long x :: vs, n + 1 => some (.long x) :: (match n with
    | 0 => []
    | n + 1 => none :: ra_en vs n)
  | v :: vs, n + 1 => some v :: ra_en vs n
theorem ra_en_in (G : ra_G) : ∀ (av : List Value) (n j : Nat), (∀ v ∈ av, ∀ x, v ≠ .double x) → ∀ q ∈ ra_pr (ra_v G) j (ra_en av n), q ∈ lv_args j (av.map (ra_v G)) := by
  intro av
  induction av with
  | nil =>
    intro n j _ q hq
    exfalso
    have : ∀ (n j : Nat), ra_pr (ra_v G) j (List.replicate n none) = [] := by
      intro n
      induction n with
      | zero => intro j; rfl
      | succ n ih => intro j; rw [List.replicate_succ, ra_pr]; exact ih _
    rw [ra_en, this] at hq
    cases hq
  | cons v vs ih =>
    intro n j hd q hq
    have hvs : ∀ v ∈ vs, ∀ x, v ≠ .double x := fun w hw => hd w (List.mem_cons_of_mem _ hw)
    cases n with
    | zero => rw [ra_en] at hq; cases hq
    | succ n =>
      rw [List.map_cons, lv_args]
      cases v with
      | long x =>
        cases n with
        | zero =>
          simp only [ra_en, ra_pr, List.mem_cons, List.not_mem_nil, or_false] at hq
          rw [hq]
          exact List.mem_cons_self
        | succ n =>
          simp only [ra_en, ra_pr, List.mem_cons] at hq
          rcases hq with rfl | hq
          · exact List.mem_cons_self
          · exact List.mem_cons_of_mem _ (ih n (j + 1 + 1) hvs q hq)
      | double x => exact absurd rfl (hd _ List.mem_cons_self x)
      | int x =>
        simp only [ra_en, ra_pr, List.mem_cons] at hq
        rcases hq with rfl | hq
        · exact List.mem_cons_self
        · exact List.mem_cons_of_mem _ (ih n (j + 1) hvs q hq)
      | float x =>
        simp only [ra_en, ra_pr, List.mem_cons] at hq
        rcases hq with rfl | hq
        · exact List.mem_cons_self
        · exact List.mem_cons_of_mem _ (ih n (j + 1) hvs q hq)
      | null =>
        simp only [ra_en, ra_pr, List.mem_cons] at hq
        rcases hq with rfl | hq
        · exact List.mem_cons_self
        · exact List.mem_cons_of_mem _ (ih n (j + 1) hvs q hq)
      | ref x =>
        simp only [ra_en, ra_pr, List.mem_cons] at hq
        rcases hq with rfl | hq
        · exact List.mem_cons_self
        · exact List.mem_cons_of_mem _ (ih n (j + 1) hvs q hq)
      | retAddr x =>
        simp only [ra_en, ra_pr, List.mem_cons] at hq
        rcases hq with rfl | hq
        · exact List.mem_cons_self
        · exact List.mem_cons_of_mem _ (ih n (j + 1) hvs q hq)
/-- how many words of locals the values take -/
def ra_nw2 : List Value → Nat
  | [] => 0
  | v :: vs => v.category + ra_nw2 vs
theorem ra_sl_len (G : ra_G) : ∀ av : List Value, (lg_sl (av.map (ra_v G))).length = ra_nw2 av
  | [] => rfl
  | v :: vs => by
    have ih := ra_sl_len G vs
    rw [List.map_cons, ra_nw2]
    unfold lg_sl at ih ⊢
    rw [List.flatMap_cons, List.length_append, ih, ra_v_cat]
    rcases lv_cat v with h | h
    · rw [h]; rfl
    · rw [h]; rfl
set_option maxHeartbeats 1000000 in
theorem ra_ev_of {d : Nat} {M : ra_M} {av : List Value} {h h' : ra_H} {r : Option Value} (hpl : plainName M.1.cls = true) (hdb : ∀ v ∈ av, ∀ x, v ≠ .double x) (hw : ra_nw2 av ≤ M.2.2.1) (hr : ra_rok M.2.2.2 r)
    (k : ra_Ru d M 0 (ra_en av M.2.2.1) [] h (r, h')) : ra_Ev d M av h r h' := by
  refine ⟨k.1, fun G l => ?_⟩
  refine Met.ofW (cc := M.2.1) (maxL := M.2.2.1) (ret := M.2.2.2) hpl rfl ?_
  intro p e s m args below meth c s₁ B hml hv
  obtain ⟨rfl, hsz, hR, hK, hX⟩ := hv
  have hx := B.exec
  have hb := B.bytes
  have hrr := B.returns
  have hts := atoms_spec (ws := ra_ws M) B.pre
  have hown : s.vm.findClass M.1.cls = some m.cls := findClass_of_methodNamed B.named
  have hlocks := B.notSynchronized
  have hnm : meth.name = M.1.name := (name_of_methodNamed B.named B.method).1
  have hl := lv_entry (av.map (ra_v G)) (n := M.2.2.1) (by rw [ra_sl_len]; exact hw)
  rw [lg_entry_eq]
  generalize (lg_sl (av.map (ra_v G)) ++ List.replicate (M.2.2.1 - (lg_sl (av.map (ra_v G))).length) Slot.unset).toArray = ls at hl ⊢
  have hL : ra_L G ls M.2.2.1 (ra_en av M.2.2.1) := ⟨hl.1, hl.2.1, fun q hq => hl.2.2 q (ra_en_in G av _ 0 hdb q hq)⟩
  have cx : ra_Cx M d G p (ra_rm d h h') s m (av.map (ra_v G)).toArray meth c := ⟨hx, hb, hml, hown, fun w hw => hts w (List.mem_cons_of_mem _ hw), fun z => hnm.trans z, Nat.le_refl _, Nat.le_refl _, hK, by rw [hsz]; exact Nat.le_add_right _ _⟩
  have hm := k.1
  dsimp only at hm
  refine k.2 G p l e (ra_rm d h h') s m _ below meth c s.heap [] 0 0 ls _ cx hX hR va_S.rf hL (by rw [hsz]; rfl) (by show 0 + h'.2.1 ≤ (h'.2.1 - h.2.1) + h.2.1; omega) (by show 0 + h'.2.2.1 ≤ (h'.2.2.1 - h.2.2.1) + h.2.2.1; omega) ?_
  intro pc' ls' i H' locs' hdec hi hR' hS'
  dsimp only at hR' hi ⊢
  rw [Nat.zero_add, Nat.zero_add]
  have hf : ∀ q ∈ locs', ra_A G q.base := hS'.2.2
  have hq : ∀ t : State, t.heap = H' → s.WarmedH t.vm → ra_Qc G r h' (av.map (ra_v G)).toArray s (.returned (r.map (ra_v G))) t := fun t ht _ => ⟨rfl, by rw [ht]; exact hR', hS'.F ht⟩
  unfold ra_rok at hr
  split at hr
  · rename_i v hret
    rw [hret] at hrr
    cases i <;> simp [ra_isret] at hi
    exact W.iret hx hb hrr hq hf hdec
  · rename_i v hret
    rw [hret] at hrr
    cases i <;> simp [ra_isret] at hi
    exact W.zret hx hb hrr (by rcases hr with rfl | rfl <;> rfl) hq hf hdec
  · rename_i v hret
    rw [hret] at hrr
    cases i <;> simp [ra_isret] at hi
    exact W.zret hx hb hrr hr hq hf hdec
  · rename_i v hret
    rw [hret] at hrr
    cases i <;> simp [ra_isret] at hi
    exact W.zret hx hb hrr hr hq hf hdec
  · rename_i v hret
    rw [hret] at hrr
    cases i <;> simp [ra_isret] at hi
    exact W.lret hx hb hrr hq hf hdec
  · rename_i n v hret
    rw [hret] at hrr
    cases i <;> simp [ra_isret] at hi
    exact W.aret hx hb hrr (Or.inl ⟨_, rfl⟩) (Or.inr ⟨_, rfl⟩) hq hf hdec
  · rename_i v hret
    rw [hret] at hrr
    cases i <;> simp [ra_isret] at hi
    exact W.aret hx hb hrr (Or.inl ⟨_, rfl⟩) (Or.inl rfl) hq hf hdec
  · rename_i n v hret
    rw [hret] at hrr
    cases i <;> simp [ra_isret] at hi
    exact W.aret hx hb hrr (Or.inl ⟨_, rfl⟩) (Or.inr ⟨_, rfl⟩) hq hf hdec
  · rename_i n v hret
    rw [hret] at hrr
    cases i <;> simp [ra_isret] at hi
    exact W.aret hx hb hrr (Or.inr ⟨_, rfl⟩) (Or.inr ⟨_, rfl⟩) hq hf hdec
  · rename_i hret
    rw [hret] at hrr
    cases i <;> simp [ra_isret] at hi
    exact W.vret hx hb hrr hq hf hdec
  · exact hr.elim
