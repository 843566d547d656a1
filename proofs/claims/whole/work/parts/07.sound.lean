section
variable {d : Nat} {M : ra_M} {pc pc' : Nat} {L L' : List (Option Value)} {S S' : List Value} {h h' : ra_H} {o : Option Value × ra_H}
/-- a step that leaves the heap and the locals -/
theorem ra_rd (hstep : ∀ (G : ra_G) (p : Program) (l : Launch) (e : Env) (R : Room) (s : State) (m : MethodId) (args : Array Value) (below : List Frame) (meth : Method) (c : Code) (H : Heap) (locs : List Loc) (cells slots : Nat) (ls : Array Slot) (Q : State → Prop),
    ra_Cx M d G p R s m args meth c → ra_X G h.2.2.2 s s.heap → ra_Rep G h H → va_S (ra_A G) s.heap H locs → ra_L G ls M.2.2.1 L → cells ≤ R.cells → slots ≤ R.slots → W p l e R s m args below meth c H locs cells slots Q (F0 m pc' ls (S'.map (ra_v G))) → W p l e R s m args below meth c H locs cells slots Q (F0 m pc ls (S.map (ra_v G))))
    (k : ra_Ru d M pc' L S' h o) : ra_Ru d M pc L S h o :=
  ⟨k.1, fun G p l e R s m args below meth c H locs cells slots ls Q cx x hR hS hL hz hc hs fin => hstep G p l e R s m args below meth c H locs cells slots ls Q cx x hR hS hL (by have := k.1.1; omega) (by have := k.1.2.1; omega) (k.2 G p l e R s m args below meth c H locs cells slots ls Q cx x hR hS hL hz hc hs fin)⟩
theorem ra_loc (hstep : ∀ (G : ra_G) (p : Program) (l : Launch) (e : Env) (R : Room) (s : State) (m : MethodId) (args : Array Value) (below : List Frame) (meth : Method) (c : Code) (H : Heap) (locs : List Loc) (cells slots : Nat) (ls : Array Slot) (Q : State → Prop),
    ra_Cx M d G p R s m args meth c → ra_L G ls M.2.2.1 L → (∀ ls', ra_L G ls' M.2.2.1 L' → W p l e R s m args below meth c H locs cells slots Q (F0 m pc' ls' (S'.map (ra_v G)))) → W p l e R s m args below meth c H locs cells slots Q (F0 m pc ls (S.map (ra_v G))))
    (k : ra_Ru d M pc' L' S' h o) : ra_Ru d M pc L S h o :=
  ⟨k.1, fun G p l e R s m args below meth c H locs cells slots ls Q cx x hR hS hL hz hc hs fin => hstep G p l e R s m args below meth c H locs cells slots ls Q cx hL (fun ls' hL' => k.2 G p l e R s m args below meth c H locs cells slots ls' Q cx x hR hS hL' hz hc hs fin)⟩
theorem ra_wr {σ' : Nat → ra_C} (hstep : ∀ (G : ra_G) (p : Program) (l : Launch) (e : Env) (R : Room) (s : State) (m : MethodId) (args : Array Value) (below : List Frame) (meth : Method) (c : Code) (H : Heap) (locs : List Loc) (cells slots : Nat) (ls : Array Slot) (Q : State → Prop),
    ra_Cx M d G p R s m args meth c → ra_Rep G h H → va_S (ra_A G) s.heap H locs → c.maxLocals = ls.size → (∀ H1 locs1, ra_Rep G (σ', h.2) H1 → va_S (ra_A G) s.heap H1 locs1 → W p l e R s m args below meth c H1 locs1 cells slots Q (F0 m pc' ls (S'.map (ra_v G)))) → W p l e R s m args below meth c H locs cells slots Q (F0 m pc ls (S.map (ra_v G))))
    (k : ra_Ru d M pc' L S' (σ', h.2) o) : ra_Ru d M pc L S h o :=
  ⟨k.1, fun G p l e R s m args below meth c H locs cells slots ls Q cx x hR hS hL hz hc hs fin => hstep G p l e R s m args below meth c H locs cells slots ls Q cx hR hS (cx.2.2.1.trans hL.1.symm) (fun H1 locs1 hR1 hS1 => k.2 G p l e R s m args below meth c H1 locs1 cells slots ls Q cx x hR1 hS1 hL hz hc hs fin)⟩
theorem ra_al {cl : ra_C} {n : Nat} (hstep : ∀ (G : ra_G) (p : Program) (l : Launch) (e : Env) (R : Room) (s : State) (m : MethodId) (args : Array Value) (below : List Frame) (meth : Method) (c : Code) (H : Heap) (locs : List Loc) (cells slots : Nat) (ls : Array Slot) (Q : State → Prop),
    ra_Cx M d G p R s m args meth c → ra_Rep G h H → va_S (ra_A G) s.heap H locs → (∀ q, s.heap.size ≤ q → ra_A G q) → cells + 1 ≤ R.cells → slots + n ≤ R.slots → c.maxLocals = ls.size →
    (∀ (q : Nat) (H1 : Heap) (e1 : va_E), va_P G.2.2.2 vwCl (ra_w G h ++ [(q, e1)]) H1 → va_D (ra_A G) (ra_w G h ++ [(q, e1)]) → va_S (ra_A G) s.heap H1 locs → e1 = ra_e G cl → W p l e R s m args below meth c H1 locs (cells + 1) (slots + n) Q (F0 m pc' ls (.ref q :: S'.map (ra_v G)))) → W p l e R s m args below meth c H locs cells slots Q (F0 m pc ls (S.map (ra_v G))))
    (k : ra_Ru d M pc' L (.ref h.2.1 :: S') (ra_mk h cl n) o) : ra_Ru d M pc L S h o := by
  have k1 := k.1
  dsimp only [ra_mk] at k1
  refine ⟨⟨by omega, by omega, k1.2.2⟩, fun G p l e R s m args below meth c H locs cells slots ls Q cx x hR hS hL hz hc hs fin => hstep G p l e R s m args below meth c H locs cells slots ls Q cx hR hS (fun q hq => Nat.le_trans cx.2.2.2.2.2.2.2.2.2 hq) (by omega) (by omega) (cx.2.2.1.trans hL.1.symm) (fun q H1 e1 hP1 hD1 hS1 he => ra_sz fun hsz => ?_)⟩
  subst he
  have hl : (ra_w G h).length = h.2.1 := by simp [ra_w]
  have hq : (ra_w G h ++ [(q, ra_e G cl)])[h.2.1]? = some (q, ra_e G cl) := by rw [List.getElem?_append_right (by omega), hl]; simp
  have hlt := (hP1 _ _ hq).lt
  have hge : G.1 ≤ q := hD1.2 _ _ hq
  dsimp only at hlt
  have hqe : q = G.1 + h.2.1 := by
    rcases Nat.lt_trichotomy q (G.1 + h.2.1) with z | z | z
    · exfalso
      have hk : q - G.1 < h.2.1 := by omega
      have h2 : (ra_w G h ++ [(q, ra_e G cl)])[q - G.1]? = some (G.1 + (q - G.1), ra_e G (h.1 (q - G.1))) := by
        rw [List.getElem?_append_left (by omega)]
        exact ra_w_at G hk
      have := hD1.1 _ _ _ _ hq h2 (by dsimp only; omega)
      omega
    · exact z
    · omega
  subst hqe
  obtain ⟨σ, n0, r⟩ := h
  refine k.2 G p l e R s m args below meth c H1 locs (cells + 1) (slots + n) ls Q cx x (hR.push (s' := (r.1 + n, r.2)) hP1) hS1 hL ?_ ?_ ?_ ?_
  · dsimp only [ra_mk] at hz ⊢; omega
  · dsimp only [ra_mk] at hc ⊢; omega
  · dsimp only [ra_mk] at hs ⊢; omega
  · intro pc' ls' i H' locs' a1 a2 a3 a4
    have := fin pc' ls' i H' locs' a1 a2 a3 a4
    dsimp only [ra_mk] at this ⊢
    have e1 : cells + 1 + (o.2.2.1 - (n0 + 1)) = cells + (o.2.2.1 - n0) := by dsimp only at k1; omega
    have e2 : slots + n + (o.2.2.2.1 - (r.1 + n)) = slots + (o.2.2.2.1 - r.1) := by dsimp only at k1; omega
    rw [e1, e2]
    exact this
end
/-! what a read or write that comes out says -/
theorem ra_fI_of {h : ra_H} {ci k j : Nat} {x : Int32} (e : ra_fI h ci k j = some x) : ∃ fs, h.1 k = .inr (ci, fs) ∧ fs[j]? = some (.int x) := by
  unfold ra_fI at e
  split at e
  · rename_i c fs hk
    split at e
    · rename_i hc
      subst hc
      split at e
      · rename_i y hy
        cases e
        exact ⟨fs, hk, hy⟩
      · cases e
    · cases e
  · cases e
theorem ra_fJ_of {h : ra_H} {ci k j : Nat} {x : Int64} (e : ra_fJ h ci k j = some x) : ∃ fs, h.1 k = .inr (ci, fs) ∧ fs[j]? = some (.long x) := by
  unfold ra_fJ at e
  split at e
  · rename_i c fs hk
    split at e
    · rename_i hc
      subst hc
      split at e
      · rename_i y hy
        cases e
        exact ⟨fs, hk, hy⟩
      · cases e
    · cases e
  · cases e
theorem ra_fR_of {h : ra_H} {ci k j : Nat} {x : Nat} (e : ra_fR h ci k j = some x) : ∃ fs, h.1 k = .inr (ci, fs) ∧ fs[j]? = some (.ref x) := by
  unfold ra_fR at e
  split at e
  · rename_i c fs hk
    split at e
    · rename_i hc
      subst hc
      split at e
      · rename_i y hy
        cases e
        exact ⟨fs, hk, hy⟩
      · cases e
    · cases e
  · cases e
theorem ra_fN_of {h : ra_H} {ci k j : Nat} {x : Option Nat} (e : ra_fN h ci k j = some x) : ∃ fs, h.1 k = .inr (ci, fs) ∧ fs[j]? = some (va_rf x) := by
  unfold ra_fN at e
  split at e
  · rename_i c fs hk
    split at e
    · rename_i hc
      subst hc
      split at e
      · rename_i y hy
        cases e
        exact ⟨fs, hk, hy⟩
      · rename_i hy
        cases e
        exact ⟨fs, hk, hy⟩
      · cases e
    · cases e
  · cases e
theorem ra_fW_of {h h' : ra_H} {ci k j : Nat} {v : Value} (e : ra_fW h ci k j v = some h') : ∃ fs, h.1 k = .inr (ci, fs) ∧ j < fs.length ∧ h' = (ra_up h.1 k (.inr (ci, fs.set j v)), h.2) := by
  unfold ra_fW at e
  split at e
  · rename_i c fs hk
    split at e
    · rename_i hc
      subst hc
      split at e
      · rename_i hy
        cases e
        exact ⟨fs, hk, hy, rfl⟩
      · cases e
    · cases e
  · cases e
theorem ra_aI_of {h : ra_H} {t a : Nat} {i x : Int32} (e : ra_aI h t a i = some x) : ∃ n f, h.1 a = .inl (t, n, .inl f) ∧ vp_in i n ∧ x = f i.toNatClampNeg := by
  unfold ra_aI at e
  split at e
  · rename_i t' n f hk
    split at e
    · rename_i hc
      subst hc
      split at e
      · cases e
      · rename_i hy
        cases e
        exact ⟨n, f, hk, hy, rfl⟩
    · cases e
  · cases e
theorem ra_aJ_of {h : ra_H} {a : Nat} {i : Int32} {x : Int64} (e : ra_aJ h a i = some x) : ∃ n f, h.1 a = .inl (1, n, .inr (.inl f)) ∧ vp_in i n ∧ x = f i.toNatClampNeg := by
  unfold ra_aJ at e
  split at e
  · rename_i t' n f hk
    split at e
    · rename_i hc
      subst hc
      split at e
      · cases e
      · rename_i hy
        cases e
        exact ⟨n, f, hk, hy, rfl⟩
    · cases e
  · cases e
theorem ra_aN_of {h : ra_H} {a : Nat} {i : Int32} {x : Option Nat} (e : ra_aN h a i = some x) : ∃ t n f, h.1 a = .inl (t, n, .inr (.inr (.inr (.inr f)))) ∧ (t = 4 ∨ t = 5) ∧ vp_in i n ∧ x = f i.toNatClampNeg := by
  unfold ra_aN at e
  split at e
  · rename_i t' n f hk
    split at e
    · rename_i hc
      split at e
      · cases e
      · rename_i hy
        cases e
        exact ⟨t', n, f, hk, hc, hy, rfl⟩
    · cases e
  · cases e
theorem ra_aW_of {h h' : ra_H} {t a : Nat} {i x : Int32} (e : ra_aW h t a i x = some h') : ∃ n f, h.1 a = .inl (t, n, .inl f) ∧ vp_in i n ∧ h' = (ra_up h.1 a (.inl (t, n, .inl (upd f i.toNatClampNeg x))), h.2) := by
  unfold ra_aW at e
  split at e
  · rename_i t' n f hk
    split at e
    · rename_i hc
      subst hc
      split at e
      · cases e
      · rename_i hy
        cases e
        exact ⟨n, f, hk, hy, rfl⟩
    · cases e
  · cases e
theorem ra_aWJ_of {h h' : ra_H} {a : Nat} {i : Int32} {x : Int64} (e : ra_aWJ h a i x = some h') : ∃ n f, h.1 a = .inl (1, n, .inr (.inl f)) ∧ vp_in i n ∧ h' = (ra_up h.1 a (.inl (1, n, .inr (.inl (vp_updL f i.toNatClampNeg x)))), h.2) := by
  unfold ra_aWJ at e
  split at e
  · rename_i t' n f hk
    split at e
    · rename_i hc
      subst hc
      split at e
      · cases e
      · rename_i hy
        cases e
        exact ⟨n, f, hk, hy, rfl⟩
    · cases e
  · cases e
theorem ra_aWR_of {h h' : ra_H} {a : Nat} {i : Int32} {k : Nat} (e : ra_aWR h a i k = some h') : ∃ t n f fs, h.1 a = .inl (t, n, .inr (.inr (.inr (.inr f)))) ∧ (t = 4 ∨ t = 5) ∧ h.1 k = .inr (ra_ec t, fs) ∧ vp_in i n ∧ h' = (ra_up h.1 a (.inl (t, n, .inr (.inr (.inr (.inr (va_up f i.toNatClampNeg (some k))))))), h.2) := by
  unfold ra_aWR at e
  split at e
  · rename_i t' n f hk
    split at e
    · rename_i hc
      split at e
      · rename_i ho
        split at e
        · cases e
        · rename_i hy
          cases e
          unfold ra_isOb at ho
          split at ho
          · rename_i c fs hk2
            have ho : c = ra_ec t' := by simpa using ho
            subst ho
            exact ⟨t', n, f, fs, hk, hc, hk2, hy, rfl⟩
          · cases ho
      · cases e
    · cases e
  · cases e
theorem ra_aWN_of {h h' : ra_H} {a : Nat} {i : Int32} (e : ra_aWN h a i = some h') : ∃ t n f, h.1 a = .inl (t, n, .inr (.inr (.inr (.inr f)))) ∧ (t = 4 ∨ t = 5) ∧ vp_in i n ∧ h' = (ra_up h.1 a (.inl (t, n, .inr (.inr (.inr (.inr (va_up f i.toNatClampNeg none)))))), h.2) := by
  unfold ra_aWN at e
  split at e
  · rename_i t' n f hk
    split at e
    · rename_i hc
      split at e
      · cases e
      · rename_i hy
        cases e
        exact ⟨t', n, f, hk, hc, hy, rfl⟩
    · cases e
  · cases e
theorem ra_at_o {G : ra_G} {h : ra_H} {H : Heap} (hR : ra_Rep G h H) {k ci : Nat} {fs : List Value} (hk : h.1 k = .inr (ci, fs)) (hne : fs ≠ []) : (ra_w G h)[k]? = some (G.1 + k, .inr (ci, fs.map (ra_v G))) := by
  rw [ra_w_at G (hR.lt (by rw [hk]; intro z; unfold ra_junk at z; cases z; exact hne rfl)), hk]
  rfl
theorem ra_at_a {G : ra_G} {h : ra_H} {H : Heap} (hR : ra_Rep G h H) {k : Nat} {x : Nat × vp_A} (hk : h.1 k = .inl x) : (ra_w G h)[k]? = some (G.1 + k, ra_e G (.inl x)) := by
  rw [ra_w_at G (hR.lt (by rw [hk]; intro z; unfold ra_junk at z; cases z)), hk]
theorem ra_ne_of_at {fs : List Value} {j : Nat} {v : Value} (h : fs[j]? = some v) : fs ≠ [] := by
  rintro rfl
  simp at h
