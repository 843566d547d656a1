/-! room for the matches: cells made later -/
theorem hk_fW_P {κ : hk_T} {ci k j n : Nat} {fs : List Nat} {v : Nat} (hs : hk_sh[k]? = some (ci, n, fs)) (hc : Nat.blt ci 100 = true) (hf : fs[j]? = some 2) (ho : ∀ q : Nat, q ≠ k → ∀ (ci' n' : Nat) (fs' : List Nat), hk_sh[q]? = some (ci', n', fs') → ∀ (i c : Nat), fs'[i]? = some c → c ≠ 2) : ra_fW (hp κ) ci k j (.ref v) = some (hp (hk_wP κ j v)) := by
  have hj : j < fs.length := (List.getElem?_eq_some_iff.mp hf).1
  have e1 : (hp κ).1 k = .inr (ci, hk_mk κ k 0 fs) := by show hk_c κ k = _; unfold hk_c; rw [hs]; simp only [hc]
  unfold ra_fW
  rw [e1]
  simp only [if_true, hk_mk_len, hj]
  congr 1
  refine hk_wr rfl ?_ (fun q hq => ?_)
  · unfold hk_c
    rw [hs]
    simp only [hc]
    congr 2
    refine (hk_mk_cg (fun j' c hc' => ?_) hj).symm
    unfold hk_v hk_wP hk_u1
    dsimp only
    split
    · by_cases h : j' = j
      · rw [h] at hc'; rw [hf] at hc'; cases hc'
      · simp [h]
    · by_cases h : j' = j
      · rw [h] at hc'; rw [hf] at hc'; cases hc'
      · simp [h]
    · by_cases h : j' = j
      · simp [h]
      · simp [h]
    · by_cases h : j' = j
      · rename_i n0 n1 n2; rw [h] at hc'; rw [hf] at hc'; cases hc'; exact absurd rfl n2
      · simp [h]
  · unfold hk_c
    cases hq' : hk_sh[q]? with
    | none => rfl
    | some r =>
      obtain ⟨ci', n', fs'⟩ := r
      dsimp only
      split
      · congr 2
        have : ∀ (l : List Nat) (i : Nat), (∀ (i c : Nat), l[i]? = some c → c ≠ 2) → hk_mk (hk_wP κ j v) q i l = hk_mk κ q i l := by
          intro l
          induction l with
          | nil => intro i _; rfl
          | cons c l ih =>
            intro i hl
            have h0 : c ≠ 2 := hl 0 c rfl
            have : hk_v (hk_wP κ j v) q i c = hk_v κ q i c := by
              unfold hk_v
              split
              · rfl
              · rfl
              · exact absurd rfl h0
              · rfl
            simp only [hk_mk, this]
            rw [ih (i + 1) (fun i' c' h => hl (i' + 1) c' (by simpa using h))]
        exact this fs' 0 (ho q hq ci' n' fs' hq')
      · rfl
set_option maxRecDepth 100000 in
theorem hk_onl2 : ∀ q, q < 101 → q ≠ 40 → ((hk_sh.getD q (0, 0, [])).2.2.all (fun c => decide (c ≠ 2))) = true := by decide +kernel
theorem hk_only2 : ∀ q : Nat, q ≠ 40 → ∀ (ci' n' : Nat) (fs' : List Nat), hk_sh[q]? = some (ci', n', fs') → ∀ (i : Nat) (c : Nat), fs'[i]? = some c → c ≠ 2 := by
  intro q hq ci' n' fs' h i c hc
  have hlt : q < 101 := (List.getElem?_eq_some_iff.mp h).1
  have h1 := hk_onl2 q hlt hq
  rw [List.getD_eq_getElem?_getD, h] at h1
  have := List.all_eq_true.mp h1 c (List.mem_of_getElem? hc)
  simpa using this
theorem hk_wp_0 : ∀ (κ : hk_T) (v : Nat), (ra_fW (hp κ) 3 40 8 (.ref v) = some (hp (hk_wP κ 8 v))) ∧ (ra_fW (hp κ) 3 40 9 (.ref v) = some (hp (hk_wP κ 9 v))) ∧ (ra_fW (hp κ) 3 40 10 (.ref v) = some (hp (hk_wP κ 10 v))) ∧ (ra_fW (hp κ) 3 40 11 (.ref v) = some (hp (hk_wP κ 11 v))) := fun _ _ => ⟨hk_fW_P rfl rfl rfl hk_only2, hk_fW_P rfl rfl rfl hk_only2, hk_fW_P rfl rfl rfl hk_only2, hk_fW_P rfl rfl rfl hk_only2⟩
/-- the four cells: S sums, W ways, R reached, C choices -/
def mC (κ : hk_T) (q : Nat) (S : Nat → Int) (W : Nat → Nat) (R : Nat → Bool) (C : Nat → Nat) : Prop :=
  (101 ≤ hk_P κ 8 ∧ hk_P κ 8 < hk_P κ 9 ∧ hk_P κ 9 < hk_P κ 10 ∧ hk_P κ 10 < hk_P κ 11 ∧ hk_P κ 11 < hk_n κ) ∧ q ≤ 12 ∧
  (hk_D κ (hk_P κ 8) = dC 0 (2 ^ q) (fun x => z3 (S x)) ∧ hk_D κ (hk_P κ 9) = dC 0 (2 ^ q) (fun x => n3 (W x)) ∧ hk_D κ (hk_P κ 10) = dC 2 (2 ^ q) (fun x => if R x = true then n3 1 else n3 0) ∧ hk_D κ (hk_P κ 11) = dC 3 (2 ^ q * 40) (fun x => n3 (C x))) ∧
  (∀ x, -2000000 ≤ S x ∧ S x ≤ 2000000) ∧ ∀ x, W x ≤ 1000000000
def pL (κ : hk_T) : List Nat := [hk_P κ 8, hk_P κ 9, hk_P κ 10, hk_P κ 11]
/-- all the same but rows ks, fields fs and the four cells -/
def sameP (ks : List Nat) (fs : List (Nat × Nat)) (κ κ' : hk_T) : Prop := sameD ks fs (pL κ) κ κ'
theorem sameP.pL {ks : List Nat} {fs : List (Nat × Nat)} {κ κ' : hk_T} (h : sameP ks fs κ κ') : pL κ' = pL κ := by
  show [_, _, _, _] = [_, _, _, _]
  rw [h.2.2.2.2.1]
theorem sameP.refl (ks : List Nat) (fs : List (Nat × Nat)) (κ : hk_T) : sameP ks fs κ κ := sameD.refl _ _ _ _
theorem sameP.trans {ks : List Nat} {fs : List (Nat × Nat)} {κ κ' κ'' : hk_T} (h : sameP ks fs κ κ') (g : sameP ks fs κ' κ'') : sameP ks fs κ κ'' := by
  unfold sameP at g
  rw [h.pL] at g
  exact sameD.trans h g
theorem same.toP {ks : List Nat} {fs : List (Nat × Nat)} {κ κ' : hk_T} (h : same ks fs κ κ') : sameP ks fs κ κ' := h.toD
theorem sameP.weak {ks ks' : List Nat} {fs fs' : List (Nat × Nat)} {κ κ' : hk_T} (h : sameP ks fs κ κ') (h1 : ∀ k ∈ ks, k ∈ ks') (h2 : ∀ q ∈ fs, q ∈ fs') : sameP ks' fs' κ κ' := by
  obtain ⟨g1, g2, g3, g4, g5, g6, g7, g8, g9⟩ := h
  exact ⟨fun k hk => g1 k (fun z => hk (h1 k z)), fun k hk => g2 k (fun z => hk (h1 k z)), fun k j hk => g3 k j (fun z => hk (h2 (k, j) z)), g4, g5, g6, g7, g8, g9⟩
theorem mC.keep {κ κ' : hk_T} {q : Nat} {S : Nat → Int} {W : Nat → Nat} {R : Nat → Bool} {C : Nat → Nat} (h : mC κ q S W R C) (hP : hk_P κ' = hk_P κ) (hD : hk_D κ' = hk_D κ) (hn : hk_n κ' = hk_n κ) : mC κ' q S W R C := by
  unfold mC
  rw [hP, hD, hn]
  exact h
theorem mC.same {κ κ' : hk_T} {ks : List Nat} {fs : List (Nat × Nat)} {q : Nat} {S : Nat → Int} {W : Nat → Nat} {R : Nat → Bool} {C : Nat → Nat} (h : mC κ q S W R C) (g : same ks fs κ κ') : mC κ' q S W R C :=
  h.keep g.2.2.2.2.1 g.2.2.2.2.2.1 g.2.2.2.2.2.2.1
section
variable {κ : hk_T} {q : Nat} {S : Nat → Int} {W : Nat → Nat} {R : Nat → Bool} {C : Nat → Nat}
theorem q12 {q : Nat} (h : q ≤ 12) : 2 ^ q ≤ 4096 := (Nat.pow_le_pow_right (by omega) h : 2 ^ q ≤ 2 ^ 12)
theorem mC.rS (h : mC κ q S W R C) {i : Nat} (hi : i < 2 ^ q) : ra_aI (hp κ) 0 (hk_P κ 8) (n3 i) = some (z3 (S i)) := by
  have := q12 h.2.1
  exact d_r κ (by have := h.1; omega) h.2.2.1.1 hi (by omega)
theorem mC.rW (h : mC κ q S W R C) {i : Nat} (hi : i < 2 ^ q) : ra_aI (hp κ) 0 (hk_P κ 9) (n3 i) = some (n3 (W i)) := by
  have := q12 h.2.1
  exact d_r κ (by have := h.1; omega) h.2.2.1.2.1 hi (by omega)
theorem mC.rR (h : mC κ q S W R C) {i : Nat} (hi : i < 2 ^ q) : ra_aI (hp κ) 2 (hk_P κ 10) (n3 i) = some (if R i = true then n3 1 else n3 0) := by
  have := q12 h.2.1
  exact d_r κ (by have := h.1; omega) h.2.2.1.2.2.1 hi (by omega)
theorem mC.rC (h : mC κ q S W R C) {i : Nat} (hi : i < 2 ^ q * 40) : ra_aI (hp κ) 3 (hk_P κ 11) (n3 i) = some (n3 (C i)) := by
  have := q12 h.2.1
  exact d_r κ (by have := h.1; omega) h.2.2.1.2.2.2 hi (by omega)
theorem mC.wS (h : mC κ q S W R C) {i : Nat} {x : Int} (hi : i < 2 ^ q) (hx : -2000000 ≤ x ∧ x ≤ 2000000) : ∃ κ', ra_aW (hp κ) 0 (hk_P κ 8) (n3 i) (z3 x) = some (hp κ') ∧ sameP [] [] κ κ' ∧ mC κ' q (fun j => if j = i then x else S j) W R C := by
  have q2 := q12 h.2.1
  obtain ⟨h1, h2, ⟨c8, c9, c10, c11⟩, h4, h5⟩ := h
  refine ⟨_, d_w κ (by omega) c8 hi (by omega), (sameP.refl _ _ _).wD (by unfold pL; simp), h1, h2, ⟨?_, ?_, ?_, ?_⟩, ?_, h5⟩
  · show hk_D (hk_wD κ (hk_P κ 8) _) (hk_P κ 8) = _
    rw [D_eq]
    congr 1
    funext j
    dsimp only
    by_cases e : j = i
    · rw [if_pos e, if_pos e]
    · rw [if_neg e, if_neg e]
  · show hk_D (hk_wD κ (hk_P κ 8) _) (hk_P κ 9) = _
    rw [D_ne κ (by omega)]; exact c9
  · show hk_D (hk_wD κ (hk_P κ 8) _) (hk_P κ 10) = _
    rw [D_ne κ (by omega)]; exact c10
  · show hk_D (hk_wD κ (hk_P κ 8) _) (hk_P κ 11) = _
    rw [D_ne κ (by omega)]; exact c11
  · intro j
    show -2000000 ≤ (if j = i then x else S j) ∧ (if j = i then x else S j) ≤ 2000000
    split
    · exact hx
    · exact h4 j
theorem mC.wW (h : mC κ q S W R C) {i x : Nat} (hi : i < 2 ^ q) (hx : x ≤ 1000000000) : ∃ κ', ra_aW (hp κ) 0 (hk_P κ 9) (n3 i) (n3 x) = some (hp κ') ∧ sameP [] [] κ κ' ∧ mC κ' q S (fun j => if j = i then x else W j) R C := by
  have q2 := q12 h.2.1
  obtain ⟨h1, h2, ⟨c8, c9, c10, c11⟩, h4, h5⟩ := h
  refine ⟨_, d_w κ (by omega) c9 hi (by omega), (sameP.refl _ _ _).wD (by unfold pL; simp), h1, h2, ⟨?_, ?_, ?_, ?_⟩, h4, ?_⟩
  · show hk_D (hk_wD κ (hk_P κ 9) _) (hk_P κ 8) = _
    rw [D_ne κ (by omega)]; exact c8
  · show hk_D (hk_wD κ (hk_P κ 9) _) (hk_P κ 9) = _
    rw [D_eq]
    congr 1
    funext j
    dsimp only
    by_cases e : j = i
    · rw [if_pos e, if_pos e]
    · rw [if_neg e, if_neg e]
  · show hk_D (hk_wD κ (hk_P κ 9) _) (hk_P κ 10) = _
    rw [D_ne κ (by omega)]; exact c10
  · show hk_D (hk_wD κ (hk_P κ 9) _) (hk_P κ 11) = _
    rw [D_ne κ (by omega)]; exact c11
  · intro j
    show (if j = i then x else W j) ≤ 1000000000
    split
    · exact hx
    · exact h5 j
theorem mC.wR (h : mC κ q S W R C) {i : Nat} {x : Bool} (hi : i < 2 ^ q) : ∃ κ', ra_aW (hp κ) 2 (hk_P κ 10) (n3 i) (if x = true then n3 1 else n3 0) = some (hp κ') ∧ sameP [] [] κ κ' ∧ mC κ' q S W (fun j => if j = i then x else R j) C := by
  have q2 := q12 h.2.1
  obtain ⟨h1, h2, ⟨c8, c9, c10, c11⟩, h4, h5⟩ := h
  refine ⟨_, d_w κ (by omega) c10 hi (by omega), (sameP.refl _ _ _).wD (by unfold pL; simp), h1, h2, ⟨?_, ?_, ?_, ?_⟩, h4, h5⟩
  · show hk_D (hk_wD κ (hk_P κ 10) _) (hk_P κ 8) = _
    rw [D_ne κ (by omega)]; exact c8
  · show hk_D (hk_wD κ (hk_P κ 10) _) (hk_P κ 9) = _
    rw [D_ne κ (by omega)]; exact c9
  · show hk_D (hk_wD κ (hk_P κ 10) _) (hk_P κ 10) = _
    rw [D_eq]
    congr 1
    funext j
    by_cases e : j = i
    · simp [e]
    · simp [e]
  · show hk_D (hk_wD κ (hk_P κ 10) _) (hk_P κ 11) = _
    rw [D_ne κ (by omega)]; exact c11
theorem mC.wC (h : mC κ q S W R C) {i x : Nat} (hi : i < 2 ^ q * 40) : ∃ κ', ra_aW (hp κ) 3 (hk_P κ 11) (n3 i) (n3 x) = some (hp κ') ∧ sameP [] [] κ κ' ∧ mC κ' q S W R (fun j => if j = i then x else C j) := by
  have q2 := q12 h.2.1
  obtain ⟨h1, h2, ⟨c8, c9, c10, c11⟩, h4, h5⟩ := h
  refine ⟨_, d_w κ (by omega) c11 hi (by omega), (sameP.refl _ _ _).wD (by unfold pL; simp), h1, h2, ⟨?_, ?_, ?_, ?_⟩, h4, h5⟩
  · show hk_D (hk_wD κ (hk_P κ 11) _) (hk_P κ 8) = _
    rw [D_ne κ (by omega)]; exact c8
  · show hk_D (hk_wD κ (hk_P κ 11) _) (hk_P κ 9) = _
    rw [D_ne κ (by omega)]; exact c9
  · show hk_D (hk_wD κ (hk_P κ 11) _) (hk_P κ 10) = _
    rw [D_ne κ (by omega)]; exact c10
  · show hk_D (hk_wD κ (hk_P κ 11) _) (hk_P κ 11) = _
    rw [D_eq]
    congr 1
    funext j
    dsimp only
    by_cases e : j = i
    · rw [if_pos e, if_pos e]
    · rw [if_neg e, if_neg e]
end
/-- four cells anew -/
def mkR (κ : hk_T) (m : Nat) : hk_T := hk_wP (hk_new (hk_wP (hk_new (hk_wP (hk_new (hk_wP (hk_new κ (ra_na 0 m) m) 8 (hk_n κ)) (ra_na 0 m) m) 9 (hk_n κ + 1)) (ra_na 2 m) m) 10 (hk_n κ + 2)) (ra_na 3 (m * 40)) (m * 40)) 11 (hk_n κ + 3)
theorem mkR_mC (κ : hk_T) {q : Nat} (hq : q ≤ 12) (hn : 101 ≤ hk_n κ) : mC (mkR κ (2 ^ q)) q (fun _ => 0) (fun _ => 0) (fun _ => false) (fun _ => 0) := by
  have p8 : hk_P (mkR κ (2 ^ q)) 8 = hk_n κ := rfl
  have p9 : hk_P (mkR κ (2 ^ q)) 9 = hk_n κ + 1 := rfl
  have p10 : hk_P (mkR κ (2 ^ q)) 10 = hk_n κ + 2 := rfl
  have p11 : hk_P (mkR κ (2 ^ q)) 11 = hk_n κ + 3 := rfl
  have pn : hk_n (mkR κ (2 ^ q)) = hk_n κ + 4 := rfl
  have dd : ∀ k, hk_D (mkR κ (2 ^ q)) k = if k = hk_n κ + 3 then ra_na 3 (2 ^ q * 40) else if k = hk_n κ + 2 then ra_na 2 (2 ^ q) else if k = hk_n κ + 1 then ra_na 0 (2 ^ q) else if k = hk_n κ then ra_na 0 (2 ^ q) else hk_D κ k := fun k => rfl
  unfold mC
  rw [p8, p9, p10, p11, pn, dd, dd, dd, dd]
  refine ⟨by omega, hq, ⟨?_, ?_, ?_, ?_⟩, fun _ => (by decide : (-2000000 : Int) ≤ 0 ∧ (0 : Int) ≤ 2000000), fun _ => (by decide : 0 ≤ 1000000000)⟩
  · rw [if_neg (by omega), if_neg (by omega), if_neg (by omega), if_pos rfl]; exact d_na (by decide)
  · rw [if_neg (by omega), if_neg (by omega), if_pos rfl]; exact d_na (by decide)
  · rw [if_neg (by omega), if_pos rfl]; exact d_na (by decide)
  · rw [if_pos rfl]; exact d_na (by decide)
/-- the room as it is between calls -/
def roomI (κ : hk_T) : Prop := hk_P κ 8 = 55 ∨ ∃ q S W R C, mC κ q S W R C
theorem c_makeRoom (N : Nat) (κ : hk_T) {L : Nat} (hL : L ≤ 12) (hn : 101 ≤ hk_n κ) (hr : roomI κ) :
    ∃ κ' q S W R C, fX3_makeRoom N 40 (n3 (2 ^ L)) (hp κ) = some (hp κ') ∧ mC κ' q S W R C ∧ L ≤ q ∧ (κ' = κ ∨ q = L ∧ κ' = mkR κ (2 ^ L) ∧ (hk_P κ 8 = 55 ∨ ∃ q0 S W R C, q0 < L ∧ mC κ q0 S W R C)) := by
  have q2 := q12 hL
  have q1 : 0 < 2 ^ L := Nat.two_pow_pos L
  have more : ∀ x, ra_aL (hp κ) (hk_P κ 8) = some (n3 x) → x < 2 ^ L → fX3_makeRoom N 40 (n3 (2 ^ L)) (hp κ) = some (hp (mkR κ (2 ^ L))) := by
    intro x e hx
    have m1 : ra_mk (hp κ) (ra_na 0 (2 ^ L)) (2 ^ L) = hp (hk_new κ (ra_na 0 (2 ^ L)) (2 ^ L)) := hk_mk_new hn _ _
    have w1 := (hk_wp_0 (hk_new κ (ra_na 0 (2 ^ L)) (2 ^ L)) (hk_n κ)).1
    generalize hκ1 : hk_wP (hk_new κ (ra_na 0 (2 ^ L)) (2 ^ L)) 8 (hk_n κ) = κ1 at w1
    have n1 : hk_n κ1 = hk_n κ + 1 := by rw [← hκ1]; rfl
    have m2 : ra_mk (hp κ1) (ra_na 0 (2 ^ L)) (2 ^ L) = hp (hk_new κ1 (ra_na 0 (2 ^ L)) (2 ^ L)) := hk_mk_new (by show 101 ≤ hk_n κ1; omega) _ _
    have w2 := (hk_wp_0 (hk_new κ1 (ra_na 0 (2 ^ L)) (2 ^ L)) (hk_n κ1)).2.1
    generalize hκ2 : hk_wP (hk_new κ1 (ra_na 0 (2 ^ L)) (2 ^ L)) 9 (hk_n κ1) = κ2 at w2
    have n2 : hk_n κ2 = hk_n κ + 2 := by rw [← hκ2]; show hk_n κ1 + 1 = _; omega
    have m3 : ra_mk (hp κ2) (ra_na 2 (2 ^ L)) (2 ^ L) = hp (hk_new κ2 (ra_na 2 (2 ^ L)) (2 ^ L)) := hk_mk_new (by show 101 ≤ hk_n κ2; omega) _ _
    have w3 := (hk_wp_0 (hk_new κ2 (ra_na 2 (2 ^ L)) (2 ^ L)) (hk_n κ2)).2.2.1
    generalize hκ3 : hk_wP (hk_new κ2 (ra_na 2 (2 ^ L)) (2 ^ L)) 10 (hk_n κ2) = κ3 at w3
    have n3' : hk_n κ3 = hk_n κ + 3 := by rw [← hκ3]; show hk_n κ2 + 1 = _; omega
    have m4 : ra_mk (hp κ3) (ra_na 3 (2 ^ L * 40)) (2 ^ L * 40) = hp (hk_new κ3 (ra_na 3 (2 ^ L * 40)) (2 ^ L * 40)) := hk_mk_new (by show 101 ≤ hk_n κ3; omega) _ _
    have w4 := (hk_wp_0 (hk_new κ3 (ra_na 3 (2 ^ L * 40)) (2 ^ L * 40)) (hk_n κ3)).2.2.2
    have hpn : ∀ κ, (hp κ).2.1 = hk_n κ := fun κ => rfl
    have b0 : ¬ (2 ^ L < 0 ∨ 50000000 < 2 ^ L) := by omega
    have b1 : ¬ (2 ^ L * 40 < 0 ∨ 50000000 < 2 ^ L * 40) := by omega
    unfold fX3_makeRoom nX3_makeRoom_0
    simp (maxSteps := 400000) (disch := omega) only [n3_l, n3_add, n3_mul, n3_sub, n3_subn, n3_lt, n3_le, n3_eq, n3_eqn, n3_neq, n3_and, n3_or, n3_shl, n3_i, n3_cl, ↓hbd_0, ↓hbd_1, ↓hbd_2, hk_ob_0, hk_rd_0, hk_rd_1, hk_rd_2, hk_al_0, hk_al_1, h3r_0, h3r_1, hk_wi_0, hk_wj_0, h3w_0, h3w_1, h3v_0, hk_kI, hk_kJ, hk_kA, hk_kB, A_eq, A_ne, A_row, B_eq, B_ne, B_row, I_eq, I_ne, J_eq, J_ne, Option.bind_some, Option.some.injEq, if_true, if_false, eq_self, true_or, or_true, true_and, and_true, false_or, or_false, not_true_eq_false, not_false_eq_true, Classical.not_not, nar_b0, nar_b1, rz_0, rz_1, rz_i, ite01, Nat.add_zero, Nat.zero_add, Nat.one_mul, mul12, reduceIte, ra_z0, Nat.reduceEqDiff, Nat.reduceLT, Nat.reduceLeDiff, Nat.reduceAdd, Nat.reduceMul, Nat.reduceSub, Nat.reduceDiv, Nat.reduceMod, Bool.false_eq_true, false_and, and_false, reduceCtorEq, e, hx, b0, b1, m1, w1, m2, w2, m3, w3, m4, w4, hpn, nX3_makeRoom_40]
    rw [n3', ← hκ3, ← hκ2, ← hκ1]
    rfl
  rcases hr with h | ⟨q, S, W, R, C, h⟩
  · have e : ra_aL (hp κ) (hk_P κ 8) = some (n3 0) := by rw [h]; rfl
    exact ⟨_, L, _, _, _, _, more 0 e q1, mkR_mC κ hL hn, Nat.le_refl _, Or.inr ⟨rfl, rfl, Or.inl h⟩⟩
  · have e : ra_aL (hp κ) (hk_P κ 8) = some (n3 (2 ^ q)) := d_l κ (by have := h.1; omega) h.2.2.1.1 (by decide)
    have q3 := q12 h.2.1
    by_cases c : q < L
    · have hlt : 2 ^ q < 2 ^ L := Nat.pow_lt_pow_right (by omega) c
      exact ⟨_, L, _, _, _, _, more _ e hlt, mkR_mC κ hL hn, Nat.le_refl _, Or.inr ⟨rfl, rfl, Or.inr ⟨q, S, W, R, C, c, h⟩⟩⟩
    · have hlt : ¬ 2 ^ q < 2 ^ L := by have : 2 ^ L ≤ 2 ^ q := Nat.pow_le_pow_right (by omega) (by omega); omega
      refine ⟨κ, q, S, W, R, C, ?_, h, by omega, Or.inl rfl⟩
      unfold fX3_makeRoom nX3_makeRoom_0
      simp (maxSteps := 400000) (disch := omega) only [n3_l, n3_add, n3_mul, n3_sub, n3_subn, n3_lt, n3_le, n3_eq, n3_eqn, n3_neq, n3_and, n3_or, n3_shl, n3_i, n3_cl, ↓hbd_0, ↓hbd_1, ↓hbd_2, hk_ob_0, hk_rd_0, hk_rd_1, hk_rd_2, hk_al_0, hk_al_1, h3r_0, h3r_1, hk_wi_0, hk_wj_0, h3w_0, h3w_1, h3v_0, hk_kI, hk_kJ, hk_kA, hk_kB, A_eq, A_ne, A_row, B_eq, B_ne, B_row, I_eq, I_ne, J_eq, J_ne, Option.bind_some, Option.some.injEq, if_true, if_false, eq_self, true_or, or_true, true_and, and_true, false_or, or_false, not_true_eq_false, not_false_eq_true, Classical.not_not, nar_b0, nar_b1, rz_0, rz_1, rz_i, ite01, Nat.add_zero, Nat.zero_add, Nat.one_mul, mul12, reduceIte, ra_z0, Nat.reduceEqDiff, Nat.reduceLT, Nat.reduceLeDiff, Nat.reduceAdd, Nat.reduceMul, Nat.reduceSub, Nat.reduceDiv, Nat.reduceMod, Bool.false_eq_true, false_and, and_false, reduceCtorEq, e, hlt, nX3_makeRoom_40]
