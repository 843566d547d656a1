/-! arrays that were made later: t what kind, n how long -/
def dC (t n : Nat) (f : Nat → Int32) : ra_C := .inl (t, n, .inl f)
section
variable (κ : hk_T)
theorem d_at {k : Nat} (hk : 101 ≤ k) : (hp κ).1 k = hk_D κ k := hk_late hk
theorem d_r {k t n i : Nat} {f : Nat → Int32} (hk : 101 ≤ k) (h : hk_D κ k = dC t n f) (hi : i < n) (hn : n ≤ 2147483648) : ra_aI (hp κ) t k (n3 i) = some (f i) := by
  unfold ra_aI
  rw [d_at κ hk, h]
  unfold dC
  dsimp only
  rw [if_pos rfl, if_neg (ix3 hi hn), n3_cl (by omega)]
theorem d_w {k t n i : Nat} {f : Nat → Int32} {v : Int32} (hk : 101 ≤ k) (h : hk_D κ k = dC t n f) (hi : i < n) (hn : n ≤ 2147483648) : ra_aW (hp κ) t k (n3 i) v = some (hp (hk_wD κ k (dC t n (fun j => if j = i then v else f j)))) := by
  unfold ra_aW
  rw [d_at κ hk, h]
  unfold dC
  dsimp only
  rw [if_pos rfl, if_neg (ix3 hi hn), n3_cl (by omega)]
  congr 1
  refine hk_wr rfl ?_ (fun q hq => hk_c_cg (fun j c => rfl) (fun t n => rfl) ?_)
  · show (hp (hk_wD κ k _)).1 k = _
    rw [d_at _ hk]
    show hk_u1 _ k _ k = _
    unfold hk_u1
    rw [if_pos rfl]
    rfl
  · show hk_u1 _ k _ q = _
    unfold hk_u1
    rw [if_neg hq]
theorem d_l {k t n : Nat} {f : Nat → Int32} (hk : 101 ≤ k) (h : hk_D κ k = dC t n f) (ht : t < 6) : ra_aL (hp κ) k = some (n3 n) := by
  unfold ra_aL
  rw [d_at κ hk, h]
  unfold dC
  dsimp only
  rw [if_pos ht]
  rfl
theorem d_na {t n : Nat} (ht : t ≠ 1) : ra_na t n = dC t n (fun _ => 0) := by
  unfold ra_na dC
  split
  · exact absurd rfl ht
  · rfl
theorem D_eq {k : Nat} {c : ra_C} : hk_D (hk_wD κ k c) k = c := by
  show hk_u1 _ k _ k = _
  unfold hk_u1
  rw [if_pos rfl]
theorem D_ne {k k' : Nat} {c : ra_C} (h : k' ≠ k) : hk_D (hk_wD κ k c) k' = hk_D κ k' := by
  show hk_u1 _ k _ k' = _
  unfold hk_u1
  rw [if_neg h]
  rfl
theorem D_new {c : ra_C} {m : Nat} : hk_D (hk_new κ c m) (hk_n κ) = c := by
  show hk_u1 _ (hk_n κ) _ (hk_n κ) = _
  unfold hk_u1
  exact if_pos rfl
theorem D_old {c : ra_C} {m k : Nat} (h : k ≠ hk_n κ) : hk_D (hk_new κ c m) k = hk_D κ k := by
  show hk_u1 _ (hk_n κ) _ k = _
  unfold hk_u1
  exact if_neg h
end
/-- all the same but rows ks, fields fs, and later cells at ds -/
def sameD (ks : List Nat) (fs : List (Nat × Nat)) (ds : List Nat) (κ κ' : hk_T) : Prop := (∀ k, k ∉ ks → hk_A κ' k = hk_A κ k) ∧ (∀ k, k ∉ ks → hk_B κ' k = hk_B κ k) ∧ (∀ k j, (k, j) ∉ fs → hk_I κ' k j = hk_I κ k j) ∧ hk_Q κ' = hk_Q κ ∧ hk_P κ' = hk_P κ ∧ (∀ k, k ∉ ds → hk_D κ' k = hk_D κ k) ∧ hk_n κ' = hk_n κ ∧ hk_s κ' = hk_s κ ∧ hk_x κ' = hk_x κ
theorem same.toD {ks : List Nat} {fs : List (Nat × Nat)} {ds : List Nat} {κ κ' : hk_T} (h : same ks fs κ κ') : sameD ks fs ds κ κ' := by
  obtain ⟨h1, h2, h3, h4, h5, h6, h7, h8, h9⟩ := h
  exact ⟨h1, h2, h3, h4, h5, fun k _ => by rw [h6], h7, h8, h9⟩
theorem sameD.refl (ks : List Nat) (fs : List (Nat × Nat)) (ds : List Nat) (κ : hk_T) : sameD ks fs ds κ κ := (same.refl ks fs κ).toD
theorem sameD.trans {ks : List Nat} {fs : List (Nat × Nat)} {ds : List Nat} {κ κ' κ'' : hk_T} (h : sameD ks fs ds κ κ') (g : sameD ks fs ds κ' κ'') : sameD ks fs ds κ κ'' := by
  obtain ⟨h1, h2, h3, h4, h5, h6, h7, h8, h9⟩ := h
  obtain ⟨g1, g2, g3, g4, g5, g6, g7, g8, g9⟩ := g
  exact ⟨fun k hk => (g1 k hk).trans (h1 k hk), fun k hk => (g2 k hk).trans (h2 k hk), fun k j hk => (g3 k j hk).trans (h3 k j hk), g4.trans h4, g5.trans h5, fun k hk => (g6 k hk).trans (h6 k hk), g7.trans h7, g8.trans h8, g9.trans h9⟩
theorem sameD.wD {ks : List Nat} {fs : List (Nat × Nat)} {ds : List Nat} {κ κ' : hk_T} (h : sameD ks fs ds κ κ') {k : Nat} {c : ra_C} (hk : k ∈ ds) : sameD ks fs ds κ (hk_wD κ' k c) := by
  obtain ⟨h1, h2, h3, h4, h5, h6, h7, h8, h9⟩ := h
  exact ⟨h1, h2, h3, h4, h5, fun q hq => by rw [D_ne κ' (fun z => hq (by rw [z]; exact hk))]; exact h6 q hq, h7, h8, h9⟩
