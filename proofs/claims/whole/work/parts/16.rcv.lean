theorem ra_isOb_of {h : ra_H} {k ci : Nat} (e : ra_isOb h k ci = true) : ∃ fs, h.1 k = .inr (ci, fs) := by
  unfold ra_isOb at e
  split at e
  · rename_i c fs hk
    have : c = ci := by simpa using e
    subst this
    exact ⟨fs, hk⟩
  · cases e
theorem ra_rcv_of {h : ra_H} {k ci : Nat} {C : String} (e : ra_isOb h k ci = true) (hci : ci < 13) (hn : ra_cn[ci]? = some C) : ra_rcv h C (.ref k) := by
  obtain ⟨fs, hk⟩ := ra_isOb_of e
  exact Or.inl ⟨k, ci, fs, rfl, hk, hci, hn⟩
