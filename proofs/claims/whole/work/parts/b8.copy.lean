/-! ===== the code, copied into a text ===== -/
theorem CodeZ_s {cw co cv cw' co' cv' : gx_F} {c0 r0 l sz rz D : Nat} (h : CodeZ cw co cv c0 r0 l sz rz) (hD : D ≤ 1200) (hw : ∀ i, i < sz → cw' i = cw i) (ho : ∀ i, i < rz → co' (D + i) = co i) (hv : ∀ i, i < rz → cv' (D + i) = if co i = 403 ∨ co i = 404 then cv i + nI D else cv i) : CodeR cw' co' cv' c0 (D + r0) l sz (D + 400) := by
  obtain ⟨len, tp, ⟨h1, h2, h3, h4⟩, h5, h6, h7, h8, h9, h10⟩ := h
  refine ⟨len, tp, h1, h2, by omega, by rw [hw _ h1]; exact h5, by rw [Nat.add_assoc, ho _ h3]; exact h6, h7, h8, h9, fun j hj => ?_⟩
  have h := h10 j hj
  unfold WordR at h ⊢
  rw [hw (c0 + j) (by omega), Nat.add_assoc D r0 j, ho (r0 + j) (by omega), hv (r0 + j) (by omega)]
  rcases h with ⟨m, k1, k2, k3, k4, k5⟩ | ⟨q, k1, k2, k3, k4, k5, k6⟩ | h | h | ⟨s, u, k1, k2, k3, k4, k5, k6, k7, k8⟩ | ⟨u, k1, k2, k3, k4, k5, k6⟩ | h
  · exact Or.inl ⟨m, k1, k2, k3, by rw [k3, if_neg (by decide)]; exact k4, k5⟩
  · exact Or.inr (Or.inl ⟨q, k1, k2, k3, k4, by rw [k4, if_neg (by decide)]; exact k5, k6⟩)
  · exact Or.inr (Or.inr (Or.inl h))
  · exact Or.inr (Or.inr (Or.inr (Or.inl h)))
  · exact Or.inr (Or.inr (Or.inr (Or.inr (Or.inl ⟨s, u, k1, k2, k3, k4, by rw [k4, if_pos (Or.inl rfl), k5, nI_add, show r0 + u + D = D + r0 + u by omega], k6, k7, k8⟩))))
  · exact Or.inr (Or.inr (Or.inr (Or.inr (Or.inr (Or.inl ⟨u, k1, k2, k3, k4, by rw [k4, if_pos (Or.inr rfl), k5, nI_add, show r0 + u + D = D + r0 + u by omega], k6⟩)))))
  · exact Or.inr (Or.inr (Or.inr (Or.inr (Or.inr (Or.inr h)))))
