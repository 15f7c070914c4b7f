/-! ===== the two objects, new: alike ===== -/
theorem bt_none (i : Nat) : bt 0 i = false := by simp [bt]
theorem Valley_0 {σ : gx_R} {b : Nat} {a : gx_F} (h0 : σ b 4 = 0 ∧ σ b 5 = -1) (hf : σ (b + 1) 0 = 0 ∧ σ (b + 1) 1 = 0) (hm : ∀ p, σ (b + 4) p = 0) (hh : ∀ p, σ (b + 5) p = 0) (hn : σ (b + 8) 6 = 0 ∧ σ (b + 8) 7 = nI 43) (hd : ∀ p, σ (b + 9) p = 0) (hw : ∀ p, p < 8 → σ (b + 10) p = -1) (ho : ∀ p, σ (b + 11) p = 0) (hr : ∀ p, σ (b + 12) p = 0) (he : ∀ p, σ (b + 13) p = 0) (hx : ∀ p, σ (b + 14) p = 0) (hs : σ (b + 15) 1 = 0 ∧ σ (b + 15) 2 = 0) (ha : ∀ j, j < 8880 → a j = if j = 3 then -1 else if j = 163 then nI 43 else 0) : ValleyR σ b a 0 0 0 0 0 := by
  have a0 : ∀ j, j < 8880 → j ≠ 3 → j ≠ 163 → a j = 0 := fun j h1 h2 h3 => by rw [ha j h1, if_neg h2, if_neg h3]
  have z : (0 : Int32) = nI 0 := rfl
  refine ⟨⟨⟨by omega, by omega⟩, ⟨hf.1, a0 0 (by omega) (by omega) (by omega), hf.2, a0 1 (by omega) (by omega) (by omega)⟩, fun p hp => absurd hp (Nat.not_lt_zero p), fun p hp => ⟨by rw [a0 (26 + p) (by omega) (by omega) (by omega), hm], fun i _ h => ?_⟩, fun p hp => ⟨by rw [a0 (34 + p) (by omega) (by omega) (by omega), hh], fun i _ h => ?_⟩, fun w hw => absurd hw (Nat.not_lt_zero w)⟩, ⟨fun p hp => ?_, fun p hp => absurd hp (Nat.not_lt_zero p), fun p _ hp => ?_, fun q hq => ?_, fun w hw => ?_, ⟨?_, ?_, ?_⟩, ⟨43, by omega, ?_⟩, fun p hp => absurd hp (Nat.not_lt_zero p), fun p hp => absurd hp (Nat.not_lt_zero p), fun p q hp hq => ⟨0, by omega, ?_, fun _ => rfl⟩, fun w hw => ⟨0, ?_, by omega, fun _ => rfl, fun h => absurd h (Nat.not_lt_zero w)⟩⟩, by omega, fun h hh => absurd hh (Nat.not_lt_zero h), ⟨0, hs.1, by omega, by omega, fun _ => 0, fun k hk => absurd hk (Nat.not_lt_zero k), fun j k _ hk => absurd hk (Nat.not_lt_zero k)⟩, ⟨hs.2, a0 4 (by omega) (by omega) (by omega)⟩, ⟨h0.1, a0 2 (by omega) (by omega) (by omega), by omega⟩, by rw [ha 3 (by omega), if_pos rfl]; exact h0.2.symm, Or.inl h0.2⟩
  · rw [hm, bt_none] at h; cases h
  · rw [hh, bt_none] at h; cases h
  · refine ⟨?_, ?_, ?_⟩
    · rw [nu_d σ (b + 8) hp]; show a (60 + p) = _; rw [a0 _ (by omega) (by omega) (by omega)]; exact (hd p).symm
    · rw [nu_o σ (b + 8) hp]; show a (60 + (16 + p)) = _; rw [a0 _ (by omega) (by omega) (by omega)]; exact (ho p).symm
    · rw [nu_r σ (b + 8) hp]; show a (60 + (24 + p)) = _; rw [a0 _ (by omega) (by omega) (by omega)]; exact (hr p).symm
  · rw [nu_d σ (b + 8) hp, nu_w σ (b + 8) hp, nu_o σ (b + 8) hp, nu_r σ (b + 8) hp]
    exact ⟨hd p, hw p hp, ho p, hr p⟩
  · rw [nu_e σ (b + 8) hq]; show a (60 + (38 + q)) = _; rw [a0 _ (by omega) (by omega) (by omega)]; exact (he q).symm
  · rw [nu_n σ (b + 8) hw]; show a (60 + (32 + w)) = _; rw [a0 _ (by omega) (by omega) (by omega)]; exact (hx w).symm
  · rw [nu_h]; show a (60 + 102) = _; rw [a0 _ (by omega) (by omega) (by omega)]; exact hn.1.symm
  · rw [nu_x]; show a (60 + 103) = _; rw [ha _ (by omega), if_neg (by omega), if_pos rfl]; exact hn.2.symm
  · rw [nu_h]; exact hn.1
  · rw [nu_x]; exact hn.2
  · rw [nu_e σ (b + 8) (show 8 * p + q < 64 by omega)]; exact he _
  · rw [nu_n σ (b + 8) hw]; exact hx w
theorem sg_110 : ∀ j, sg1 110 j = if j = 3 then -1 else if j = 163 then nI 43 else 0 := fun j => by
  show upd (upd (fun _ => 0) 3 (-1)) 163 (nI 43) j = _
  by_cases h1 : j = 163
  · subst h1; rw [pk_us, if_neg (by omega), if_pos rfl]
  · rw [pk_un h1]
    by_cases h2 : j = 3
    · subst h2; rw [pk_us, if_pos rfl]
    · rw [pk_un h2, if_neg h2, if_neg h1]
theorem cx_m8_v : ∀ p, p < 8 → cx_m8 p = -1 := by decide +kernel
theorem Rel_0 {σ : gx_R} (h : ∀ c, c ≠ 111 → σ c = sg1 c) (h1 : ∀ j, j < 8880 → σ 111 j = sg1 110 j) : Rel σ σ := by
  refine ⟨0, 0, 0, 0, 0, 0, 0, 0, 0, 0, ?_, ?_, Nat.le_refl _, ⟨0, by omega, ?_, ?_, fun i hi => absurd hi (Nat.not_lt_zero i)⟩, ⟨?_, ?_⟩, fun t ht => absurd ht (Nat.not_lt_zero t)⟩
  · refine Valley_0 ⟨?_, ?_⟩ ⟨?_, ?_⟩ (fun p => ?_) (fun p => ?_) ⟨?_, ?_⟩ (fun p => ?_) (fun p hp => ?_) (fun p => ?_) (fun p => ?_) (fun p => ?_) (fun p => ?_) ⟨?_, ?_⟩ (fun j hj => by rw [h 110 (by omega)]; exact sg_110 j)
    · rw [h 1 (by omega)]; rfl
    · rw [h 1 (by omega)]; rfl
    · rw [h 2 (by omega)]; rfl
    · rw [h 2 (by omega)]; rfl
    · rw [h 5 (by omega)]; rfl
    · rw [h 6 (by omega)]; rfl
    · rw [h 9 (by omega)]; rfl
    · rw [h 9 (by omega)]; rfl
    · rw [h 10 (by omega)]; rfl
    · rw [h 11 (by omega)]; exact cx_m8_v p hp
    · rw [h 12 (by omega)]; rfl
    · rw [h 13 (by omega)]; rfl
    · rw [h 14 (by omega)]; rfl
    · rw [h 15 (by omega)]; rfl
    · rw [h 16 (by omega)]; rfl
    · rw [h 16 (by omega)]; rfl
  · refine Valley_0 ⟨?_, ?_⟩ ⟨?_, ?_⟩ (fun p => ?_) (fun p => ?_) ⟨?_, ?_⟩ (fun p => ?_) (fun p hp => ?_) (fun p => ?_) (fun p => ?_) (fun p => ?_) (fun p => ?_) ⟨?_, ?_⟩ (fun j hj => by rw [h1 j hj]; exact sg_110 j)
    · rw [h 19 (by omega)]; rfl
    · rw [h 19 (by omega)]; rfl
    · rw [h 20 (by omega)]; rfl
    · rw [h 20 (by omega)]; rfl
    · rw [h 23 (by omega)]; rfl
    · rw [h 24 (by omega)]; rfl
    · rw [h 27 (by omega)]; rfl
    · rw [h 27 (by omega)]; rfl
    · rw [h 28 (by omega)]; rfl
    · rw [h 29 (by omega)]; exact cx_m8_v p hp
    · rw [h 30 (by omega)]; rfl
    · rw [h 31 (by omega)]; rfl
    · rw [h 32 (by omega)]; rfl
    · rw [h 33 (by omega)]; rfl
    · rw [h 34 (by omega)]; rfl
    · rw [h 34 (by omega)]; rfl
  · rw [h 0 (by omega)]; rfl
  · rw [h 109 (by omega)]; rfl
  · rw [h 109 (by omega), h 39 (by omega)]; rfl
  · rw [h 109 (by omega), h 39 (by omega)]; rfl
