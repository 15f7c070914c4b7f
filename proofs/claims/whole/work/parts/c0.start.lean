/-! ===== the reading begins ===== -/
theorem start_C {σ : gx_R} {b : Nat → Nat} {n : Nat} (hn : n ≤ 300) (h0 : σ 0 4 = nI n) (hb : ∀ i, i < n → σ 38 i = nI (b i) ∧ b i < 256) : ∃ T σ1 ck ca, Re_read (σ 0 4) σ = Re_read_29 z_FU (nI 0) σ1 ∧ T ≤ 300 ∧ (∀ c, c ≠ 39 → ¬ (40 ≤ c ∧ c ≤ 43) → c ≠ 48 → σ1 c = σ c) ∧ CR b n T 0 σ1 σ1 0 0 ck ca ∧ (∀ l, l < 4 → σ1 48 l = -1) ∧ σ1 43 4 = nI 0 ∧ σ1 39 11 = 0 ∧ σ1 39 12 = -1 := by
  have hT : TpC (gx_up σ 39 1 (if nI 300 < σ 0 4 then nI 300 else σ 0 4)) b n := by
    refine ⟨hn, ?_, fun i hi => by rw [gx_up_ne (by omega)]; exact hb i hi⟩
    rw [up_e, h0]
    by_cases c : nI 300 < nI n
    · have := (nI_ltI (a := 300) (by omega) (by omega)).mp c
      omega
    · rw [if_neg c]
  obtain ⟨T, σ2, e1, e2, e3, e4, e5, e6, e7, e8⟩ := split_v hT
  obtain ⟨σ5, d1, d2, d3, d4, d5, -⟩ := clear_v (gx_up (gx_up σ2 39 11 0) 39 12 (-1))
  obtain ⟨σ1, hσ1⟩ : ∃ σ1, σ1 = gx_up (gx_up σ5 39 7 0) 39 8 ((gx_up σ5 39 7 0) 40 ((0 : Int32).toNatClampNeg)) := ⟨_, rfl⟩
  have f : ∀ c, c ≠ 39 → c ≠ 43 → c ≠ 48 → σ1 c = σ2 c := fun c c1 c2 c3 => by rw [hσ1, gx_up_ne c1, gx_up_ne c1, d2 c c2 c3, gx_up_ne c1, gx_up_ne c1]
  have g : ∀ c, c ≠ 39 → σ1 c = σ5 c := fun c c1 => by rw [hσ1, gx_up_ne c1, gx_up_ne c1]
  have hK : TkC σ1 b n T := by
    refine ⟨⟨by omega, hn⟩, fun i hi => ?_, e6, ?_, ?_, ?_⟩
    · rw [f 40 (by omega) (by omega) (by omega), f 41 (by omega) (by omega) (by omega), f 42 (by omega) (by omega) (by omega)]
      exact e5 i hi
    · rw [f 41 (by omega) (by omega) (by omega)]; exact e7
    · rw [f 40 (by omega) (by omega) (by omega)]; exact e8
    · rw [hσ1, up_p _ _ _ (by omega), up_p _ _ _ (by omega), d2 39 (by omega) (by omega), up_p _ _ _ (by omega), up_p _ _ _ (by omega)]; exact e4
  refine ⟨T, σ1, fun _ => 0, fun _ => 0, ?_, by omega, fun c c1 c2 c3 => ?_, ⟨hK, Nat.zero_le _, ?_, ?_, ⟨?_, by omega⟩, fun j hj => absurd hj (Nat.not_lt_zero j), ⟨⟨fun _ _ _ _ => rfl, fun _ _ _ _ _ => rfl, fun _ _ => rfl⟩, ⟨rfl, rfl⟩, fun _ _ => rfl⟩⟩, fun l hl => ?_, ?_, ?_, ?_⟩
  · rw [Re_read, e1, w_bd, d1, w_bd, ← hσ1]; rfl
  · rw [f c c1 (by omega) c3, e3.1 c c1 (by omega), gx_up_ne c1]
  · rw [hσ1, up_p _ _ _ (by omega), up_e]; rfl
  · have := (TkC_at hK (Nat.zero_le T)).1
    rw [g 40 (by omega)] at this
    rw [hσ1, up_e, up_c _ _ _ _ (by omega)]
    exact this
  · rw [g 43 (by omega), d5]; rfl
  · rw [g 48 (by omega)]; exact d3 l hl
  · rw [g 43 (by omega), d4]; rfl
  · rw [hσ1, up_p _ _ _ (by omega), up_p _ _ _ (by omega), d2 39 (by omega) (by omega), up_p _ _ _ (by omega), up_e]
  · rw [hσ1, up_p _ _ _ (by omega), up_p _ _ _ (by omega), d2 39 (by omega) (by omega), up_e]
theorem start_M {τ : gx_R} {b : Nat → Nat} {n : Nat} (hn : n ≤ 300) (h0 : τ 109 3 = nI n) (hb : ∀ i, i < n → τ 112 i = bv (b i) ∧ b i < 256) (h4 : ¬ τ 110 2 = 4) : ∃ τ1 ck ca, Md_text τ = Md_text_44 z_FU τ1 ∧ (∀ c, c ≠ 109 → τ1 c = τ c) ∧ (∀ j, j < 14 → j ≠ 3 → τ1 109 j = τ 109 j) ∧ τ1 109 3 = 0 ∧ τ1 109 30 = nI 0 ∧ MR b n 0 τ1 τ1 0 [] [] 4 0 ck ca := by
  obtain ⟨τ0, hτ0⟩ : ∃ τ0, τ0 = (gx_up (gx_up (gx_up (gx_up (gx_up (gx_up (gx_up (gx_up (gx_up (gx_up (gx_up τ 109 14 (τ 109 3)) 109 3 (0 : Int32)) 109 15 (0 : Int32)) 109 19 (0 : Int32)) 109 20 (-1 : Int32)) 109 21 (0 : Int32)) 109 22 (0 : Int32)) 109 25 (0 : Int32)) 109 28 (4 : Int32)) 109 30 (0 : Int32)) 109 37 (0 : Int32)) := ⟨_, rfl⟩
  have k : ∀ c, c ≠ 109 → τ0 c = τ c := fun c hc => by
    rw [hτ0]; repeat rw [gx_up_ne hc]
  have k2 : τ0 109 14 = nI n ∧ τ0 109 3 = 0 ∧ τ0 109 15 = nI 0 ∧ τ0 109 19 = 0 ∧ τ0 109 20 = -1 ∧ τ0 109 21 = 0 ∧ τ0 109 22 = 0 ∧ τ0 109 25 = 0 ∧ τ0 109 28 = 4 ∧ τ0 109 30 = 0 ∧ τ0 109 37 = 0 := by
    rw [hτ0, ← h0]
    refine ⟨?_, ?_, ?_, ?_, ?_, ?_, ?_, ?_, ?_, ?_, ?_⟩ <;> rfl
  have k3 : ∀ j, j < 14 → j ≠ 3 → τ0 109 j = τ 109 j := fun j j1 j2 => by
    rw [hτ0, up_p _ _ _ (by omega), up_p _ _ _ (by omega), up_p _ _ _ (by omega), up_p _ _ _ (by omega), up_p _ _ _ (by omega), up_p _ _ _ (by omega), up_p _ _ _ (by omega), up_p _ _ _ (by omega), up_p _ _ _ (by omega), up_p _ _ _ j2, up_p _ _ _ (by omega)]
  obtain ⟨q14, q3, q15, q19, q20, q21, q22, q25, q28, q30, q37⟩ := k2
  have hT : TpM τ0 b n := ⟨hn, q14, fun i hi => by rw [k 112 (by omega)]; exact hb i hi⟩
  obtain ⟨τ1, n1, n2, n3, n4, n5⟩ := nxt_v hT (Nat.zero_le n) q15
  have hbn := (tkR_b (P := isK) (b := b) (n := n) (n - 0) 0 (by omega)).2.1
  have j1 : ∀ j, ¬ (15 ≤ j ∧ j ≤ 18) → τ1 109 j = τ0 109 j := n2.2
  refine ⟨τ1, fun _ => 0, fun _ => 0, ?_, fun c hc => by rw [n2.1 c hc, k c hc], fun j a1 a2 => by rw [j1 j (by omega), k3 j a1 a2], by rw [j1 3 (by omega), q3], by rw [j1 30 (by omega), q30]; rfl, ?_⟩
  · rw [Md_text, if_neg (show ¬ τ 110 ((2 : Int32).toNatClampNeg) = 4 from h4), ← hτ0, n1, w_bd]
  · refine ⟨TpM_c (n2.1 112 (by omega)) (j1 14 (by omega)) hT, ⟨by rw [j1 19 (by omega), q19], by rw [j1 20 (by omega), q20]⟩, ⟨hbn, n3, n4, n5⟩, ⟨by rw [j1 21 (by omega), q21]; rfl, by rw [j1 22 (by omega), q22]; rfl⟩, trivial, by rw [j1 25 (by omega), q25]; rfl, trivial, by rw [j1 28 (by omega), q28]; rfl, by rw [j1 37 (by omega), q37]; rfl, fun i hi => absurd hi (Nat.not_lt_zero i), fun _ _ _ _ _ => rfl, fun _ _ => ⟨rfl, rfl⟩, fun _ _ _ _ _ _ _ => rfl⟩
theorem start_v {σ τ : gx_R} (hT : TapeR (σ 0 4) (τ 109 3) (σ 38) (τ 112)) (h4 : ¬ τ 110 2 = 4) : ∃ b nb T σ1 τ1, Re_read (σ 0 4) σ = Re_read_29 z_FU (nI 0) σ1 ∧ Md_text τ = Md_text_44 z_FU τ1 ∧ T ≤ 300 ∧ (∀ c, c ≠ 39 → ¬ (40 ≤ c ∧ c ≤ 43) → c ≠ 48 → σ1 c = σ c) ∧ (∀ c, c ≠ 109 → τ1 c = τ c) ∧ (∀ j, j < 14 → j ≠ 3 → τ1 109 j = τ 109 j) ∧ τ1 109 3 = 0 ∧ (σ1 39 11 = 0 ∧ σ1 39 12 = -1) ∧ TI b nb T σ1 τ1 σ1 τ1 0 0 0 0 := by
  obtain ⟨n, hn, h0, u0, hb⟩ := hT
  obtain ⟨b, hbb⟩ : ∃ b : Nat → Nat, b = fun i => (σ 38 i).toNatClampNeg := ⟨_, rfl⟩
  have hb' : ∀ i, i < n → (σ 38 i = nI (b i) ∧ τ 112 i = bv (b i)) ∧ b i < 256 := fun i hi => by
    obtain ⟨x, x1, x2, x3⟩ := hb i hi
    have e : b i = x := by rw [hbb]; show (σ 38 i).toNatClampNeg = x; rw [x2, cl_n (by omega)]
    rw [e]; exact ⟨⟨x2, x3⟩, x1⟩
  obtain ⟨T, σ1, ck, ca, a1, a2, a3, a4, a5, a6, a7⟩ := start_C hn h0 (fun i hi => ⟨(hb' i hi).1.1, (hb' i hi).2⟩)
  obtain ⟨τ1, ck', ca', b1, b2, b3, b4, b5, b6⟩ := start_M hn u0 (fun i hi => ⟨(hb' i hi).1.2, (hb' i hi).2⟩) h4
  exact ⟨b, n, T, σ1, τ1, a1, b1, a2, a3, b2, b3, b4, a7, ⟨ck, ca, a4⟩, ⟨ck', ca', b6⟩, ⟨Nat.zero_le _, a6, b5⟩, ⟨Nat.le_refl _, Nat.le_refl _⟩, ⟨fun _ _ _ => rfl, fun _ _ _ _ => rfl, fun _ _ _ => rfl⟩, ⟨fun _ _ _ => rfl, fun _ _ => rfl⟩, fun k hk => absurd hk (Nat.not_lt_zero k), fun l hl => Or.inl ⟨a5 l hl, fun k hk => absurd hk (Nat.not_lt_zero k)⟩⟩
