/-! ===== text ===== -/
theorem cp_ne {σ : gx_R} {k0 k1 sp dp n c : Nat} (h : c ≠ k1) : gx_cp σ k0 k1 sp dp n c = σ c := by
  funext j
  simp [gx_cp, h]
theorem cp_0 {σ : gx_R} {k0 k1 n j : Nat} (h : j < n) : gx_cp σ k0 k1 (0 : Int32).toNatClampNeg (0 : Int32).toNatClampNeg n k1 j = σ k0 j := by
  rw [cp_row, if_pos (show (0 : Int32).toNatClampNeg ≤ j ∧ j < (0 : Int32).toNatClampNeg + n from ⟨Nat.zero_le _, by show j < 0 + n; omega⟩)]
  show σ k0 (0 + (j - 0)) = σ k0 j
  rw [Nat.zero_add, Nat.sub_zero]
theorem keep_C {σ : gx_R} {b0 cn : Nat} (hb : 81 ≤ b0) (h7 : σ 43 7 = nI cn) (hc : cn ≤ 300) : ∃ σ', Te_copy b0 σ = some ((), σ') ∧ (∀ c, ¬ (b0 ≤ c ∧ c ≤ b0 + 6) → σ' c = σ c) ∧ (σ' b0 4 = σ 43 4 ∧ σ' b0 7 = nI cn) ∧ (∀ j, j < 24 → σ' (b0 + 1) j = σ 44 j ∧ σ' (b0 + 2) j = σ 45 j ∧ σ' (b0 + 3) j = σ 46 j ∧ σ' (b0 + 4) j = σ 47 j) ∧ (∀ j, j < 4 → σ' (b0 + 5) j = σ 48 j) ∧ ∀ j, j < cn → σ' (b0 + 6) j = σ 49 j := by
  have t24 : (24 : Int32).toNatClampNeg = 24 := rfl
  have t4 : (4 : Int32).toNatClampNeg = 4 := rfl
  obtain ⟨σ1, q1⟩ : ∃ σ1, σ1 = gx_cp σ 44 (b0 + 1) (0 : Int32).toNatClampNeg (0 : Int32).toNatClampNeg (24 : Int32).toNatClampNeg := ⟨_, rfl⟩
  obtain ⟨σ2, q2⟩ : ∃ σ2, σ2 = gx_cp σ1 45 (b0 + 2) (0 : Int32).toNatClampNeg (0 : Int32).toNatClampNeg (24 : Int32).toNatClampNeg := ⟨_, rfl⟩
  obtain ⟨σ3, q3⟩ : ∃ σ3, σ3 = gx_cp σ2 46 (b0 + 3) (0 : Int32).toNatClampNeg (0 : Int32).toNatClampNeg (24 : Int32).toNatClampNeg := ⟨_, rfl⟩
  obtain ⟨σ4, q4⟩ : ∃ σ4, σ4 = gx_cp σ3 47 (b0 + 4) (0 : Int32).toNatClampNeg (0 : Int32).toNatClampNeg (24 : Int32).toNatClampNeg := ⟨_, rfl⟩
  obtain ⟨σ5, q5⟩ : ∃ σ5, σ5 = gx_cp σ4 48 (b0 + 5) (0 : Int32).toNatClampNeg (0 : Int32).toNatClampNeg (4 : Int32).toNatClampNeg := ⟨_, rfl⟩
  obtain ⟨σ6, q6⟩ : ∃ σ6, σ6 = gx_cp σ5 49 (b0 + 6) (0 : Int32).toNatClampNeg (0 : Int32).toNatClampNeg (σ5 43 7).toNatClampNeg := ⟨_, rfl⟩
  obtain ⟨σ7, q7⟩ : ∃ σ7, σ7 = gx_up σ6 b0 4 (σ6 43 4) := ⟨_, rfl⟩
  have g1 : ∀ c, c ≠ b0 + 1 → σ1 c = σ c := fun c h => by rw [q1, cp_ne h]
  have g2 : ∀ c, c ≠ b0 + 2 → σ2 c = σ1 c := fun c h => by rw [q2, cp_ne h]
  have g3 : ∀ c, c ≠ b0 + 3 → σ3 c = σ2 c := fun c h => by rw [q3, cp_ne h]
  have g4 : ∀ c, c ≠ b0 + 4 → σ4 c = σ3 c := fun c h => by rw [q4, cp_ne h]
  have g5 : ∀ c, c ≠ b0 + 5 → σ5 c = σ4 c := fun c h => by rw [q5, cp_ne h]
  have g6 : ∀ c, c ≠ b0 + 6 → σ6 c = σ5 c := fun c h => by rw [q6, cp_ne h]
  have g7 : ∀ c, c ≠ b0 → σ7 c = σ6 c := fun c h => by rw [q7, gx_up_ne h]
  have g8 : ∀ c x, c ≠ b0 → gx_up σ7 b0 7 x c = σ7 c := fun c x h => by rw [gx_up_ne h]
  have e7 : σ5 43 7 = nI cn := by rw [g5 43 (by omega), g4 43 (by omega), g3 43 (by omega), g2 43 (by omega), g1 43 (by omega)]; exact h7
  refine ⟨gx_up σ7 b0 7 (σ7 43 7), ?_, fun c hc => ?_, ⟨?_, ?_⟩, fun j hj => ⟨?_, ?_, ?_, ?_⟩, fun j hj => ?_, fun j hj => ?_⟩
  · rw [Te_copy, ← q1, ← q2, ← q3, ← q4, ← q5, ← q6, ← q7, e7, show (0 : Int32) = nI 0 from rfl, cpk_n (by omega) (by omega) (by omega) (by omega), w_ck]
  · rw [g8 c _ (by omega), g7 c (by omega), g6 c (by omega), g5 c (by omega), g4 c (by omega), g3 c (by omega), g2 c (by omega), g1 c (by omega)]
  · rw [up_p _ _ _ (by omega), q7, up_e, g6 43 (by omega), g5 43 (by omega), g4 43 (by omega), g3 43 (by omega), g2 43 (by omega), g1 43 (by omega)]
  · rw [up_e, g7 43 (by omega), g6 43 (by omega), e7]
  · rw [g8 _ _ (by omega), g7 _ (by omega), g6 _ (by omega), g5 _ (by omega), g4 _ (by omega), g3 _ (by omega), g2 _ (by omega), q1, t24, cp_0 hj]
  · rw [g8 _ _ (by omega), g7 _ (by omega), g6 _ (by omega), g5 _ (by omega), g4 _ (by omega), g3 _ (by omega), q2, t24, cp_0 hj, g1 _ (by omega)]
  · rw [g8 _ _ (by omega), g7 _ (by omega), g6 _ (by omega), g5 _ (by omega), g4 _ (by omega), q3, t24, cp_0 hj, g2 _ (by omega), g1 _ (by omega)]
  · rw [g8 _ _ (by omega), g7 _ (by omega), g6 _ (by omega), g5 _ (by omega), q4, t24, cp_0 hj, g3 _ (by omega), g2 _ (by omega), g1 _ (by omega)]
  · rw [g8 _ _ (by omega), g7 _ (by omega), g6 _ (by omega), q5, t4, cp_0 hj, g4 _ (by omega), g3 _ (by omega), g2 _ (by omega), g1 _ (by omega)]
  · rw [g8 _ _ (by omega), g7 _ (by omega), q6, e7, cl_n (by omega), cp_0 hj, g5 _ (by omega), g4 _ (by omega), g3 _ (by omega), g2 _ (by omega), g1 _ (by omega)]
theorem Valley_T {σ σ' : gx_R} {a a' : gx_F} {P W H K T T' : Nat} (hs : ∀ c, 2 ≤ c → c ≤ 18 → σ' c = σ c) (h14 : σ' 1 4 = nI T') (h15 : σ' 1 5 = σ 1 5) (ha : ∀ j, j ≠ 2 → a' j = a j) (ha2 : a' 2 = nI T') (hT : T ≤ T' ∧ T' ≤ 4) (r : ValleyR σ 1 a P W H K T) : ValleyR σ' 1 a' P W H K T' := by
  obtain ⟨⟨⟨hP, hW⟩, ⟨f1, f2, f3, f4⟩, f5, f6, f7, f8⟩, r2, r3, r4, ⟨O, r5, r5'⟩, ⟨r6, r6'⟩, ⟨r7, r7', r7''⟩, r8, r9⟩ := r
  have e60 : (fun i => a' (60 + i)) = fun i => a (60 + i) := by funext i; exact ha _ (by omega)
  have en : nuC σ' 9 = nuC σ 9 := nuC_fr (fun k h1 h2 => hs k (by omega) (by omega))
  refine ⟨?_, ?_, r3, ?_, ⟨O, ?_, ?_⟩, ⟨?_, ?_⟩, ⟨h14, ha2, hT.2⟩, ?_, ?_⟩
  · show FolkR (σ' 2 0) (σ' 2 1) (σ' 3) (σ' 4) (σ' 5) (σ' 6) (σ' 7) (σ' 8) a' P W
    rw [hs 2 (by omega) (by omega), hs 3 (by omega) (by omega), hs 4 (by omega) (by omega), hs 5 (by omega) (by omega), hs 6 (by omega) (by omega), hs 7 (by omega) (by omega), hs 8 (by omega) (by omega)]
    refine ⟨⟨hP, hW⟩, ⟨f1, by rw [ha 0 (by omega)]; exact f2, f3, by rw [ha 1 (by omega)]; exact f4⟩, fun p hp => ?_, fun p hp => ?_, fun p hp => ?_, fun w hw => ?_⟩
    · rw [ha (10 + p) (by omega), ha (18 + p) (by omega)]; exact f5 p hp
    · rw [ha (26 + p) (by omega)]; exact f6 p hp
    · rw [ha (34 + p) (by omega)]; exact f7 p hp
    · rw [ha (42 + w) (by omega), ha (48 + w) (by omega)]; exact f8 w hw
  · show NightR (nuC σ' 9) (fun i => a' (60 + i)) (σ' 7) P W H
    rw [en, e60, hs 7 (by omega) (by omega)]; exact r2
  · show KeptR (σ' 18) (fun i => a' (60 + i)) H
    rw [e60, hs 18 (by omega) (by omega)]; exact r4
  · show σ' 16 1 = nI O
    rw [hs 16 (by omega) (by omega)]; exact r5
  · show StepsR (σ' 17) (σ' 18) (σ' 7) a' P W H K O
    rw [hs 17 (by omega) (by omega), hs 18 (by omega) (by omega), hs 7 (by omega) (by omega)]
    exact StepsR_cong hP (fun _ _ => rfl) (fun _ _ => rfl) (fun _ _ => rfl) (fun i h1 h2 => ha i (by omega)) r5'
  · show σ' 16 2 = nI K
    rw [hs 16 (by omega) (by omega)]; exact r6
  · rw [ha 4 (by omega)]; exact r6'
  · rw [ha 3 (by omega), h15]; exact r8
  · rw [h15]
    rcases r9 with r9 | ⟨r, h1, h2⟩
    · exact Or.inl r9
    · exact Or.inr ⟨r, by omega, h2⟩
theorem CodeR_fr {cw co cv co' cv' : gx_F} {c0 r0 l sz rz : Nat} (ho : ∀ i, i < rz → co' i = co i) (hv : ∀ i, i < rz → cv' i = cv i) (h : CodeR cw co cv c0 r0 l sz rz) : CodeR cw co' cv' c0 r0 l sz rz := by
  obtain ⟨len, tp, h1, h2, h3, h5, h6, h7, h8, h9, h10⟩ := h
  refine ⟨len, tp, h1, h2, h3, h5, by rw [ho _ h3]; exact h6, h7, h8, h9, fun j hj => ?_⟩
  have h := h10 j hj
  unfold WordR at h ⊢
  rw [ho (r0 + j) (by omega), hv (r0 + j) (by omega)]
  exact h
/-- a text of before, unharmed -/
theorem Text_o {σ σ' τ τ' : gx_R} {t T : Nat} (ht : t < T) (hT : T < 4) (h : ∀ c, 81 ≤ c → c < 81 + 7 * T → σ' c = σ c) (h113 : ∀ j, j ≠ T → τ' 113 j = τ 113 j) (h114 : ∀ c j, 114 ≤ c → c ≤ 118 → j < 24 * T → τ' c j = τ c j) (h119 : ∀ c j, 119 ≤ c → c ≤ 120 → j < 400 * T → τ' c j = τ c j) (r : TextR σ τ t) : TextR σ' τ' t := by
  obtain ⟨n, sz, r1, r2, r3, r4, r5, r6⟩ := r
  have d : ∀ i, i ≤ 6 → σ' (81 + 7 * t + i) = σ (81 + 7 * t + i) := fun i hi => h _ (by omega) (by omega)
  have d0 : σ' (81 + 7 * t) = σ (81 + 7 * t) := h _ (by omega) (by omega)
  have g : ∀ c k, 114 ≤ c → c ≤ 118 → k < n → τ' c (24 * t + k) = τ c (24 * t + k) := fun c k c1 c2 hk => h114 c _ c1 c2 (by omega)
  refine ⟨n, sz, r1, by rw [d0]; exact r2, by rw [h113 t (by omega)]; exact r3, by rw [d0]; exact r4, fun k hk => ?_, fun l hl => ?_⟩
  · rw [d 1 (by omega), d 2 (by omega), d 3 (by omega), d 4 (by omega), g 114 k (by omega) (by omega) hk, g 116 k (by omega) (by omega) hk, g 117 k (by omega) (by omega) hk, g 118 k (by omega) (by omega) hk]
    exact r5 k hk
  · rcases r6 l hl with ⟨e1, e2⟩ | ⟨c0, r0, k, k1, k2, k3, k4, k5, k6⟩
    · exact Or.inl ⟨by rw [d 5 (by omega)]; exact e1, fun k hk => by rw [g 114 k (by omega) (by omega) hk]; exact e2 k hk⟩
    · refine Or.inr ⟨c0, r0, k, k1, by rw [g 114 k (by omega) (by omega) k1]; exact k2, fun k' h1 h2 => k3 k' h1 (by rw [g 114 k' (by omega) (by omega) h1] at h2; exact h2), by rw [d 5 (by omega)]; exact k4, by rw [g 115 k (by omega) (by omega) k1]; exact k5, ?_⟩
      rw [d 6 (by omega)]
      exact CodeR_fr (fun i hi => h119 119 i (by omega) (by omega) (by omega)) (fun i hi => h119 120 i (by omega) (by omega) (by omega)) k6
/-- the new text -/
theorem Text_n {σ' τ' σF τF : gx_R} {T q cn rn : Nat} (hT : T < 4) (hq : q ≤ 24) (h4 : σF (81 + 7 * T) 4 = nI q) (h7 : σF (81 + 7 * T) 7 = nI cn) (h1 : ∀ j, j < 24 → σF (81 + 7 * T + 1) j = σ' 44 j ∧ σF (81 + 7 * T + 2) j = σ' 45 j ∧ σF (81 + 7 * T + 3) j = σ' 46 j ∧ σF (81 + 7 * T + 4) j = σ' 47 j) (h5 : ∀ j, j < 4 → σF (81 + 7 * T + 5) j = σ' 48 j) (h6 : ∀ j, j < cn → σF (81 + 7 * T + 6) j = σ' 49 j) (m3 : τF 113 T = nI q) (m4 : ∀ j, j < q → τF 114 (24 * T + j) = τ' 126 j ∧ τF 115 (24 * T + j) = nI (400 * T) + τ' 127 j ∧ τF 116 (24 * T + j) = τ' 128 j ∧ τF 117 (24 * T + j) = τ' 129 j ∧ τF 118 (24 * T + j) = τ' 130 j) (m5 : ∀ j, j < rn → τF 119 (400 * T + j) = τ' 131 j ∧ τF 120 (400 * T + j) = if τ' 131 j = 403 ∨ τ' 131 j = 404 then τ' 132 j + nI (400 * T) else τ' 132 j) (q8 : ∀ k, k < q → ClR σ' τ' k) (q9 : ∀ l, l < 4 → LwR σ' τ' q cn rn l) : TextR σF τF T := by
  refine ⟨q, cn, hq, h4, m3, h7, fun k hk => ?_, fun l hl => ?_⟩
  · obtain ⟨a1, a2, a3, a4⟩ := h1 k (by omega)
    obtain ⟨b1, b2, b3, b4, b5⟩ := m4 k hk
    rw [a1, a2, a3, a4, b1, b3, b4, b5]
    exact q8 k hk
  · rcases q9 l hl with ⟨e1, e2⟩ | ⟨c0, r0, k, k1, k2, k3, k4, k5, k6⟩
    · exact Or.inl ⟨by rw [h5 l hl]; exact e1, fun k hk => by rw [(m4 k hk).1]; exact e2 k hk⟩
    · refine Or.inr ⟨c0, 400 * T + r0, k, k1, by rw [(m4 k k1).1]; exact k2, fun k' x1 x2 => k3 k' x1 (by rw [(m4 k' x1).1] at x2; exact x2), by rw [h5 l hl]; exact k4, by rw [(m4 k k1).2.1, k5, nI_add], ?_⟩
      have := CodeZ_s (cw' := σF (81 + 7 * T + 6)) (co' := τF 119) (cv' := τF 120) (D := 400 * T) k6 (by omega) h6 (fun i hi => (m5 i hi).1) (fun i hi => (m5 i hi).2)
      rw [show 400 * T + 400 = 400 * (T + 1) by omega] at this
      exact this
theorem S_text {σ τ : gx_R} (r : Rel σ τ) : SimP Sf_text Md_text σ τ := by
  have hf := z_FU_ge
  have r0 := r
  obtain ⟨P, W, H, K, T, P', W', H', K', T', r1, r2, r3, r4, r5, r6⟩ := r
  obtain ⟨v1, v2, v3⟩ := r1.2.2.2.2.2.2.1
  have v0 : ¬ nI T < 0 := fun z => (n_lt0 (by omega)).mp z
  by_cases c4 : T = 4
  · subst c4
    refine SimP_ro r0 (-1) ?_ ?_
    · rw [Sf_text, v1, if_neg v0, if_neg (show ¬ nI 4 < nI 4 by decide)]
    · rw [Md_text, if_pos (show τ 110 ((2 : Int32).toNatClampNeg) = 4 from v2)]
  have hT : T < 4 := by omega
  have t4 : ¬ τ 110 2 = 4 := by
    rw [v2]; intro z
    have := (nI_eq (b := 4) (by omega) (by omega)).mp z
    omega
  obtain ⟨b, nb, N, σ1, τ1, a1, a2, a3, a4, a5, a6, a7, ⟨a8, a9⟩, hTI⟩ := start_v r4 t4
  have eC : Sf_text σ = z_bd (Re_read_29 z_FU (nI 0) σ1) (fun r3 σ4 => if r3 = 0 then some ((-1 : Int32), (gx_up σ4 0 4 (0 : Int32))) else z_ck (z_ix (nI T) 4) (z_bd (Te_copy (81 + 7 * (nI T).toNatClampNeg) (gx_up σ4 0 4 (0 : Int32))) (fun _ σ9 => some (nI T, (gx_up σ9 1 4 (nI T + (1 : Int32))))))) := by
    rw [Sf_text, v1, if_neg v0, if_pos (show nI T < nI 4 from (nI_ltI (by omega) (by omega)).mpr hT), a1]
  rcases read_v N 0 0 z_FU 0 0 0 σ1 τ1 (by omega) (by omega) (Nat.le_refl _) hTI with ⟨e, t', k, σB, f1, f2, f3, f4, ⟨σ', f5, f6⟩, f7⟩ | ⟨σ', τ', t', k, q, cn, rn, g1, g2, g3, g4, g5, g6, g7⟩
  · obtain ⟨τ', h1, ⟨h2, h2'⟩, h3, h4⟩ := f7 (z_FU - k)
    rw [show z_FU - k + k = z_FU by omega] at h1
    obtain ⟨s1, s2, -, s4⟩ := f6
    have fr : ∀ c, c ≠ 39 → ¬ (40 ≤ c ∧ c ≤ 49) → σ' c = σ c := fun c c1 c2 => by rw [s4.1 c c1 (by omega) (by omega), f4.1 c c1 (by omega), a4 c c1 (by omega) (by omega)]
    have fm : ∀ c, c ≠ 109 → c < 121 → τ' c = τ c := fun c c1 c2 => by rw [h4.1 c c1 c2, a5 c c1]
    refine ⟨-1, gx_up σ' 0 4 0, gx_up (gx_up τ' 109 4 (nI e)) 109 5 (nI (tkS b nb t')), ?_, ?_, ⟨P, W, H, K, T, P', W', H', K', T', ?_, ?_, r3, ?_, ⟨?_, ?_⟩, fun t ht => ?_⟩, fun c hc => ?_, fun c hc => ?_⟩
    · rw [eC, f5, w_bd, if_pos rfl]
    · rw [a2, h1, Md_text_72]
      have z1 : (gx_up (gx_up τ' 109 4 (τ' 109 19)) 109 5 ((gx_up τ' 109 4 (τ' 109 19)) 109 20)) = gx_up (gx_up τ' 109 4 (nI e)) 109 5 (nI (tkS b nb t')) := by rw [up_p _ _ _ (by omega), h2, h3]
      have z2 : (gx_up (gx_up τ' 109 4 (nI e)) 109 5 (nI (tkS b nb t'))) 109 19 = nI e := by rw [up_p _ _ _ (by omega), up_p _ _ _ (by omega), h2]
      rw [z1, z2, if_neg (fun z => by have := (n_le0 (by omega)).mp z; omega)]
    · rw [gx_up_ne (by omega), gx_up_ne (by omega), fm 110 (by omega) (by omega)]
      exact ValleyR_fr (fun c c1 c2 => by rw [gx_up_ne (by omega), fr c (by omega) (by omega)]) r1
    · rw [gx_up_ne (by omega), gx_up_ne (by omega), fm 111 (by omega) (by omega)]
      exact ValleyR_fr (fun c c1 c2 => by rw [gx_up_ne (by omega), fr c (by omega) (by omega)]) r2
    · refine ⟨0, Nat.zero_le _, by rw [up_e]; rfl, ?_, fun i hi => absurd hi (Nat.not_lt_zero i)⟩
      rw [up_p _ _ _ (by omega), up_p _ _ _ (by omega), h4.2 3 (by omega), a7]; rfl
    · rw [up_p _ _ _ (by omega), up_e, up_c _ _ _ _ (by omega)]; exact s1.symm
    · rw [up_e, up_c _ _ _ _ (by omega)]; exact s2.symm
    · exact TextR_fr (fun c c1 c2 => by rw [gx_up_ne (by omega), fr c (by omega) (by omega)]) (fun c c1 c2 => by rw [gx_up_ne (by omega), gx_up_ne (by omega), fm c (by omega) (by omega)]) (by omega) (r6 t ht)
    · rw [gx_up_ne (by omega), fr c (by omega) (by omega)]
    · rw [gx_up_ne (by omega), gx_up_ne (by omega), fm c (by omega) (by omega)]
  · have e44 : Md_text_44 z_FU τ1 = Md_text_72 τ' := by
      have := g2 (z_FU - k)
      rw [show z_FU - k + k = z_FU by omega] at this
      exact this
    obtain ⟨⟨ck, ca, hC⟩, ⟨ck', ca', hM⟩, ⟨q1, q2, q3⟩, ⟨q4, q5⟩, q6, q7, q8, q9⟩ := g7
    have h7 : σ' 43 7 = nI cn ∧ cn ≤ 300 := hC.2.2.2.2.1
    have h37 : τ' 109 37 = nI rn := hM.2.2.2.2.2.2.2.2.1
    have fr : ∀ c, c ≠ 39 → ¬ (40 ≤ c ∧ c ≤ 49) → σ' c = σ c := fun c c1 c2 => by rw [q6.1 c c1 (by omega), a4 c c1 (by omega) (by omega)]
    have fm : ∀ c, c ≠ 109 → c < 121 → τ' c = τ c := fun c c1 c2 => by rw [q7.1 c c1 c2, a5 c c1]
    obtain ⟨τ2, k1, k2, ⟨k3, k3', k3''⟩, ⟨k4, k4'⟩, ⟨k5, k5'⟩, k6, k7, k8, k9⟩ := keep_N hT q1 (by omega) (m19 hM) (by rw [fm 110 (by omega) (by omega)]; exact v2) q3 h37
    obtain ⟨σ9, l1, l2, ⟨l3, l3'⟩, l4, l5, l6⟩ := keep_C (σ := gx_up σ' 0 4 0) (b0 := 81 + 7 * T) (cn := cn) (by omega) (by rw [up_c _ _ _ _ (by omega)]; exact h7.1) h7.2
    have u : ∀ c, c ≠ 0 → gx_up σ' 0 4 0 c = σ' c := fun c hc => gx_up_ne hc
    have w : ∀ c x, c ≠ 1 → gx_up σ9 1 4 x c = σ9 c := fun c x hc => gx_up_ne hc
    have fr9 : ∀ c, c ≠ 0 → c ≠ 39 → ¬ (40 ≤ c ∧ c ≤ 49) → ¬ (81 + 7 * T ≤ c ∧ c ≤ 81 + 7 * T + 6) → σ9 c = σ c := fun c c1 c2 c3 c4 => by rw [l2 c c4, u c c1, fr c c2 c3]
    refine ⟨nI T, gx_up σ9 1 4 (nI (T + 1)), τ2, ?_, by rw [a2, e44, k1], ⟨P, W, H, K, T + 1, P', W', H', K', T', ?_, ?_, by omega, ?_, ⟨?_, ?_⟩, fun t ht => ?_⟩, fun c hc => ?_, fun c hc => ?_⟩
    · rw [eC, g1, w_bd, if_neg (show ¬ (1 : Int32) = 0 by decide), ix_n (by omega), decide_eq_true hT, w_ck, cl_n (by omega), l1, w_bd, show nI T + 1 = nI (T + 1) from nI_add T 1]
    · refine Valley_T (T := T) (fun c c1 c2 => ?_) (up_e _ _ _ _) ?_ (fun j hj => ?_) k4 ⟨by omega, by omega⟩ r1
      · rw [w c _ (by omega), fr9 c (by omega) (by omega) (by omega) (by omega)]
      · rw [up_p _ _ _ (by omega), fr9 1 (by omega) (by omega) (by omega) (by omega)]
      · rw [k4' j hj, fm 110 (by omega) (by omega)]
    · rw [k2 111 (by omega) (by omega) (by omega), fm 111 (by omega) (by omega)]
      exact ValleyR_fr (fun c c1 c2 => by rw [w c _ (by omega), fr9 c (by omega) (by omega) (by omega) (by omega)]) r2
    · refine ⟨0, Nat.zero_le _, ?_, ?_, fun i hi => absurd hi (Nat.not_lt_zero i)⟩
      · rw [w 0 _ (by omega), l2 0 (by omega), up_e]; rfl
      · rw [k3'' 3 (by omega) (by omega), q7.2 3 (by omega), a7]; rfl
    · rw [k3, w 39 _ (by omega), l2 39 (by omega), u 39 (by omega), q6.2.1 11 (by omega) (by omega) (by omega), a8]
    · rw [k3', w 39 _ (by omega), l2 39 (by omega), u 39 (by omega), q6.2.1 12 (by omega) (by omega) (by omega), a9, hM.2.1.2]
    · by_cases c : t = T
      · subst c
        refine Text_n (σ' := σ') (τ' := τ') hT q1 ?_ ?_ (fun j hj => ?_) (fun j hj => ?_) (fun j hj => ?_) k5 k8 k9 q8 q9
        · rw [w _ _ (by omega), l3, u 43 (by omega)]; exact q2
        · rw [w _ _ (by omega)]; exact l3'
        · have := l4 j hj
          rw [u 44 (by omega), u 45 (by omega), u 46 (by omega), u 47 (by omega)] at this
          rw [w _ _ (by omega), w _ _ (by omega), w _ _ (by omega), w _ _ (by omega)]
          exact this
        · rw [w _ _ (by omega), l5 j hj, u 48 (by omega)]
        · rw [w _ _ (by omega), l6 j hj, u 49 (by omega)]
      · refine Text_o (T := T) (by omega) hT (fun c c1 c2 => ?_) (fun j hj => ?_) (fun c j c1 c2 hj => ?_) (fun c j c1 c2 hj => ?_) (r6 t (by omega))
        · rw [w c _ (by omega), fr9 c (by omega) (by omega) (by omega) (by omega)]
        · rw [k5' j hj, fm 113 (by omega) (by omega)]
        · rw [k6 c j c1 c2 (by omega), fm c (by omega) (by omega)]
        · rw [k7 c j c1 c2 (by omega), fm c (by omega) (by omega)]
    · rw [w c _ (by omega), fr9 c (by omega) (by omega) (by omega) (by omega)]
    · rw [k2 c (by omega) (by omega) (by omega), fm c (by omega) (by omega)]
