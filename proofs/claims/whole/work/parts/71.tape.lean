/-! ===== tape, ruling, faults, debts, the log, the valley ===== -/
theorem byte_v (y : Int32) : ∃ x, x < 256 ∧ y &&& 255 = nI x ∧ vp_nar .byte (y.toInt8.toInt32) = (nI x).toInt8.toInt32 := by
  refine ⟨(y &&& 255).toBitVec.toNat, ?_, ?_, ?_⟩
  · rw [Int32.toBitVec_and, BitVec.toNat_and]
    exact Nat.lt_of_le_of_lt Nat.and_le_right (by decide)
  · apply Int32.toBitVec_inj.mp
    show _ = BitVec.ofNat 32 _
    rw [BitVec.ofNat_toNat, BitVec.setWidth_eq]
  · show y.toInt8.toInt32.toInt8.toInt32 = _
    have e : nI (y &&& 255).toBitVec.toNat = y &&& 255 := by
      apply Int32.toBitVec_inj.mp
      show BitVec.ofNat 32 _ = _
      rw [BitVec.ofNat_toNat, BitVec.setWidth_eq]
    have e2 : (y &&& 255).toInt8 = y.toInt8 := by
      rw [Int32.toInt8_and, show (255 : Int32).toInt8 = -1 from rfl, Int8.and_neg_one]
    rw [e, e2, Int8.toInt8_toInt32]
theorem put_L (a : Int32) : ∀ rd A n n' σ τ, rd < n → rd < n' → (rd = 0 ∧ A < 0 ∨ ∃ q, rd = q + 1 ∧ A = nI (8 * q) ∧ rd ≤ 4) → ∀ c, c + rd ≤ 300 → σ 0 4 = nI c → τ 109 3 = nI c → (∀ i, i < c → ∃ x, x < 256 ∧ σ 38 i = nI x ∧ τ 112 i = (nI x).toInt8.toInt32) → ∃ σ' τ', Sf_putBytes_2 n a A σ = some ((), σ') ∧ Md_put_2 n' a A τ = some ((), τ') ∧ σ' 0 4 = nI (c + rd) ∧ τ' 109 3 = nI (c + rd) ∧ (∀ i, i < c + rd → ∃ x, x < 256 ∧ σ' 38 i = nI x ∧ τ' 112 i = (nI x).toInt8.toInt32) ∧ (∀ k, k ≠ 0 → k ≠ 38 → σ' k = σ k) ∧ (∀ k, k ≠ 109 → k ≠ 112 → τ' k = τ k) ∧ (∀ j, j ≠ 3 → τ' 109 j = τ 109 j) := by
  intro rd
  induction rd with
  | zero =>
    intro A n n' σ τ hn hn' hA c hc h1 h2 h3
    obtain ⟨n, rfl⟩ : ∃ q, n = q + 1 := ⟨n - 1, by omega⟩
    obtain ⟨n', rfl⟩ : ∃ q, n' = q + 1 := ⟨n' - 1, by omega⟩
    have hA : A < 0 := by
      rcases hA with ⟨-, h⟩ | ⟨q, h, -⟩
      · exact h
      · omega
    refine ⟨σ, τ, ?_, ?_, h1, h2, h3, fun _ _ _ => rfl, fun _ _ _ => rfl, fun _ _ => rfl⟩
    · rw [Sf_putBytes_2, Sf_putBytes_2_B, if_pos hA]
    · rw [Md_put_2, Md_put_2_B, if_pos hA]
  | succ rd ih =>
    intro A n n' σ τ hn hn' hA c hc h1 h2 h3
    obtain ⟨n, rfl⟩ : ∃ q, n = q + 1 := ⟨n - 1, by omega⟩
    obtain ⟨n', rfl⟩ : ∃ q, n' = q + 1 := ⟨n' - 1, by omega⟩
    rcases hA with ⟨h, -⟩ | ⟨q, hq, rfl, hr⟩
    · omega
    have hq : q = rd := by omega
    subst hq
    obtain ⟨x, b1, b2, b3⟩ := byte_v (a >>> (nI (8 * q) &&& 31))
    have c1 : c < 300 := by omega
    have c2 : ¬ 300 ≤ c := by omega
    have hA : (q = 0 ∧ nI (8 * q) + -8 < 0) ∨ ∃ q', q = q' + 1 ∧ nI (8 * q) + -8 = nI (8 * q') ∧ q ≤ 4 := by
      cases q with
      | zero => exact Or.inl ⟨rfl, by decide⟩
      | succ q' =>
        refine Or.inr ⟨q', rfl, ?_, by omega⟩
        rcases (show q' = 0 ∨ q' = 1 ∨ q' = 2 ∨ q' = 3 by omega) with rfl | rfl | rfl | rfl <;> rfl
    obtain ⟨σ', τ', q1, q2, q3, q4, q5, q6, q7, q8⟩ := ih (nI (8 * q) + -8) n n' (gx_up (gx_up σ 38 c (nI x)) 0 4 (nI (c + 1))) (gx_up (gx_up τ 112 c ((nI x).toInt8.toInt32)) 109 3 (nI (c + 1))) (by omega) (by omega) hA (c + 1) (by omega) (up_e _ _ _ _) (up_e _ _ _ _) (fun i hi => by
      by_cases e : i = c
      · subst e
        exact ⟨x, b1, by rw [up_c _ _ _ _ (by omega), up_e], by rw [up_c _ _ _ _ (by omega), up_e]⟩
      · obtain ⟨y, z1, z2, z3⟩ := h3 i (by omega)
        exact ⟨y, z1, by rw [up_c _ _ _ _ (by omega), up_p _ _ _ e]; exact z2, by rw [up_c _ _ _ _ (by omega), up_p _ _ _ e]; exact z3⟩)
    refine ⟨σ', τ', ?_, ?_, by rw [q3]; congr 1; omega, by rw [q4]; congr 1; omega, fun i hi => q5 i (by omega), fun k z1 z2 => by rw [q6 k z1 z2, gx_up_ne z1, gx_up_ne z2], fun k z1 z2 => by rw [q7 k z1 z2, gx_up_ne z1, gx_up_ne z2], fun j hj => by rw [q8 j hj, up_p _ _ _ hj, gx_up_ne (by omega)]⟩
    · rw [Sf_putBytes_2, Sf_putBytes_2_B, if_neg (nI_pos (by omega)), h1, b2]
      simp (disch := omega) only [up_c, z_c0, z_c1, nI_leI, nI_ltI, nI_eq, ix_n, cl_n, nI_add, pk_mul, nI_1, n_lt0, n_0le, n_le0, n_0lt, n_eq0, n_1le, n_le1, n_lt1, n_1lt, n_eq1, n_m1, n_m1a, L_2, L_3, L_4, L_5, L_6, L_7, L_8, L_9, L_10, L_11, L_12, L_14, L_15, L_16, L_17, L_18, L_20, L_21, L_24, L_26, L_30, L_32, L_34, L_35, L_36, L_37, L_38, L_39, L_40, L_41, L_42, L_43, L_44, L_45, L_46, L_47, L_48, L_57, L_59, L_60, L_61, L_62, L_64, L_65, L_68, L_76, L_80, L_84, L_90, L_92, L_96, L_97, L_98, L_99, L_100, L_104, L_122, L_139, L_140, L_162, L_163, L_164, L_200, L_241, L_255, L_256, L_280, L_284, L_300, L_301, L_303, L_309, L_360, L_400, L_401, L_402, L_403, L_404, L_405, L_406, L_407, L_408, L_999, L_1600, L_3120, L_8596, L_8880, L_9999, L_10000, L_30211, L_99999, L_1000000, c1, c2, h1, w_bd, w_ck, bI_0, bI_1, bI_bo, bo_0, bo_1, decide_true, decide_false, if_true, if_false, ite_true, ite_false, not_true_eq_false, not_false_eq_true, Bool.true_eq_false, Bool.false_eq_true]
      exact q1
    · rw [Md_put_2, Md_put_2_B, if_neg (nI_pos (by omega)), h2, b3]
      simp (disch := omega) only [up_c, ix_n, cl_n, c1, h2, w_bd, w_ck, bI_0, bI_1, bI_bo, bo_0, bo_1, decide_true, decide_false, if_true, if_false, ite_true, ite_false, not_true_eq_false, not_false_eq_true, Bool.true_eq_false, Bool.false_eq_true]
      rw [show nI c + 1 = nI (c + 1) from nI_1 c, show nI (8 * q) - (8 : Int32) = nI (8 * q) + -8 by grind]
      exact q2
theorem put_v (a : Int32) {σ τ : gx_R} {c : Nat} (hc : c + 4 ≤ 300) (h1 : σ 0 4 = nI c) (h2 : τ 109 3 = nI c) (h3 : ∀ i, i < c → ∃ x, x < 256 ∧ σ 38 i = nI x ∧ τ 112 i = (nI x).toInt8.toInt32) : ∃ σ' τ', Sf_putBytes a σ = some ((), σ') ∧ Md_put a τ = some ((), τ') ∧ σ' 0 4 = nI (c + 4) ∧ τ' 109 3 = nI (c + 4) ∧ (∀ i, i < c + 4 → ∃ x, x < 256 ∧ σ' 38 i = nI x ∧ τ' 112 i = (nI x).toInt8.toInt32) ∧ (∀ k, k ≠ 0 → k ≠ 38 → σ' k = σ k) ∧ (∀ k, k ≠ 109 → k ≠ 112 → τ' k = τ k) ∧ (∀ j, j ≠ 3 → τ' 109 j = τ 109 j) :=
  put_L a 4 24 z_FU z_FU σ τ (Nat.lt_of_lt_of_le (by decide) z_FU_ge) (Nat.lt_of_lt_of_le (by decide) z_FU_ge) (Or.inr ⟨3, rfl, rfl, by omega⟩) c hc h1 h2 h3
theorem Rel_tape {σ τ σ' τ' : gx_R} (r : Rel σ τ) (h1 : ∀ k, k ≠ 0 → k ≠ 38 → σ' k = σ k) (h2 : ∀ k, k ≠ 109 → k ≠ 112 → τ' k = τ k) (h3 : ∀ j, j ≠ 3 → τ' 109 j = τ 109 j) (ht : TapeR (σ' 0 4) (τ' 109 3) (σ' 38) (τ' 112)) : Rel σ' τ' := by
  obtain ⟨P, W, H, K, T, P', W', H', K', T', r1, r2, r3, r4, r5, r6⟩ := r
  have r1' := ValleyR_fr (σ' := σ') (fun k z1 z3 => h1 k (by omega) (by omega)) r1
  have r2' := ValleyR_fr (σ' := σ') (fun k z1 z3 => h1 k (by omega) (by omega)) r2
  have hT : T ≤ 4 := r1.2.2.2.2.2.2.1.2.2
  refine ⟨P, W, H, K, T, P', W', H', K', T', ?_, ?_, r3, ht, ?_, fun t ht => TextR_fr (fun k z1 z3 => h1 k (by omega) (by omega)) (fun k z1 z3 => h2 k (by omega) (by omega)) (by omega) (r6 t ht)⟩
  · rw [h2 110 (by omega) (by omega)]; exact r1'
  · rw [h2 111 (by omega) (by omega)]; exact r2'
  · rw [h3 4 (by omega), h3 5 (by omega), h1 39 (by omega) (by omega)]; exact r5
theorem S_feed {σ τ : gx_R} (r : Rel σ τ) (a1 a2 a3 a4 a5 : Int32) : SimP (Sf_feed a1 a2 a3 a4 a5) (Md_feed a1 a2 a3 a4 a5) σ τ := by
  obtain ⟨P, W, H, K, T, P', W', H', K', T', -, -, -, ⟨c, t1, t2, t3, t4⟩, -⟩ := id r
  by_cases hc : c ≤ 280
  · obtain ⟨σ1, τ1, x1, y1, c1, d1, e1, f1, g1, h1⟩ := put_v a1 (by omega) t2 t3 t4
    obtain ⟨σ2, τ2, x2, y2, c2, d2, e2, f2, g2, h2⟩ := put_v a2 (by omega) c1 d1 e1
    obtain ⟨σ3, τ3, x3, y3, c3, d3, e3, f3, g3, h3⟩ := put_v a3 (by omega) c2 d2 e2
    obtain ⟨σ4, τ4, x4, y4, c4, d4, e4, f4, g4, h4⟩ := put_v a4 (by omega) c3 d3 e3
    obtain ⟨σ5, τ5, x5, y5, c5, d5, e5, f5, g5, h5⟩ := put_v a5 (by omega) c4 d4 e4
    have F : ∀ k, k ≠ 0 → k ≠ 38 → σ5 k = σ k := fun k z1 z2 => by rw [f5 k z1 z2, f4 k z1 z2, f3 k z1 z2, f2 k z1 z2, f1 k z1 z2]
    have G : ∀ k, k ≠ 109 → k ≠ 112 → τ5 k = τ k := fun k z1 z2 => by rw [g5 k z1 z2, g4 k z1 z2, g3 k z1 z2, g2 k z1 z2, g1 k z1 z2]
    refine ⟨nI (c + 4 + 4 + 4 + 4 + 4), σ5, τ5, ?_, ?_, Rel_tape r F G (fun j hj => by rw [h5 j hj, h4 j hj, h3 j hj, h2 j hj, h1 j hj]) ⟨c + 4 + 4 + 4 + 4 + 4, by omega, c5, d5, e5⟩, fun k hk => F k (by omega) (by omega), fun k hk => G k (by omega) (by omega)⟩
    · rw [Sf_feed, t2, if_pos (show nI c ≤ (280 : Int32) from ((nI_leI (b := 280) (by omega) (by omega)).mpr hc : nI c ≤ nI 280)), x1, w_bd, x2, w_bd, x3, w_bd, x4, w_bd, x5, w_bd, c5]
    · rw [Md_feed, t3, show (20 : Int32) = nI 20 from rfl, nI_add, if_pos (show nI (c + 20) ≤ (300 : Int32) from ((nI_leI (b := 300) (by omega) (by omega)).mpr (by omega) : nI (c + 20) ≤ nI 300)), y1, w_bd, y2, w_bd, y3, w_bd, y4, w_bd, y5, w_bd, d5]
  · refine SimP_ro r (-1) ?_ ?_
    · rw [Sf_feed, t2, if_neg (show ¬ nI c ≤ (280 : Int32) from fun z => hc ((nI_leI (b := 280) (by omega) (by omega)).mp z))]
    · rw [Md_feed, t3, show (20 : Int32) = nI 20 from rfl, nI_add, if_neg (show ¬ nI (c + 20) ≤ (300 : Int32) from fun z => hc (by have := (nI_leI (b := 300) (by omega) (by omega)).mp z; omega))]
theorem S_end {σ τ : gx_R} (r : Rel σ τ) (a1 : Int32) : SimP (Sf_end a1) (Md_end a1) σ τ := by
  obtain ⟨P, W, H, K, T, P', W', H', K', T', -, -, -, ⟨c, t1, t2, t3, t4⟩, -⟩ := id r
  by_cases h0 : a1 < 0
  · exact SimP_ro r (-1) (by rw [Sf_end, if_pos h0]) (by rw [Md_end, Md_in_v, w_bd, decide_eq_false (fun z => z.1 h0), bI_f, if_pos rfl])
  · by_cases h1 : a1 ≤ σ 0 4
    · have h2 : ¬ τ 109 3 < a1 := by rw [t3, ← t2]; exact Int32.not_lt.mpr h1
      refine ⟨a1, _, _, by rw [Sf_end, if_neg h0, if_pos h1], by rw [Md_end, Md_in_v, w_bd, decide_eq_true ⟨h0, h2⟩, bI_t, if_neg (by decide)], Rel_tape r (fun k z1 z2 => gx_up_ne z1) (fun k z1 z2 => gx_up_ne z1) (fun j hj => up_p _ _ _ hj) ?_, fun k hk => gx_up_ne (by omega), fun k hk => gx_up_ne (by omega)⟩
      obtain ⟨k, hk, rfl⟩ := nI_of (x := a1) (by grind)
      rw [t2] at h1
      have hkc : k ≤ c := (nI_leI hk (by omega)).mp h1
      rw [up_e, up_e, gx_up_ne (show (38 : Nat) ≠ 0 by omega), gx_up_ne (show (112 : Nat) ≠ 109 by omega)]
      exact ⟨k, by omega, rfl, rfl, fun i hi => t4 i (by omega)⟩
    · have h2 : τ 109 3 < a1 := by rw [t3, ← t2]; exact Int32.not_le.mp h1
      exact SimP_ro r (-1) (by rw [Sf_end, if_neg h0, if_neg h1]) (by rw [Md_end, Md_in_v, w_bd, decide_eq_false (fun z => z.2 h2), bI_f, if_pos rfl])
theorem S_by {σ τ : gx_R} (r : Rel σ τ) (a1 : Int32) : SimP (Sf_by a1) (Md_by a1) σ τ := by
  obtain ⟨P, W, H, K, T, P', W', H', K', T', rr⟩ := id r
  have r1 := rr.1
  obtain ⟨q1, q2, q3, q4, ⟨O, q5, q6⟩, ⟨q7, q8⟩, ⟨q9, q10, q11⟩, q12, q13⟩ := r1
  have e1 : nI T - 1 < a1 ↔ ¬ a1 < nI T := by
    have := nI_leI (a := T) (b := 4) (by omega) (by omega)
    have h4 : nI T ≤ 4 := this.mpr q11
    have h5 : (0 : Int32) ≤ nI T := by rw [← nI_0, nI_leI (by omega) (by omega)]; omega
    constructor <;> intro z <;> grind
  have V : (a1 = -1 ∨ ∃ t, t < T ∧ a1 = nI t) → ValleyR (gx_up σ 1 5 a1) 1 (gx_up τ 110 3 a1 110) P W H K T := by
    intro hv
    refine ⟨?_, ?_, q3, ?_, ⟨O, ?_, ?_⟩, ⟨?_, ?_⟩, ⟨?_, ?_, q11⟩, ?_, ?_⟩
    · show FolkR (gx_up σ 1 5 a1 2 0) (gx_up σ 1 5 a1 2 1) (gx_up σ 1 5 a1 3) (gx_up σ 1 5 a1 4) (gx_up σ 1 5 a1 5) (gx_up σ 1 5 a1 6) (gx_up σ 1 5 a1 7) (gx_up σ 1 5 a1 8) (gx_up τ 110 3 a1 110) P W
      rw [gx_up_ne (show (2 : Nat) ≠ 1 by omega), gx_up_ne (show (3 : Nat) ≠ 1 by omega), gx_up_ne (show (4 : Nat) ≠ 1 by omega), gx_up_ne (show (5 : Nat) ≠ 1 by omega), gx_up_ne (show (6 : Nat) ≠ 1 by omega), gx_up_ne (show (7 : Nat) ≠ 1 by omega), gx_up_ne (show (8 : Nat) ≠ 1 by omega)]
      obtain ⟨s1, ⟨s2, s3, s4, s5⟩, s6, s7, s8, s9⟩ := q1
      refine ⟨s1, ⟨s2, by rw [up_p _ _ _ (by omega)]; exact s3, s4, by rw [up_p _ _ _ (by omega)]; exact s5⟩, fun p hp => ?_, fun p hp => ?_, fun p hp => ?_, fun w hw => ?_⟩
      · rw [up_p _ _ _ (by omega), up_p _ _ _ (by omega)]; exact s6 p hp
      · rw [up_p _ _ _ (by omega)]; exact s7 p hp
      · rw [up_p _ _ _ (by omega)]; exact s8 p hp
      · rw [up_p _ _ _ (by omega), up_p _ _ _ (by omega)]; exact s9 w hw
    · show NightR (nuC (gx_up σ 1 5 a1) 9) (fun i => gx_up τ 110 3 a1 110 (60 + i)) (gx_up σ 1 5 a1 7) P W H
      rw [nuC_fr (σ := σ) (fun k h1 h2 => gx_up_ne (by omega)), gx_up_ne (show (7 : Nat) ≠ 1 by omega)]
      exact NightR_cong q1.1.1 (fun _ _ => rfl) (fun i hi => up_p _ _ _ (by omega)) (fun _ _ => rfl) q2
    · show KeptR (gx_up σ 1 5 a1 18) (fun i => gx_up τ 110 3 a1 110 (60 + i)) H
      rw [gx_up_ne (show (18 : Nat) ≠ 1 by omega)]
      exact KeptR_cong (fun _ _ => rfl) (fun i h1 h2 => up_p _ _ _ (by omega)) q4
    · show gx_up σ 1 5 a1 16 1 = nI O
      rw [gx_up_ne (show (16 : Nat) ≠ 1 by omega)]; exact q5
    · show StepsR (gx_up σ 1 5 a1 17) (gx_up σ 1 5 a1 18) (gx_up σ 1 5 a1 7) (gx_up τ 110 3 a1 110) P W H K O
      rw [gx_up_ne (show (17 : Nat) ≠ 1 by omega), gx_up_ne (show (18 : Nat) ≠ 1 by omega), gx_up_ne (show (7 : Nat) ≠ 1 by omega)]
      exact StepsR_cong q1.1.1 (fun _ _ => rfl) (fun _ _ => rfl) (fun _ _ => rfl) (fun i h1 h2 => up_p _ _ _ (by omega)) q6
    · show gx_up σ 1 5 a1 16 2 = nI K
      rw [gx_up_ne (show (16 : Nat) ≠ 1 by omega)]; exact q7
    · rw [up_p _ _ _ (by omega)]; exact q8
    · rw [up_p _ _ _ (by omega)]; exact q9
    · rw [up_p _ _ _ (by omega)]; exact q10
    · rw [up_e, up_e]
    · rw [up_e]; exact hv
  have M : (a1 = -1 ∨ ∃ t, t < T ∧ a1 = nI t) → Rel (gx_up σ 1 5 a1) (gx_up τ 110 3 a1) := fun hv => Rel_mk (V hv) (fun c y1 y2 => gx_up_ne (by omega)) ⟨fun c y1 => gx_up_ne (by omega), fun j hj => congrFun (gx_up_ne (by omega)) j⟩ rr
  have q9' : σ 1 4 = nI T := q9
  by_cases h1 : a1 = -1
  · subst h1
    have h4 : (-1 : Int32) < nI T := by
      have h5 : (0 : Int32) ≤ nI T := by rw [← nI_0, nI_leI (by omega) (by omega)]; omega
      grind
    exact ⟨1, _, _, by rw [Sf_by, if_neg (by decide), q9', if_pos h4], by rw [Md_by, if_pos rfl]; rfl, M (Or.inl rfl), fun k hk => gx_up_ne (by omega), fun k hk => gx_up_ne (by omega)⟩
  · by_cases h2 : a1 < 0
    · refine SimP_ro r 0 (by rw [Sf_by, if_pos (by grind)]) ?_
      rw [Md_by, if_neg h1, Md_in_v, w_bd, decide_eq_false (fun z => z.1 h2), bI_f, if_pos rfl]
    · by_cases h3 : a1 < nI T
      · obtain ⟨k, hk, rfl⟩ := nI_of (x := a1) (by grind)
        refine ⟨1, _, _, by rw [Sf_by, if_neg (by grind), q9', if_pos h3], ?_, M (Or.inr ⟨k, (nI_ltI hk (by omega)).mp h3, rfl⟩), fun k hk => gx_up_ne (by omega), fun k hk => gx_up_ne (by omega)⟩
        rw [Md_by, if_neg h1, Md_in_v, show τ 110 ((2 : Int32).toNatClampNeg) = nI T from q10, w_bd, decide_eq_true ⟨h2, fun z => e1.mp z h3⟩, bI_t, if_neg (by decide)]; rfl
      · refine SimP_ro r 0 (by rw [Sf_by, if_neg (by grind), q9', if_neg h3]) ?_
        rw [Md_by, if_neg h1, Md_in_v, show τ 110 ((2 : Int32).toNatClampNeg) = nI T from q10, w_bd, decide_eq_false (fun z => z.2 (e1.mpr h3)), bI_f, if_pos rfl]
theorem S_fault {σ τ : gx_R} (r : Rel σ τ) (a1 : Int32) : SimP (Sf_fault a1) (Md_fault a1) σ τ := by
  obtain ⟨P, W, H, K, T, P', W', H', K', T', -, -, -, -, ⟨f1, f2⟩, -⟩ := id r
  by_cases h0 : a1 = 0
  · exact SimP_ro r (σ 39 11) (by rw [Sf_fault, if_pos h0]) (by rw [Md_fault, if_pos h0, f1])
  · by_cases h1 : a1 = 1
    · exact SimP_ro r (σ 39 12) (by rw [Sf_fault, if_neg h0, if_pos h1]) (by rw [Md_fault, if_neg h0, if_pos h1, f2])
    · exact SimP_ro r (-1) (by rw [Sf_fault, if_neg h0, if_neg h1]) (by rw [Md_fault, if_neg h0, if_neg h1])
theorem S_owes {σ τ : gx_R} (r : Rel σ τ) (a1 a2 : Int32) : SimP (Sf_owes a1 a2) (Md_owes a1 a2) σ τ := by
  obtain ⟨P, W, H, K, T, P', W', H', K', T', rr⟩ := id r
  have r1 := rr.1
  have hP := r1.1.1.1
  have p1 : σ 2 0 = nI P := r1.1.2.1.1
  have p2 := r1.1.2.1.2.1
  cases hz : z_ix a1 P with
  | false =>
    refine SimP_ro r (-1) ?_ ?_
    · rw [Sf_owes, Fo_isPerson_v p1 hP, hz, w_bd, bI_f, if_pos rfl]
    · rw [Md_owes, Md_isPerson_v p2 hP, hz, w_bd, bI_f, if_pos rfl]
  | true =>
    cases hw : z_ix a2 P with
    | false =>
      refine SimP_ro r (-1) ?_ ?_
      · rw [Sf_owes, Fo_isPerson_v p1 hP, hz, w_bd, bI_t, if_neg (by decide), Fo_isPerson_v p1 hP, hw, w_bd, bI_f, if_pos rfl]
      · rw [Md_owes, Md_isPerson_v p2 hP, hz, w_bd, bI_t, if_neg (by decide), Md_isPerson_v p2 hP, hw, w_bd, bI_f, if_pos rfl]
    | true =>
      obtain ⟨p, hp, rfl⟩ := ix_ex hz (by omega)
      obtain ⟨q, hq, rfl⟩ := ix_ex hw (by omega)
      have c1 : 8 * p + q < 64 := by omega
      have c2 : 98 + 8 * p + q < 8880 := by omega
      have e := owes_eq r1 c1
      rw [show 98 + (8 * p + q) = 98 + 8 * p + q by omega] at e
      refine SimP_ro r (σ 14 (8 * p + q)) ?_ ?_
      · rw [Sf_owes, Fo_isPerson_v p1 hP, hz, w_bd, bI_t, if_neg (by decide), Fo_isPerson_v p1 hP, hw, w_bd, bI_t, if_neg (by decide)]
        simp (disch := omega) only [z_c0, z_c1, nI_leI, nI_ltI, nI_eq, ix_n, cl_n, nI_add, pk_mul, nI_1, n_lt0, n_0le, n_le0, n_0lt, n_eq0, n_1le, n_le1, n_lt1, n_1lt, n_eq1, n_m1, n_m1a, L_2, L_3, L_4, L_5, L_6, L_7, L_8, L_9, L_10, L_11, L_12, L_14, L_15, L_16, L_17, L_18, L_20, L_21, L_24, L_26, L_30, L_32, L_34, L_35, L_36, L_37, L_38, L_39, L_40, L_41, L_42, L_43, L_44, L_45, L_46, L_47, L_48, L_57, L_59, L_60, L_61, L_62, L_64, L_65, L_68, L_76, L_80, L_84, L_90, L_92, L_96, L_97, L_98, L_99, L_100, L_104, L_122, L_139, L_140, L_162, L_163, L_164, L_200, L_241, L_255, L_256, L_280, L_284, L_300, L_301, L_303, L_309, L_360, L_400, L_401, L_402, L_403, L_404, L_405, L_406, L_407, L_408, L_999, L_1600, L_3120, L_8596, L_8880, L_9999, L_10000, L_30211, L_99999, L_1000000, show p * 8 + q = 8 * p + q by omega, c1, w_bd, w_ck, bI_0, bI_1, bI_bo, bo_0, bo_1, decide_true, decide_false, if_true, if_false, ite_true, ite_false, not_true_eq_false, not_false_eq_true, Bool.true_eq_false, Bool.false_eq_true]
      · rw [Md_owes, Md_isPerson_v p2 hP, hz, w_bd, bI_t, if_neg (by decide), Md_isPerson_v p2 hP, hw, w_bd, bI_t, if_neg (by decide)]
        simp (disch := omega) only [z_c0, z_c1, nI_leI, nI_ltI, nI_eq, ix_n, cl_n, nI_add, pk_mul, nI_1, n_lt0, n_0le, n_le0, n_0lt, n_eq0, n_1le, n_le1, n_lt1, n_1lt, n_eq1, n_m1, n_m1a, L_2, L_3, L_4, L_5, L_6, L_7, L_8, L_9, L_10, L_11, L_12, L_14, L_15, L_16, L_17, L_18, L_20, L_21, L_24, L_26, L_30, L_32, L_34, L_35, L_36, L_37, L_38, L_39, L_40, L_41, L_42, L_43, L_44, L_45, L_46, L_47, L_48, L_57, L_59, L_60, L_61, L_62, L_64, L_65, L_68, L_76, L_80, L_84, L_90, L_92, L_96, L_97, L_98, L_99, L_100, L_104, L_122, L_139, L_140, L_162, L_163, L_164, L_200, L_241, L_255, L_256, L_280, L_284, L_300, L_301, L_303, L_309, L_360, L_400, L_401, L_402, L_403, L_404, L_405, L_406, L_407, L_408, L_999, L_1600, L_3120, L_8596, L_8880, L_9999, L_10000, L_30211, L_99999, L_1000000, c2, e, w_bd, w_ck, bI_0, bI_1, bI_bo, bo_0, bo_1, decide_true, decide_false, if_true, if_false, ite_true, ite_false, not_true_eq_false, not_false_eq_true, Bool.true_eq_false, Bool.false_eq_true]
theorem valley_L (a1 a2 : Int32) (h : z_nzi ((10 : Int32) + a2) = true) : ∀ m a n n' σ τ, a + m = 100 → m < n → m < n' → ∃ v, Sf_valley_16 n a1 a2 (nI a) σ = some (v, σ) ∧ Md_valley_14 n' a1 a2 (nI a) τ = some (v, τ) := by
  intro m
  induction m with
  | zero =>
    intro a n n' σ τ ha hn hn'
    obtain ⟨n, rfl⟩ : ∃ q, n = q + 1 := ⟨n - 1, by omega⟩
    obtain ⟨n', rfl⟩ : ∃ q, n' = q + 1 := ⟨n' - 1, by omega⟩
    have e : a = 100 := by omega
    subst e
    exact ⟨-1, by rw [Sf_valley_16, Sf_valley_16_B, if_pos (by decide)], by rw [Md_valley_14, Md_valley_14_B, if_pos (by decide)]⟩
  | succ m ih =>
    intro a n n' σ τ ha hn hn'
    obtain ⟨n, rfl⟩ : ∃ q, n = q + 1 := ⟨n - 1, by omega⟩
    obtain ⟨n', rfl⟩ : ∃ q, n' = q + 1 := ⟨n' - 1, by omega⟩
    have h1 : ¬ (99 : Int32) < nI a := by rw [show (99 : Int32) = nI 99 from rfl, nI_ltI (by omega) (by omega)]; omega
    have h2 : ¬ (100 : Int32) ≤ nI a := by rw [show (100 : Int32) = nI 100 from rfl, nI_leI (by omega) (by omega)]; omega
    rw [Sf_valley_16, Sf_valley_16_B, if_neg h1, Md_valley_14, Md_valley_14_B, if_neg h2, h, w_ck, w_ck, Int32.mul_comm (24 : Int32), nI_1 a]
    by_cases hc : nI a * a2 / ((10 : Int32) + a2) * 24 < nI a * a1
    · rw [if_pos hc, if_pos hc]
      exact ih (a + 1) n n' σ τ (by omega) (by omega) (by omega)
    · rw [if_neg hc, if_neg hc]
      exact ⟨nI a, rfl, rfl⟩
theorem S_valley {σ τ : gx_R} (r : Rel σ τ) (a1 a2 : Int32) : SimP (Sf_valley a1 a2) (Md_valley a1 a2) σ τ := by
  by_cases h1 : a1 < 1
  · exact SimP_ro r (-1) (by rw [Sf_valley, if_pos h1]) (by rw [Md_valley, Md_in_v, w_bd, decide_eq_false (fun z => z.1 h1), bI_f, if_pos rfl])
  · by_cases h2 : (23 : Int32) < a1
    · exact SimP_ro r (-1) (by rw [Sf_valley, if_neg h1, if_pos h2]) (by rw [Md_valley, Md_in_v, w_bd, decide_eq_false (fun z => z.2 h2), bI_f, if_pos rfl])
    · by_cases h3 : a2 < 1
      · exact SimP_ro r (-1) (by rw [Sf_valley, if_neg h1, if_neg h2, if_pos h3]) (by rw [Md_valley, Md_in_v, w_bd, decide_eq_true ⟨h1, h2⟩, bI_t, if_neg (by decide), Md_in_v, w_bd, decide_eq_false (fun z => z.1 h3), bI_f, if_pos rfl])
      · by_cases h4 : (99 : Int32) < a2
        · exact SimP_ro r (-1) (by rw [Sf_valley, if_neg h1, if_neg h2, if_neg h3, if_neg (Int32.not_le.mpr h4)]) (by rw [Md_valley, Md_in_v, w_bd, decide_eq_true ⟨h1, h2⟩, bI_t, if_neg (by decide), Md_in_v, w_bd, decide_eq_false (fun z => z.2 h4), bI_f, if_pos rfl])
        · obtain ⟨y, hy, hy2, rfl⟩ := in_nat (l := 1) (u := 99) (by omega) (by omega) h3 h4
          have hz : z_nzi ((10 : Int32) + nI y) = true := by
            rw [show (10 : Int32) = nI 10 from rfl, nI_add]
            have : nI (10 + y) ≠ nI 0 := fun z => by have := (nI_eq (by omega) (by omega)).mp z; omega
            unfold z_nzi
            simp only [ne_eq, decide_eq_true_eq]
            exact this
          obtain ⟨v, q1, q2⟩ := valley_L a1 (nI y) hz 98 2 z_FU z_FU σ τ (by omega) (Nat.lt_of_lt_of_le (by decide) z_FU_ge) (Nat.lt_of_lt_of_le (by decide) z_FU_ge)
          exact SimP_ro r v (by rw [Sf_valley, if_neg h1, if_neg h2, if_neg h3, if_pos (Int32.not_lt.mp h4)]; exact q1) (by rw [Md_valley, Md_in_v, w_bd, decide_eq_true ⟨h1, h2⟩, bI_t, if_neg (by decide), Md_in_v, w_bd, decide_eq_true ⟨h3, h4⟩, bI_t, if_neg (by decide)]; exact q2)
