/-! ===== the valley changes alike ===== -/
theorem StepsR_push {rows log nd a rows' a' ν : gx_F} {P W H K O : Nat} (hP : P ≤ 8) (hn : NightR ν (fun i => a (60 + i)) nd P W H) (hk : KeptR log (fun i => a (60 + i)) H) (r : StepsR rows log nd a P W H K O)
    (h17 : ∀ j, rows' j = if (O + K) % 30 * 104 ≤ j ∧ j < (O + K) % 30 * 104 + 104 then ν (j - (O + K) % 30 * 104) else rows j)
    (ha : ∀ k i, k < min K 29 → i < 284 → a' (360 + 284 * k + i) = a (360 + 284 * (if K = 30 then k + 1 else k) + i)) (ha2 : ∀ i, i < 284 → a' (360 + 284 * min K 29 + i) = a (60 + i)) : StepsR rows' log nd a' P W H (min K 29 + 1) (if K = 30 then (O + 1) % 30 else O) := by
  obtain ⟨hK, hO, hs, r1, r2⟩ := r
  refine ⟨by omega, by split <;> omega, fun k => if k = min K 29 then H else if K = 30 then hs (k + 1) else hs k, fun k hk2 => ?_, fun j k hjk hk2 => ?_⟩
  · by_cases e : k = min K 29
    · subst e
      simp only [if_true]
      have e2 : ((if K = 30 then (O + 1) % 30 else O) + min K 29) % 30 = (O + K) % 30 := by split <;> omega
      rw [e2]
      refine ⟨NightR_cong hP (fun i hi => ?_) (fun i hi => ha2 i (by omega)) (fun _ _ => rfl) hn, KeptR_cong (fun _ _ => rfl) (fun i h1 h2 => ha2 i h2) hk, Nat.le_refl _⟩
      rw [h17, if_pos (by omega)]
      congr 1; omega
    · simp only [if_neg e]
      by_cases h30 : K = 30
      · simp only [if_pos h30]
        obtain ⟨q1, q2, q3⟩ := r1 (k + 1) (by omega)
        have e2 : ((O + 1) % 30 + k) % 30 = (O + (k + 1)) % 30 := by omega
        rw [e2]
        refine ⟨NightR_cong hP (fun i hi => ?_) (fun i hi => by rw [ha k i (by omega) (by omega), if_pos h30]) (fun _ _ => rfl) q1, KeptR_cong (fun _ _ => rfl) (fun i h1 h2 => by rw [ha k i (by omega) h2, if_pos h30]) q2, q3⟩
        rw [h17, if_neg (by omega)]
      · simp only [if_neg h30]
        obtain ⟨q1, q2, q3⟩ := r1 k (by omega)
        refine ⟨NightR_cong hP (fun i hi => ?_) (fun i hi => by rw [ha k i (by omega) (by omega), if_neg h30]) (fun _ _ => rfl) q1, KeptR_cong (fun _ _ => rfl) (fun i h1 h2 => by rw [ha k i (by omega) h2, if_neg h30]) q2, q3⟩
        rw [h17, if_neg (by omega)]
  · show (if j = min K 29 then H else if K = 30 then hs (j + 1) else hs j) ≤ (if k = min K 29 then H else if K = 30 then hs (k + 1) else hs k)
    by_cases e1 : j = min K 29
    · have e2 : k = min K 29 := by omega
      rw [if_pos e1, if_pos e2]
      exact Nat.le_refl _
    · rw [if_neg e1]
      by_cases e2 : k = min K 29
      · rw [if_pos e2]
        split
        · exact (r1 (j + 1) (by omega)).2.2
        · exact (r1 j (by omega)).2.2
      · rw [if_neg e2]
        split
        · exact r2 (j + 1) (k + 1) (by omega) (by omega)
        · exact r2 j k hjk (by omega)
theorem push_R {σ τ : gx_R} {P W H K T : Nat} (r : ValleyR σ 1 (τ 110) P W H K T) : ∃ σ' τ', St_push σ = some ((), σ') ∧ Md_keepsStep τ = some ((), τ') ∧ ValleyR σ' 1 (τ' 110) P W H (min K 29 + 1) T ∧ (∀ c, c ≠ 16 → c ≠ 17 → σ' c = σ c) ∧ (∀ c, c ≠ 110 → τ' c = τ c) ∧ ∀ j, j < 360 → j ≠ 4 → τ' 110 j = τ 110 j := by
  obtain ⟨r1, r2, r3, r4, ⟨O, r5, r6⟩, ⟨r7, r8⟩, ⟨r9, r10, r11⟩, r12, r13⟩ := r
  have hP := r1.1.1
  have hK := r6.1
  obtain ⟨σ', s1, s2, s3, s4, s5⟩ := push_v r6.2.1 hK r5 r7
  obtain ⟨τ', t1, t2, t3, t4, t5, t6⟩ := keeps_v hK r8
  refine ⟨σ', τ', s1, t1, ⟨?_, ?_, r3, ?_, ⟨if K = 30 then (O + 1) % 30 else O, s5, ?_⟩, ⟨s4, t3⟩, ⟨?_, ?_, r11⟩, ?_, ?_⟩, s2, t2, t4⟩
  · show FolkR (σ' 2 0) (σ' 2 1) (σ' 3) (σ' 4) (σ' 5) (σ' 6) (σ' 7) (σ' 8) (τ' 110) P W
    rw [s2 2 (by omega) (by omega), s2 3 (by omega) (by omega), s2 4 (by omega) (by omega), s2 5 (by omega) (by omega), s2 6 (by omega) (by omega), s2 7 (by omega) (by omega), s2 8 (by omega) (by omega)]
    obtain ⟨a1, ⟨a2, a3, a4, a5⟩, a6, a7, a8, a9⟩ := r1
    refine ⟨a1, ⟨a2, by rw [t4 0 (by omega) (by omega)]; exact a3, a4, by rw [t4 1 (by omega) (by omega)]; exact a5⟩, fun p hp => ?_, fun p hp => ?_, fun p hp => ?_, fun w hw => ?_⟩
    · rw [t4 (10 + p) (by omega) (by omega), t4 (18 + p) (by omega) (by omega)]; exact a6 p hp
    · rw [t4 (26 + p) (by omega) (by omega)]; exact a7 p hp
    · rw [t4 (34 + p) (by omega) (by omega)]; exact a8 p hp
    · rw [t4 (42 + w) (by omega) (by omega), t4 (48 + w) (by omega) (by omega)]; exact a9 w hw
  · show NightR (nuC σ' 9) (fun i => τ' 110 (60 + i)) (σ' 7) P W H
    rw [nuC_fr (σ := σ) (fun k h1 h2 => s2 k (by omega) (by omega)), s2 7 (by omega) (by omega)]
    exact NightR_cong hP (fun _ _ => rfl) (fun i hi => t4 (60 + i) (by omega) (by omega)) (fun _ _ => rfl) r2
  · show KeptR (σ' 18) (fun i => τ' 110 (60 + i)) H
    rw [s2 18 (by omega) (by omega)]
    exact KeptR_cong (fun _ _ => rfl) (fun i h1 h2 => t4 (60 + i) (by omega) (by omega)) r4
  · show StepsR (σ' 17) (σ' 18) (σ' 7) (τ' 110) P W H (min K 29 + 1) (if K = 30 then (O + 1) % 30 else O)
    rw [s2 18 (by omega) (by omega), s2 7 (by omega) (by omega)]
    exact StepsR_push hP r2 r4 r6 s3 t5 t6
  · rw [s2 1 (by omega) (by omega)]; exact r9
  · rw [t4 2 (by omega) (by omega)]; exact r10
  · rw [t4 3 (by omega) (by omega), s2 1 (by omega) (by omega)]; exact r12
  · rw [s2 1 (by omega) (by omega)]; exact r13
/-- just the night changes -/
theorem Valley_night {σ σ' : gx_R} {a a' : gx_F} {P W H K T : Nat} (hs : ∀ c, 1 ≤ c → c ≤ 18 → ¬ (9 ≤ c ∧ c ≤ 15) → σ' c = σ c) (ha : ∀ j, j < 60 ∨ 164 ≤ j → a' j = a j) (hn : NightR (nuC σ' 9) (fun i => a' (60 + i)) (σ 7) P W H) (r : ValleyR σ 1 a P W H K T) : ValleyR σ' 1 a' P W H K T := by
  obtain ⟨r1, r2, r3, r4, ⟨O, r5, r6⟩, ⟨r7, r8⟩, ⟨r9, r10, r11⟩, r12, r13⟩ := r
  have hP := r1.1.1
  refine ⟨?_, ?_, r3, ?_, ⟨O, ?_, ?_⟩, ⟨?_, ?_⟩, ⟨?_, ?_, r11⟩, ?_, ?_⟩
  · show FolkR (σ' 2 0) (σ' 2 1) (σ' 3) (σ' 4) (σ' 5) (σ' 6) (σ' 7) (σ' 8) a' P W
    rw [hs 2 (by omega) (by omega) (by omega), hs 3 (by omega) (by omega) (by omega), hs 4 (by omega) (by omega) (by omega), hs 5 (by omega) (by omega) (by omega), hs 6 (by omega) (by omega) (by omega), hs 7 (by omega) (by omega) (by omega), hs 8 (by omega) (by omega) (by omega)]
    exact FolkR_cong rfl rfl (fun _ _ => rfl) (fun _ _ => rfl) (fun _ _ => rfl) (fun _ _ => rfl) (fun _ _ => rfl) (fun _ _ => rfl) (fun i hi => ha i (Or.inl hi)) r1
  · show NightR (nuC σ' 9) (fun i => a' (60 + i)) (σ' 7) P W H
    rw [hs 7 (by omega) (by omega) (by omega)]; exact hn
  · show KeptR (σ' 18) (fun i => a' (60 + i)) H
    rw [hs 18 (by omega) (by omega) (by omega)]
    exact KeptR_cong (fun _ _ => rfl) (fun i h1 h2 => ha _ (by omega)) r4
  · show σ' 16 1 = nI O
    rw [hs 16 (by omega) (by omega) (by omega)]; exact r5
  · show StepsR (σ' 17) (σ' 18) (σ' 7) a' P W H K O
    rw [hs 17 (by omega) (by omega) (by omega), hs 18 (by omega) (by omega) (by omega), hs 7 (by omega) (by omega) (by omega)]
    exact StepsR_cong hP (fun _ _ => rfl) (fun _ _ => rfl) (fun _ _ => rfl) (fun i h1 h2 => ha _ (by omega)) r6
  · show σ' 16 2 = nI K
    rw [hs 16 (by omega) (by omega) (by omega)]; exact r7
  · rw [ha 4 (by omega)]; exact r8
  · rw [hs 1 (by omega) (by omega) (by omega)]; exact r9
  · rw [ha 2 (by omega)]; exact r10
  · rw [ha 3 (by omega), hs 1 (by omega) (by omega) (by omega)]; exact r12
  · rw [hs 1 (by omega) (by omega) (by omega)]; exact r13
/-- one begins to do something else -/
theorem NightR_begin {ν s nd ν' s' : gx_F} {P W H p : Nat} {w x : Int32} (hP : P ≤ 8) (hp : p < P) (hv : (w = 0 ∧ x = -1) ∨ (w = 1 ∧ ∃ v, v < W ∧ x = nI v) ∨ (w = 2 ∧ ∃ q, q < P ∧ x = nI q)) (r : NightR ν s nd P W H) (h1 : ∀ i, i < 104 → ν' i = if i = p then w else if i = 8 + p then x else if i = 16 + p then 0 else ν i) (h2 : ∀ i, i < 104 → s' i = if i = p then w else if i = 8 + p then x else if i = 16 + p then 0 else s i) : NightR ν' s' nd P W H := by
  obtain ⟨r1, r2, r3, r4, r5, ⟨r6, r7, r8⟩, r9, r10, r11, r12, r13⟩ := r
  refine ⟨fun i hi => ?_, fun i hi => ?_, fun i hi hi2 => ?_, fun i hi => ?_, fun i hi => ?_, ⟨?_, ?_, ?_⟩, ?_, fun i hi => ?_, fun i hi => ?_, fun i j hi hj => ?_, fun i hi => ?_⟩
  · obtain ⟨g1, g2, g3⟩ := r1 i hi
    rw [h1 i (by omega), h1 (16 + i) (by omega), h1 (24 + i) (by omega), h2 i (by omega), h2 (16 + i) (by omega), h2 (24 + i) (by omega)]
    refine ⟨?_, ?_, ?_⟩
    · split
      · rfl
      · rw [if_neg (by omega), if_neg (by omega), if_neg (by omega), if_neg (by omega)]; exact g1
    · by_cases e : i = p
      · subst e; rw [if_neg (by omega), if_neg (by omega), if_pos rfl, if_neg (by omega), if_neg (by omega), if_pos rfl]
      · rw [if_neg (by omega), if_neg (by omega), if_neg (by omega), if_neg (by omega), if_neg (by omega), if_neg (by omega)]; exact g2
    · rw [if_neg (by omega), if_neg (by omega), if_neg (by omega), if_neg (by omega), if_neg (by omega), if_neg (by omega)]; exact g3
  · rw [h1 (8 + i) (by omega), h2 (8 + i) (by omega)]
    by_cases e : i = p
    · subst e; rw [if_neg (by omega), if_pos rfl, if_neg (by omega), if_pos rfl]
    · rw [if_neg (by omega), if_neg (by omega), if_neg (by omega), if_neg (by omega), if_neg (by omega), if_neg (by omega)]; exact r2 i hi
  · obtain ⟨k1, k2, k3, k4⟩ := r3 i hi hi2
    rw [h1 i (by omega), h1 (8 + i) (by omega), h1 (16 + i) (by omega), h1 (24 + i) (by omega)]
    refine ⟨?_, ?_, ?_, ?_⟩ <;> rw [if_neg (by omega), if_neg (by omega), if_neg (by omega)] <;> assumption
  · rw [h1 (32 + i) (by omega), h2 (38 + i) (by omega), if_neg (by omega), if_neg (by omega), if_neg (by omega), if_neg (by omega), if_neg (by omega), if_neg (by omega)]; exact r4 i hi
  · rw [h1 (96 + i) (by omega), h2 (32 + i) (by omega), if_neg (by omega), if_neg (by omega), if_neg (by omega), if_neg (by omega), if_neg (by omega), if_neg (by omega)]; exact r5 i hi
  · rw [h1 102 (by omega), h2 102 (by omega), if_neg (by omega), if_neg (by omega), if_neg (by omega), if_neg (by omega), if_neg (by omega), if_neg (by omega)]; exact r6
  · rw [h1 103 (by omega), h2 103 (by omega), if_neg (by omega), if_neg (by omega), if_neg (by omega), if_neg (by omega), if_neg (by omega), if_neg (by omega)]; exact r7
  · rw [h1 102 (by omega), if_neg (by omega), if_neg (by omega), if_neg (by omega)]; exact r8
  · rw [h1 103 (by omega), if_neg (by omega), if_neg (by omega), if_neg (by omega)]; exact r9
  · rw [h1 i (by omega), h1 (8 + i) (by omega)]
    by_cases e : i = p
    · subst e; rw [if_pos rfl, if_neg (by omega), if_pos rfl]; exact hv
    · rw [if_neg e, if_neg (by omega), if_neg (by omega), if_neg (by omega), if_neg (by omega), if_neg (by omega)]; exact r10 i hi
  · obtain ⟨o, d, g1, g2, g3, g4⟩ := r11 i hi
    rw [h1 (16 + i) (by omega), h1 (24 + i) (by omega)]
    by_cases e : i = p
    · subst e; rw [if_neg (by omega), if_neg (by omega), if_pos rfl, if_neg (by omega), if_neg (by omega), if_neg (by omega)]
      exact ⟨0, d, by omega, g2, rfl, g4⟩
    · rw [if_neg (by omega), if_neg (by omega), if_neg (by omega), if_neg (by omega), if_neg (by omega), if_neg (by omega)]
      exact ⟨o, d, g1, g2, g3, g4⟩
  · rw [h1 (32 + (8 * i + j)) (by omega), if_neg (by omega), if_neg (by omega), if_neg (by omega)]; exact r12 i j hi hj
  · rw [h1 (96 + i) (by omega), if_neg (by omega), if_neg (by omega), if_neg (by omega)]; exact r13 i hi
theorem nuC_begin {σ : gx_R} {p : Nat} {w x : Int32} (hp : p < 8) : ∀ i, i < 104 → nuC (gx_up (gx_up (gx_up σ 10 p w) 11 p x) 12 p 0) 9 i = if i = p then w else if i = 8 + p then x else if i = 16 + p then 0 else nuC σ 9 i := by
  intro i hi
  unfold nuC
  simp only [gx_up]
  grind
theorem begin_R {σ τ : gx_R} {P W H K T p : Nat} {w x : Int32} (hp : p < P) (hv : (w = 0 ∧ x = -1) ∨ (w = 1 ∧ ∃ v, v < W ∧ x = nI v) ∨ (w = 2 ∧ ∃ q, q < P ∧ x = nI q)) (r : ValleyR σ 1 (τ 110) P W H K T) : Ni_begin 9 (nI p) w x σ = some ((), gx_up (gx_up (gx_up σ 10 p w) 11 p x) 12 p 0) ∧ Md_beginsTo (nI p) w x τ = some ((), gx_up (gx_up (gx_up τ 110 (60 + p) w) 110 (68 + p) x) 110 (76 + p) 0) ∧ ValleyR (gx_up (gx_up (gx_up σ 10 p w) 11 p x) 12 p 0) 1 (gx_up (gx_up (gx_up τ 110 (60 + p) w) 110 (68 + p) x) 110 (76 + p) 0 110) P W H K T := by
  have hP := r.1.1.1
  have c1 : p < 8 := by omega
  have c2 : 60 + p < 8880 := by omega
  have c3 : 68 + p < 8880 := by omega
  have c4 : 76 + p < 8880 := by omega
  refine ⟨?_, ?_, Valley_night (fun c h1 h2 h3 => by rw [gx_up_ne (by omega), gx_up_ne (by omega), gx_up_ne (by omega)]) (fun j hj => by rw [up_p _ _ _ (by omega), up_p _ _ _ (by omega), up_p _ _ _ (by omega)]) ?_ r⟩
  · simp (disch := omega) only [Ni_begin, ix_n, cl_n, c1, w_bd, w_ck, bI_0, bI_1, bI_bo, bo_0, bo_1, decide_true, decide_false, if_true, if_false, ite_true, ite_false, not_true_eq_false, not_false_eq_true, Bool.true_eq_false, Bool.false_eq_true]
  · simp (disch := omega) only [Md_beginsTo, z_c0, z_c1, nI_leI, nI_ltI, nI_eq, ix_n, cl_n, nI_add, pk_mul, nI_1, n_lt0, n_0le, n_le0, n_0lt, n_eq0, n_1le, n_le1, n_lt1, n_1lt, n_eq1, n_m1, n_m1a, L_2, L_3, L_4, L_5, L_6, L_7, L_8, L_9, L_10, L_11, L_12, L_14, L_15, L_16, L_17, L_18, L_20, L_21, L_24, L_26, L_30, L_32, L_34, L_35, L_36, L_37, L_38, L_39, L_40, L_41, L_42, L_43, L_44, L_45, L_46, L_47, L_48, L_57, L_59, L_60, L_61, L_62, L_64, L_65, L_68, L_76, L_80, L_84, L_90, L_92, L_96, L_97, L_98, L_99, L_100, L_104, L_122, L_139, L_140, L_162, L_163, L_164, L_200, L_241, L_255, L_256, L_280, L_284, L_300, L_301, L_303, L_309, L_360, L_400, L_401, L_402, L_403, L_404, L_405, L_406, L_407, L_408, L_999, L_1600, L_3120, L_8596, L_8880, L_9999, L_10000, L_30211, L_99999, L_1000000, c2, c3, c4, w_bd, w_ck, bI_0, bI_1, bI_bo, bo_0, bo_1, decide_true, decide_false, if_true, if_false, ite_true, ite_false, not_true_eq_false, not_false_eq_true, Bool.true_eq_false, Bool.false_eq_true]
  · refine NightR_begin hP hp hv r.2.1 (nuC_begin c1) (fun i hi => ?_)
    simp only [up_row]
    by_cases e1 : i = p
    · subst e1; rw [if_neg (by omega), if_neg (by omega), if_pos rfl, if_pos rfl]
    · by_cases e2 : i = 8 + p
      · subst e2; rw [if_neg (by omega), if_pos (by omega), if_neg (by omega), if_pos rfl]
      · by_cases e3 : i = 16 + p
        · subst e3; rw [if_pos (by omega), if_neg (by omega), if_neg (by omega), if_pos rfl]
        · rw [if_neg (by omega), if_neg (by omega), if_neg (by omega), if_neg e1, if_neg e2, if_neg e3]
def keepC (σ σ' : gx_R) : Prop := ∀ c, ¬ (1 ≤ c ∧ c ≤ 18) → ¬ (51 ≤ c ∧ c ≤ 80) → σ' c = σ c
def keepM (τ τ' : gx_R) : Prop := (∀ c, ¬ (c = 109 ∨ c = 110 ∨ 121 ≤ c) → τ' c = τ c) ∧ ∀ j, j < 14 → τ' 109 j = τ 109 j
theorem Rel_mk {σ τ σ' τ' : gx_R} {P W H K T P' W' H' K' T' P2 W2 H2 K2 : Nat} (h : ValleyR σ' 1 (τ' 110) P2 W2 H2 K2 T) (hC : keepC σ σ') (hM : keepM τ τ') (r : ValleyR σ 1 (τ 110) P W H K T ∧ ValleyR σ 19 (τ 111) P' W' H' K' T' ∧ T' ≤ T ∧ TapeR (σ 0 4) (τ 109 3) (σ 38) (τ 112) ∧ (τ 109 4 = σ 39 11 ∧ τ 109 5 = σ 39 12) ∧ ∀ t, t < T → TextR σ τ t) : Rel σ' τ' := by
  obtain ⟨r1, r2, r3, r4, r5, r6⟩ := r
  have hT : T ≤ 4 := r1.2.2.2.2.2.2.1.2.2
  refine ⟨P2, W2, H2, K2, T, P', W', H', K', T', h, ?_, r3, ?_, ?_, fun t ht => TextR_fr (fun k h1 h3 => hC k (by omega) (by omega)) (fun k h1 h3 => hM.1 k (by omega)) (by omega) (r6 t ht)⟩
  · rw [hM.1 111 (by omega)]
    exact ValleyR_fr (fun k h1 h3 => hC k (by omega) (by omega)) r2
  · rw [hC 0 (by omega) (by omega), hM.2 3 (by omega), hC 38 (by omega) (by omega), hM.1 112 (by omega)]; exact r4
  · rw [hM.2 4 (by omega), hM.2 5 (by omega), hC 39 (by omega) (by omega)]; exact r5
/-! ===== wake, sleep, idle ===== -/
theorem isDoing_v {σ : gx_R} {P : Nat} (h : σ 2 0 = nI P) (hP : P ≤ 8) (a w : Int32) : Sf_isDoing a w σ = some (bI (z_ix a P && decide (σ 10 a.toNatClampNeg = w)), σ) := by
  unfold Sf_isDoing
  rw [Fo_isPerson_v h hP, w_bd]
  cases hz : z_ix a P with
  | false => rw [bI_f, if_pos rfl, Bool.false_and]; rfl
  | true =>
    obtain ⟨k, hk, rfl⟩ := ix_ex hz (by omega)
    rw [bI_t, if_neg (by decide), ix_t (show k < 8 by omega) (by omega), w_ck, cl_n (by omega), Bool.true_and]
    by_cases e : σ 10 k = w
    · rw [if_pos e, decide_eq_true e]; rfl
    · rw [if_neg e, decide_eq_false e]; rfl
theorem isAt_v {τ : gx_R} {P : Nat} (h : τ 110 0 = nI P) (hP : P ≤ 8) (a w : Int32) : Md_isAt a w τ = some (bI (z_ix a P && decide (τ 110 (60 + a.toNatClampNeg) = w)), τ) := by
  unfold Md_isAt
  rw [Md_isPerson_v h hP, w_bd]
  cases hz : z_ix a P with
  | false => rw [bI_f, if_pos rfl, Bool.false_and]; rfl
  | true =>
    obtain ⟨k, hk, rfl⟩ := ix_ex hz (by omega)
    have c1 : 60 + k < 8880 := by omega
    rw [bI_t, if_neg (by decide), Bool.true_and]
    simp (disch := omega) only [z_c0, z_c1, nI_leI, nI_ltI, nI_eq, ix_n, cl_n, nI_add, pk_mul, nI_1, n_lt0, n_0le, n_le0, n_0lt, n_eq0, n_1le, n_le1, n_lt1, n_1lt, n_eq1, n_m1, n_m1a, L_2, L_3, L_4, L_5, L_6, L_7, L_8, L_9, L_10, L_11, L_12, L_14, L_15, L_16, L_17, L_18, L_20, L_21, L_24, L_26, L_30, L_32, L_34, L_35, L_36, L_37, L_38, L_39, L_40, L_41, L_42, L_43, L_44, L_45, L_46, L_47, L_48, L_57, L_59, L_60, L_61, L_62, L_64, L_65, L_68, L_76, L_80, L_84, L_90, L_92, L_96, L_97, L_98, L_99, L_100, L_104, L_122, L_139, L_140, L_162, L_163, L_164, L_200, L_241, L_255, L_256, L_280, L_284, L_300, L_301, L_303, L_309, L_360, L_400, L_401, L_402, L_403, L_404, L_405, L_406, L_407, L_408, L_999, L_1600, L_3120, L_8596, L_8880, L_9999, L_10000, L_30211, L_99999, L_1000000, c1, w_bd, w_ck, bI_0, bI_1, bI_bo, bo_0, bo_1, decide_true, decide_false, if_true, if_false, ite_true, ite_false, not_true_eq_false, not_false_eq_true, Bool.true_eq_false, Bool.false_eq_true]
    by_cases e : τ 110 (60 + k) = w
    · rw [if_pos e, decide_eq_true e]; rfl
    · rw [if_neg e, decide_eq_false e]; rfl
theorem doing_eq {σ : gx_R} {a : gx_F} {P W H K T : Nat} (r : ValleyR σ 1 a P W H K T) {p : Nat} (hp : p < 8) : a (60 + p) = σ 10 p := by
  have := (r.2.1.1 p hp).1
  rwa [nu_d σ _ hp] at this
theorem S_wake {σ τ : gx_R} (r : Rel σ τ) (a1 a2 : Int32) : SimP (Sf_wake a1 a2) (Md_wake a1 a2) σ τ := by
  obtain ⟨P, W, H, K, T, P', W', H', K', T', rr⟩ := id r
  have r1 := rr.1
  have hP := r1.1.1.1
  have hW := r1.1.1.2
  have p1 : σ 2 0 = nI P := r1.1.2.1.1
  have p2 := r1.1.2.1.2.1
  have w1 : σ 2 1 = nI W := r1.1.2.1.2.2.1
  have w2 := r1.1.2.1.2.2.2
  cases hz : z_ix a1 P with
  | false =>
    refine SimP_ro r 0 ?_ ?_
    · rw [Sf_wake, isDoing_v p1 hP, hz, Bool.false_and, w_bd, bI_f, if_pos rfl]
    · rw [Md_wake, isAt_v p2 hP, hz, Bool.false_and, w_bd, bI_f, if_pos rfl]
  | true =>
    obtain ⟨p, hp, rfl⟩ := ix_ex hz (by omega)
    have e := doing_eq r1 (show p < 8 by omega)
    by_cases h0 : σ 10 p = 0
    · cases hw : z_ix a2 W with
      | false =>
        refine SimP_ro r 0 ?_ ?_
        · rw [Sf_wake, isDoing_v p1 hP, hz, cl_n (by omega), decide_eq_true h0, w_bd, if_neg (by decide), Fo_isWork_v w1 hW, hw, w_bd, bI_f, if_pos rfl]
        · rw [Md_wake, isAt_v p2 hP, hz, cl_n (by omega), e, decide_eq_true h0, w_bd, if_neg (by decide), Md_isWork_v w2 hW, hw, w_bd, bI_f, if_pos rfl]
      | true =>
        obtain ⟨w, hw2, rfl⟩ := ix_ex hw (by omega)
        obtain ⟨σ1, τ1, s1, s2, s3, s4, s5, s6⟩ := push_R r1
        obtain ⟨b1, b2, b3⟩ := begin_R (w := 1) (x := nI w) hp (Or.inr (Or.inl ⟨rfl, w, hw2, rfl⟩)) s3
        refine ⟨1, _, _, ?_, ?_, Rel_mk b3 (fun c h1 h2 => by rw [gx_up_ne (by omega), gx_up_ne (by omega), gx_up_ne (by omega), s4 c (by omega) (by omega)]) ⟨fun c h1 => by rw [gx_up_ne (by omega), gx_up_ne (by omega), gx_up_ne (by omega), s5 c (by omega)], fun j hj => by rw [gx_up_ne (by omega), gx_up_ne (by omega), gx_up_ne (by omega), s5 109 (by omega)]⟩ rr, fun c hc => by rw [gx_up_ne (by omega), gx_up_ne (by omega), gx_up_ne (by omega), s4 c (by omega) (by omega)], fun c hc => by rw [gx_up_ne (by omega), gx_up_ne (by omega), gx_up_ne (by omega), s5 c (by omega)]⟩
        · rw [Sf_wake, isDoing_v p1 hP, hz, cl_n (by omega), decide_eq_true h0, w_bd, if_neg (by decide), Fo_isWork_v w1 hW, hw, w_bd, bI_t, if_neg (by decide), s1, w_bd, b1, w_bd]
        · rw [Md_wake, isAt_v p2 hP, hz, cl_n (by omega), e, decide_eq_true h0, w_bd, if_neg (by decide), Md_isWork_v w2 hW, hw, w_bd, bI_t, if_neg (by decide), s2, w_bd, b2, w_bd]
    · refine SimP_ro r 0 ?_ ?_
      · rw [Sf_wake, isDoing_v p1 hP, hz, cl_n (by omega), decide_eq_false h0, w_bd, Bool.and_false, bI_f, if_pos rfl]
      · rw [Md_wake, isAt_v p2 hP, hz, cl_n (by omega), e, decide_eq_false h0, w_bd, Bool.and_false, bI_f, if_pos rfl]
