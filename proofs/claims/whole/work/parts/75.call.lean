/-! ===== hours, calls, chains ===== -/
theorem hours_L {P W T A : Nat} (hA : A ≤ 60) : ∀ m j n n' σ τ H K a, j + m = A → m < n → m < n' → H + m ≤ 999 → ValleyR σ 1 (τ 110) P W H K T → (∀ t, t < T → TextR σ τ t) → ∃ v σ' τ' K', Sf_passHours_8 n (nI A) 1 a (nI j) σ = some (v, σ') ∧ Md_hour_19 n' (nI A) a (nI j) τ = some (v, τ') ∧ ValleyR σ' 1 (τ' 110) P W (H + m) K' T ∧ keepC σ σ' ∧ keepM τ τ' := by
  intro m
  induction m with
  | zero =>
    intro j n n' σ τ H K a hj hn hn' hH r ht
    obtain ⟨n, rfl⟩ : ∃ q, n = q + 1 := ⟨n - 1, by omega⟩
    obtain ⟨n', rfl⟩ : ∃ q, n' = q + 1 := ⟨n' - 1, by omega⟩
    have e : j = A := by omega
    subst e
    refine ⟨a, σ, τ, K, ?_, ?_, r, fun _ _ _ => rfl, fun _ _ => rfl, fun _ _ => rfl⟩
    · rw [Sf_passHours_8, Sf_passHours_8_B, if_pos Int32.le_rfl]
    · rw [Md_hour_19, Md_hour_19_B, if_pos Int32.le_rfl]
  | succ m ih =>
    intro j n n' σ τ H K a hj hn hn' hH r ht
    obtain ⟨n, rfl⟩ : ∃ q, n = q + 1 := ⟨n - 1, by omega⟩
    obtain ⟨n', rfl⟩ : ∃ q, n' = q + 1 := ⟨n' - 1, by omega⟩
    have c1 : σ 9 6 = nI H := r.2.1.2.2.2.2.2.1.2.2
    have hT : T ≤ 4 := r.2.2.2.2.2.2.1.2.2
    obtain ⟨σ1, τ1, s1, s2, s3, s4, s5, s6⟩ := push_R r
    have ht1 : ∀ t, t < T → TextR σ1 τ1 t := fun t h => TextR_fr (fun k z1 z2 => s4 k (by omega) (by omega)) (fun k z1 z2 => s5 k (by omega)) (by omega) (ht t h)
    obtain ⟨v, σ2, τ2, hv, u1, u2, u3, u4, u5, u6⟩ := hour_v s3 ht1 (by omega)
    obtain ⟨v', σ', τ', K', w1, w2, w3, w4, w5⟩ := ih (j + 1) n n' σ2 τ2 (H + 1) (min K 29 + 1) (a + nI v) (by omega) (by omega) (by omega) (by omega) u3 u6
    have d1 : ¬ nI A ≤ nI j := by rw [nI_leI (by omega) (by omega)]; omega
    have d2 : ¬ nI H < 0 := nI_pos (by omega)
    have d3 : ¬ (999 : Int32) ≤ nI H := fun z => by have := (nI_leI (a := 999) (by omega) (by omega)).mp z; omega
    refine ⟨v', σ', τ', K', ?_, ?_, by rw [show H + (m + 1) = H + 1 + m by omega]; exact w3, fun c z1 z2 => ?_, fun c z => ?_, fun i hi => ?_⟩
    · rw [Sf_passHours_8, Sf_passHours_8_B, if_neg d1, c1, if_neg d2, if_neg d3, if_neg (by decide), s1, w_bd, u1, nI_1]
      exact w1
    · rw [Md_hour_19, Md_hour_19_B, if_neg d1, s2, w_bd, u2, w_bd, nI_1]
      exact w2
    · rw [w4 c z1 z2, u4 c z1 z2, s4 c (by omega) (by omega)]
    · rw [w5.1 c z, u5.1 c z, s5 c (by omega)]
    · rw [w5.2 i hi, u5.2 i hi, s5 109 (by omega)]
theorem S_hour {σ τ : gx_R} (r : Rel σ τ) (a1 : Int32) : SimP (Sf_hour a1) (Md_hour a1) σ τ := by
  obtain ⟨P, W, H, K, T, P', W', H', K', T', rr⟩ := id r
  have r1 := rr.1
  have hH : H ≤ 999 := r1.2.2.1
  have c1 : σ 9 6 = nI H := r1.2.1.2.2.2.2.2.1.2.2
  have c2 : τ 110 162 = nI H := by rw [← c1]; exact r1.2.1.2.2.2.2.2.1.1
  by_cases h1 : a1 < 1
  · exact SimP_ro r (-1) (by rw [Sf_hour, if_pos h1]) (by rw [Md_hour, Md_in_v, w_bd, decide_eq_false (fun z => z.1 h1), bI_f, if_pos rfl])
  · by_cases h2 : (60 : Int32) < a1
    · exact SimP_ro r (-1) (by rw [Sf_hour, if_neg h1, if_pos h2]) (by rw [Md_hour, Md_in_v, w_bd, decide_eq_false (fun z => z.2 h2), bI_f, if_pos rfl])
    · obtain ⟨A, hA1, hA2, rfl⟩ := in_nat (l := 1) (u := 60) (by omega) (by omega) h1 h2
      have cla : Sf_hour (nI A) σ = if nI (H + A) ≤ nI 999 then Sf_passHours_8 z_FU (nI A) 1 0 (nI 0) σ else some (-1, σ) := by
        have zz : ∀ X : Option (Int32 × gx_R), z_bd X (fun r s => some (r, s)) = X := fun X => by cases X with | none => rfl | some q => cases q; rfl
        rw [Sf_hour, if_neg h1, if_neg h2, c1, nI_add, zz]; rfl
      have mda : Md_hour (nI A) τ = if nI (H + A) ≤ nI 999 then Md_hour_19 z_FU (nI A) 0 (nI 0) τ else some (-1, τ) := by
        rw [Md_hour, Md_in_v, w_bd, decide_eq_true ⟨h1, h2⟩, bI_t, if_neg (by decide), show (162 : Int32).toNatClampNeg = 162 from rfl, c2, nI_add]; rfl
      by_cases h3 : H + A ≤ 999
      · have h4 : nI (H + A) ≤ nI 999 := (nI_leI (by omega) (by omega)).mpr h3
        obtain ⟨v, σ', τ', K2, w1, w2, w3, w4, w5⟩ := hours_L (A := A) hA2 A 0 z_FU z_FU σ τ H K 0 (by omega) (Nat.lt_of_le_of_lt hA2 (Nat.lt_of_lt_of_le (by decide) z_FU_ge)) (Nat.lt_of_le_of_lt hA2 (Nat.lt_of_lt_of_le (by decide) z_FU_ge)) h3 r1 rr.2.2.2.2.2
        exact ⟨v, σ', τ', by rw [cla, if_pos h4]; exact w1, by rw [mda, if_pos h4]; exact w2, Rel_mk w3 w4 w5 rr, fun c hc => w4 c (by omega) (by omega), fun c hc => w5.1 c (by omega)⟩
      · have h4 : ¬ nI (H + A) ≤ nI 999 := fun z => h3 ((nI_leI (by omega) (by omega)).mp z)
        exact SimP_ro r (-1) (by rw [cla, if_neg h4]) (by rw [mda, if_neg h4])
theorem woken_v {P W T H p : Nat} (hH : H ≤ 2000) {σ τ : gx_R} (hE : EnvR σ τ P W T) (hN : NowR 9 σ τ (σ 7) P W H) (hp : p < P) : ∃ x σ' τ', x < 256 ∧ Cl_wokenBy (nI p) σ = some (nI x, σ') ∧ Md_wakesOn ((1 : Int32) <<< (nI p &&& 31)) 0 τ = some (nI x, τ') ∧ (∀ c, c ≠ 51 → c ≠ 52 → c ≠ 54 → c ≠ 55 → σ' c = σ c) ∧ lM τ τ' := by
  have hP := hE.1.1.1
  have h0 := hE.1.2.1.2.1
  have hidle : ∀ p, P ≤ p → p < 8 → σ 10 p = 0 := fun p k1 k2 => (hN.2.2.1 p k1 k2).1
  obtain ⟨snd, hS⟩ := snd_ex (Or.inl rfl) hH hE hN
  obtain ⟨σ1, l1, l2, l3⟩ := listen_v (Or.inl rfl) hP hS hidle
  have k1 : σ1 10 = σ 10 := l2 10 (by omega) (by omega) (by omega) (by omega)
  have k6 : σ1 6 = σ 6 := l2 6 (by omega) (by omega) (by omega) (by omega)
  have k4 : σ1 4 = σ 4 := l2 4 (by omega) (by omega) (by omega) (by omega)
  have hSM : ∀ s, s < P → τ 135 s = 2 → ∀ τ1, lM τ τ1 → ∃ τ2, Md_soundOf (nI s) τ1 = some (nI (snd s), τ2) ∧ lM τ1 τ2 := by
    intro s hs hd τ1 hl
    obtain ⟨-, -, z⟩ := hS s hs (by rw [← (hN.1 s (by omega)).1]; exact hd)
    exact z τ1 (lM_e hl) (by rw [hl 109 (by omega) (by omega)]) (by rw [hl 137 (by omega) (by omega)])
  have hf8 : ∀ i, i < 32 → bt ((1 : Int32) <<< (nI p &&& 31)) i = true → i < 8 := by
    intro i hi hb
    rw [b_bit (by omega) hi] at hb
    have := of_decide_eq_true hb
    omega
  have h55 : ∀ s, s < 8 → bt (mk (fun p => decide (σ1 10 p = 2)) 8) s = true → ∀ i, i < 32 → bt (σ1 55 s) i = true → i < 8 := by
    intro s hs hb i hi hbi
    rw [mk_b (by omega) (by omega), k1] at hb
    have hd := of_decide_eq_true (Bool.and_eq_true_iff.mp hb).2
    have hsP : s < P := by
      rcases Nat.lt_or_ge s P with h | h
      · exact h
      · rw [hidle s h hs] at hd; exact absurd hd (by decide)
    rw [(l3 s hsP (by rw [show (9 + 1 : Nat) = 10 from rfl, k1]; exact hd)).2 i hi] at hbi
    exact of_decide_eq_true (Bool.and_eq_true_iff.mp hbi).1
  obtain ⟨x, s1, s2⟩ := spread_v (a := mk (fun p => decide (σ1 10 p = 2)) 8) (σ := σ1) h55 (fun i hi hb => by
    rw [mk_b (by omega) hi] at hb
    exact of_decide_eq_true (Bool.and_eq_true_iff.mp hb).1) hf8
  obtain ⟨x', τ2, m1, m2, m3⟩ := wakesOn_v (snd := snd) hP h0 hSM 0 (f := (1 : Int32) <<< (nI p &&& 31)) hf8 (lM_rf τ)
  have hx : x' = x := by
    refine Lst_eq (fun s q hs hq => ?_) m3 s2
    rw [mk_b (by omega) (by omega), decide_eq_true hs, Bool.true_and, k1]
    by_cases hd : σ 10 s = 2
    · have hsP : s < P := by
        rcases Nat.lt_or_ge s P with h | h
        · exact h
        · rw [hidle s h hs] at hd; exact absurd hd (by decide)
      rw [decide_eq_true hd, Bool.true_and, (l3 s hsP (by rw [show (9 + 1 : Nat) = 10 from rfl, k1]; exact hd)).2 q (by omega), decide_eq_true hq, Bool.true_and]
      unfold edM ldB
      rw [k6, k4, (hN.1 s hs).1, decide_eq_true (show σ (9 + 1) s = 2 from hd), b_0, (hE.1.2.2.2.2.1 s hs).1]
      cases hh : bt (σ 6 s) q with
      | false => simp
      | true =>
        have hqP := ((hE.1.2.2.2.2.1 s hs).2 q (by omega) hh).1
        obtain ⟨_, y, -, -, -, -, z3, z4⟩ := hE.1.2.2.1 q hqP
        rw [z3, z4]
        simp [hsP, hqP]
    · rw [decide_eq_false hd, Bool.false_and]
      unfold edM
      rw [(hN.1 s hs).1, decide_eq_false (show ¬ σ (9 + 1) s = 2 from hd), Bool.false_and, Bool.and_false]
  subst hx
  obtain ⟨n, hn, rfl⟩ := set_n (x := x') (fun i hi hb => by
    have := s2.2.2 255 (fun j hj hb2 => by rw [b_255]; exact decide_eq_true (hf8 j hj hb2)) (fun s q hs hq _ _ => by rw [b_255]; exact decide_eq_true hs) i hi hb
    rw [b_255] at this
    exact of_decide_eq_true this)
  refine ⟨n, σ1, τ2, hn, ?_, m1, l2, m2⟩
  rw [Cl_wokenBy, l1, w_bd, Ni_those_v, w_bd, s1, w_bd]
theorem calls_v {σ τ : gx_R} {P W H K T p : Nat} (r : ValleyR σ 1 (τ 110) P W H K T) (ht : ∀ t, t < T → TextR σ τ t) (hp : p < P) : ∃ x σ1 σ' τ', x < 256 ∧ Cl_wokenBy (nI p) σ = some (nI x, σ1) ∧ Ni_makeIdle 9 (nI x) σ1 = some ((), σ') ∧ Md_calls (nI p) τ = some (nI (pcN 8 x), τ') ∧ ValleyR σ' 1 (τ' 110) P W H K T ∧ keepC σ σ' ∧ keepM τ τ' ∧ (∀ c, ¬ (9 ≤ c ∧ c ≤ 15) → ¬ (51 ≤ c ∧ c ≤ 80) → σ' c = σ c) := by
  have hE0 := EnvR_of r ht
  obtain ⟨τ1, u1, hN, u3, u4⟩ := lays_R r
  have hP := r.1.1.1
  have hH : H ≤ 999 := r.2.2.1
  have hE : EnvR σ τ1 P W T := EnvR_fr (eC_rf σ) ⟨fun i _ => by rw [u3 110 (by omega) (by omega)], fun k z1 z2 => u3 k (by omega) (by omega)⟩ hE0
  obtain ⟨x, σ1, τ2, hx, w1, w2, w3, w4⟩ := woken_v (by omega) hE hN hp
  have hN1 : NowR 9 σ1 τ2 (σ 7) P W H := NowR_fr (fun c y1 y2 => w3 c (by omega) (by omega) (by omega) (by omega)) (fun c y1 y2 => w4 c (by omega) (by omega)) (by rw [w4 109 (by omega) (by omega)]) (by rw [w4 109 (by omega) (by omega)]) hN
  have a2 : τ2 110 = τ 110 := by rw [w4 110 (by omega) (by omega), u3 110 (by omega) (by omega)]
  obtain ⟨σ2, i1, i2, i3, i4, i5⟩ := makeIdle_L 9 (nI x) 8 0 z_FU σ1 (by omega) (Nat.lt_of_lt_of_le (by decide) z_FU_ge)
  obtain ⟨τ3, j1, j2, j3, j4, j5⟩ := idles_L hP (nI x) P 0 z_FU τ2 (by rw [a2]; exact r.1.2.1.2.1) (by omega) (Nat.lt_of_le_of_lt hP (Nat.lt_of_lt_of_le (by decide) z_FU_ge))
  have hN2 := idle_N (Or.inl rfl) hP hN1 i2 i3 i4 i5 j2 j3 j4 j5
  obtain ⟨τ4, v1, v2, v3, v4⟩ := keepsNow_v τ3
  have a3 : τ3 110 = τ 110 := by rw [j2 110 (by omega) (by omega) (by omega), a2]
  have cS : ∀ c, ¬ (9 ≤ c ∧ c ≤ 15) → ¬ (51 ≤ c ∧ c ≤ 80) → σ2 c = σ c := fun c z1 z2 => by rw [i2 c (by omega) (by omega) (by omega), w3 c (by omega) (by omega) (by omega) (by omega)]
  refine ⟨x, σ1, σ2, τ4, hx, w1, i1, ?_, ?_, fun c z1 z2 => cS c (by omega) z2, ⟨fun c z => ?_, fun j hj => ?_⟩, cS⟩
  · rw [Md_calls, u1, w_bd, w2, w_bd, show Md_idles (nI x) τ2 = _ from j1, w_bd, v1, w_bd, many_v hx, w_bd]
  · refine Valley_night (fun c z1 z2 z3 => cS c (by omega) (by omega)) (fun j hj => by rw [v3 j (by omega), a3]) ?_ r
    exact NightR_cong hP (fun _ _ => rfl) (fun i hi => v4 i hi) (fun _ _ => rfl) ((NowR_iff hP).mpr hN2)
  · rw [v2 c (by omega), j2 c (by omega) (by omega) (by omega), w4 c (by omega) (by omega), u3 c (by omega) (by omega)]
  · rw [v2 109 (by omega), j2 109 (by omega) (by omega) (by omega), w4 109 (by omega) (by omega), u4 j (by omega) (by omega)]
theorem S_call {σ τ : gx_R} (r : Rel σ τ) (a1 : Int32) : SimP (Sf_call a1) (Md_call a1) σ τ := by
  obtain ⟨P, W, H, K, T, P', W', H', K', T', rr⟩ := id r
  have r1 := rr.1
  have hP := r1.1.1.1
  have hT : T ≤ 4 := r1.2.2.2.2.2.2.1.2.2
  have p1 : σ 2 0 = nI P := r1.1.2.1.1
  have p2 := r1.1.2.1.2.1
  cases hz : z_ix a1 P with
  | false =>
    refine SimP_ro r (-1) ?_ ?_
    · rw [Sf_call, isDoing_v p1 hP, hz, Bool.false_and, w_bd, bI_f, if_pos rfl]
    · rw [Md_call, isAt_v p2 hP, hz, Bool.false_and, w_bd, bI_f, if_pos rfl]
  | true =>
    obtain ⟨p, hp, rfl⟩ := ix_ex hz (by omega)
    have e := doing_eq r1 (show p < 8 by omega)
    by_cases h0 : σ 10 p = 2
    · obtain ⟨σ1, τ1, s1, s2, s3, s4, s5, s6⟩ := push_R r1
      have ht1 : ∀ t, t < T → TextR σ1 τ1 t := fun t h => TextR_fr (fun k z1 z2 => s4 k (by omega) (by omega)) (fun k z1 z2 => s5 k (by omega)) (by omega) (rr.2.2.2.2.2 t h)
      obtain ⟨x, σ2, σ3, τ3, hx, w1, w2, w3, w4, w5, w6, -⟩ := calls_v s3 ht1 hp
      have kC : keepC σ σ3 := fun c z1 z2 => by rw [w5 c z1 z2, s4 c (by omega) (by omega)]
      have kM : keepM τ τ3 := ⟨fun c z => by rw [w6.1 c z, s5 c (by omega)], fun j hj => by rw [w6.2 j hj, s5 109 (by omega)]⟩
      refine ⟨nI (pcN 8 x), σ3, τ3, ?_, ?_, Rel_mk w4 kC kM rr, fun c hc => kC c (by omega) (by omega), fun c hc => kM.1 c (by omega)⟩
      · rw [Sf_call, isDoing_v p1 hP, hz, cl_n (by omega), decide_eq_true h0, w_bd, if_neg (by decide), s1, w_bd, w1, w_bd, w2, w_bd, bitCount_v hx, w_bd]
      · rw [Md_call, isAt_v p2 hP, hz, cl_n (by omega), e, decide_eq_true h0, w_bd, if_neg (by decide), s2, w_bd, w3, w_bd]
    · refine SimP_ro r (-1) ?_ ?_
      · rw [Sf_call, isDoing_v p1 hP, hz, cl_n (by omega), decide_eq_false h0, w_bd, Bool.and_false, bI_f, if_pos rfl]
      · rw [Md_call, isAt_v p2 hP, hz, cl_n (by omega), e, decide_eq_false h0, w_bd, Bool.and_false, bI_f, if_pos rfl]
theorem S_chain {σ τ : gx_R} (r : Rel σ τ) (a1 : Int32) : SimP (Sf_chain a1) (Md_chain a1) σ τ := by
  obtain ⟨P, W, H, K, T, P', W', H', K', T', rr⟩ := id r
  have r1 := rr.1
  have hP := r1.1.1.1
  have hH : H ≤ 999 := r1.2.2.1
  have p1 : σ 2 0 = nI P := r1.1.2.1.1
  have p2 := r1.1.2.1.2.1
  cases hz : z_ix a1 P with
  | false =>
    refine SimP_ro r (-1) ?_ ?_
    · rw [Sf_chain, isDoing_v p1 hP, hz, Bool.false_and, w_bd, bI_f, if_pos rfl]
    · rw [Md_chain, isAt_v p2 hP, hz, Bool.false_and, w_bd, bI_f, if_pos rfl]
  | true =>
    obtain ⟨p, hp, rfl⟩ := ix_ex hz (by omega)
    have e := doing_eq r1 (show p < 8 by omega)
    by_cases h0 : σ 10 p = 2
    · obtain ⟨τ1, u1, hN, u3, u4⟩ := lays_R r1
      have hE : EnvR σ τ1 P W T := EnvR_fr (eC_rf σ) ⟨fun i _ => by rw [u3 110 (by omega) (by omega)], fun k z1 z2 => u3 k (by omega) (by omega)⟩ (EnvR_of r1 rr.2.2.2.2.2)
      obtain ⟨x, σ1, τ2, hx, w1, w2, w3, w4⟩ := woken_v (by omega) hE hN hp
      refine SimP_sc (σ' := σ1) (τ' := τ2) r (nI x) ?_ ?_ (fun k hk => w3 k (by omega) (by omega) (by omega) (by omega)) ⟨fun k hk => by rw [w4 k (by omega) (by omega), u3 k (by omega) (by omega)], fun j hj => by rw [w4 109 (by omega) (by omega), u4 j (by omega) (by omega)]⟩
      · rw [Sf_chain, isDoing_v p1 hP, hz, cl_n (by omega), decide_eq_true h0, w_bd, if_neg (by decide), w1, w_bd]
      · rw [Md_chain, isAt_v p2 hP, hz, cl_n (by omega), e, decide_eq_true h0, w_bd, if_neg (by decide), u1, w_bd, w2, w_bd]
    · refine SimP_ro r (-1) ?_ ?_
      · rw [Sf_chain, isDoing_v p1 hP, hz, cl_n (by omega), decide_eq_false h0, w_bd, Bool.and_false, bI_f, if_pos rfl]
      · rw [Md_chain, isAt_v p2 hP, hz, cl_n (by omega), e, decide_eq_false h0, w_bd, Bool.and_false, bI_f, if_pos rfl]
