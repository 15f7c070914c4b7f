/-! ===== the whole hour ===== -/
def hC (b : Nat) (σ σ' : gx_R) : Prop := ∀ c, ¬ (51 ≤ c ∧ c ≤ 55) → ¬ (b ≤ c ∧ c ≤ b + 6) → σ' c = σ c
def hM (τ τ' : gx_R) : Prop := (∀ c, c ≠ 109 → ¬ (133 ≤ c ∧ c ≤ 140) → τ' c = τ c) ∧ ∀ j, j < 14 → τ' 109 j = τ 109 j
theorem idle_N {b P W H : Nat} (hb : b = 9 ∨ b = 56) (hP : P ≤ 8) {σ τ σ' τ' : gx_R} {nd : gx_F} {B : Int32} (hN : NowR b σ τ nd P W H)
    (s0 : ∀ c, c ≠ b + 1 → c ≠ b + 2 → c ≠ b + 3 → σ' c = σ c) (s1 : ∀ p, σ' (b + 1) p = if 0 ≤ p ∧ p < 8 ∧ bt B p = true then 0 else σ (b + 1) p) (s2 : ∀ p, σ' (b + 2) p = if 0 ≤ p ∧ p < 8 ∧ bt B p = true then -1 else σ (b + 2) p) (s3 : ∀ p, σ' (b + 3) p = if 0 ≤ p ∧ p < 8 ∧ bt B p = true then 0 else σ (b + 3) p)
    (t0 : ∀ c, c ≠ 135 → c ≠ 136 → c ≠ 137 → τ' c = τ c) (t1 : ∀ p, τ' 135 p = if 0 ≤ p ∧ p < P ∧ bt B p = true then 0 else τ 135 p) (t2 : ∀ p, τ' 136 p = if 0 ≤ p ∧ p < P ∧ bt B p = true then -1 else τ 136 p) (t3 : ∀ p, τ' 137 p = if 0 ≤ p ∧ p < P ∧ bt B p = true then 0 else τ 137 p) : NowR b σ' τ' nd P W H := by
  obtain ⟨r1, r2, r3, r4, r5, ⟨r6, r7, r8⟩, r9, r10, r11, r12, r13⟩ := hN
  have a4 := s0 (b + 4) (by omega) (by omega) (by omega)
  have a5 := s0 (b + 5) (by omega) (by omega) (by omega)
  have a6 := s0 (b + 6) (by omega) (by omega) (by omega)
  have a0 := s0 b (by omega) (by omega) (by omega)
  have b8 := t0 138 (by omega) (by omega) (by omega)
  have b9 := t0 139 (by omega) (by omega) (by omega)
  have b0 := t0 140 (by omega) (by omega) (by omega)
  have b1 := t0 109 (by omega) (by omega) (by omega)
  refine ⟨fun i hi => ?_, fun i hi => ?_, fun i hi hi2 => ?_, fun i hi => ?_, fun i hi => ?_, ⟨?_, ?_, ?_⟩, ?_, fun i hi => ?_, fun i hi => ?_, fun i j hi hj => ?_, fun i hi => ?_⟩
  · obtain ⟨g1, g2, g3⟩ := r1 i hi
    rw [t1 i, t3 i, s1 i, s3 i, b8, a4]
    by_cases hiP : i < P
    · by_cases hB : bt B i = true
      · rw [if_pos ⟨by omega, hiP, hB⟩, if_pos ⟨by omega, hi, hB⟩, if_pos ⟨by omega, hiP, hB⟩, if_pos ⟨by omega, hi, hB⟩]
        exact ⟨rfl, rfl, g3⟩
      · rw [if_neg (fun z => hB z.2.2), if_neg (fun z => hB z.2.2), if_neg (fun z => hB z.2.2), if_neg (fun z => hB z.2.2)]
        exact ⟨g1, g2, g3⟩
    · obtain ⟨k1, k2, k3, k4⟩ := r3 i (by omega) hi
      rw [if_neg (show ¬ (0 ≤ i ∧ i < P ∧ bt B i = true) from fun z => hiP z.2.1), if_neg (show ¬ (0 ≤ i ∧ i < P ∧ bt B i = true) from fun z => hiP z.2.1)]
      refine ⟨?_, ?_, g3⟩
      · split
        · exact g1.trans k1
        · exact g1
      · split
        · exact g2.trans k3
        · exact g2
  · rw [t2 i, s2 i]
    by_cases hB : bt B i = true
    · rw [if_pos ⟨by omega, hi, hB⟩, if_pos ⟨by omega, by omega, hB⟩]
    · rw [if_neg (fun z => hB z.2.2), if_neg (fun z => hB z.2.2)]
      exact r2 i hi
  · obtain ⟨k1, k2, k3, k4⟩ := r3 i hi hi2
    rw [s1 i, s2 i, s3 i, a4]
    refine ⟨?_, ?_, ?_, k4⟩
    · split
      · rfl
      · exact k1
    · split
      · rfl
      · exact k2
    · split
      · rfl
      · exact k3
  · rw [b0, a5]; exact r4 i hi
  · rw [b9, a6]; exact r5 i hi
  · rw [b1, a0]; exact r6
  · rw [b1, a0]; exact r7
  · rw [a0]; exact r8
  · rw [a0]; exact r9
  · rw [s1 i, s2 i]
    by_cases hB : bt B i = true
    · rw [if_pos ⟨by omega, by omega, hB⟩, if_pos ⟨by omega, by omega, hB⟩]
      exact Or.inl ⟨rfl, rfl⟩
    · rw [if_neg (fun z => hB z.2.2), if_neg (fun z => hB z.2.2)]
      exact r10 i hi
  · obtain ⟨o, d, g1, g2, g3, g4⟩ := r11 i hi
    rw [s3 i, a4]
    by_cases hB : bt B i = true
    · rw [if_pos ⟨by omega, by omega, hB⟩]
      exact ⟨0, d, by omega, g2, rfl, g4⟩
    · rw [if_neg (fun z => hB z.2.2)]
      exact ⟨o, d, g1, g2, g3, g4⟩
  · rw [a5]; exact r12 i j hi hj
  · rw [a6]; exact r13 i hi
theorem on_N {b P W H : Nat} (hb : b = 9 ∨ b = 56) (hP : P ≤ 8) (hH : H ≤ 2000) {σ τ σ' τ' : gx_R} {nd : gx_F} (hN : NowR b σ τ nd P W H)
    (s0 : ∀ c, c ≠ b → c ≠ b + 3 → σ' c = σ c) (s6 : ∀ j, j ≠ 6 → σ' b j = σ b j) (s7 : σ' b 6 = σ b 6 + 1) (s3 : ∀ p, σ' (b + 3) p = if 0 ≤ p ∧ p < 8 ∧ σ (b + 1) p ≠ 0 then σ (b + 3) p + 1 else σ (b + 3) p)
    (t0 : ∀ c, c ≠ 109 → c ≠ 137 → τ' c = τ c) (t4 : τ' 109 42 = τ 109 42 + 1) (t5 : τ' 109 43 = τ 109 43) (t3 : ∀ p, τ' 137 p = if 0 ≤ p ∧ p < P ∧ τ 135 p ≠ 0 then τ 137 p + 1 else τ 137 p) : NowR b σ' τ' nd P W (H + 1) := by
  obtain ⟨r1, r2, r3, r4, r5, ⟨r6, r7, r8⟩, r9, r10, r11, r12, r13⟩ := hN
  have a1 := s0 (b + 1) (by omega) (by omega)
  have a2 := s0 (b + 2) (by omega) (by omega)
  have a4 := s0 (b + 4) (by omega) (by omega)
  have a5 := s0 (b + 5) (by omega) (by omega)
  have a6 := s0 (b + 6) (by omega) (by omega)
  refine ⟨fun i hi => ?_, fun i hi => ?_, fun i hi hi2 => ?_, fun i hi => ?_, fun i hi => ?_, ⟨?_, ?_, ?_⟩, ?_, fun i hi => ?_, fun i hi => ?_, fun i j hi hj => ?_, fun i hi => ?_⟩
  · obtain ⟨g1, g2, g3⟩ := r1 i hi
    rw [t0 135 (by omega) (by omega), t0 138 (by omega) (by omega), a1, a4, t3 i, s3 i, g1, g2]
    refine ⟨rfl, ?_, g3⟩
    by_cases hiP : i < P
    · by_cases h : σ (b + 1) i = 0
      · rw [if_neg (fun z => z.2.2 h), if_neg (fun z => z.2.2 h)]
      · rw [if_pos ⟨by omega, hiP, h⟩, if_pos ⟨by omega, hi, h⟩]
    · have := (r3 i (by omega) hi).1
      rw [if_neg (fun z => hiP z.2.1), if_neg (fun z => z.2.2 this)]
  · rw [t0 136 (by omega) (by omega), a2]; exact r2 i hi
  · obtain ⟨k1, k2, k3, k4⟩ := r3 i hi hi2
    rw [a1, a2, a4, s3 i, if_neg (fun z => z.2.2 k1)]
    exact ⟨k1, k2, k3, k4⟩
  · rw [t0 140 (by omega) (by omega), a5]; exact r4 i hi
  · rw [t0 139 (by omega) (by omega), a6]; exact r5 i hi
  · rw [t4, s7, r6]
  · rw [t5, s6 7 (by omega)]; exact r7
  · rw [s7, r8, nI_1]
  · rw [s6 7 (by omega)]; exact r9
  · rw [a1, a2]; exact r10 i hi
  · obtain ⟨o, d, g1, g2, g3, g4⟩ := r11 i hi
    rw [s3 i, a4]
    by_cases h : σ (b + 1) i = 0
    · rw [if_neg (fun z => z.2.2 h)]
      exact ⟨o, d, by omega, g2, g3, g4⟩
    · rw [if_pos ⟨by omega, by omega, h⟩, g3, nI_1]
      exact ⟨o + 1, d, by omega, g2, rfl, g4⟩
  · rw [a5]; exact r12 i j hi hj
  · rw [a6]; exact r13 i hi
theorem tail_v {b P W T H : Nat} (hb : b = 9 ∨ b = 56) (hH : H ≤ 2000) {σ τ : gx_R} (hE : EnvR σ τ P W T) (hN : NowR b σ τ (σ 7) P W H) (h1 : τ 109 50 = σ 53 4) (h2 : τ 109 51 = σ 53 5) (h3 : BitsIn (σ 53 4) P (σ (b + 1))) (h5 : σ 53 6 = mk (fun p => decide (σ (b + 1) p = 2)) 8) :
    ∃ r σ' τ', r < 256 ∧ Cl_pass_77 b σ = some ((), σ') ∧ Md_hourGoes_79 τ = some (nI (pcN 8 r), τ') ∧ σ 53 4 = nI r ∧ NowR b σ' τ' (σ 7) P W (H + 1) ∧ σ' 53 = σ 53 ∧ (∀ j, j ≠ 42 → τ' 109 j = τ 109 j) ∧ hC b σ σ' ∧ hM τ τ' ∧ ∀ p, p < 8 → σ' (b + 1) p = 1 → σ (b + 1) p = 1 := by
  have hP := hE.1.1.1
  have hW := hE.1.1.2
  have h0 := hE.1.2.1.2.1
  have f0 := hE.1.2.1.2.2.1
  have hidle : ∀ p, P ≤ p → p < 8 → σ (b + 1) p = 0 := fun p k1 k2 => (hN.2.2.1 p k1 k2).1
  obtain ⟨r, hr, hr2⟩ := set_n (x := σ 53 4) (fun i hi hb => by have := (h3 i hi hb).1; omega)
  obtain ⟨snd, hS⟩ := snd_ex hb hH hE hN
  obtain ⟨σ1, l1, l2, l3⟩ := listen_v hb hP hS hidle
  have k1 : σ1 (b + 1) = σ (b + 1) := l2 (b + 1) (by omega) (by omega) (by omega) (by omega)
  have k2 : σ1 (b + 2) = σ (b + 2) := l2 (b + 2) (by omega) (by omega) (by omega) (by omega)
  have k53 : σ1 53 = σ 53 := l2 53 (by omega) (by omega) (by omega) (by omega)
  have k6 : σ1 6 = σ 6 := l2 6 (by omega) (by omega) (by omega) (by omega)
  have k4 : σ1 4 = σ 4 := l2 4 (by omega) (by omega) (by omega) (by omega)
  have k8 : σ1 8 = σ 8 := l2 8 (by omega) (by omega) (by omega) (by omega)
  have hwk : ∀ q, q < P → σ (b + 1) q = 1 → ∃ w, w < W ∧ σ (b + 2) q = nI w := by
    intro q hq hd
    rcases hN.2.2.2.2.2.2.2.1 q hq with ⟨z, -⟩ | ⟨-, z⟩ | ⟨z, -⟩
    · rw [hd] at z; exact absurd z (by decide)
    · exact z
    · rw [hd] at z; exact absurd z (by decide)
  have w1 := wbn_L (b := b) (σ := σ1) (snd := snd) hP hW (by rw [l2 2 (by omega) (by omega) (by omega) (by omega)]; exact f0) (by rw [k53, k1]; exact h3) (by rw [k1, k2]; exact hwk) l3 (by rw [k1]; exact hidle) 8 0 z_FU (by omega) (Nat.lt_of_lt_of_le (by decide) z_FU_ge)
  have hSM : ∀ s, s < P → τ 135 s = 2 → ∀ τ1, lM τ τ1 → ∃ τ2, Md_soundOf (nI s) τ1 = some (nI (snd s), τ2) ∧ lM τ1 τ2 := by
    intro s hs hd τ1 hl
    obtain ⟨-, -, z⟩ := hS s hs (by rw [← (hN.1 s (by omega)).1]; exact hd)
    exact z τ1 (lM_e hl) (by rw [hl 109 (by omega) (by omega)]) (by rw [hl 137 (by omega) (by omega)])
  obtain ⟨τ1, n1, n2⟩ := rn_L (W := W) hP hW h0 (fun q hq hb => by
    rw [h1] at hb
    obtain ⟨y1, y2⟩ := h3 q hq hb
    obtain ⟨w, z1, z2⟩ := hwk q y1 y2
    exact ⟨w, z1, (hN.2.1 q y1).trans z2⟩) hSM P 0 z_FU τ (by omega) (Nat.lt_of_le_of_lt hP (Nat.lt_of_lt_of_le (by decide) z_FU_ge)) (lM_rf τ)
  -- the same are woken by noise
  have hF : mk (fun p => decide (τ 135 p = 2) && anF (nzM τ p (snd p)) 0 P) P = mk (fun p => decide (σ1 (b + 1) p = 2) && anF (nzB b σ1 (σ1 53 4) p (snd p)) 0 8) 8 := by
    rw [mk_cut (n := P) (m := 8) hP (fun i y1 y2 => by rw [k1, hidle i y1 y2]; rfl)]
    refine mk_cong (fun p hp => ?_)
    rw [k1, (hN.1 p (by omega)).1]
    congr 1
    have e : ∀ q, nzB b σ1 (σ1 53 4) p (snd p) q = true ↔ q < P ∧ nzM τ p (snd p) q = true := by
      intro q
      rcases Nat.lt_or_ge q 32 with hq32 | hq32
      · unfold nzB nzM
        rw [k53, k6, k2, k8, h1]
        cases hrq : bt (σ 53 4) q with
        | false => simp
        | true =>
          obtain ⟨y1, y2⟩ := h3 q hq32 hrq
          obtain ⟨w, z1, z2⟩ := hwk q y1 y2
          obtain ⟨x, y, -, -, -, -, -, z3, z4⟩ := hE.1.2.2.2.2.2 w z1
          have z5 := (hE.1.2.2.2.2.1 p (by omega)).1
          rw [hN.2.1 q y1, z2, cl_n (by omega), z3, z4, z5]
          simp [y1]
      · constructor
        · intro h
          unfold nzB at h
          rw [b_big hq32] at h
          simp at h
        · rintro ⟨h, -⟩; omega
    cases ha : anF (nzM τ p (snd p)) 0 P with
    | true =>
      obtain ⟨i, y1, y2, y3⟩ := anF_iff.mp ha
      exact (anF_iff.mpr ⟨i, by omega, by omega, (e i).mpr ⟨by omega, y3⟩⟩).symm
    | false =>
      cases hb2 : anF (nzB b σ1 (σ1 53 4) p (snd p)) 0 8 with
      | false => rfl
      | true =>
        obtain ⟨i, y1, y2, y3⟩ := anF_iff.mp hb2
        obtain ⟨y4, y5⟩ := (e i).mp y3
        rw [anF_iff.mpr ⟨i, by omega, by omega, y5⟩] at ha
        cases ha
  have hf8 : ∀ i, i < 32 → bt (mk (fun p => decide (σ1 (b + 1) p = 2) && anF (nzB b σ1 (σ1 53 4) p (snd p)) 0 8) 8) i = true → i < 8 := by
    intro i hi hb
    rw [mk_b (by omega) hi] at hb
    exact of_decide_eq_true (Bool.and_eq_true_iff.mp hb).1
  have h55 : ∀ s, s < 8 → bt (σ1 53 6) s = true → ∀ i, i < 32 → bt (σ1 55 s) i = true → i < 8 := by
    intro s hs hb i hi hbi
    rw [k53, h5, mk_b (by omega) (by omega)] at hb
    have hd := of_decide_eq_true (Bool.and_eq_true_iff.mp hb).2
    have hsP : s < P := by
      rcases Nat.lt_or_ge s P with h | h
      · exact h
      · rw [hidle s h hs] at hd; exact absurd hd (by decide)
    rw [(l3 s hsP (by rw [k1]; exact hd)).2 i hi] at hbi
    exact of_decide_eq_true (Bool.and_eq_true_iff.mp hbi).1
  obtain ⟨x, s1, s2⟩ := spread_v (a := σ1 53 6) (σ := σ1) h55 (fun i hi hb => by
    rw [k53, h5, mk_b (by omega) hi] at hb
    exact of_decide_eq_true (Bool.and_eq_true_iff.mp hb).1) hf8
  obtain ⟨x', τ2, m1, m2, m3⟩ := wakesOn_v (snd := snd) hP h0 hSM 0 (f := mk (fun p => decide (τ 135 p = 2) && anF (nzM τ p (snd p)) 0 P) P) (by rw [hF]; exact hf8) n2
  have hx : x' = x := by
    rw [hF] at m3
    refine Lst_eq (fun s q hs hq => ?_) m3 s2
    rw [k53, h5, mk_b (by omega) (by omega), decide_eq_true hs, Bool.true_and]
    by_cases hd : σ (b + 1) s = 2
    · have hsP : s < P := by
        rcases Nat.lt_or_ge s P with h | h
        · exact h
        · rw [hidle s h hs] at hd; exact absurd hd (by decide)
      rw [decide_eq_true hd, Bool.true_and, (l3 s hsP (by rw [k1]; exact hd)).2 q (by omega), decide_eq_true hq, Bool.true_and]
      unfold edM ldB
      rw [k6, k4, (hN.1 s hs).1, decide_eq_true hd, b_0, (hE.1.2.2.2.2.1 s hs).1]
      cases hh : bt (σ 6 s) q with
      | false => simp
      | true =>
        have hqP := ((hE.1.2.2.2.2.1 s hs).2 q (by omega) hh).1
        obtain ⟨_, y, -, -, -, -, z3, z4⟩ := hE.1.2.2.1 q hqP
        rw [z3, z4]
        simp [hsP, hqP]
    · rw [decide_eq_false hd, Bool.false_and]
      unfold edM
      rw [(hN.1 s hs).1, decide_eq_false hd, Bool.false_and, Bool.and_false]
  obtain ⟨σ2, i1, i2, i3, i4, i5⟩ := makeIdle_L b (σ1 53 5 ||| x) 8 0 z_FU σ1 (by omega) (Nat.lt_of_lt_of_le (by decide) z_FU_ge)
  obtain ⟨τ3, j1, j2, j3, j4, j5⟩ := idles_L hP (τ 109 51 ||| x') P 0 z_FU τ2 (by rw [m2 110 (by omega) (by omega)]; exact h0) (by omega) (Nat.lt_of_le_of_lt hP (Nat.lt_of_lt_of_le (by decide) z_FU_ge))
  have hB : τ 109 51 ||| x' = σ1 53 5 ||| x := by rw [hx, h2, k53]
  rw [hB] at j1 j3 j4 j5
  have hN1 : NowR b σ1 τ2 (σ 7) P W H := NowR_fr (fun c y1 y2 => l2 c (by omega) (by omega) (by omega) (by omega)) (fun c y1 y2 => m2 c (by omega) (by omega)) (by rw [m2 109 (by omega) (by omega)]) (by rw [m2 109 (by omega) (by omega)]) hN
  have hN2 := idle_N hb hP hN1 i2 i3 i4 i5 j2 j3 j4 j5
  obtain ⟨σ3, o1, o2, o3, o4, o5⟩ := on_C (b := b) 8 0 z_FU σ2 (by omega) (Nat.lt_of_lt_of_le (by decide) z_FU_ge)
  obtain ⟨τ4, p1, p2, p3⟩ := on_M hP P 0 z_FU τ3 (by omega) (Nat.lt_of_le_of_lt hP (Nat.lt_of_lt_of_le (by decide) z_FU_ge)) (by rw [j2 110 (by omega) (by omega) (by omega), m2 110 (by omega) (by omega)]; exact h0)
  have hN3 : NowR b σ3 (gx_up τ4 109 42 (τ4 109 42 + 1)) (σ 7) P W (H + 1) := on_N hb hP hH hN2 o2 o3 o4 o5 (fun c y1 y2 => by rw [gx_up_ne y1, p2 c y2]) (by rw [up_e, p2 109 (by omega)]) (by rw [up_p _ _ _ (by omega), p2 109 (by omega)]) (fun p => by rw [gx_up_ne (by omega)]; exact p3 p)
  have t109 : τ4 109 = τ 109 := by rw [p2 109 (by omega), j2 109 (by omega) (by omega) (by omega), m2 109 (by omega) (by omega)]
  refine ⟨r, σ3, gx_up τ4 109 42 (τ4 109 42 + 1), hr, ?_, ?_, hr2, hN3, ?_, fun j y => by rw [up_p _ _ _ y, t109], fun c y1 y2 => ?_, ⟨fun c y1 y2 => ?_, fun j y => ?_⟩, fun p hp hd => ?_⟩
  · rw [Cl_pass_77, l1, w_bd, show Cl_wokenByNoise b σ1 = _ from w1, w_bd, s1, w_bd, show Ni_makeIdle b (σ1 53 5 ||| x) σ1 = _ from i1, w_bd]
    exact o1
  · rw [Md_hourGoes_79, show Md_wokenByNoise τ = _ from n1, w_bd, m1, w_bd, hB, show Md_idles (σ1 53 5 ||| x) τ2 = _ from j1, w_bd]
    refine p1.trans ?_
    rw [Md_hourGoes_114, up_p _ _ _ (by omega), t109, h1, hr2, many_v hr, w_bd]
  · rw [o2 53 (by omega) (by omega), i2 53 (by omega) (by omega) (by omega), k53]
  · rw [o2 c (by omega) (by omega), i2 c (by omega) (by omega) (by omega), l2 c (by omega) (by omega) (by omega) (by omega)]
  · rw [gx_up_ne y1, p2 c (by omega), j2 c (by omega) (by omega) (by omega), m2 c (by omega) (by omega)]
  · rw [up_p _ _ _ (by omega), t109]
  · rw [o2 (b + 1) (by omega) (by omega), i3 p] at hd
    split at hd
    · exact absurd hd (by decide)
    · rw [k1] at hd; exact hd
theorem pass_v {b P W T H : Nat} (hb : b = 9 ∨ b = 56) (hH : H ≤ 2000) {σ τ : gx_R} (hE : EnvR σ τ P W T) (hN : NowR b σ τ (σ 7) P W H) :
    ∃ r t l σ' τ', r < 256 ∧ t < 256 ∧ l < 256 ∧ Cl_pass b σ = some ((), σ') ∧ Md_hourGoes τ = some (nI (pcN 8 r), τ') ∧ EnvR σ' τ' P W T ∧ NowR b σ' τ' (σ' 7) P W (H + 1) ∧
      (σ' 53 4 = nI r ∧ σ' 53 5 = nI t ∧ σ' 53 6 = nI l) ∧ (τ' 109 50 = nI r ∧ τ' 109 51 = nI t ∧ τ' 109 52 = nI l) ∧ hC b σ σ' ∧ hM τ τ' ∧ (∀ p, p < 8 → σ' (b + 1) p = 1 → σ (b + 1) p = 1) ∧ BitsIn (nI t) P (σ (b + 1)) := by
  have hP := hE.1.1.1
  have h0 := hE.1.2.1.2.1
  have hL : mk (fun p => decide (τ 135 p = 2)) P = mk (fun p => decide (σ (b + 1) p = 2)) 8 := by
    rw [mk_cut (n := P) (m := 8) hP (fun i y1 y2 => by rw [(hN.2.2.1 i y1 y2).1]; rfl)]
    exact mk_cong (fun p hp => by rw [(hN.1 p (by omega)).1])
  obtain ⟨l, hl, hl2⟩ := set_n (x := mk (fun p => decide (σ (b + 1) p = 2)) 8) (fun i hi hb => by
    rw [mk_b (by omega) hi] at hb
    exact of_decide_eq_true (Bool.and_eq_true_iff.mp hb).1)
  have hNa : NowR b (gx_up (gx_up (gx_up σ 53 4 0) 53 5 0) 53 6 (mk (fun p => decide (σ (b + 1) p = 2)) 8)) (gx_up (gx_up (gx_up τ 109 50 0) 109 51 0) 109 52 (mk (fun p => decide (σ (b + 1) p = 2)) 8)) (σ 7) P W H :=
    NowR_fr (fun c y1 y2 => by rw [gx_up_ne (by omega), gx_up_ne (by omega), gx_up_ne (by omega)]) (fun c y1 y2 => by rw [gx_up_ne (by omega), gx_up_ne (by omega), gx_up_ne (by omega)]) (by rw [up_p _ _ _ (by omega), up_p _ _ _ (by omega), up_p _ _ _ (by omega)]) (by rw [up_p _ _ _ (by omega), up_p _ _ _ (by omega), up_p _ _ _ (by omega)]) hN
  obtain ⟨σ1, τ1, d1, d2, d3, d4, d5, d6⟩ := dream_L hb hP P 0 z_FU z_FU _ _ (by omega) (Nat.lt_of_le_of_lt (show 8 - 0 ≤ 8 by omega) (Nat.lt_of_lt_of_le (by decide) z_FU_ge)) (Nat.lt_of_le_of_lt hP (Nat.lt_of_lt_of_le (by decide) z_FU_ge)) (by rw [gx_up_ne (by omega), gx_up_ne (by omega), gx_up_ne (by omega)]; exact h0) hNa
  have hE1 : EnvR σ1 τ1 P W T := EnvR_fr (fun c hc => by rw [d4 c (by omega) (by omega), gx_up_ne (by omega), gx_up_ne (by omega), gx_up_ne (by omega)]) ⟨fun i _ => by rw [d5 110 (by omega) (by omega), gx_up_ne (by omega), gx_up_ne (by omega), gx_up_ne (by omega)], fun c _ _ => by rw [d5 c (by omega) (by omega), gx_up_ne (by omega), gx_up_ne (by omega), gx_up_ne (by omega)]⟩ hE
  have e7 : σ1 7 = σ 7 := by rw [d4 7 (by omega) (by omega), gx_up_ne (by omega), gx_up_ne (by omega), gx_up_ne (by omega)]
  have e53 := d4 53 (by omega) (by omega)
  have ed : σ1 (b + 1) = σ (b + 1) := by rw [d4 (b + 1) (by omega) (by omega), gx_up_ne (by omega), gx_up_ne (by omega), gx_up_ne (by omega)]
  have v4 : σ1 53 4 = 0 := by rw [e53, up_p _ _ _ (by omega), up_p _ _ _ (by omega), up_e]
  have v5 : σ1 53 5 = 0 := by rw [e53, up_p _ _ _ (by omega), up_e]
  have v6 : σ1 53 6 = mk (fun p => decide (σ (b + 1) p = 2)) 8 := by rw [e53, up_e]
  have u50 : τ1 109 50 = 0 := by rw [d6 50 (by omega), up_p _ _ _ (by omega), up_p _ _ _ (by omega), up_e]
  have u51 : τ1 109 51 = 0 := by rw [d6 51 (by omega), up_p _ _ _ (by omega), up_e]
  have u52 : τ1 109 52 = mk (fun p => decide (σ (b + 1) p = 2)) 8 := by rw [d6 52 (by omega), up_e]
  have b00 : BitsIn 0 P (σ1 (b + 1)) := fun i _ h => by rw [b_0] at h; cases h
  obtain ⟨σ2, τ2, r1, r2, r3, r4, r5, r6, r7, r8, r9, r10, r11, r12⟩ := run_L hb hP hH P 0 z_FU z_FU σ1 τ1 (by omega) (Nat.lt_of_le_of_lt (show 8 - 0 ≤ 8 by omega) (Nat.lt_of_lt_of_le (by decide) z_FU_ge)) (Nat.lt_of_le_of_lt hP (Nat.lt_of_lt_of_le (by decide) z_FU_ge)) hE1 (by rw [e7]; exact d3) (by rw [u50, v4]) (by rw [u51, v5]) (by rw [v4]; exact b00) (by rw [v5]; exact b00)
  have ed2 : σ2 (b + 1) = σ (b + 1) := by rw [r9 (b + 1) (by omega) (by omega) (by omega) (by omega) (by omega), ed]
  obtain ⟨r, σ3, τ3, z1, z2, z3, z4, z5, z6, z7, z8, z9, z10⟩ := tail_v hb hH r3 r4 r5 r6 r7 (by rw [r10, v6, ed2])
  obtain ⟨t, ht, ht2⟩ := set_n (x := σ2 53 5) (fun i hi hb => by have := (r8 i hi hb).1; omega)
  refine ⟨r, t, l, σ3, τ3, z1, ht, hl, ?_, ?_, EnvR_fr (fun c hc => z8 c (by omega) (by omega)) ⟨fun i _ => by rw [z9.1 110 (by omega) (by omega)], fun c _ _ => z9.1 c (by omega) (by omega)⟩ r3, by rw [z8 7 (by omega) (by omega)]; exact z5, ⟨by rw [z6]; exact z4, by rw [z6]; exact ht2, by rw [z6, r10, v6, hl2]⟩, ⟨by rw [z7 50 (by omega), r5]; exact z4, by rw [z7 51 (by omega), r6]; exact ht2, by rw [z7 52 (by omega), r12 52 (by omega) (by omega), u52, hl2]⟩, ?_, ⟨?_, ?_⟩, fun p hp hd => ?_, ?_⟩
  · unfold Cl_pass
    rw [show (2 : Int32) = 2 from rfl, Ni_those_v, w_bd]
    have e : mk (fun p => decide (gx_up (gx_up σ 53 4 0) 53 5 0 (b + 1) p = 2)) 8 = mk (fun p => decide (σ (b + 1) p = 2)) 8 := mk_cong (fun p _ => by rw [gx_up_ne (by omega), gx_up_ne (by omega)])
    rw [e]
    exact d1.trans (r1.trans z2)
  · unfold Md_hourGoes
    rw [allThat_v hP 2 (by rw [gx_up_ne (by omega), gx_up_ne (by omega)]; exact h0), w_bd]
    have e : mk (fun p => decide (gx_up (gx_up τ 109 50 0) 109 51 0 135 p = 2)) P = mk (fun p => decide (σ (b + 1) p = 2)) 8 := by
      rw [← hL]
      exact mk_cong (fun p _ => by rw [gx_up_ne (by omega), gx_up_ne (by omega)])
    rw [e]
    exact d2.trans (r2.trans z3)
  · intro c y1 y2
    rw [z8 c y1 y2, r9 c (by omega) (by omega) (by omega) (by omega) (by omega), d4 c (by omega) (by omega), gx_up_ne (by omega), gx_up_ne (by omega), gx_up_ne (by omega)]
  · intro c y1 y2
    rw [z9.1 c y1 y2, r11 c y1 (by omega) (by omega) (by omega) (by omega), d5 c y1 (by omega), gx_up_ne (by omega), gx_up_ne (by omega), gx_up_ne (by omega)]
  · intro j y
    rw [z9.2 j y, r12 j (by omega) (by omega), d6 j (by omega), up_p _ _ _ (by omega), up_p _ _ _ (by omega), up_p _ _ _ (by omega)]
  · have := z10 p hp hd
    rw [ed2] at this; exact this
  · rw [← ht2, ← ed2]; exact r8
