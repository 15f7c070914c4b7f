/-! ===== strike ===== -/
theorem pc_8 : ∀ y, y < 256 → 8 ≤ pcN 8 y → y = 255 := by decide +kernel
theorem strikeO {σ τ : gx_R} {P W A p H : Nat} {nd : gx_F} {wd bu : Nat → Nat} (hP : P ≤ 8) (hp : p < P) (hA : A < 256) (hAp : bt (nI A) p = false) (h0 : τ 110 0 = nI P) (hN : NowR 9 σ τ nd P W H) (hD : DrmR σ τ P wd) (hB : BrnR σ τ P bu) (h1 : σ 10 p = 1) : ∀ m s n τ1, s + m = 8 → m < n → lM τ τ1 → (∀ y, y < 256 → gS σ wd bu P A p y = true → s ≤ pcN 8 y) → ∃ v τ2, Md_strike_15 n (nI p) (nI A) (nI s) τ1 = some (v, τ2) ∧ lM τ τ2 ∧ Best (gS σ wd bu P A p) (pcN 8) 256 v := by
  intro m
  induction m with
  | zero =>
    intro s n τ1 hs hn hl hmin
    obtain ⟨n, rfl⟩ : ∃ q, n = q + 1 := ⟨n - 1, by omega⟩
    have e : s = 8 := by omega
    subst e
    refine ⟨-1, τ1, by rw [Md_strike_15, Md_strike_15_B, if_pos (by decide)], hl, Or.inl ⟨rfl, fun x hx => ?_⟩⟩
    cases hg : gS σ wd bu P A p x with
    | false => rfl
    | true =>
      have e := pc_8 x hx (hmin x hx hg)
      subst e
      unfold gS at hg
      have h2 := of_decide_eq_true (Bool.and_eq_true_iff.mp hg).1
      have h3 : bt (nI 255 &&& (nI A ^^^ -1)) p = false := by rw [h2, b_0]
      rw [b_and, b_not (by omega), hAp, show nI 255 = (255 : Int32) from rfl, b_255, decide_eq_true (show p < 8 by omega)] at h3
      cases h3
  | succ m ih =>
    intro s n τ1 hs hn hl hmin
    obtain ⟨n, rfl⟩ : ∃ q, n = q + 1 := ⟨n - 1, by omega⟩
    have c1 : ¬ (8 : Int32) ≤ nI s := fun z => by have := (nI_leI (a := 8) (by omega) (by omega)).mp z; omega
    rw [Md_strike_15, Md_strike_15_B, if_neg c1, show (0 : Int32) = nI 0 from rfl]
    rcases strikeI (s := s) (K15 := Md_strike_15 n) hP hp hA h0 hN hD hB h1 (by omega) 256 0 z_FU τ1 (by omega) (Nat.lt_of_lt_of_le (by decide) z_FU_ge) hl with ⟨x, τ2, a1, a2, a3, a4, a5, a6, a7⟩ | ⟨τ2, a1, a2, a3⟩
    · exact ⟨nI x, τ2, a1, a2, Best_sz a4 a5 a6 hmin (fun y y1 y2 => a7 y (by omega) y1 y2)⟩
    · rw [a1]
      refine ih (s + 1) n τ2 (by omega) (by omega) a2 (fun y y1 y2 => ?_)
      have z1 := hmin y y1 y2
      have z2 := a3 y (by omega) y1 y2
      omega
theorem S_strike {σ τ : gx_R} (r : Rel σ τ) (a1 : Int32) : SimP (Sf_strike a1) (Md_strike a1) σ τ := by
  obtain ⟨P, W, H, K, T, P', W', H', K', T', rr⟩ := id r
  have r1 := rr.1
  have hP := r1.1.1.1
  have hH : H ≤ 999 := r1.2.2.1
  have p1 : σ 2 0 = nI P := r1.1.2.1.1
  have p2 := r1.1.2.1.2.1
  cases hz : z_ix a1 P with
  | false =>
    refine SimP_ro r (-1) ?_ ?_
    · rw [Sf_strike, isDoing_v p1 hP, hz, Bool.false_and, w_bd, bI_f, if_pos rfl]
    · rw [Md_strike, isAt_v p2 hP, hz, Bool.false_and, w_bd, bI_f, if_pos rfl]
  | true =>
    obtain ⟨p, hp, rfl⟩ := ix_ex hz (by omega)
    have e := doing_eq r1 (show p < 8 by omega)
    by_cases h1 : σ 10 p = 1
    · obtain ⟨τ1, u1, hN, u3, u4⟩ := lays_R r1
      have hE : EnvR σ τ1 P W T := EnvR_fr (eC_rf σ) ⟨fun i _ => by rw [u3 110 (by omega) (by omega)], fun k z1 z2 => u3 k (by omega) (by omega)⟩ (EnvR_of r1 rr.2.2.2.2.2)
      have h0 : τ1 110 0 = nI P := by rw [u3 110 (by omega) (by omega)]; exact p2
      have hz0 : ∀ p, P ≤ p → p < 8 → σ 10 p = 0 := fun p y1 y2 => (hN.2.2.1 p y1 y2).1
      obtain ⟨wd, hD⟩ := drm_ex (by omega) hE hN
      obtain ⟨bu, hB⟩ := bru_ex (by omega) hE hN
      obtain ⟨σ1, s1, s2, -, s4⟩ := weigh_L hP hD hz0 8 0 z_FU σ (by omega) (Nat.lt_of_lt_of_le (by decide) z_FU_ge) (fun _ _ _ _ => rfl)
      obtain ⟨b0, b1, -⟩ := hB p hp h1
      obtain ⟨σ2, y1, y2⟩ := b1 σ1 (wC_e s2)
      have hw2 : wC σ σ2 := fun c z1 z2 z3 => (y2 c z1 z2).trans (s2 c z1 z2 z3)
      have h80 : ∀ j, j < 8 → σ2 80 j = if σ 10 j = 2 then nI (wd j) else 0 := fun j hj => by rw [y2 80 (by omega) (by omega)]; exact s4 j (by omega) hj
      have e10 : σ2 10 = σ 10 := hw2 10 (by omega) (by omega) (by omega)
      obtain ⟨A, hA, hA2⟩ := set_n (x := mk (fun p => decide (σ 10 p = 2)) 8) (fun i hi hb => by
        rw [mk_b (by omega) hi] at hb
        exact of_decide_eq_true (Bool.and_eq_true_iff.mp hb).1)
      have hAp : bt (nI A) p = false := by
        rw [← hA2, mk_b (by omega) (by omega), h1, decide_eq_false (show ¬ (1 : Int32) = 2 by decide), Bool.and_false]
      obtain ⟨v, w1, w2⟩ := strikeC hP hp hA hz0 hD b0 hw2 h80 (A + 1) 0 z_FU (-1) (by omega) (by have := z_FU_ge; omega) (Best_0 _ _)
      have w2 := Best_up (m := 256) (by omega) (fun x x1 x2 => by
        unfold gS
        rw [decide_eq_false (fun z => by have := sub_le x2 hA z; omega), Bool.false_and]) w2
      obtain ⟨v', τ2, x1, x2, x3⟩ := strikeO hP hp hA hAp h0 hN hD hB h1 8 0 z_FU τ1 (by omega) (Nat.lt_of_lt_of_le (by decide) z_FU_ge) (lM_rf τ1) (fun _ _ _ => Nat.zero_le _)
      have hv : v' = v := Best_eq x3 w2
      subst hv
      have eA : mk (fun p => decide (τ1 135 p = 2)) P = nI A := by rw [← those_eq hP hN (by decide)]; exact hA2
      refine SimP_sc (σ' := σ2) (τ' := τ2) r v' ?_ ?_ (fun k hk => hw2 k (by omega) (by omega) (by omega)) ⟨fun k hk => by rw [x2 k (by omega) (by omega), u3 k (by omega) (by omega)], fun j hj => by rw [x2 109 (by omega) (by omega), u4 j (by omega) (by omega)]⟩
      · have i8 := ix_t (show p < 8 by omega) (show (8 : Nat) < 2 ^ 31 by omega)
        have eb : La_burnNow 9 (nI p) σ1 = some (nI (bu p), σ2) := by
          rw [La_burnNow, i8, w_ck, w_ck, cl_n (by omega), show (9 + 2 : Nat) = 11 from rfl, show (9 + 3 : Nat) = 12 from rfl, s2 11 (by omega) (by omega) (by omega), s2 12 (by omega) (by omega) (by omega), s2 9 (by omega) (by omega) (by omega), y1, w_bd]
        rw [Sf_strike, isDoing_v p1 hP, hz, cl_n (by omega), decide_eq_true h1, w_bd, if_neg (by decide), Qu_leastStrike, Qu_weighDreamless, show Qu_weighDreamless_2 z_FU 0 σ = some ((), σ1) from s1, w_bd, eb, w_bd, Ni_those_v, w_bd, show (9 + 1 : Nat) = 10 from rfl, e10, hA2, show Qu_leastStrike_20 z_FU (nI p) (nI (bu p)) (nI A) (-1) 0 σ2 = some (v', σ2) from w1, w_bd]
      · rw [Md_strike, isAt_v p2 hP, hz, cl_n (by omega), e, decide_eq_true h1, w_bd, if_neg (by decide), u1, w_bd, allThat_v hP _ h0, w_bd, eA]
        exact x1
    · refine SimP_ro r (-1) ?_ ?_
      · rw [Sf_strike, isDoing_v p1 hP, hz, cl_n (by omega), decide_eq_false h1, w_bd, Bool.and_false, bI_f, if_pos rfl]
      · rw [Md_strike, isAt_v p2 hP, hz, cl_n (by omega), e, decide_eq_false h1, w_bd, Bool.and_false, bI_f, if_pos rfl]
