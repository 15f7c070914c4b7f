theorem S_guard {σ τ : gx_R} (r : Rel σ τ) (a1 a2 : Int32) : SimP (Sf_guard a1 a2) (Md_guard a1 a2) σ τ := by
  obtain ⟨P, W, H, K, T, P', W', H', K', T', rr⟩ := id r
  have r1 := rr.1
  have hP := r1.1.1.1
  have hH : H ≤ 999 := r1.2.2.1
  have p1 : σ 2 0 = nI P := r1.1.2.1.1
  have p2 : τ 110 0 = nI P := r1.1.2.1.2.1
  cases hz : z_ix a1 P with
  | false =>
    refine SimP_ro r (-1) ?_ ?_
    · rw [Sf_guard, isDoing_v p1 hP, hz, Bool.false_and, w_bd, bI_f, if_pos rfl]
    · rw [Md_guard, isAt_v p2 hP, hz, Bool.false_and, w_bd, bI_f, if_pos rfl]
  | true =>
    obtain ⟨p, hp, rfl⟩ := ix_ex hz (by omega)
    have e := doing_eq r1 (show p < 8 by omega)
    by_cases h1 : σ 10 p = 2
    · cases hg : gpB P a2 with
      | false =>
        refine SimP_ro r (-1) ?_ ?_
        · rw [Sf_guard, isDoing_v p1 hP, hz, cl_n (by omega), decide_eq_true h1, w_bd, if_neg (by decide), isGroup_v hP p1, hg, w_bd, bI_f, if_pos rfl]
        · rw [Md_guard, isAt_v p2 hP, hz, cl_n (by omega), e, decide_eq_true h1, w_bd, if_neg (by decide), isSet_v hP p2, hg, w_bd, bI_f, if_pos rfl]
      | true =>
        cases hb : bt a2 p with
        | true =>
          refine SimP_ro r (-1) ?_ ?_
          · rw [Sf_guard, isDoing_v p1 hP, hz, cl_n (by omega), decide_eq_true h1, w_bd, if_neg (by decide), isGroup_v hP p1, hg, w_bd, bI_t, if_neg (by decide), if_pos ((h_1 (by omega)).mpr hb)]
          · rw [Md_guard, isAt_v p2 hP, hz, cl_n (by omega), e, decide_eq_true h1, w_bd, if_neg (by decide), isSet_v hP p2, hg, w_bd, bI_t, if_neg (by decide), Md_has_v _ (by omega), hb, w_bd, bI_t, if_neg (by decide)]
        | false =>
          obtain ⟨τ1, u1, hN, u3, u4⟩ := lays_R r1
          have hE : EnvR σ τ1 P W T := EnvR_fr (eC_rf σ) ⟨fun i _ => by rw [u3 110 (by omega) (by omega)], fun k z1 z2 => u3 k (by omega) (by omega)⟩ (EnvR_of r1 rr.2.2.2.2.2)
          have h0 : τ1 110 0 = nI P := by rw [u3 110 (by omega) (by omega)]; exact p2
          have hidle : ∀ p, P ≤ p → p < 8 → σ 10 p = 0 := fun p y1 y2 => (hN.2.2.1 p y1 y2).1
          obtain ⟨snd, hS⟩ := snd_ex (Or.inl rfl) (show H ≤ 2000 by omega) hE hN
          obtain ⟨σ1, l1, l2, l3⟩ := listen_v (Or.inl rfl) hP hS hidle
          obtain ⟨A, hA, hA2⟩ := set_n (x := mk (fun p => decide (σ 10 p = 2)) 8) (fun i hi hb => by
            rw [mk_b (by omega) hi] at hb
            exact of_decide_eq_true (Bool.and_eq_true_iff.mp hb).1)
          have hAb : ∀ i, i < 32 → bt (nI A) i = (decide (i < 8) && decide (σ 10 i = 2)) := fun i hi => by rw [← hA2, mk_b (by omega) hi]
          have hBb : ∀ i, i < 32 → bt (nI A &&& (((1 : Int32) <<< (nI p &&& 31)) ^^^ -1)) i = (decide (i < 8) && decide (σ 10 i = 2) && !decide (i = p)) := fun i hi => by rw [b_and, b_not hi, b_bit (by omega) hi, hAb i hi]
          obtain ⟨B, hB, hB2⟩ := set_n (x := nI A &&& (((1 : Int32) <<< (nI p &&& 31)) ^^^ -1)) (fun i hi hb => by
            rw [hBb i hi] at hb
            exact of_decide_eq_true (Bool.and_eq_true_iff.mp (Bool.and_eq_true_iff.mp hb).1).1)
          rw [hB2] at hBb
          have hex : ∀ x : Nat, ∃ w, Cl_spread ((1 : Int32) <<< (nI p &&& 31)) (nI A &&& (nI x ^^^ -1)) σ1 = some (w, σ1) ∧ ∀ τ', lM τ1 τ' → ∃ τ2, Md_wakesOn ((1 : Int32) <<< (nI p &&& 31)) (nI x) τ' = some (w, τ2) ∧ lM τ1 τ2 := fun x => woken_x (x := x) hp hE hN hS l2 l3 hA2
          have hwk1 : ∀ x, x < 256 → Cl_spread ((1 : Int32) <<< (nI p &&& 31)) (nI A &&& (nI x ^^^ -1)) σ1 = some (Classical.choose (hex x), σ1) := fun x _ => (Classical.choose_spec (hex x)).1
          have hwk2 : ∀ x, x < 256 → ∀ τ', lM τ1 τ' → ∃ τ2, Md_wakesOn ((1 : Int32) <<< (nI p &&& 31)) (nI x) τ' = some (Classical.choose (hex x), τ2) ∧ lM τ1 τ2 := fun x _ => (Classical.choose_spec (hex x)).2
          have hgB : gG (fun x => Classical.choose (hex x)) B a2 B = true := by
            have q1 : nI B &&& (nI B ^^^ -1) = 0 := by
              apply b_ext
              intro i hi
              rw [b_0, b_and, b_not hi]
              cases bt (nI B) i <;> rfl
            have haB : ∀ s, s < 32 → bt (nI A &&& (nI B ^^^ -1)) s = true → s = p := by
              intro s hs hbs
              rw [b_and, b_not hs, hAb s hs, hBb s hs] at hbs
              by_cases z : s = p
              · exact z
              · rw [decide_eq_false z] at hbs
                cases h3 : (decide (s < 8) && decide (σ 10 s = 2)) with
                | true => rw [h3] at hbs; simp at hbs
                | false => rw [h3] at hbs; simp at hbs
            have q2 := woken_B (show p < 8 by omega) haB (fun s hs hbs i hi hbi => by
              have z := haB s (by omega) hbs
              subst z
              rw [(l3 s hp (by rw [show (9 + 1 : Nat) = 10 from rfl, l2 10 (by omega) (by omega) (by omega) (by omega)]; exact h1)).2 i hi] at hbi
              exact of_decide_eq_true (Bool.and_eq_true_iff.mp hbi).1) (hwk1 B hB)
            have q3 : Classical.choose (hex B) &&& a2 = 0 := by
              apply b_ext
              intro i hi
              rw [b_0, b_and]
              cases h3 : bt (Classical.choose (hex B)) i with
              | false => rfl
              | true => rw [q2 i hi h3, hb]; rfl
            unfold gG
            rw [decide_eq_true q1, decide_eq_true q3]; rfl
          have hc8 : pcN 8 B < 8 := by
            rcases Nat.lt_or_ge (pcN 8 B) 8 with z | z
            · exact z
            · have z2 := pcN_255 B hB z
              have z3 := hBb p (by omega)
              rw [z2, decide_eq_true (show p = p from rfl), show nI 255 = (255 : Int32) from rfl, b_255, decide_eq_true (show p < 8 by omega)] at z3
              simp at z3
          obtain ⟨v, w1, w2⟩ := guardC (A := A) (p := p) (wk := fun x => Classical.choose (hex x)) (G := a2) hB hwk1 B 0 z_FU (nI B) (by omega) (by have := z_FU_ge; omega) ⟨B, rfl, Or.inr rfl, hgB, fun y hy _ => by
            have z : y = B := by omega
            subst z; exact Or.inr ⟨rfl, Nat.le_refl _⟩⟩
          have w3 := Best_up (m := 256) (by omega) (fun x x1 x2 => by
            unfold gG
            rw [decide_eq_false (fun z => by have := sub_le x2 hB z; omega), Bool.false_and]) (InvG_best w2)
          obtain ⟨v', τ2, y1, y2, y3⟩ := guardO (p := p) (G := a2) hB hwk2 hgB hc8 8 0 z_FU τ1 (by omega) (Nat.lt_of_lt_of_le (by decide) z_FU_ge) (lM_rf τ1) (fun _ _ _ => Nat.zero_le _)
          have hv : v' = v := Best_eq y3 w3
          subst hv
          have eA : mk (fun p => decide (τ1 135 p = 2)) P = nI A := by rw [← those_eq hP hN (by decide)]; exact hA2
          refine SimP_sc (σ' := σ1) (τ' := τ2) r v' ?_ ?_ (fun k hk => l2 k (by omega) (by omega) (by omega) (by omega)) ⟨fun k hk => by rw [y2 k (by omega) (by omega), u3 k (by omega) (by omega)], fun j hj => by rw [y2 109 (by omega) (by omega), u4 j (by omega) (by omega)]⟩
          · rw [Sf_guard, isDoing_v p1 hP, hz, cl_n (by omega), decide_eq_true h1, w_bd, if_neg (by decide), isGroup_v hP p1, hg, w_bd, bI_t, if_neg (by decide), if_neg (fun z => by rw [(h_1 (by omega)).mp z] at hb; cases hb), Qu_leastGuard, Ni_those_v, w_bd, l1, w_bd, show (9 + 1 : Nat) = 10 from rfl, hA2, hB2, show Qu_leastGuard_24 z_FU (nI p) a2 (nI A) (nI B) (nI B) 0 σ1 = some (v', σ1) from w1, w_bd]
          · rw [Md_guard, isAt_v p2 hP, hz, cl_n (by omega), e, decide_eq_true h1, w_bd, if_neg (by decide), isSet_v hP p2, hg, w_bd, bI_t, if_neg (by decide), Md_has_v _ (by omega), hb, w_bd, bI_f, if_pos rfl, u1, w_bd, allThat_v hP _ h0, w_bd, eA, hB2]
            exact y1
    · refine SimP_ro r (-1) ?_ ?_
      · rw [Sf_guard, isDoing_v p1 hP, hz, cl_n (by omega), decide_eq_false h1, w_bd, Bool.and_false, bI_f, if_pos rfl]
      · rw [Md_guard, isAt_v p2 hP, hz, cl_n (by omega), e, decide_eq_false h1, w_bd, Bool.and_false, bI_f, if_pos rfl]
