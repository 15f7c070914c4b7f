/-! ===== the least strike ===== -/
def gS (σ : gx_R) (wd bu : Nat → Nat) (P A p : Nat) (x : Nat) : Bool := decide (nI x &&& (nI A ^^^ -1) = 0) && decide (fsum (gW σ wd (nI x) p) 0 P < bu p)
theorem tryC {σ σ1 τ : gx_R} {P A p : Nat} {wd bu : Nat → Nat} (hP : P ≤ 8) (hp : p < P) (hA : A < 256) (h0 : ∀ p, P ≤ p → p < 8 → σ 10 p = 0) (hD : DrmR σ τ P wd) (hbu : bu p ≤ 99) (hw : wC σ σ1) (h80 : ∀ j, j < 8 → σ1 80 j = if σ 10 j = 2 then nI (wd j) else 0) {n k : Nat} {b : Int32} (hk : k < 256) (hB : Best (gS σ wd bu P A p) (pcN 8) k b) (hc : ∀ x, x < k → b = nI x → pcN 8 k < pcN 8 x) : ∃ b', Qu_leastStrike_34 (Qu_leastStrike_20 n) (nI p) (nI (bu p)) (nI A) b (nI k) 1 σ1 = Qu_leastStrike_20 n (nI p) (nI (bu p)) (nI A) b' (nI (k + 1)) σ1 ∧ Best (gS σ wd bu P A p) (pcN 8) (k + 1) b' := by
  have f1 := fuelC_L (S := nI k) (w := p) hw h80 8 0 z_FU 0 (by omega) (Nat.lt_of_lt_of_le (by decide) z_FU_ge)
  rw [gW_cut hP h0, Nat.zero_add] at f1
  have hle := gW_le (σ := σ) (τ := τ) (P := P) (w := p) (S := nI k) hP hD
  rw [Qu_leastStrike_34, if_neg (by decide)]
  by_cases hs : nI k &&& (nI A ^^^ -1) = 0
  · rw [if_pos hs, Qu_fuelWithout, show Qu_fuelWithout_4 z_FU (nI p) (nI k) 0 0 σ1 = _ from f1, w_bd]
    by_cases hf : bu p ≤ fsum (gW σ wd (nI k) p) 0 P
    · have hg : gS σ wd bu P A p k = false := by unfold gS; rw [decide_eq_false (show ¬ fsum (gW σ wd (nI k) p) 0 P < bu p by omega), Bool.and_false]
      exact ⟨b, by rw [if_pos ((nI_leI (by omega) (by omega)).mpr hf), Qu_leastStrike_51, nI_1], Best_no hB hg⟩
    · have hg : gS σ wd bu P A p k = true := by unfold gS; rw [decide_eq_true hs, decide_eq_true (show fsum (gW σ wd (nI k) p) 0 P < bu p by omega)]; rfl
      exact ⟨nI k, by rw [if_neg (fun z => hf ((nI_leI (by omega) (by omega)).mp z)), Qu_leastStrike_51, nI_1], Best_new hB hg hc⟩
  · have hg : gS σ wd bu P A p k = false := by unfold gS; rw [decide_eq_false hs, Bool.false_and]
    exact ⟨b, by rw [if_neg hs, Qu_leastStrike_51, nI_1], Best_no hB hg⟩
theorem strikeC {σ σ1 τ : gx_R} {P A p : Nat} {wd bu : Nat → Nat} (hP : P ≤ 8) (hp : p < P) (hA : A < 256) (h0 : ∀ p, P ≤ p → p < 8 → σ 10 p = 0) (hD : DrmR σ τ P wd) (hbu : bu p ≤ 99) (hw : wC σ σ1) (h80 : ∀ j, j < 8 → σ1 80 j = if σ 10 j = 2 then nI (wd j) else 0) : ∀ m k n b, k + m = A + 1 → m < n → Best (gS σ wd bu P A p) (pcN 8) k b → ∃ v, Qu_leastStrike_20 n (nI p) (nI (bu p)) (nI A) b (nI k) σ1 = some (v, σ1) ∧ Best (gS σ wd bu P A p) (pcN 8) (A + 1) v := by
  intro m
  induction m with
  | zero =>
    intro k n b hk hn hB
    obtain ⟨n, rfl⟩ : ∃ q, n = q + 1 := ⟨n - 1, by omega⟩
    have e : k = A + 1 := by omega
    subst e
    exact ⟨b, by rw [Qu_leastStrike_20, Qu_leastStrike_20_B, if_pos ((nI_ltI (by omega) (by omega)).mpr (by omega))], hB⟩
  | succ m ih =>
    intro k n b hk hn hB
    obtain ⟨n, rfl⟩ : ∃ q, n = q + 1 := ⟨n - 1, by omega⟩
    have c1 : ¬ nI A < nI k := by rw [nI_ltI (by omega) (by omega)]; omega
    rw [Qu_leastStrike_20, Qu_leastStrike_20_B, if_neg c1]
    by_cases hb : b = -1
    · obtain ⟨b', t1, t2⟩ := tryC (n := n) hP hp hA h0 hD hbu hw h80 (show k < 256 by omega) hB (fun x hx e => by
        have : (0 : Int32) ≤ nI x := by rw [← nI_0, nI_leI (by omega) (by omega)]; omega
        rw [← e, hb] at this
        exact absurd this (by decide))
      rw [if_pos hb, Qu_leastStrike_31, t1]
      exact ih (k + 1) n b' (by omega) (by omega) t2
    · obtain ⟨x, hx, rfl⟩ : ∃ x, x < k ∧ b = nI x := by
        rcases id hB with ⟨h1, -⟩ | ⟨x, h1, h2, -⟩
        · exact absurd h1 hb
        · exact ⟨x, h1, h2⟩
      have p1 := pcN_8 x
      have p2 := pcN_8 k
      rw [if_neg hb, bitCount_v (by omega), w_bd, bitCount_v (by omega), w_bd]
      by_cases hc : pcN 8 x ≤ pcN 8 k
      · rw [if_pos ((nI_leI (by omega) (by omega)).mpr hc), Qu_leastStrike_34, if_pos rfl, Qu_leastStrike_51, nI_1]
        exact ih (k + 1) n (nI x) (by omega) (by omega) (Best_keep (by omega) (by omega) hB hc)
      · obtain ⟨b', t1, t2⟩ := tryC (n := n) hP hp hA h0 hD hbu hw h80 (show k < 256 by omega) hB (fun y hy e => by
          have e2 : x = y := (nI_eq (by omega) (by omega)).mp e
          subst e2; omega)
        rw [if_neg (fun z => hc ((nI_leI (by omega) (by omega)).mp z)), Qu_leastStrike_31, t1]
        exact ih (k + 1) n b' (by omega) (by omega) t2
theorem strikeI {σ τ : gx_R} {P W A p s H : Nat} {nd : gx_F} {wd bu : Nat → Nat} (hP : P ≤ 8) (hp : p < P) (hA : A < 256) (h0 : τ 110 0 = nI P) (hN : NowR 9 σ τ nd P W H) (hD : DrmR σ τ P wd) (hB : BrnR σ τ P bu) (h1 : σ 10 p = 1) (hs : s < 8) {K15 : Int32 → Int32 → Int32 → gx_R → Option (Int32 × gx_R)} : ∀ m k n τ1, k + m = 256 → m < n → lM τ τ1 → (∃ x τ2, Md_strike_20 K15 n (nI p) (nI A) (nI s) (nI k) τ1 = some (nI x, τ2) ∧ lM τ τ2 ∧ k ≤ x ∧ x < 256 ∧ gS σ wd bu P A p x = true ∧ pcN 8 x = s ∧ ∀ y, k ≤ y → y < x → gS σ wd bu P A p y = true → pcN 8 y ≠ s) ∨ (∃ τ2, Md_strike_20 K15 n (nI p) (nI A) (nI s) (nI k) τ1 = K15 (nI p) (nI A) (nI (s + 1)) τ2 ∧ lM τ τ2 ∧ ∀ y, k ≤ y → y < 256 → gS σ wd bu P A p y = true → pcN 8 y ≠ s) := by
  intro m
  induction m with
  | zero =>
    intro k n τ1 hk hn hl
    obtain ⟨n, rfl⟩ : ∃ q, n = q + 1 := ⟨n - 1, by omega⟩
    have e : k = 256 := by omega
    subst e
    refine Or.inr ⟨τ1, ?_, hl, fun y y1 y2 => absurd y2 (by omega)⟩
    rw [Md_strike_20, Md_strike_20_B, if_pos (by decide), Md_strike_43, nI_1]
  | succ m ih =>
    intro k n τ1 hk hn hl
    obtain ⟨n, rfl⟩ : ∃ q, n = q + 1 := ⟨n - 1, by omega⟩
    have c1 : ¬ (256 : Int32) ≤ nI k := fun z => by have := (nI_leI (a := 256) (by omega) (by omega)).mp z; omega
    have p2 := pcN_8 k
    have goOn : ∀ τ2, lM τ τ2 → (gS σ wd bu P A p k = true → pcN 8 k ≠ s) → Md_strike_20 K15 (n + 1) (nI p) (nI A) (nI s) (nI k) τ1 = Md_strike_20 K15 n (nI p) (nI A) (nI s) (nI (k + 1)) τ2 → (∃ x τ2, Md_strike_20 K15 (n + 1) (nI p) (nI A) (nI s) (nI k) τ1 = some (nI x, τ2) ∧ lM τ τ2 ∧ k ≤ x ∧ x < 256 ∧ gS σ wd bu P A p x = true ∧ pcN 8 x = s ∧ ∀ y, k ≤ y → y < x → gS σ wd bu P A p y = true → pcN 8 y ≠ s) ∨ (∃ τ2, Md_strike_20 K15 (n + 1) (nI p) (nI A) (nI s) (nI k) τ1 = K15 (nI p) (nI A) (nI (s + 1)) τ2 ∧ lM τ τ2 ∧ ∀ y, k ≤ y → y < 256 → gS σ wd bu P A p y = true → pcN 8 y ≠ s) := by
      intro τ2 hl2 hno he
      rcases ih (k + 1) n τ2 (by omega) (by omega) hl2 with ⟨x, τ3, a1, a2, a3, a4, a5, a6, a7⟩ | ⟨τ3, a1, a2, a3⟩
      · refine Or.inl ⟨x, τ3, he.trans a1, a2, by omega, a4, a5, a6, fun y y1 y2 y3 => ?_⟩
        by_cases e : y = k
        · subst e; exact hno y3
        · exact a7 y (by omega) y2 y3
      · refine Or.inr ⟨τ3, he.trans a1, a2, fun y y1 y2 y3 => ?_⟩
        by_cases e : y = k
        · subst e; exact hno y3
        · exact a3 y (by omega) y2 y3
    by_cases hsub : nI k &&& (nI A ^^^ -1) = 0
    · by_cases hc : pcN 8 k = s
      · obtain ⟨τ2, t1, t2⟩ := stM_L (S := nI k) hP h0 hN hD hB P 0 z_FU τ1 (by omega) (Nat.lt_of_le_of_lt hP (Nat.lt_of_lt_of_le (by decide) z_FU_ge)) hl
        have hb : bt (mk (fSt σ wd bu P (nI k)) P) p = decide (fsum (gW σ wd (nI k) p) 0 P < bu p) := by
          rw [mk_b (by omega) (by omega), decide_eq_true hp, Bool.true_and, fSt, decide_eq_true h1, Bool.true_and]
        have e1 : Md_strike_20 K15 (n + 1) (nI p) (nI A) (nI s) (nI k) τ1 = if bI (decide (fsum (gW σ wd (nI k) p) 0 P < bu p)) = 0 then Md_strike_20 K15 n (nI p) (nI A) (nI s) (nI (k + 1)) τ2 else some (nI k, τ2) := by
          rw [Md_strike_20, Md_strike_20_B, if_neg c1, if_pos hsub, many_v (by omega), w_bd, if_pos (by rw [hc]), Md_stopsWithout, show Md_stopsWithout_4 z_FU (nI k) 0 0 τ1 = _ from t1, w_bd, Md_has_v _ (by omega), w_bd, hb, Md_strike_41, nI_1]
        by_cases hf : fsum (gW σ wd (nI k) p) 0 P < bu p
        · rw [decide_eq_true hf, bI_t, if_neg (by decide)] at e1
          exact Or.inl ⟨k, τ2, e1, t2, Nat.le_refl _, by omega, by unfold gS; rw [decide_eq_true hsub, decide_eq_true hf]; rfl, hc, fun y y1 y2 => absurd y2 (by omega)⟩
        · rw [decide_eq_false hf, bI_f, if_pos rfl] at e1
          exact goOn τ2 t2 (fun z => by unfold gS at z; rw [decide_eq_false hf, Bool.and_false] at z; cases z) e1
      · refine goOn τ1 hl (fun _ => hc) ?_
        rw [Md_strike_20, Md_strike_20_B, if_neg c1, if_pos hsub, many_v (by omega), w_bd, if_neg (fun z => hc ((nI_eq (by omega) (by omega)).mp z)), Md_strike_41, nI_1]
    · refine goOn τ1 hl (fun z => by unfold gS at z; rw [decide_eq_false hsub, Bool.false_and] at z; cases z) ?_
      rw [Md_strike_20, Md_strike_20_B, if_neg c1, if_neg hsub, Md_strike_41, nI_1]
