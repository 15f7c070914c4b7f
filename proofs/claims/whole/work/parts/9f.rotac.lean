/-! ===== rotas: the class ===== -/
def roG (G : Int32) (p : Nat) : Prop := p < 8 ∧ bt G p = true
def roS (G : Int32) (e r n h : Nat) (t : Nat → Nat) : (Nat → Nat) → Prop := fun u => (∀ i, i ≤ h → u i = t i) ∧ roV (roG G) e r u n
def plT (σ0 : gx_R) (G : Int32) (e r n h : Nat) (d : Nat) (a1 a2 a3 a4 : Int32) (t : Nat → Nat) (b : Nat) (σ : gx_R) : Prop := ∃ b' σ', Ro_place_R d a1 a2 a3 a4 σ = some ((), σ') ∧ roF σ0 σ' ∧ (∀ i, i < h → σ' 75 i = nI (t i)) ∧ (∀ p, p < 8 → σ' 74 p = lsI (roL t h p)) ∧ σ' 73 7 = nI b' ∧ roP n (roS G e r n h t) b (σ 76) b' (σ' 76)
theorem cp76 {σ : gx_R} {i : Nat} (h : i < 8) : gx_cp σ 75 76 (0 : Int32).toNatClampNeg (0 : Int32).toNatClampNeg (8 : Int32).toNatClampNeg 76 i = σ 75 i := by
  rw [show (0 : Int32).toNatClampNeg = 0 from rfl, show (8 : Int32).toNatClampNeg = 8 from rfl]
  unfold gx_cp
  rw [if_pos rfl, if_pos (by omega), Nat.zero_add, Nat.sub_zero]
theorem place_in {σ0 : gx_R} {G : Int32} {e r n h d : Nat} {t : Nat → Nat} {a4 a5 : Int32} (hn : n ≤ 8) (hh : h + 1 < n) (he : 1 ≤ e) (he8 : e ≤ 8) (hr : r ≤ 8) (g1 : σ0 73 1 = G) (g2 : σ0 73 2 = nI e) (g3 : σ0 73 3 = nI r) (hv : roV (roG G) e r t (h + 1)) (ha4 : a4 = nI (roC t h))
    (ih : ∀ u σ b, (∀ i, i ≤ h → u i = t i) → roF σ0 σ → roV (roG G) e r u (h + 1 + 1) → (∀ i, i < h + 1 → σ 75 i = nI (u i)) → (∀ p, p < 8 → σ 74 p = lsI (roL u (h + 1) p)) → σ 73 7 = nI b → b ≤ 100 → plT σ0 G e r n (h + 1) d (nI (h + 1)) (nI (u (h + 1))) (nI (roR u (h + 1))) (nI (roC u (h + 1))) u b σ) :
    ∀ m p f b σ, p + m = 8 → m < f → roF σ0 σ → (∀ i, i < h + 1 → σ 75 i = nI (t i)) → (∀ p, p < 8 → σ 74 p = lsI (roL t (h + 1) p)) → σ 73 7 = nI b → b ≤ 100 → ∃ b' σ', Ro_place_49 (Ro_place_R d) f (nI h) (nI (t h)) (nI (roR t h)) a4 a5 (nI p) σ = Ro_place_102 (Ro_place_R d) (nI (t h)) a5 σ' ∧ roF σ0 σ' ∧ (∀ i, i < h + 1 → σ' 75 i = nI (t i)) ∧ (∀ p, p < 8 → σ' 74 p = lsI (roL t (h + 1) p)) ∧ σ' 73 7 = nI b' ∧ roP n (fun u => roS G e r n h t u ∧ p ≤ u (h + 1)) b (σ 76) b' (σ' 76) := by
  have ht8 : t h < 8 := (hv.1 h (by omega)).1
  have hrun : roR t h ≤ e := roR_e he hv (by omega)
  intro m
  induction m with
  | zero =>
    intro p f b σ h1 h2 h3 h4 h5 h6 h7
    obtain ⟨f, rfl⟩ : ∃ q, f = q + 1 := ⟨f - 1, by omega⟩
    obtain rfl : p = 8 := by omega
    refine ⟨b, σ, ?_, h3, h4, h5, h6, roP_no (fun u z => ?_)⟩
    · rw [Ro_place_49, Ro_place_49_B, if_pos (show (8 : Int32) ≤ nI 8 by decide)]
    · have := (z.1.2.1 (h + 1) hh).1
      have := z.2
      omega
  | succ m ihm =>
    intro p f b σ h1 h2 h3 h4 h5 h6 h7
    obtain ⟨f, rfl⟩ : ∃ q, f = q + 1 := ⟨f - 1, by omega⟩
    have e1 : nI p + 1 = nI (p + 1) := nI_add p 1
    have k73 : ∀ j, j ≠ 7 → σ 73 j = σ0 73 j := h3.2
    have sk : (¬ roG G p ∨ ¬ ((p = t h ∧ roR t h < e) ∨ (¬ p = t h ∧ (roL t (h + 1) p = 0 ∨ r + roL t (h + 1) p ≤ h + 1)))) → ∃ b' σ', Ro_place_100 (Ro_place_R d) (Ro_place_49 (Ro_place_R d) f) (nI h) (nI (t h)) (nI (roR t h)) a4 a5 (nI p) σ = Ro_place_102 (Ro_place_R d) (nI (t h)) a5 σ' ∧ roF σ0 σ' ∧ (∀ i, i < h + 1 → σ' 75 i = nI (t i)) ∧ (∀ p, p < 8 → σ' 74 p = lsI (roL t (h + 1) p)) ∧ σ' 73 7 = nI b' ∧ roP n (fun u => roS G e r n h t u ∧ p ≤ u (h + 1)) b (σ 76) b' (σ' 76) := by
      intro hs
      obtain ⟨b', σ', i1, i2, i3, i4, i5, i6⟩ := ihm (p + 1) f b σ (by omega) (by omega) h3 h4 h5 h6 h7
      refine ⟨b', σ', by rw [Ro_place_100, e1]; exact i1, i2, i3, i4, i5, roP_eq (fun u => ⟨fun z => ⟨z.1, by have := z.2; omega⟩, fun z => ⟨z.1, ?_⟩⟩) i6⟩
      rcases Nat.lt_or_ge p (u (h + 1)) with y | y
      · exact y
      · exfalso
        have hu : u (h + 1) = p := by have := z.2; omega
        rcases hs with hs | hs
        · exact hs (hu ▸ z.1.2.1 (h + 1) hh)
        · have := roV_y z.1.1 z.1.2 hh
          rw [hu] at this
          exact hs this
    have dp : roG G p → ((p = t h ∧ roR t h < e) ∨ (¬ p = t h ∧ (roL t (h + 1) p = 0 ∨ r + roL t (h + 1) p ≤ h + 1))) → ∃ b' σ', z_bd (Ro_place_R d (nI (h + 1)) (nI p) (nI (if p = t h then roR t h + 1 else 1)) (nI (if p = t h then roC t h else roC t h + 1)) σ) (fun _ σ15 => Ro_place_100 (Ro_place_R d) (Ro_place_49 (Ro_place_R d) f) (nI h) (nI (t h)) (nI (roR t h)) a4 a5 (nI p) σ15) = Ro_place_102 (Ro_place_R d) (nI (t h)) a5 σ' ∧ roF σ0 σ' ∧ (∀ i, i < h + 1 → σ' 75 i = nI (t i)) ∧ (∀ p, p < 8 → σ' 74 p = lsI (roL t (h + 1) p)) ∧ σ' 73 7 = nI b' ∧ roP n (fun u => roS G e r n h t u ∧ p ≤ u (h + 1)) b (σ 76) b' (σ' 76) := by
      intro hg ho
      obtain ⟨v, hw⟩ : ∃ v : Nat → Nat, v = fun i => if i = h + 1 then p else t i := ⟨_, rfl⟩
      have hu : ∀ i, i ≤ h → v i = t i := fun i hi => by rw [hw]; exact if_neg (by omega)
      have hp1 : v (h + 1) = p := by rw [hw]; exact if_pos rfl
      have hV : roV (roG G) e r v (h + 1 + 1) := by rw [hw]; exact roV_x hv hg ho
      have hR : roR v (h + 1) = if p = t h then roR t h + 1 else 1 := by rw [hw]; exact roR_x
      have hC : roC v (h + 1) = if p = t h then roC t h else roC t h + 1 := by rw [hw]; exact roC_x
      obtain ⟨b1, σ1, j1, j2, j3, j4, j5, j6⟩ := ih v σ b hu h3 hV (fun i hi => by rw [hu i (by omega)]; exact h4 i hi) (fun q hq => by rw [roL_c (h + 1) q (u := t) (fun i hi => hu i (by omega))]; exact h5 q hq) h6 h7
      rw [hp1, hR, hC] at j1
      have hb1 := roP_le j6
      obtain ⟨b', σ', i1, i2, i3, i4, i5, i6⟩ := ihm (p + 1) f b1 σ1 (by omega) (by omega) j2 (fun i hi => by rw [j3 i hi, hu i (by omega)]) (fun q hq => by rw [j4 q hq, roL_c (h + 1) q (u := t) (fun i hi => hu i (by omega))]) j5 (by omega)
      refine ⟨b', σ', by rw [j1, w_bd, Ro_place_100, e1]; exact i1, i2, i3, i4, i5, roP_tr j6 i6 (fun u => ⟨fun z => ?_, fun z => ?_⟩) (fun u w y1 y2 => ?_)⟩
      · rcases Nat.lt_or_ge p (u (h + 1)) with y | y
        · exact Or.inr ⟨z.1, y⟩
        · refine Or.inl ⟨fun i hi => ?_, z.1.2⟩
          by_cases c : i = h + 1
          · rw [c, hp1]; have := z.2; omega
          · rw [hu i (by omega)]; exact z.1.1 i (by omega)
      · rcases z with z | z
        · exact ⟨⟨fun i hi => by rw [z.1 i (by omega)]; exact hu i hi, z.2⟩, by rw [z.1 (h + 1) (Nat.le_refl _), hp1]; exact Nat.le_refl _⟩
        · exact ⟨z.1, by have := z.2; omega⟩
      · refine Or.inr ⟨h + 1, hh, fun j hj => ?_, ?_⟩
        · rw [y1.1 j (by omega), hu j (by omega), y2.1.1 j (by omega)]
        · rw [y1.1 (h + 1) (Nat.le_refl _), hp1]; exact y2.2
    have hL := roL_le (t := t) (h + 1) p
    rw [Ro_place_49, Ro_place_49_B, if_neg (fun z => by have := (nI_leI (a := 8) (by omega) (by omega)).mp z; omega), k73 1 (by omega), g1]
    by_cases c1 : bt G p = true
    · rw [if_neg (fun z => by have := (h_0 (by omega)).mp z; rw [c1] at this; cases this)]
      have hg : roG G p := ⟨by omega, c1⟩
      by_cases c2 : p = t h
      · rw [if_pos (show nI p = nI (t h) by rw [c2]), k73 2 (by omega), g2]
        by_cases c3 : e ≤ roR t h
        · rw [if_pos ((nI_leI (by omega) (by omega)).mpr c3), Ro_place_78, if_pos (show nI p = nI (t h) by rw [c2])]
          exact sk (Or.inr (fun z => z.elim (fun y => by have := y.2; omega) (fun y => y.1 c2)))
        · have := dp hg (Or.inl ⟨c2, by omega⟩)
          rw [if_pos c2, if_pos c2, ← ha4] at this
          rw [if_neg (fun z => c3 ((nI_leI (by omega) (by omega)).mp z)), show nI h + 1 = nI (h + 1) from nI_add h 1, show nI (roR t h) + 1 = nI (roR t h + 1) from nI_add _ 1]
          exact this
      · rw [if_neg (fun z => c2 ((nI_eq (by omega) (by omega)).mp z)), Ro_place_78, if_neg (fun z => c2 ((nI_eq (by omega) (by omega)).mp z)), ix_n (by omega), decide_eq_true (show p < 8 by omega), w_ck, cl_n (by omega), h5 p (by omega), k73 3 (by omega), g3]
        by_cases c3 : roL t (h + 1) p = 0 ∨ r + roL t (h + 1) p ≤ h + 1
        · have := dp hg (Or.inr ⟨c2, c3⟩)
          rw [if_neg c2, if_neg c2] at this
          rw [if_neg (fun z => (lsI_lt (by omega) hr hL).mp z c3), show nI h + 1 = nI (h + 1) from nI_add h 1, ha4, show nI (roC t h) + 1 = nI (roC t h + 1) from nI_add _ 1]
          rw [ha4] at this
          exact this
        · rw [if_pos ((lsI_lt (by omega) hr hL).mpr c3)]
          exact sk (Or.inr (fun z => z.elim (fun y => c2 y.1) (fun y => c3 y.2)))
    · rw [if_pos ((h_0 (by omega)).mpr (by cases hb : bt G p with | false => rfl | true => exact absurd hb c1))]
      exact sk (Or.inl (fun z => c1 z.2))
theorem place_v {σ0 : gx_R} {G : Int32} {e r n : Nat} (hn : n ≤ 8) (he : 1 ≤ e) (he8 : e ≤ 8) (hr : r ≤ 8) (g0 : σ0 73 0 = nI n) (g1 : σ0 73 1 = G) (g2 : σ0 73 2 = nI e) (g3 : σ0 73 3 = nI r) : ∀ k h d t σ b, h + k + 1 = n → k < d → roF σ0 σ → roV (roG G) e r t (h + 1) → (∀ i, i < h → σ 75 i = nI (t i)) → (∀ p, p < 8 → σ 74 p = lsI (roL t h p)) → σ 73 7 = nI b → b ≤ 100 → plT σ0 G e r n h d (nI h) (nI (t h)) (nI (roR t h)) (nI (roC t h)) t b σ := by
  intro k
  induction k with
  | zero =>
    intro h d t σ b h1 h2 h3 hv h4 h5 h6 h7
    obtain ⟨d, rfl⟩ : ∃ q, d = q + 1 := ⟨d - 1, by omega⟩
    have ht8 : t h < 8 := (hv.1 h (by omega)).1
    have hrun : roR t h ≤ e := roR_e he hv (by omega)
    have hc := roC_le (t := t) h
    have hm : roM e n t h = 0 := by rw [show h = n - 1 by omega]; exact roM_0 he (by rw [show n - 1 = h by omega]; exact hrun)
    unfold plT
    rw [Ro_place_R, Ro_place_E, h3.2 0 (by omega), g0, if_neg (fun z => by have := (nI_leI (by omega) (by omega)).mp z; omega), toCome_v he he8 hn (by omega) (by rw [h3.2 0 (by omega)]; exact g0) (by rw [h3.2 2 (by omega)]; exact g2) hrun, w_bd, hm, nI_add, Nat.add_zero, h6]
    by_cases c : roC t h < b
    · rw [if_pos ((nI_ltI (by omega) (by omega)).mpr (by omega)), ix_n (by omega), decide_eq_true (show h < 8 by omega), w_ck, cl_n (by omega), up_c _ _ _ _ (show (73 : Nat) ≠ 75 by omega), h3.2 0 (by omega), g0, if_pos (show nI h = nI n - 1 by rw [n_sub1 (by omega), show n - 1 = h by omega])]
      refine ⟨roC t h, _, rfl, ⟨fun c hc => ?_, fun j hj => ?_⟩, fun i hi => ?_, fun p hp => ?_, ?_, Or.inr ⟨c, t, ⟨fun _ _ => rfl, by rw [show n = h + 1 by omega]; exact hv⟩, by rw [show n - 1 = h by omega], fun i hi => ?_, fun w hw => ?_⟩⟩
      · rw [gx_cp_ne (by omega), gx_up_ne (by omega), gx_up_ne (by omega)]; exact h3.1 c hc
      · rw [gx_cp_ne (by omega), up_p _ _ _ hj, up_c _ _ _ _ (by omega)]; exact h3.2 j hj
      · rw [gx_cp_ne (by omega), up_c _ _ _ _ (by omega), up_p _ _ _ (by omega)]; exact h4 i hi
      · rw [gx_cp_ne (by omega), up_c _ _ _ _ (by omega), up_c _ _ _ _ (by omega)]; exact h5 p hp
      · rw [gx_cp_ne (by omega), up_e]
      · rw [cp76 (by omega), up_c _ _ _ _ (by omega)]
        by_cases z : i = h
        · rw [z, up_e]
        · rw [up_p _ _ _ z]; exact h4 i (by omega)
      · have e2 : ∀ i, i < n → t i = w i := fun i hi => (hw.1 i (by omega)).symm
        have e3 : roC w (n - 1) = roC t h := by rw [show n - 1 = h by omega]; exact roC_c h (fun i hi => hw.1 i hi)
        exact ⟨by omega, fun _ => roE_rf e2⟩
    · rw [if_neg (fun z => c ((nI_ltI (by omega) (by omega)).mp z))]
      refine ⟨b, σ, rfl, h3, h4, h5, h6, Or.inl ⟨rfl, fun _ _ => rfl, fun u hu => ?_⟩⟩
      rw [show n - 1 = h by omega, roC_c h (u := t) (fun i hi => hu.1 i hi)]
      omega
  | succ k ih =>
    intro h d t σ b h1 h2 h3 hv h4 h5 h6 h7
    obtain ⟨d, rfl⟩ : ∃ q, d = q + 1 := ⟨d - 1, by omega⟩
    have ht8 : t h < 8 := (hv.1 h (by omega)).1
    have hrun : roR t h ≤ e := roR_e he hv (by omega)
    have hc := roC_le (t := t) h
    have hM : roM e n t h ≤ 16 := by
      unfold roM
      exact Nat.le_trans (Nat.div_le_self _ _) (by omega)
    unfold plT
    rw [Ro_place_R, Ro_place_E, h3.2 0 (by omega), g0, if_neg (fun z => by have := (nI_leI (by omega) (by omega)).mp z; omega), toCome_v he he8 hn (by omega) (by rw [h3.2 0 (by omega)]; exact g0) (by rw [h3.2 2 (by omega)]; exact g2) hrun, w_bd, nI_add, h6]
    by_cases c : roC t h + roM e n t h < b
    · rw [if_pos ((nI_ltI (by omega) (by omega)).mpr (by omega)), ix_n (by omega), decide_eq_true (show h < 8 by omega), w_ck, cl_n (by omega), up_c _ _ _ _ (show (73 : Nat) ≠ 75 by omega), h3.2 0 (by omega), g0, if_neg (fun z => by rw [n_sub1 (by omega)] at z; have := (nI_eq (by omega) (by omega)).mp z; omega), ix_n (by omega), decide_eq_true ht8, w_ck, w_ck, cl_n (by omega), up_c _ _ _ _ (show (74 : Nat) ≠ 75 by omega), h5 (t h) ht8]
      obtain ⟨b', σ', i1, i2, i3, i4, i5, i6⟩ := place_in (σ0 := σ0) (G := G) (e := e) (r := r) (n := n) (h := h) (d := d) (t := t) (a4 := nI (roC t h)) (a5 := lsI (roL t h (t h))) hn (by omega) he he8 hr g1 g2 g3 hv rfl (fun u σ b y1 y2 y3 y4 y5 y6 y7 => ih (h + 1) d u σ b (by omega) (by omega) y2 y3 y4 y5 y6 y7) 8 0 z_FU b (gx_up (gx_up σ 75 h (nI (t h))) 74 (t h) (nI h)) (by omega) (by have := z_FU_ge; omega) ⟨fun c hc => by rw [gx_up_ne (by omega), gx_up_ne (by omega)]; exact h3.1 c hc, fun j hj => by rw [up_c _ _ _ _ (by omega), up_c _ _ _ _ (by omega)]; exact h3.2 j hj⟩ (fun i hi => by
          rw [up_c _ _ _ _ (by omega)]
          by_cases z : i = h
          · rw [z, up_e]
          · rw [up_p _ _ _ z]; exact h4 i (by omega)) (fun p hp => by
          rw [roL]
          by_cases z : t h = p
          · rw [if_pos z, ← z, up_e]; rfl
          · rw [if_neg z, up_p _ _ _ (fun y => z y.symm), up_c _ _ _ _ (by omega)]; exact h5 p hp) (by rw [up_c _ _ _ _ (by omega), up_c _ _ _ _ (by omega)]; exact h6) h7
      refine ⟨b', gx_up σ' 74 (t h) (lsI (roL t h (t h))), ?_, ⟨fun c hc => by rw [gx_up_ne (by omega)]; exact i2.1 c hc, fun j hj => by rw [up_c _ _ _ _ (by omega)]; exact i2.2 j hj⟩, fun i hi => by rw [up_c _ _ _ _ (by omega)]; exact i3 i (by omega), fun p hp => ?_, by rw [up_c _ _ _ _ (by omega)]; exact i5, ?_⟩
      · refine (show _ = _ from i1).trans ?_
        rw [Ro_place_102, ix_n (by omega), decide_eq_true ht8, w_ck, cl_n (by omega)]
      · by_cases z : p = t h
        · rw [z, up_e]
        · rw [up_p _ _ _ z, i4 p hp, roL, if_neg (fun y => z y.symm)]
      · rw [gx_up_ne (show (76 : Nat) ≠ 74 by omega)]
        rw [gx_up_ne (show (76 : Nat) ≠ 74 by omega), gx_up_ne (show (76 : Nat) ≠ 75 by omega)] at i6
        exact roP_eq (fun u => ⟨fun z => z.1, fun z => ⟨z, Nat.zero_le _⟩⟩) i6
    · rw [if_neg (fun z => c ((nI_ltI (by omega) (by omega)).mp z))]
      refine ⟨b, σ, rfl, h3, h4, h5, h6, Or.inl ⟨rfl, fun _ _ => rfl, fun u hu => ?_⟩⟩
      have z1 := roM_l he hu.2 (n - 1 - h) h (by omega) (by omega)
      have z2 : roC u h = roC t h := roC_c h (fun i hi => hu.1 i hi)
      have z3 : roM e n u h = roM e n t h := by unfold roM; rw [roR_c h (u := t) (fun i hi => hu.1 i hi)]
      omega
