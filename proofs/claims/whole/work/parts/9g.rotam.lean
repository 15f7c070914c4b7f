/-! ===== rotas: the reference ===== -/
theorem onEnd_L {τ : gx_R} {t : Nat → Nat} {h : Nat} (hh : h < 8) (h8 : ∀ i, i ≤ h → t i < 100) (ht : ∀ i, i ≤ h → τ 150 i = nI (t i)) : ∀ m k f, k + m = h + 1 → 1 ≤ k → m < f → roR t h = roR t (h + 1 - k) + (k - 1) → t (h + 1 - k) = t h → Md_onEnd_2 f (nI h) (nI k) τ = some (nI (roR t h), τ) := by
  intro m
  induction m with
  | zero =>
    intro k f h1 h2 h3 h4 h5
    obtain ⟨f, rfl⟩ : ∃ q, f = q + 1 := ⟨f - 1, by omega⟩
    obtain rfl : k = h + 1 := by omega
    rw [Nat.sub_self, roR] at h4
    have : nI h - nI (h + 1) < 0 := by
      rw [Int32.lt_iff_toInt_lt, pk_sub_toInt (by omega) (by omega)]
      show (h : Int) - ((h + 1 : Nat) : Int) < 0
      omega
    rw [Md_onEnd_2, Md_onEnd_2_B, if_pos this, h4, show 1 + (h + 1 - 1) = h + 1 by omega]
  | succ m ih =>
    intro k f h1 h2 h3 h4 h5
    obtain ⟨f, rfl⟩ : ∃ q, f = q + 1 := ⟨f - 1, by omega⟩
    have e1 : nI h - nI k = nI (h - k) := pk_sub (by omega)
    rw [Md_onEnd_2, Md_onEnd_2_B, e1, if_neg (fun z => (n_lt0 (by omega)).mp z), ix_n (by omega), decide_eq_true (show h - k < 8 by omega), w_ck, ix_n (by omega), decide_eq_true hh, w_ck, cl_n (by omega), cl_n (by omega), ht (h - k) (by omega), ht h (Nat.le_refl _)]
    have e2 : h + 1 - k = h - k + 1 := by omega
    rw [e2] at h4 h5
    have b1 := h8 (h - k) (by omega)
    have b2 := h8 h (Nat.le_refl _)
    rw [roR] at h4
    by_cases c : t (h - k) = t h
    · rw [if_pos (show nI (t (h - k)) = nI (t h) by rw [c]), show nI k + 1 = nI (k + 1) from nI_add k 1]
      rw [if_pos (by rw [h5, c])] at h4
      exact ih (k + 1) f (by omega) (by omega) (by omega) (by rw [show h + 1 - (k + 1) = h - k by omega]; omega) (by rw [show h + 1 - (k + 1) = h - k by omega]; exact c)
    · rw [if_neg (fun z => c ((nI_eq (by omega) (by omega)).mp z))]
      rw [if_neg (by rw [h5]; exact fun z => c z.symm)] at h4
      rw [show roR t h = k by omega]
theorem onEnd_v {τ : gx_R} {t : Nat → Nat} {h : Nat} (hh : h < 8) (h8 : ∀ i, i ≤ h → t i < 100) (ht : ∀ i, i ≤ h → τ 150 i = nI (t i)) : Md_onEnd (nI h) τ = some (nI (roR t h), τ) := onEnd_L hh h8 ht h 1 z_FU (by omega) (Nat.le_refl _) (by have := z_FU_ge; omega) (by rw [show h + 1 - 1 = h by omega]; omega) (by rw [show h + 1 - 1 = h by omega])
theorem shift_L {τ : gx_R} {t : Nat → Nat} {h r : Nat} (hh : h < 8) (h8 : ∀ i, i ≤ h → t i < 100) (hr : r ≤ 8) (ht : ∀ i, i ≤ h → τ 150 i = nI (t i)) : ∀ j f, j < h → j < f → Md_mayShift_18 f (nI h) (nI r) (nI j - 1) τ = some (bI (decide (roL t j (t h) = 0 ∨ r + roL t j (t h) ≤ h)), τ) := by
  intro j
  induction j with
  | zero =>
    intro f h1 h2
    obtain ⟨f, rfl⟩ : ∃ q, f = q + 1 := ⟨f - 1, by omega⟩
    rw [Md_mayShift_18, Md_mayShift_18_B, if_pos (show nI 0 - 1 < 0 by decide), decide_eq_true (show roL t 0 (t h) = 0 ∨ r + roL t 0 (t h) ≤ h from Or.inl rfl)]; rfl
  | succ j ih =>
    intro f h1 h2
    obtain ⟨f, rfl⟩ : ∃ q, f = q + 1 := ⟨f - 1, by omega⟩
    have b1 := h8 j (by omega)
    have b2 := h8 h (Nat.le_refl _)
    rw [Md_mayShift_18, Md_mayShift_18_B, show nI (j + 1) - 1 = nI j from n_sub1 (by omega), if_neg (fun z => (n_lt0 (by omega)).mp z), ix_n (by omega), decide_eq_true (show j < 8 by omega), w_ck, ix_n (by omega), decide_eq_true hh, w_ck, cl_n (by omega), cl_n (by omega), ht j (by omega), ht h (Nat.le_refl _), roL]
    by_cases c : t j = t h
    · rw [if_pos (show nI (t j) = nI (t h) by rw [c]), if_pos c, Md_mayShift_29, show nI h - nI j = nI (h - j) from pk_sub (by omega), n_sub1 (by omega)]
      by_cases c2 : h - j - 1 < r
      · rw [if_pos ((nI_ltI (by omega) (by omega)).mpr c2), decide_eq_false (by omega)]; rfl
      · rw [if_neg (fun z => c2 ((nI_ltI (by omega) (by omega)).mp z)), decide_eq_true (by omega)]; rfl
    · rw [if_neg (fun z => c ((nI_eq (by omega) (by omega)).mp z)), if_neg c, add_m1]
      exact ih f (by omega) (by omega)
theorem mayShift_v {τ : gx_R} {t : Nat → Nat} {h e r : Nat} (hh : h < 8) (he : 1 ≤ e) (he8 : e ≤ 8) (h8 : ∀ i, i ≤ h → t i < 100) (hr : r ≤ 8) (ht : ∀ i, i ≤ h → τ 150 i = nI (t i)) : ∃ b : Bool, Md_mayShift (nI h) (nI e) (nI r) τ = some (bI b, τ) ∧ (b = true ↔ h = 0 ∨ roO e r t (h - 1)) := by
  have hz := z_FU_ge
  have b8 : roR t h ≤ h + 1 := by
    clear hh h8 ht
    induction h with
    | zero => exact Nat.le_refl _
    | succ h ih =>
      rw [roR]
      by_cases z : t (h + 1) = t h
      · rw [if_pos z]; omega
      · rw [if_neg z]; omega
  rw [Md_mayShift, onEnd_v hh h8 ht, w_bd]
  cases h with
  | zero =>
    rw [if_pos (show nI (roR t 0) ≤ nI e from (nI_leI (by omega) (by omega)).mpr (by rw [roR]; exact he)), if_pos (show nI (roR t 0) ≤ 1 from Int32.le_refl _)]
    obtain ⟨f, hf⟩ := z_FU_s
    refine ⟨true, ?_, ⟨fun _ => Or.inl rfl, fun _ => rfl⟩⟩
    rw [hf, Md_mayShift_18, Md_mayShift_18_B, if_pos (show nI 0 - 2 < 0 by decide)]; rfl
  | succ h =>
    rw [show h + 1 - 1 = h by omega]
    unfold roO
    have hR : roR t (h + 1) = if t (h + 1) = t h then roR t h + 1 else 1 := rfl
    have h1 := roR_1 (t := t) h
    by_cases c : t (h + 1) = t h
    · rw [if_pos c] at hR
      by_cases c2 : roR t h < e
      · refine ⟨true, ?_, ⟨fun _ => Or.inr (Or.inl ⟨c, c2⟩), fun _ => rfl⟩⟩
        rw [if_pos ((nI_leI (by omega) (by omega)).mpr (by omega)), if_neg (fun z => by have := (n_le1 (by omega)).mp z; omega)]; rfl
      · refine ⟨false, ?_, ⟨fun z => (by cases z), fun z => ?_⟩⟩
        · rw [if_neg (fun z => by have := (nI_leI (by omega) (by omega)).mp z; omega)]; rfl
        · rcases z with z | ⟨-, z⟩ | ⟨z, -⟩
          · omega
          · exact absurd z c2
          · exact absurd c z
    · rw [if_neg c] at hR
      have := shift_L (τ := τ) (t := t) (h := h + 1) (r := r) hh h8 hr ht h z_FU (by omega) (by omega)
      have e2 : nI (h + 1) - 2 = nI h - 1 := by rw [← nI_add]; show nI h + 1 - 2 = nI h - 1; grind
      refine ⟨decide (roL t h (t (h + 1)) = 0 ∨ r + roL t h (t (h + 1)) ≤ h + 1), ?_, ?_⟩
      · rw [if_pos ((nI_leI (by omega) (by omega)).mpr (by omega)), if_pos ((n_le1 (by omega)).mpr (by omega)), e2]
        exact this
      · rw [decide_eq_true_iff]
        have e3 : roL t (h + 1) (t (h + 1)) = roL t h (t (h + 1)) := by rw [roL, if_neg (fun z => c z.symm)]
        rw [e3]
        constructor
        · intro z; exact Or.inr (Or.inr ⟨c, z⟩)
        · rintro (z | ⟨z, -⟩ | ⟨-, z⟩)
          · omega
          · exact absurd z c
          · exact z
theorem changesTo_L {τ : gx_R} {t : Nat → Nat} {h : Nat} (hh : h < 8) (h8 : ∀ i, i ≤ h → t i < 100) (ht : ∀ i, i ≤ h → τ 150 i = nI (t i)) : ∀ m k f, k + m = h → m < f → Md_changesTo_4 f (nI h) (nI (roC t k)) (nI (k + 1)) τ = some (nI (roC t h), τ) := by
  intro m
  induction m with
  | zero =>
    intro k f h1 h2
    obtain ⟨f, rfl⟩ : ∃ q, f = q + 1 := ⟨f - 1, by omega⟩
    obtain rfl : k = h := by omega
    rw [Md_changesTo_4, Md_changesTo_4_B, if_pos ((nI_ltI (by omega) (by omega)).mpr (by omega))]
  | succ m ih =>
    intro k f h1 h2
    obtain ⟨f, rfl⟩ : ∃ q, f = q + 1 := ⟨f - 1, by omega⟩
    have hi := ih (k + 1) f (by omega) (by omega)
    have b1 := h8 (k + 1) (by omega)
    have b2 := h8 k (by omega)
    rw [roC] at hi
    rw [Md_changesTo_4, Md_changesTo_4_B, if_neg (fun z => by have := (nI_ltI (by omega) (by omega)).mp z; omega), ix_n (by omega), decide_eq_true (show k + 1 < 8 by omega), w_ck, show nI (k + 1) - 1 = nI k from n_sub1 (by omega), ix_n (by omega), decide_eq_true (show k < 8 by omega), w_ck, cl_n (by omega), cl_n (by omega), ht (k + 1) (by omega), ht k (by omega)]
    by_cases c : t (k + 1) = t k
    · rw [if_pos c] at hi
      rw [if_pos (show nI (t (k + 1)) = nI (t k) by rw [c]), Md_changesTo_22, show nI (roC t k) + 0 = nI (roC t k + 0) from nI_add _ 0, show nI (k + 1) + 1 = nI (k + 1 + 1) from nI_add _ 1]
      exact hi
    · rw [if_neg c] at hi
      rw [if_neg (fun z => c ((nI_eq (by omega) (by omega)).mp z)), Md_changesTo_22, show nI (roC t k) + 1 = nI (roC t k + 1) from nI_add _ 1, show nI (k + 1) + 1 = nI (k + 1 + 1) from nI_add _ 1]
      exact hi
theorem changesTo_v {τ : gx_R} {t : Nat → Nat} {h : Nat} (hh : h < 8) (h8 : ∀ i, i ≤ h → t i < 100) (ht : ∀ i, i ≤ h → τ 150 i = nI (t i)) : Md_changesTo (nI h) τ = some (nI (roC t h), τ) := changesTo_L hh h8 ht h 0 z_FU (by omega) (by have := z_FU_ge; omega)
theorem stays_v {τ : gx_R} {t : Nat → Nat} {h e n L : Nat} (hh : h < n) (hn : n ≤ 8) (he : 1 ≤ e) (he8 : e ≤ 8) (hL : L ≤ 100) (hrun : roR t h ≤ e) (h8 : ∀ i, i ≤ h → t i < 100) (ht : ∀ i, i ≤ h → τ 150 i = nI (t i)) : Md_staysWithin (nI h) (nI n) (nI e) (nI L) τ = some (bI (decide (roC t h + roM e n t h ≤ L)), τ) := by
  have e1 : nI n - 1 - nI h = nI (n - 1 - h) := by rw [n_sub1 (by omega)]; exact pk_sub (by omega)
  have e2 : nI e - nI (roR t h) = nI (e - roR t h) := pk_sub hrun
  have hc := roC_le (t := t) h
  have hM : roM e n t h ≤ 16 := by
    unfold roM
    exact Nat.le_trans (Nat.div_le_self _ _) (by omega)
  have go : Md_staysWithin_23 (nI h) (nI L) (nI (roM e n t h)) τ = some (bI (decide (roC t h + roM e n t h ≤ L)), τ) := by
    rw [Md_staysWithin_23, changesTo_v (by omega) h8 ht, w_bd, nI_add]
    by_cases c : roC t h + roM e n t h ≤ L
    · rw [if_neg (fun z => by have := (nI_ltI (by omega) (by omega)).mp z; omega), decide_eq_true c]; rfl
    · rw [if_pos ((nI_ltI (by omega) (by omega)).mpr (by omega)), decide_eq_false c]; rfl
  rw [Md_staysWithin, onEnd_v (by omega) h8 ht, w_bd, e1, e2]
  by_cases c : n - 1 - h ≤ e - roR t h
  · have h0 : roM e n t h = 0 := by unfold roM; exact Nat.div_eq_of_lt (by omega)
    rw [h0] at go
    rw [if_neg (fun z => absurd ((sub_le0 (by omega) (by omega)).mpr c) (Int32.not_le.mpr z)), h0]
    exact go
  · rw [if_pos (Int32.not_le.mp (fun z => c ((sub_le0 (by omega) (by omega)).mp z))), show z_nzi (nI e) = true from decide_eq_true (fun z => by have := (n_eq0 (by omega)).mp z; omega), w_ck, show nI (n - 1 - h) - nI (e - roR t h) = nI (n - 1 - h - (e - roR t h)) from pk_sub (by omega), nI_add, n_sub1 (by omega), nI_div (by omega) (by omega)]
    have : (n - 1 - h - (e - roR t h) + e - 1) / e = roM e n t h := by unfold roM; congr 1; omega
    rw [this]
    exact go
def rD : Nat → Nat
  | 0 => 1
  | k + 1 => 1 + 5 * rD k
theorem rD_1 (k : Nat) : 1 ≤ rD k := by cases k <;> rw [rD] <;> omega
def roW (m e r n h p L : Nat) (t : Nat → Nat) : (Nat → Nat) → Prop := fun w => (∀ i, i < h → w i = t i) ∧ roV (fun v => v < m) e r w n ∧ p ≤ w h ∧ roC w (n - 1) ≤ L
def roD (τ0 : gx_R) (n m e r L h j k p : Nat) (t : Nat → Nat) (τ : gx_R) : Prop :=
    (∃ c τ' u, c ≤ (j + 1) * rD k ∧ (∀ c, c ≠ 150 → τ' c = τ0 c) ∧ roW m e r n h p L t u ∧ (∀ i, i < n → τ' 150 i = nI (u i)) ∧ (∀ w, roW m e r n h p L t w → roE n u w) ∧ ∀ f, Md_rotaWithin_7 (f + c) (nI n) (nI m) (nI e) (nI r) (nI L) (nI h) τ = some (1, τ')) ∨
    (∃ c τ', c ≤ (j + 1) * rD k ∧ (∀ c, c ≠ 150 → τ' c = τ0 c) ∧ (∀ w, ¬ roW m e r n h p L t w) ∧ (∀ i, i < h → τ' 150 i = nI (t i)) ∧ ∀ f, Md_rotaWithin_7 (f + c) (nI n) (nI m) (nI e) (nI r) (nI L) (nI h) τ = Md_rotaWithin_7 f (nI n) (nI m) (nI e) (nI r) (nI L) (nI h - 1) τ')
theorem within_L {τ0 : gx_R} {n m e r L : Nat} (hn : n ≤ 8) (hm : m ≤ 4) (he : 1 ≤ e) (he8 : e ≤ 8) (hr : r ≤ 8) (hL : L ≤ 100) : ∀ k h, h + k + 1 = n → ∀ t, roV (fun v => v < m) e r t h → ∀ j p τ, p + j = m → (∀ c, c ≠ 150 → τ c = τ0 c) → (∀ i, i < h → τ 150 i = nI (t i)) → τ 150 h = nI p - 1 →
roD τ0 n m e r L h j k p t τ := by
  intro k
  induction k with
  | zero =>
    intro h hk t hv j
    induction j with
    | zero =>
      intro p τ h1 h3 h4 h5
      refine Or.inr ⟨1, gx_up τ 150 h (nI p), by rw [rD]; omega, fun c hc => by rw [gx_up_ne hc]; exact h3 c hc, fun w hw => ?_, fun i hi => by rw [up_p _ _ _ (by omega)]; exact h4 i hi, fun f => ?_⟩
      · have y1 := hw.2.1.1 h (by omega)
        have y2 := hw.2.2.1
        omega
      · rw [Md_rotaWithin_7, Md_rotaWithin_7_B, if_neg (fun z => (n_lt0 (by omega)).mp z), ix_n (by omega), decide_eq_true (show h < 8 by omega), w_ck, w_ck, w_ck, cl_n (by omega), h5, show nI p - 1 + 1 = nI p by grind, up_e, if_pos (show nI p = nI m by rw [show p = m by omega]), add_m1]
    | succ j ihj =>
      intro p τ h1 h3 h4 h5
      obtain ⟨v, hw⟩ : ∃ v : Nat → Nat, v = fun i => if i = h then p else t i := ⟨_, rfl⟩
      have hu : ∀ i, i < h → v i = t i := fun i hi => by rw [hw]; exact if_neg (by omega)
      have hp1 : v h = p := by rw [hw]; exact if_pos rfl
      have h8 : ∀ i, i ≤ h → v i < 100 := fun i hi => by
        by_cases z : i = h
        · rw [z, hp1]; omega
        · rw [hu i (by omega)]
          have y : t i < m := hv.1 i (by omega)
          omega
      have hrow : ∀ i, i ≤ h → gx_up τ 150 h (nI p) 150 i = nI (v i) := fun i hi => by
        by_cases z : i = h
        · rw [z, up_e, hp1]
        · rw [up_p _ _ _ z, hu i (by omega)]; exact h4 i (by omega)
      obtain ⟨b, m1, m2⟩ := mayShift_v (τ := gx_up τ 150 h (nI p)) (t := v) (h := h) (e := e) (r := r) (by omega) he he8 h8 hr hrow
      have st : ∀ f, Md_rotaWithin_7 (f + 1) (nI n) (nI m) (nI e) (nI r) (nI L) (nI h) τ = if bI b = 0 then Md_rotaWithin_7 f (nI n) (nI m) (nI e) (nI r) (nI L) (nI h) (gx_up τ 150 h (nI p)) else z_bd (Md_staysWithin (nI h) (nI n) (nI e) (nI L) (gx_up τ 150 h (nI p))) (fun r10 σ11 => if r10 = 0 then Md_rotaWithin_7 f (nI n) (nI m) (nI e) (nI r) (nI L) (nI h) σ11 else if nI h = nI n - 1 then some (1, σ11) else z_ck (z_ix (nI h + 1) 8) (Md_rotaWithin_7 f (nI n) (nI m) (nI e) (nI r) (nI L) (nI h + 1) (gx_up σ11 150 (nI h + 1).toNatClampNeg (-1)))) := by
        intro f
        rw [Md_rotaWithin_7, Md_rotaWithin_7_B, if_neg (fun z => (n_lt0 (by omega)).mp z), ix_n (by omega), decide_eq_true (show h < 8 by omega), w_ck, w_ck, w_ck, cl_n (by omega), h5, show nI p - 1 + 1 = nI p by grind, up_e, if_neg (fun z => by have := (nI_eq (by omega) (by omega)).mp z; omega), m1, w_bd]
      have hV : b = true → roV (fun v => v < m) e r v (h + 1) := fun hb => ⟨fun i hi => by
        by_cases z : i = h
        · rw [z, hp1]; show p < m; omega
        · rw [hu i (by omega)]; exact hv.1 i (by omega), fun i hi => by
        by_cases z : i + 1 = h
        · rcases m2.mp hb with y | y
          · omega
          · rw [show h - 1 = i by omega] at y; exact y
        · exact roO_c (fun l hl => (hu l (by omega)).symm) (hv.2 i (by omega))⟩
      have sk : (∀ w, roW m e r n h p L t w → p + 1 ≤ w h) → (∀ f, Md_rotaWithin_7 (f + 1) (nI n) (nI m) (nI e) (nI r) (nI L) (nI h) τ = Md_rotaWithin_7 f (nI n) (nI m) (nI e) (nI r) (nI L) (nI h) (gx_up τ 150 h (nI p))) → roD τ0 n m e r L h (j + 1) 0 p t τ := by
        intro hs hst
        rcases ihj (p + 1) (gx_up τ 150 h (nI p)) (by omega) (fun c hc => by rw [gx_up_ne hc]; exact h3 c hc) (fun i hi => by rw [up_p _ _ _ (by omega)]; exact h4 i hi) (by rw [up_e, n_sub1 (by omega), show p + 1 - 1 = p by omega]) with ⟨c, τ', u, i1, i2, i3, i4, i5, i6⟩ | ⟨c, τ', i1, i2, i3, i4, i5⟩
        · exact Or.inl ⟨c + 1, τ', u, by rw [Nat.succ_mul]; have := rD_1 0; omega, i2, ⟨i3.1, i3.2.1, by have := i3.2.2.1; omega, i3.2.2.2⟩, i4, fun w z => i5 w ⟨z.1, z.2.1, hs w z, z.2.2.2⟩, fun f => by rw [show f + (c + 1) = (f + c) + 1 by omega, hst, i6 f]⟩
        · exact Or.inr ⟨c + 1, τ', by rw [Nat.succ_mul]; have := rD_1 0; omega, i2, fun w z => i3 w ⟨z.1, z.2.1, hs w z, z.2.2.2⟩, i4, fun f => by rw [show f + (c + 1) = (f + c) + 1 by omega, hst, i5 f]⟩
      have ag : ∀ w, roW m e r n h p L t w → ¬ p + 1 ≤ w h → ∀ i, i ≤ h → v i = w i := by
        intro w z y i hi
        by_cases c : i = h
        · rw [c, hp1]; have := z.2.2.1; omega
        · rw [hu i (by omega), z.1 i (by omega)]
      cases hb : b with
      | false =>
        refine sk (fun w z => ?_) (fun f => by rw [st, hb, bI_f, if_pos rfl])
        refine Classical.byContradiction (fun y => ?_)
        have hag := ag w z y
        have : b = true := m2.mpr (by
          by_cases c : h = 0
          · exact Or.inl c
          · exact Or.inr (roO_c (fun i hi => (hag i (by omega)).symm) (z.2.1.2 (h - 1) (by omega))))
        rw [hb] at this; cases this
      | true =>
        have hV := hV hb
        have hrun : roR v h ≤ e := roR_e he hV (by omega)
        have hst := stays_v (τ := gx_up τ 150 h (nI p)) (L := L) (show h < n by omega) hn he he8 hL hrun h8 hrow
        by_cases c : roC v h + roM e n v h ≤ L
        · have hM0 : roM e n v h = 0 := by rw [show h = n - 1 by omega]; exact roM_0 he (by rw [show n - 1 = h by omega]; exact hrun)
          refine Or.inl ⟨1, gx_up τ 150 h (nI p), v, by rw [rD]; omega, fun c hc => by rw [gx_up_ne hc]; exact h3 c hc, ⟨hu, by rw [show n = h + 1 by omega]; exact hV, by rw [hp1]; exact Nat.le_refl _, by rw [show n - 1 = h by omega]; omega⟩, fun i hi => hrow i (by omega), fun w z => ?_, fun f => ?_⟩
          · by_cases y : p + 1 ≤ w h
            · exact Or.inr ⟨h, by omega, fun i hi => by rw [hu i hi, z.1 i hi], by rw [hp1]; omega⟩
            · exact Or.inl (fun i hi => ag w z y i (by omega))
          · rw [st, hb, bI_t, if_neg (by decide), hst, w_bd, decide_eq_true c, bI_t, if_neg (by decide), if_pos (by rw [n_sub1 (by omega), show n - 1 = h by omega])]
        · refine sk (fun w z => ?_) (fun f => by rw [st, hb, bI_t, if_neg (by decide), hst, w_bd, decide_eq_false c, bI_f, if_pos rfl])
          refine Classical.byContradiction (fun y => c ?_)
          have hag := ag w z y
          have z1 := roM_l he z.2.1 (n - 1 - h) h (by omega) (by omega)
          have z2 : roC w h = roC v h := roC_c h (fun i hi => (hag i hi).symm)
          have z3 : roM e n w h = roM e n v h := by unfold roM; rw [roR_c h (u := v) (fun i hi => (hag i hi).symm)]
          have z4 := z.2.2.2
          omega
  | succ k ihk =>
    intro h hk t hv j
    induction j with
    | zero =>
      intro p τ h1 h3 h4 h5
      refine Or.inr ⟨1, gx_up τ 150 h (nI p), by have := rD_1 (k + 1); omega, fun c hc => by rw [gx_up_ne hc]; exact h3 c hc, fun w hw => ?_, fun i hi => by rw [up_p _ _ _ (by omega)]; exact h4 i hi, fun f => ?_⟩
      · have y1 := hw.2.1.1 h (by omega)
        have y2 := hw.2.2.1
        omega
      · rw [Md_rotaWithin_7, Md_rotaWithin_7_B, if_neg (fun z => (n_lt0 (by omega)).mp z), ix_n (by omega), decide_eq_true (show h < 8 by omega), w_ck, w_ck, w_ck, cl_n (by omega), h5, show nI p - 1 + 1 = nI p by grind, up_e, if_pos (show nI p = nI m by rw [show p = m by omega]), add_m1]
    | succ j ihj =>
      intro p τ h1 h3 h4 h5
      obtain ⟨v, hw⟩ : ∃ v : Nat → Nat, v = fun i => if i = h then p else t i := ⟨_, rfl⟩
      have hu : ∀ i, i < h → v i = t i := fun i hi => by rw [hw]; exact if_neg (by omega)
      have hp1 : v h = p := by rw [hw]; exact if_pos rfl
      have h8 : ∀ i, i ≤ h → v i < 100 := fun i hi => by
        by_cases z : i = h
        · rw [z, hp1]; omega
        · rw [hu i (by omega)]
          have y : t i < m := hv.1 i (by omega)
          omega
      have hrow : ∀ i, i ≤ h → gx_up τ 150 h (nI p) 150 i = nI (v i) := fun i hi => by
        by_cases z : i = h
        · rw [z, up_e, hp1]
        · rw [up_p _ _ _ z, hu i (by omega)]; exact h4 i (by omega)
      obtain ⟨b, m1, m2⟩ := mayShift_v (τ := gx_up τ 150 h (nI p)) (t := v) (h := h) (e := e) (r := r) (by omega) he he8 h8 hr hrow
      have st : ∀ f, Md_rotaWithin_7 (f + 1) (nI n) (nI m) (nI e) (nI r) (nI L) (nI h) τ = if bI b = 0 then Md_rotaWithin_7 f (nI n) (nI m) (nI e) (nI r) (nI L) (nI h) (gx_up τ 150 h (nI p)) else z_bd (Md_staysWithin (nI h) (nI n) (nI e) (nI L) (gx_up τ 150 h (nI p))) (fun r10 σ11 => if r10 = 0 then Md_rotaWithin_7 f (nI n) (nI m) (nI e) (nI r) (nI L) (nI h) σ11 else if nI h = nI n - 1 then some (1, σ11) else z_ck (z_ix (nI h + 1) 8) (Md_rotaWithin_7 f (nI n) (nI m) (nI e) (nI r) (nI L) (nI h + 1) (gx_up σ11 150 (nI h + 1).toNatClampNeg (-1)))) := by
        intro f
        rw [Md_rotaWithin_7, Md_rotaWithin_7_B, if_neg (fun z => (n_lt0 (by omega)).mp z), ix_n (by omega), decide_eq_true (show h < 8 by omega), w_ck, w_ck, w_ck, cl_n (by omega), h5, show nI p - 1 + 1 = nI p by grind, up_e, if_neg (fun z => by have := (nI_eq (by omega) (by omega)).mp z; omega), m1, w_bd]
      have hV : b = true → roV (fun v => v < m) e r v (h + 1) := fun hb => ⟨fun i hi => by
        by_cases z : i = h
        · rw [z, hp1]; show p < m; omega
        · rw [hu i (by omega)]; exact hv.1 i (by omega), fun i hi => by
        by_cases z : i + 1 = h
        · rcases m2.mp hb with y | y
          · omega
          · rw [show h - 1 = i by omega] at y; exact y
        · exact roO_c (fun l hl => (hu l (by omega)).symm) (hv.2 i (by omega))⟩
      have sk : ∀ τa ca, ca ≤ rD (k + 1) → (∀ c, c ≠ 150 → τa c = τ0 c) → (∀ i, i < h → τa 150 i = nI (t i)) → τa 150 h = nI p → (∀ w, roW m e r n h p L t w → p + 1 ≤ w h) → (∀ f, Md_rotaWithin_7 (f + ca) (nI n) (nI m) (nI e) (nI r) (nI L) (nI h) τ = Md_rotaWithin_7 f (nI n) (nI m) (nI e) (nI r) (nI L) (nI h) τa) → roD τ0 n m e r L h (j + 1) (k + 1) p t τ := by
        intro τa ca hca ha1 ha2 ha3 hs hst
        rcases ihj (p + 1) τa (by omega) ha1 ha2 (by rw [ha3, n_sub1 (by omega), show p + 1 - 1 = p by omega]) with ⟨c, τ', u, i1, i2, i3, i4, i5, i6⟩ | ⟨c, τ', i1, i2, i3, i4, i5⟩
        · exact Or.inl ⟨c + ca, τ', u, by rw [Nat.succ_mul]; omega, i2, ⟨i3.1, i3.2.1, by have := i3.2.2.1; omega, i3.2.2.2⟩, i4, fun w z => i5 w ⟨z.1, z.2.1, hs w z, z.2.2.2⟩, fun f => by rw [show f + (c + ca) = (f + c) + ca by omega, hst, i6 f]⟩
        · exact Or.inr ⟨c + ca, τ', by rw [Nat.succ_mul]; omega, i2, fun w z => i3 w ⟨z.1, z.2.1, hs w z, z.2.2.2⟩, i4, fun f => by rw [show f + (c + ca) = (f + c) + ca by omega, hst, i5 f]⟩
      have ag : ∀ w, roW m e r n h p L t w → ¬ p + 1 ≤ w h → ∀ i, i ≤ h → v i = w i := by
        intro w z y i hi
        by_cases c : i = h
        · rw [c, hp1]; have := z.2.2.1; omega
        · rw [hu i (by omega), z.1 i (by omega)]
      have fr : ∀ c, c ≠ 150 → gx_up τ 150 h (nI p) c = τ0 c := fun c hc => by rw [gx_up_ne hc]; exact h3 c hc
      have rw' : ∀ i, i < h → gx_up τ 150 h (nI p) 150 i = nI (t i) := fun i hi => by rw [up_p _ _ _ (by omega)]; exact h4 i hi
      cases hb : b with
      | false =>
        refine sk _ 1 (rD_1 _) fr rw' (up_e _ _ _ _) (fun w z => ?_) (fun f => by rw [st, hb, bI_f, if_pos rfl])
        refine Classical.byContradiction (fun y => ?_)
        have hag := ag w z y
        have : b = true := m2.mpr (by
          by_cases c : h = 0
          · exact Or.inl c
          · exact Or.inr (roO_c (fun i hi => (hag i (by omega)).symm) (z.2.1.2 (h - 1) (by omega))))
        rw [hb] at this; cases this
      | true =>
        have hV := hV hb
        have hrun : roR v h ≤ e := roR_e he hV (by omega)
        have hst := stays_v (τ := gx_up τ 150 h (nI p)) (L := L) (show h < n by omega) hn he he8 hL hrun h8 hrow
        by_cases c : roC v h + roM e n v h ≤ L
        · have hs1 : ∀ f, Md_rotaWithin_7 (f + 1) (nI n) (nI m) (nI e) (nI r) (nI L) (nI h) τ = Md_rotaWithin_7 f (nI n) (nI m) (nI e) (nI r) (nI L) (nI (h + 1)) (gx_up (gx_up τ 150 h (nI p)) 150 (h + 1) (-1)) := fun f => by
            rw [st, hb, bI_t, if_neg (by decide), hst, w_bd, decide_eq_true c, bI_t, if_neg (by decide), if_neg (fun z => by rw [n_sub1 (by omega)] at z; have := (nI_eq (by omega) (by omega)).mp z; omega), show nI h + 1 = nI (h + 1) from nI_add h 1, ix_n (by omega), decide_eq_true (show h + 1 < 8 by omega), w_ck, cl_n (by omega)]
          have bnd : ∀ ca, ca ≤ (m + 1) * rD k → ca + 1 ≤ rD (k + 1) := fun ca hca => by
            have y1 : (m + 1) * rD k ≤ 5 * rD k := Nat.mul_le_mul_right _ (by omega)
            have y2 : rD (k + 1) = 1 + 5 * rD k := rfl
            omega
          rcases ihk (h + 1) (by omega) v hV m 0 (gx_up (gx_up τ 150 h (nI p)) 150 (h + 1) (-1)) (by omega) (fun c hc => by rw [gx_up_ne hc]; exact fr c hc) (fun i hi => by rw [up_p _ _ _ (by omega)]; exact hrow i (by omega)) (by rw [up_e]; rfl) with ⟨ca, τ', u, i1, i2, i3, i4, i5, i6⟩ | ⟨ca, τ', i1, i2, i3, i4, i5⟩
          · refine Or.inl ⟨ca + 1, τ', u, by rw [Nat.succ_mul]; have := bnd ca i1; omega, i2, ⟨fun i hi => by rw [i3.1 i (by omega), hu i hi], i3.2.1, by rw [i3.1 h (by omega), hp1]; exact Nat.le_refl _, i3.2.2.2⟩, i4, fun w z => ?_, fun f => by rw [show f + (ca + 1) = (f + ca) + 1 by omega, hs1, i6 f]⟩
            by_cases y : p + 1 ≤ w h
            · exact Or.inr ⟨h, by omega, fun i hi => by rw [i3.1 i (by omega), hu i hi, z.1 i hi], by rw [i3.1 h (by omega), hp1]; omega⟩
            · exact i5 w ⟨fun i hi => (ag w z y i (by omega)).symm, z.2.1, Nat.zero_le _, z.2.2.2⟩
          · refine sk τ' (ca + 1) (bnd ca i1) i2 (fun i hi => by rw [i4 i (by omega), hu i hi]) (by rw [i4 h (by omega), hp1]) (fun w z => ?_) (fun f => by rw [show f + (ca + 1) = (f + ca) + 1 by omega, hs1, i5 f, n_sub1 (by omega), show h + 1 - 1 = h by omega])
            refine Classical.byContradiction (fun y => ?_)
            exact i3 w ⟨fun i hi => (ag w z y i (by omega)).symm, z.2.1, Nat.zero_le _, z.2.2.2⟩
        · refine sk _ 1 (rD_1 _) fr rw' (up_e _ _ _ _) (fun w z => ?_) (fun f => by rw [st, hb, bI_t, if_neg (by decide), hst, w_bd, decide_eq_false c, bI_f, if_pos rfl])
          refine Classical.byContradiction (fun y => c ?_)
          have hag := ag w z y
          have z1 := roM_l he z.2.1 (n - 1 - h) h (by omega) (by omega)
          have z2 : roC w h = roC v h := roC_c h (fun i hi => (hag i hi).symm)
          have z3 : roM e n w h = roM e n v h := by unfold roM; rw [roR_c h (u := v) (fun i hi => (hag i hi).symm)]
          have z4 := z.2.2.2
          omega
