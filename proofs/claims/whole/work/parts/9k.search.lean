/-! ===== who sleeps for whom: the class's search ===== -/
def pEn (nw : Nat) (wk : Nat → Nat) (v : Nat) : Int32 := if v = nw then 8 else nI (wk v)
def pKey (nw ns : Nat) (Pc : Nat → Nat → Nat) (c : Nat → Nat) : Nat := pCo nw Pc c ns * 10000000 + pCn nw c ns
def pF (σ0 σ : gx_R) : Prop := (∀ c, c ≠ 63 → ¬ (70 ≤ c ∧ c ≤ 72) → σ c = σ0 c) ∧ ∀ j, j ≠ 14 → j ≠ 15 → σ 63 j = σ0 63 j
/-- what the search reads -/
def PairD (nw ns : Nat) (wk : Nat → Nat) (al : Nat → Nat → Bool) (B : Nat → Nat) (Wt Pc : Nat → Nat → Nat) (lp : Nat) (σ : gx_R) : Prop :=
  (nw ≤ 4 ∧ ns ≤ 6 ∧ lp ≤ 1000000) ∧ (σ 63 4 = nI nw ∧ σ 63 5 = nI ns ∧ σ 63 10 = nI lp) ∧ (∀ w, w < nw → σ 64 w = nI (wk w)) ∧ (∀ w, w < nw → σ 66 w = nI (B w) ∧ B w ≤ 99) ∧
  (∀ s w, s < ns → w < nw → σ 67 (4 * s + w) = wtI al Wt s w ∧ (al s w = true → σ 68 (4 * s + w) = nI (Pc s w) ∧ lp ≤ Pc s w) ∧ Wt s w ≤ 99 ∧ Pc s w ≤ 999) ∧
  ∀ s w, s ≤ ns → w < nw → σ 69 (4 * s + w) = nI (pRs al Wt w s (ns - s))
theorem PairD_of {nw ns : Nat} {wk sl : Nat → Nat} {al : Nat → Nat → Bool} {B : Nat → Nat} {Wt Pc : Nat → Nat → Nat} {σ : gx_R} (hnw : nw ≤ 4) (hns : ns ≤ 6) (hB : ∀ w, w < nw → B w ≤ 99) (hWt : ∀ s w, s < ns → w < nw → Wt s w ≤ 99 ∧ Pc s w ≤ 999) (h : PairW nw ns wk sl al B Wt Pc σ (fun _ _ => True)) : ∃ lp, PairD nw ns wk al B Wt Pc lp σ := by
  obtain ⟨w1, w3, w4, w5, w6, w7, x, w8, w9, w10⟩ := h
  refine ⟨x, ⟨hnw, hns, w9⟩, ⟨w1.1, w1.2, w8⟩, w3, fun w hw => ⟨w5 w hw, hB w hw⟩, fun s w hs hw => ⟨(w6 s w hs hw trivial).1, fun ha => ⟨(w6 s w hs hw trivial).2.1 ha, w10 s w hs hw trivial ha⟩, (hWt s w hs hw).1, (hWt s w hs hw).2⟩, fun s w hs hw => ?_⟩
  by_cases z : s = ns
  · rw [z, w7 w hw, Nat.sub_self]; rfl
  · exact (w6 s w (by omega) hw trivial).2.2
theorem sub_lec {a b : Nat} (ha : a < 2 ^ 30) (hb : b < 2 ^ 30) {c : Nat} (hc : c < 2 ^ 30) : nI a - nI b ≤ nI c ↔ a ≤ b + c := by
  rw [Int32.le_iff_toInt_le, pk_sub_toInt ha hb, nI_toInt (by omega)]
  omega
theorem worth_L {nw ns lp s n b1 b2 t : Nat} {wk : Nat → Nat} {al : Nat → Nat → Bool} {B : Nat → Nat} {Wt Pc : Nat → Nat → Nat} {c : Nat → Nat} {σ : gx_R} (hD : PairD nw ns wk al B Wt Pc lp σ) (hs : s ≤ ns) (hf : ∀ w, w < nw → σ 70 w = nI (pFu Wt c s w) ∧ pFu Wt c s w ≤ 1000) (h15 : σ 63 15 = nI b1) (h14 : σ 63 14 = nI b2) (hb1 : b1 ≤ 1000000) (hb2 : b2 ≤ 1000000) (hn : n ≤ 6) (ht : t ≤ 10000) : ∀ m w f, w + m = nw → m < f → (∀ i, i < w → B i ≤ pFu Wt c s i + pRs al Wt i s (ns - s)) → ∃ b : Bool, Pa_isWorthwhile_4 f (nI s) (nI n) (nI t) (nI (cB (fun i => decide (pFu Wt c s i < B i)) w)) (nI w) σ = some (bI b, σ) ∧ (b = true ↔ (∀ i, i < nw → B i ≤ pFu Wt c s i + pRs al Wt i s (ns - s)) ∧ (t + pUn Wt B c s nw * lp) * 10000000 + (n + pUn Wt B c s nw) < b1 * 10000000 + b2) := by
  obtain ⟨⟨d1, d2, d3⟩, ⟨d4, d5, d6⟩, d7, d8, d9, d10⟩ := hD
  intro m
  induction m with
  | zero =>
    intro w f h1 h2 h3
    obtain ⟨f, rfl⟩ : ∃ q, f = q + 1 := ⟨f - 1, by omega⟩
    obtain rfl : w = nw := by omega
    have hU := cB_le (fun i => decide (pFu Wt c s i < B i)) w
    have eU : cB (fun i => decide (pFu Wt c s i < B i)) w = pUn Wt B c s w := rfl
    rw [eU] at hU ⊢
    have hUl : pUn Wt B c s w * lp ≤ 4 * 1000000 := Nat.mul_le_mul (by omega) d3
    have key : ∃ b : Bool, Pa_isWorthwhile_49 (nI n) (nI (pUn Wt B c s w)) (nI t) (nI (pUn Wt B c s w * lp)) σ = some (bI b, σ) ∧ (b = true ↔ (t + pUn Wt B c s w * lp) * 10000000 + (n + pUn Wt B c s w) < b1 * 10000000 + b2) := by
      rw [Pa_isWorthwhile_49, nI_add, nI_add, h15, h14]
      by_cases c1 : t + pUn Wt B c s w * lp < b1
      · refine ⟨true, by rw [if_pos ((nI_ltI (by omega) (by omega)).mpr c1), Pa_isWorthwhile_65]; rfl, ⟨fun _ => by omega, fun _ => rfl⟩⟩
      · rw [if_neg (fun z => c1 ((nI_ltI (by omega) (by omega)).mp z))]
        by_cases c2 : t + pUn Wt B c s w * lp = b1
        · rw [if_pos (by rw [c2])]
          by_cases c3 : b2 ≤ n + pUn Wt B c s w
          · exact ⟨false, by rw [if_pos ((nI_leI (by omega) (by omega)).mpr c3)]; rfl, ⟨fun z => (by cases z), fun z => by omega⟩⟩
          · exact ⟨true, by rw [if_neg (fun z => c3 ((nI_leI (by omega) (by omega)).mp z)), Pa_isWorthwhile_65]; rfl, ⟨fun _ => by omega, fun _ => rfl⟩⟩
        · exact ⟨false, by rw [if_neg (fun z => c2 ((nI_eq (by omega) (by omega)).mp z))]; rfl, ⟨fun z => (by cases z), fun z => by omega⟩⟩
    obtain ⟨b, k1, k2⟩ := key
    refine ⟨b, ?_, k2.trans ⟨fun z => ⟨h3, z⟩, fun z => z.2⟩⟩
    rw [Pa_isWorthwhile_4, Pa_isWorthwhile_4_B, d4, if_pos ((nI_leI (by omega) (by omega)).mpr (Nat.le_refl _)), Pa_isWorthwhile_40]
    by_cases c0 : pUn Wt B c s w = 0
    · rw [c0, Nat.zero_mul] at k1
      rw [c0, if_pos (show nI 0 ≤ 0 by decide)]; exact k1
    · rw [if_neg (fun z => c0 ((n_le0 (by omega)).mp z)), d6, pk_mul]; exact k1
  | succ m ih =>
    intro w f h1 h2 h3
    obtain ⟨f, rfl⟩ : ∃ q, f = q + 1 := ⟨f - 1, by omega⟩
    obtain ⟨f1, f2⟩ := hf w (by omega)
    obtain ⟨b1', b2'⟩ := d8 w (by omega)
    have hU := cB_le (fun i => decide (pFu Wt c s i < B i)) w
    have hR : pRs al Wt w s (ns - s) ≤ 99 * (ns - s) := pRs_b _ _ (fun i hi _ => (d9 i w (by omega) (by omega)).2.2.1)
    have e4 := ix4 s w
    rw [Pa_isWorthwhile_4, Pa_isWorthwhile_4_B, d4, if_neg (fun z => by have := (nI_leI (by omega) (by omega)).mp z; omega), ix_n (by omega), decide_eq_true (show w < 4 by omega), w_ck, w_ck, e4, ix_n (by omega), decide_eq_true (show 4 * s + w < 28 by omega), w_ck, cl_n (by omega), cl_n (by omega), b1', f1, d10 s w hs (by omega)]
    by_cases c1 : B w ≤ pFu Wt c s w + pRs al Wt w s (ns - s)
    · rw [if_pos ((sub_lec (by omega) (by omega) (by omega)).mpr c1)]
      have hi := ih (w + 1) f (by omega) (by omega) (fun i hi => by
        by_cases z : i = w
        · rw [z]; exact c1
        · exact h3 i (by omega))
      rw [cB] at hi
      by_cases c2 : B w ≤ pFu Wt c s w
      · rw [decide_eq_false (by omega)] at hi
        rw [if_pos ((sub_le0 (by omega) (by omega)).mpr c2), Pa_isWorthwhile_36, show nI (cB (fun i => decide (pFu Wt c s i < B i)) w) + 0 = nI (cB (fun i => decide (pFu Wt c s i < B i)) w + (false).toNat) from nI_add _ 0, show nI w + 1 = nI (w + 1) from nI_add w 1]
        exact hi
      · rw [decide_eq_true (by omega)] at hi
        rw [if_neg (fun z => c2 ((sub_le0 (by omega) (by omega)).mp z)), Pa_isWorthwhile_36, show nI (cB (fun i => decide (pFu Wt c s i < B i)) w) + 1 = nI (cB (fun i => decide (pFu Wt c s i < B i)) w + (true).toNat) from nI_add _ 1, show nI w + 1 = nI (w + 1) from nI_add w 1]
        exact hi
    · rw [if_neg (fun z => c1 ((sub_lec (by omega) (by omega) (by omega)).mp z))]
      exact ⟨false, rfl, ⟨fun z => (by cases z), fun z => absurd (z.1 w (by omega)) c1⟩⟩
def pS (nw ns : Nat) (al : Nat → Nat → Bool) (Wt : Nat → Nat → Nat) (B : Nat → Nat) (s : Nat) (c : Nat → Nat) : (Nat → Nat) → Prop := fun u => (∀ i, i < s → u i = c i) ∧ pVal nw ns al Wt B u
def pT (σ0 : gx_R) (nw ns : Nat) (wk : Nat → Nat) (al : Nat → Nat → Bool) (B : Nat → Nat) (Wt Pc : Nat → Nat → Nat) (S : (Nat → Nat) → Prop) (s : Nat) (c : Nat → Nat) (b1 b2 : Nat) (r : Option (Unit × gx_R)) (σ : gx_R) : Prop := ∃ b1' b2' σ', r = some ((), σ') ∧ pF σ0 σ' ∧ (∀ w, w < nw → σ' 70 w = nI (pFu Wt c s w)) ∧ (∀ i, i < s → σ' 71 i = pEn nw wk (c i)) ∧ (σ' 63 15 = nI b1' ∧ σ' 63 14 = nI b2' ∧ b1' ≤ 1000000 ∧ b2' ≤ 1000000) ∧ gP (pKey nw ns Pc) ns (pEn nw wk) S (b1 * 10000000 + b2) (σ 72) (b1' * 10000000 + b2') (σ' 72)
theorem PairD_F {nw ns lp : Nat} {wk : Nat → Nat} {al : Nat → Nat → Bool} {B : Nat → Nat} {Wt Pc : Nat → Nat → Nat} {σ0 σ : gx_R} (h : pF σ0 σ) (hD : PairD nw ns wk al B Wt Pc lp σ0) : PairD nw ns wk al B Wt Pc lp σ := by
  obtain ⟨d0, ⟨d4, d5, d6⟩, d7, d8, d9, d10⟩ := hD
  refine ⟨d0, ⟨by rw [h.2 4 (by omega) (by omega)]; exact d4, by rw [h.2 5 (by omega) (by omega)]; exact d5, by rw [h.2 10 (by omega) (by omega)]; exact d6⟩, fun w hw => by rw [h.1 64 (by omega) (by omega)]; exact d7 w hw, fun w hw => by rw [h.1 66 (by omega) (by omega)]; exact d8 w hw, fun s w hs hw => ?_, fun s w hs hw => by rw [h.1 69 (by omega) (by omega)]; exact d10 s w hs hw⟩
  rw [h.1 67 (by omega) (by omega), h.1 68 (by omega) (by omega)]
  exact d9 s w hs hw
theorem cp72 {σ : gx_R} {i : Nat} (h : i < 6) : gx_cp σ 71 72 (0 : Int32).toNatClampNeg (0 : Int32).toNatClampNeg (6 : Int32).toNatClampNeg 72 i = σ 71 i := by
  rw [show (0 : Int32).toNatClampNeg = 0 from rfl, show (6 : Int32).toNatClampNeg = 6 from rfl]
  unfold gx_cp
  rw [if_pos rfl, if_pos (by omega), Nat.zero_add, Nat.sub_zero]
theorem search_v {σ0 : gx_R} {nw ns lp : Nat} {wk : Nat → Nat} {al : Nat → Nat → Bool} {B : Nat → Nat} {Wt Pc : Nat → Nat → Nat} (hD : PairD nw ns wk al B Wt Pc lp σ0) : ∀ k s d c σ b1 b2, s + k = ns → k < d → pF σ0 σ → (∀ i, i < s → pOk nw al c i) → (∀ w, w < nw → σ 70 w = nI (pFu Wt c s w)) → (∀ i, i < s → σ 71 i = pEn nw wk (c i)) → σ 63 15 = nI b1 → σ 63 14 = nI b2 → b1 ≤ 1000000 → b2 ≤ 1000000 → pT σ0 nw ns wk al B Wt Pc (pS nw ns al Wt B s c) s c b1 b2 (Pa_search_R d (nI s) (nI (pCn nw c s)) (nI (pCo nw Pc c s)) σ) σ := by
  have hDD := hD
  obtain ⟨⟨d1, d2, d3⟩, ⟨d4, d5, d6⟩, d7, d8, d9, d10⟩ := hD
  intro k
  induction k with
  | zero =>
    intro s d c σ b1 b2 h1 h2 h3 hok h4 h5 h15 h14 hb1 hb2
    obtain ⟨d, rfl⟩ : ∃ q, d = q + 1 := ⟨d - 1, by omega⟩
    obtain rfl : s = ns := by omega
    have hn := pCn_b (nw := nw) (c := c) s
    have hfb : ∀ w, w < nw → pFu Wt c s w ≤ 99 * s := fun w hw => pFu_b s (fun i hi _ => (d9 i w hi hw).2.2.1)
    have hcb : pCo nw Pc c s ≤ 999 * s := pCo_b s (fun i hi hc => (d9 i (c i) hi hc).2.2.2)
    have hlp : ∀ s' w, s' < s → w < nw → al s' w = true → lp ≤ Pc s' w := fun s' w hs hw ha => ((d9 s' w hs hw).2.1 ha).2
    obtain ⟨b, y1, y2⟩ := worth_L (c := c) (n := pCn nw c s) (t := pCo nw Pc c s) (PairD_F h3 hDD) (Nat.le_refl s) (fun w hw => ⟨h4 w hw, by have := hfb w hw; omega⟩) h15 h14 hb1 hb2 (by omega) (by omega) nw 0 z_FU (by omega) (by have := z_FU_ge; omega) (fun i hi => absurd hi (Nat.not_lt_zero i))
    have y1 : Pa_isWorthwhile (nI s) (nI (pCn nw c s)) (nI (pCo nw Pc c s)) σ = some (bI b, σ) := y1
    rw [Pa_search_R, Pa_search_E, y1, w_bd]
    have hu : ∀ u, pS nw s al Wt B s c u → pKey nw s Pc u = pCo nw Pc c s * 10000000 + pCn nw c s := fun u hu => by
      unfold pKey
      rw [pCo_c (c' := c) s hu.1, pCn_c (c' := c) s hu.1]
    have hfu : ∀ u, pS nw s al Wt B s c u → ∀ w, w < nw → B w ≤ pFu Wt c s w := fun u hu w hw => by
      rw [← pFu_c (c := u) w s hu.1]; exact hu.2.2 w hw
    have r0 : ∀ w, pRs al Wt w s (s - s) = 0 := fun w => by rw [Nat.sub_self]; rfl
    have u0 : (∀ w, w < nw → B w ≤ pFu Wt c s w) → pUn Wt B c s nw = 0 := fun h => by
      have h1 : pUn Wt B c s nw = cB (fun _ => false) nw := cB_cong (fun i hi => decide_eq_false (fun z => by have := h i hi; omega))
      rw [h1]
      have : ∀ n, cB (fun _ => false) n = 0 := by
        intro n
        induction n with
        | zero => rfl
        | succ n ih => rw [cB, ih]; rfl
      exact this nw
    cases b with
    | false =>
      rw [bI_f, if_pos rfl]
      refine ⟨b1, b2, σ, rfl, h3, h4, h5, ⟨h15, h14, hb1, hb2⟩, gP_no (fun u hS => ?_)⟩
      have z1 := hfu u hS
      rw [hu u hS]
      refine Classical.byContradiction (fun z => ?_)
      have : false = true := y2.mpr ⟨fun i hi => by rw [r0]; exact z1 i hi, by rw [u0 z1, Nat.zero_mul]; omega⟩
      cases this
    | true =>
      obtain ⟨z1, z2⟩ := y2.mp rfl
      have z1 : ∀ w, w < nw → B w ≤ pFu Wt c s w := fun w hw => by have := z1 w hw; rw [r0] at this; exact this
      rw [u0 z1, Nat.zero_mul, Nat.add_zero, Nat.add_zero] at z2
      rw [bI_t, if_neg (by decide), h3.2 5 (by omega) (by omega), d5, if_pos ((nI_leI (by omega) (by omega)).mpr (Nat.le_refl _)), Pa_search_14]
      refine ⟨pCo nw Pc c s, pCn nw c s, _, rfl, ⟨fun c hc hc2 => ?_, fun j hj1 hj2 => ?_⟩, fun w hw => ?_, fun i hi => ?_, ⟨?_, ?_, by omega, by omega⟩, Or.inr ⟨z2, c, ⟨fun _ _ => rfl, hok, z1⟩, rfl, fun i hi => ?_, fun w hw => ?_⟩⟩
      · rw [gx_cp_ne (by omega), gx_up_ne hc, gx_up_ne hc]; exact h3.1 c hc hc2
      · rw [gx_cp_ne (by omega), up_p _ _ _ hj1, up_p _ _ _ hj2]; exact h3.2 j hj1 hj2
      · rw [gx_cp_ne (by omega), up_c _ _ _ _ (by omega), up_c _ _ _ _ (by omega)]; exact h4 w hw
      · rw [gx_cp_ne (by omega), up_c _ _ _ _ (by omega), up_c _ _ _ _ (by omega)]; exact h5 i hi
      · rw [gx_cp_ne (by omega), up_p _ _ _ (by omega), up_e]
      · rw [gx_cp_ne (by omega), up_e]
      · rw [cp72 (by omega), up_c _ _ _ _ (by omega), up_c _ _ _ _ (by omega)]; exact h5 i hi
      · rw [hu w hw]
        exact ⟨Nat.le_refl _, fun _ => Or.inl (fun i hi => (hw.1 i hi).symm)⟩
  | succ k ih =>
    intro s d c σ b1 b2 h1 h2 h3 hok h4 h5 h15 h14 hb1 hb2
    obtain ⟨d, rfl⟩ : ∃ q, d = q + 1 := ⟨d - 1, by omega⟩
    have hn := pCn_b (nw := nw) (c := c) s
    have hfb : ∀ w, w < nw → pFu Wt c s w ≤ 99 * s := fun w hw => pFu_b s (fun i hi _ => (d9 i w (by omega) hw).2.2.1)
    have hcb : pCo nw Pc c s ≤ 999 * s := pCo_b s (fun i hi hc => (d9 i (c i) (by omega) hc).2.2.2)
    have hlp : ∀ s' w, s' < ns → w < nw → al s' w = true → lp ≤ Pc s' w := fun s' w hs hw ha => ((d9 s' w hs hw).2.1 ha).2
    obtain ⟨b, y1, y2⟩ := worth_L (c := c) (n := pCn nw c s) (t := pCo nw Pc c s) (PairD_F h3 hDD) (show s ≤ ns by omega) (fun w hw => ⟨h4 w hw, by have := hfb w hw; omega⟩) h15 h14 hb1 hb2 (by omega) (by omega) nw 0 z_FU (by omega) (by have := z_FU_ge; omega) (fun i hi => absurd hi (Nat.not_lt_zero i))
    have y1 : Pa_isWorthwhile (nI s) (nI (pCn nw c s)) (nI (pCo nw Pc c s)) σ = some (bI b, σ) := y1
    rw [Pa_search_R, Pa_search_E, y1, w_bd]
    cases b with
    | false =>
      rw [bI_f, if_pos rfl]
      refine ⟨b1, b2, σ, rfl, h3, h4, h5, ⟨h15, h14, hb1, hb2⟩, gP_no (fun u hS => ?_)⟩
      refine Classical.byContradiction (fun z => ?_)
      have p1 := prune hS.2 hlp (ns - s) s (by omega)
      have eU : pUn Wt B u s nw = pUn Wt B c s nw := cB_cong (fun i hi => by rw [pFu_c (c' := c) i s hS.1])
      rw [pCo_c (c' := c) s hS.1, pCn_c (c' := c) s hS.1, eU] at p1
      unfold pKey at z
      have : false = true := y2.mpr ⟨fun i hi => by
        have q1 := pFu_rs (nw := nw) (al := al) (Wt := Wt) (c := u) hi (ns - s) s (fun j hj => hS.2.1 j (by omega))
        rw [show s + (ns - s) = ns by omega, pFu_c (c' := c) i s hS.1] at q1
        have := hS.2.2 i hi
        omega, by omega⟩
      cases this
    | true =>
      rw [bI_t, if_neg (by decide), h3.2 5 (by omega) (by omega), d5, if_neg (fun z => by have := (nI_leI (by omega) (by omega)).mp z; omega), if_pos (show nI s < 6 from (nI_ltI (a := s) (b := 6) (by omega) (by omega)).mpr (by omega))]
      -- the children from w on
      have kids : ∀ m w f σ b1 b2, w + m = nw → m < f → pF σ0 σ → (∀ w, w < nw → σ 70 w = nI (pFu Wt c s w)) → (∀ i, i < s → σ 71 i = pEn nw wk (c i)) → σ 63 15 = nI b1 → σ 63 14 = nI b2 → b1 ≤ 1000000 → b2 ≤ 1000000 → pT σ0 nw ns wk al B Wt Pc (fun u => pS nw ns al Wt B s c u ∧ w ≤ u s) s c b1 b2 (Pa_search_31 (Pa_search_R d) f (nI s) (nI (pCn nw c s)) (nI (pCo nw Pc c s)) (nI w) σ) σ := by
        intro m
        induction m with
        | zero =>
          intro w f σ b1 b2 h1 h2' h3 h4 h5 h15 h14 hb1 hb2
          obtain ⟨f, rfl⟩ : ∃ q, f = q + 1 := ⟨f - 1, by omega⟩
          obtain rfl : w = nw := by omega
          obtain ⟨v, hv⟩ : ∃ v : Nat → Nat, v = fun i => if i = s then w else c i := ⟨_, rfl⟩
          have hu : ∀ i, i < s → v i = c i := fun i hi => by rw [hv]; exact if_neg (by omega)
          have hvs : v s = w := by rw [hv]; exact if_pos rfl
          have i1 := ih (s + 1) d v (gx_up σ 71 s 8) b1 b2 (by omega) (by omega) ⟨fun c hc hc2 => by rw [gx_up_ne (by omega)]; exact h3.1 c hc hc2, fun j q1 q2 => by rw [up_c _ _ _ _ (by omega)]; exact h3.2 j q1 q2⟩ (fun i hi => by
              by_cases z : i = s
              · rw [z]; exact Or.inl hvs
              · unfold pOk; rw [hu i (by omega)]; exact hok i (by omega)) (fun i hi => by
              rw [up_c _ _ _ _ (by omega), pFu, hvs, if_neg (by omega), Nat.add_zero, pFu_c (c' := c) i s hu]; exact h4 i hi) (fun i hi => by
              by_cases z : i = s
              · rw [z, up_e, hvs, pEn, if_pos rfl]
              · rw [up_p _ _ _ z, hu i (by omega)]; exact h5 i (by omega)) (by rw [up_c _ _ _ _ (by omega)]; exact h15) (by rw [up_c _ _ _ _ (by omega)]; exact h14) hb1 hb2
          obtain ⟨b1', b2', σ', j1, j2, j3, j4, j5, j6⟩ := i1
          rw [pCn, pCo, hvs, if_neg (by omega), if_neg (by omega), pCn_c (c' := c) s hu, pCo_c (c' := c) s hu] at j1
          simp only [Nat.add_zero] at j1
          refine ⟨b1', b2', σ', ?_, j2, fun i hi => ?_, fun i hi => ?_, j5, gP_eq (fun u => ⟨fun z => ⟨⟨fun i hi => by rw [z.1 i (by omega)]; exact hu i hi, z.2⟩, by rw [z.1 s (by omega), hvs]; exact Nat.le_refl _⟩, fun z => ⟨fun i hi => ?_, z.1.2⟩⟩) j6⟩
          · rw [Pa_search_31, Pa_search_31_B, h3.2 4 (by omega) (by omega), d4, if_pos ((nI_leI (by omega) (by omega)).mpr (Nat.le_refl _)), Pa_search_93, ix_n (by omega), decide_eq_true (show s < 6 by omega), w_ck, cl_n (by omega), show nI s + 1 = nI (s + 1) from nI_add s 1, j1, w_bd]
          · rw [j3 i hi, pFu, hvs, if_neg (by omega), Nat.add_zero, pFu_c (c' := c) i s hu]
          · rw [j4 i (by omega), hu i hi]
          · by_cases y : i = s
            · rw [y, hvs]
              have q1 := z.2
              rcases z.1.2.1 s (by omega) with q2 | ⟨q2, -⟩
              · exact q2
              · omega
            · rw [hu i (by omega)]; exact z.1.1 i (by omega)
        | succ m ihm =>
          intro w f σ b1 b2 h1 h2' h3 h4 h5 h15 h14 hb1 hb2
          obtain ⟨f, rfl⟩ : ∃ q, f = q + 1 := ⟨f - 1, by omega⟩
          obtain ⟨k67, k68, kw, kp⟩ := d9 s w (by omega) (by omega)
          have c24 : 4 * s + w < 24 := by omega
          have e1 : nI w + 1 = nI (w + 1) := nI_add w 1
          rw [Pa_search_31, Pa_search_31_B, h3.2 4 (by omega) (by omega), d4, if_neg (fun z => by have := (nI_leI (by omega) (by omega)).mp z; omega), ix4, ix_n (by omega), decide_eq_true c24, w_ck, cl_n (by omega), h3.1 67 (by omega) (by omega), k67]
          cases ha : al s w with
          | false =>
            have ew : wtI al Wt s w = -1 := by unfold wtI; rw [ha]; rfl
            rw [ew, if_pos rfl, Pa_search_91, e1]
            obtain ⟨b1', b2', σ', j1, j2, j3, j4, j5, j6⟩ := ihm (w + 1) f σ b1 b2 (by omega) (by omega) h3 h4 h5 h15 h14 hb1 hb2
            refine ⟨b1', b2', σ', j1, j2, j3, j4, j5, gP_eq (fun u => ⟨fun z => ⟨z.1, by have := z.2; omega⟩, fun z => ⟨z.1, ?_⟩⟩) j6⟩
            rcases Nat.lt_or_ge w (u s) with y | y
            · exact y
            · have e2 : u s = w := by have := z.2; omega
              rcases z.1.2.1 s (by omega) with q2 | ⟨-, q2⟩
              · omega
              · rw [e2, ha] at q2; cases q2
          | true =>
            have ew : wtI al Wt s w = nI (Wt s w) := by unfold wtI; rw [ha]; rfl
            obtain ⟨k68, -⟩ := k68 ha
            obtain ⟨v, hv⟩ : ∃ v : Nat → Nat, v = fun i => if i = s then w else c i := ⟨_, rfl⟩
            have hu : ∀ i, i < s → v i = c i := fun i hi => by rw [hv]; exact if_neg (by omega)
            have hvs : v s = w := by rw [hv]; exact if_pos rfl
            obtain ⟨σb, hb⟩ : ∃ σb, σb = gx_up (gx_up σ 71 s (nI (wk w))) 70 w (nI (pFu Wt c s w + Wt s w)) := ⟨_, rfl⟩
            have hbF : pF σ0 σb := ⟨fun c hc hc2 => by rw [hb, gx_up_ne (by omega), gx_up_ne (by omega)]; exact h3.1 c hc hc2, fun j q1 q2 => by rw [hb, up_c _ _ _ _ (by omega), up_c _ _ _ _ (by omega)]; exact h3.2 j q1 q2⟩
            have i1 := ih (s + 1) d v σb b1 b2 (by omega) (by omega) hbF (fun i hi => by
                by_cases z : i = s
                · rw [z]; exact Or.inr ⟨by rw [hvs]; omega, by rw [hvs]; exact ha⟩
                · unfold pOk; rw [hu i (by omega)]; exact hok i (by omega)) (fun i hi => by
                rw [pFu, hvs, pFu_c (c' := c) i s hu, hb]
                by_cases z : i = w
                · rw [z, up_e, if_pos rfl]
                · rw [up_p _ _ _ z, up_c _ _ _ _ (by omega), if_neg (fun y => z y.symm), Nat.add_zero]; exact h4 i hi) (fun i hi => by
                rw [hb, up_c _ _ _ _ (by omega)]
                by_cases z : i = s
                · rw [z, up_e, hvs, pEn, if_neg (by omega)]
                · rw [up_p _ _ _ z, hu i (by omega)]; exact h5 i (by omega)) (by rw [hb, up_c _ _ _ _ (by omega), up_c _ _ _ _ (by omega)]; exact h15) (by rw [hb, up_c _ _ _ _ (by omega), up_c _ _ _ _ (by omega)]; exact h14) hb1 hb2
            obtain ⟨b1a, b2a, σa, j1, j2, j3, j4, ⟨j5a, j5b, j5c, j5d⟩, j6⟩ := i1
            rw [pCn, pCo, hvs, if_pos (show w < nw by omega), if_pos (show w < nw by omega), pCn_c (c' := c) s hu, pCo_c (c' := c) s hu] at j1
            have j3w := j3 w (by omega)
            rw [pFu, hvs, if_pos rfl, pFu_c (c' := c) w s hu] at j3w
            obtain ⟨b1', b2', σ', l1, l2, l3, l4, l5, l6⟩ := ihm (w + 1) f (gx_up σa 70 w (nI (pFu Wt c s w))) b1a b2a (by omega) (by omega) ⟨fun c hc hc2 => by rw [gx_up_ne (by omega)]; exact j2.1 c hc hc2, fun j q1 q2 => by rw [up_c _ _ _ _ (by omega)]; exact j2.2 j q1 q2⟩ (fun i hi => by
                by_cases z : i = w
                · rw [z, up_e]
                · rw [up_p _ _ _ z, j3 i hi, pFu, hvs, if_neg (fun y => z y.symm), Nat.add_zero, pFu_c (c' := c) i s hu]) (fun i hi => by rw [up_c _ _ _ _ (by omega), j4 i (by omega), hu i hi]) (by rw [up_c _ _ _ _ (by omega)]; exact j5a) (by rw [up_c _ _ _ _ (by omega)]; exact j5b) j5c j5d
            rw [gx_up_ne (show (72 : Nat) ≠ 70 by omega)] at l6
            rw [hb, gx_up_ne (show (72 : Nat) ≠ 70 by omega), gx_up_ne (show (72 : Nat) ≠ 71 by omega)] at j6
            refine ⟨b1', b2', σ', ?_, l2, l3, l4, l5, gP_tr j6 l6 (fun u => ⟨fun z => ?_, fun z => ?_⟩) (fun u x q1 q2 => ?_)⟩
            · rw [ew, if_neg (fun z => (n_m1 (by omega)).mp z), ix_n (by omega), decide_eq_true (show w < 4 by omega), w_ck, ix_n (by omega), decide_eq_true (show s < 6 by omega), w_ck, w_ck, w_ck, w_ck, w_ck, cl_n (by omega), cl_n (by omega), h3.1 64 (by omega) (by omega), d7 w (by omega), up_c _ _ _ _ (show (70 : Nat) ≠ 71 by omega), h4 w (by omega), up_c _ _ _ _ (show (67 : Nat) ≠ 71 by omega), h3.1 67 (by omega) (by omega), k67, ew, up_c _ _ _ _ (show (68 : Nat) ≠ 70 by omega), up_c _ _ _ _ (show (68 : Nat) ≠ 71 by omega), h3.1 68 (by omega) (by omega), k68, nI_add, nI_add, ← hb, show nI s + 1 = nI (s + 1) from nI_add s 1, show nI (pCn nw c s) + 1 = nI (pCn nw c s + 1) from nI_add _ 1, j1, w_bd, w_ck, w_ck, w_ck, j3w, j2.1 67 (by omega) (by omega), k67, ew, show nI (pFu Wt c s w + Wt s w) - nI (Wt s w) = nI (pFu Wt c s w) from (pk_sub (by omega)).trans (by rw [Nat.add_sub_cancel]), Pa_search_91, e1]
              exact l1
            · rcases Nat.lt_or_ge w (u s) with y | y
              · exact Or.inr ⟨z.1, y⟩
              · refine Or.inl ⟨fun i hi => ?_, z.1.2⟩
                by_cases q : i = s
                · rw [q, hvs]; have := z.2; omega
                · rw [hu i (by omega)]; exact z.1.1 i (by omega)
            · rcases z with z | z
              · exact ⟨⟨fun i hi => by rw [z.1 i (by omega)]; exact hu i hi, z.2⟩, by rw [z.1 s (by omega), hvs]; exact Nat.le_refl _⟩
              · exact ⟨z.1, by have := z.2; omega⟩
            · refine Or.inr ⟨s, by omega, fun j hj => ?_, ?_⟩
              · rw [q1.1 j (by omega), hu j hj, q2.1.1 j hj]
              · rw [q1.1 s (by omega), hvs]; exact q2.2
      obtain ⟨b1', b2', σ', j1, j2, j3, j4, j5, j6⟩ := kids nw 0 z_FU σ b1 b2 (by omega) (by have := z_FU_ge; omega) h3 h4 h5 h15 h14 hb1 hb2
      exact ⟨b1', b2', σ', j1, j2, j3, j4, j5, gP_eq (fun u => ⟨fun z => z.1, fun z => ⟨z, Nat.zero_le _⟩⟩) j6⟩
