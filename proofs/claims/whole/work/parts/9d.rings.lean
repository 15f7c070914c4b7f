/-! ===== the ring ===== -/
def lnF (E : Nat → Nat → Bool) (f : Nat) : Nat := lw (rg E f) 8 + 1
def mnF (E : Nat → Nat → Bool) : Nat → Nat
  | 0 => 9
  | p + 1 => if lnF E p < mnF E p then lnF E p else mnF E p
def fsF (E : Nat → Nat → Bool) : Nat → Int32
  | 0 => -1
  | p + 1 => if lnF E p < mnF E p then nI p else fsF E p
theorem mn_sp {E : Nat → Nat → Bool} : ∀ p, mnF E p ≤ 9 ∧ (∀ i, i < p → mnF E p ≤ lnF E i) ∧ (mnF E p < 9 → ∃ f, f < p ∧ fsF E p = nI f ∧ lnF E f = mnF E p ∧ ∀ i, i < f → mnF E p < lnF E i) ∧ (mnF E p = 9 → fsF E p = -1) := by
  intro p
  induction p with
  | zero => exact ⟨Nat.le_refl _, fun i hi => absurd hi (Nat.not_lt_zero i), fun h => by rw [mnF] at h; omega, fun _ => rfl⟩
  | succ p ih =>
    obtain ⟨h1, h2, h3, h4⟩ := ih
    rw [mnF, fsF]
    by_cases c : lnF E p < mnF E p
    · rw [if_pos c, if_pos c]
      refine ⟨by omega, fun i hi => ?_, fun _ => ⟨p, by omega, rfl, rfl, fun i hi => ?_⟩, fun h => by omega⟩
      · by_cases e : i = p
        · rw [e]; exact Nat.le_refl _
        · have := h2 i (by omega); omega
      · have := h2 i hi; omega
    · rw [if_neg c, if_neg c]
      refine ⟨h1, fun i hi => ?_, fun h => ?_, h4⟩
      · by_cases e : i = p
        · rw [e]; omega
        · exact h2 i (by omega)
      · obtain ⟨f, y1, y2, y3, y4⟩ := h3 h
        exact ⟨f, by omega, y2, y3, y4⟩
theorem ln_9 (E : Nat → Nat → Bool) (f : Nat) : lnF E f ≤ 9 := by
  have := (lw_sp (rg E f) 8).1
  unfold lnF
  omega
theorem ln_r {E : Nat → Nat → Bool} {f n : Nat} (h : lnF E f = n) (hn : n < 9) : 1 ≤ n ∧ rg E f (n - 1) = true ∧ ∀ i, i < n - 1 → rg E f i = false := by
  unfold lnF at h
  obtain ⟨k1, k2, k3⟩ := lw_sp (rg E f) 8
  refine ⟨by omega, ?_, fun i hi => k3 i (by omega)⟩
  rw [show n - 1 = lw (rg E f) 8 by omega]
  exact k2 (by omega)
theorem rg_0 {ow : Nat → Nat → Nat} {f : Nat} (h : ∀ p, p < 8 → ow p p = 0) : rg (eO ow) f 0 = false := by
  cases hr : rg (eO ow) f 0 with
  | false => rfl
  | true =>
    obtain ⟨q, hq, h1, h2⟩ := rg_t.mp hr
    rw [wk] at h2
    have := of_decide_eq_true h2
    subst this
    exact absurd (h q hq) (eO_f.mp h1)
/-- what ring answers -/
def rAns (ow : Nat → Nat → Nat) (a : Int32) : Int32 := if mnF (eO ow) 8 = 9 then -1 else if a = -1 then nI (mnF (eO ow) 8) else if nI (mnF (eO ow) 8) ≤ a then -1 else
  if ∃ j, j < mnF (eO ow) 8 ∧ a = nI j then nI (pth (eO ow) (fsF (eO ow) 8).toNatClampNeg (mnF (eO ow) 8) a.toNatClampNeg) else lo ow (pth (eO ow) (fsF (eO ow) 8).toNatClampNeg (mnF (eO ow) 8)) (mnF (eO ow) 8) (mnF (eO ow) 8)
theorem best_L {σ0 : gx_R} {ow : Nat → Nat → Nat} {a : Int32} (hd : ∀ i, i < 8 → σ0 78 i = mk (eO ow i) 8) : ∀ m p n σ, p + m = 8 → m < n → (∀ c, c ≠ 79 → σ c = σ0 c) → ∃ σ', Qu_ofRing_8 n a (fsF (eO ow) p) (nI (mnF (eO ow) p)) (nI p) σ = Qu_ofRing_27 a (fsF (eO ow) 8) (nI (mnF (eO ow) 8)) σ' ∧ ∀ c, c ≠ 79 → σ' c = σ0 c := by
  intro m
  induction m with
  | zero =>
    intro p n σ h1 h2 h3
    obtain ⟨n, rfl⟩ : ∃ q, n = q + 1 := ⟨n - 1, by omega⟩
    obtain rfl : p = 8 := by omega
    refine ⟨σ, ?_, h3⟩
    rw [Qu_ofRing_8, Qu_ofRing_8_B, if_pos (show (8 : Int32) ≤ nI 8 by decide)]
  | succ m ih =>
    intro p n σ h1 h2 h3
    obtain ⟨n, rfl⟩ : ∃ q, n = q + 1 := ⟨n - 1, by omega⟩
    obtain ⟨σ1, r1, r2, -⟩ := ringFrom_v (σ := σ) (E := eO ow) (f := p) (by omega) (fun i hi => by rw [h3 78 (by omega)]; exact hd i hi)
    obtain ⟨σ2, j1, j2⟩ := ih (p + 1) n σ1 (by omega) (by omega) (fun c hc => by rw [r2 c hc]; exact h3 c hc)
    refine ⟨σ2, ?_, j2⟩
    obtain ⟨m1, m2, m3, m4⟩ := mn_sp (E := eO ow) p
    have e1 : nI p + 1 = nI (p + 1) := nI_add p 1
    rw [mnF, fsF] at j1
    rw [Qu_ofRing_8, Qu_ofRing_8_B, if_neg (fun z => by have := (nI_leI (a := 8) (by omega) (by omega)).mp z; omega), r1, w_bd, rgV]
    have l1 := (lw_sp (rg (eO ow) p) 8).1
    by_cases c : lw (rg (eO ow) p) 8 < 8
    · rw [if_pos c, if_neg (fun z => (n_m1 (by omega)).mp z)]
      by_cases c2 : mnF (eO ow) p ≤ lnF (eO ow) p
      · rw [if_neg (by omega), if_neg (by omega)] at j1
        unfold lnF at c2
        rw [if_pos ((nI_leI (by omega) (by omega)).mpr c2), Qu_ofRing_25, e1]
        exact j1
      · rw [if_pos (by omega), if_pos (by omega)] at j1
        unfold lnF at c2 j1
        rw [if_neg (fun z => c2 ((nI_leI (by omega) (by omega)).mp z)), Qu_ofRing_25, e1]
        exact j1
    · have c2 : ¬ lnF (eO ow) p < mnF (eO ow) p := by unfold lnF; omega
      rw [if_neg c2, if_neg c2] at j1
      rw [if_neg c, if_pos rfl, Qu_ofRing_25, e1]
      exact j1
theorem ofRing_v {σ : gx_R} {ow : Nat → Nat → Nat} {P : Nat} {a : Int32} (ho : OwC σ ow P) : ∃ σ', Qu_ofRing a σ = some (rAns ow a, σ') ∧ ∀ c, c ≠ 78 → c ≠ 79 → σ' c = σ c := by
  obtain ⟨σ1, d1, d2, d3⟩ := debts_v ho
  obtain ⟨σ2, b1, b2⟩ := best_L (a := a) d3 8 0 z_FU σ1 (by omega) (by have := z_FU_ge; omega) (fun _ _ => rfl)
  have b1' : Qu_ofRing_8 z_FU a (-1) 9 0 σ1 = Qu_ofRing_27 a (fsF (eO ow) 8) (nI (mnF (eO ow) 8)) σ2 := b1
  obtain ⟨m1, m2, m3, m4⟩ := mn_sp (E := eO ow) 8
  have fr : ∀ c, c ≠ 78 → c ≠ 79 → σ2 c = σ c := fun c h1 h2 => by rw [b2 c h2, d2 c h1]
  rw [Qu_ofRing, d1, w_bd, b1', Qu_ofRing_27, rAns]
  by_cases c1 : mnF (eO ow) 8 = 9
  · rw [m4 c1, if_pos rfl, Qu_ofRing_33, if_pos rfl, if_pos c1]
    exact ⟨σ2, rfl, fr⟩
  · rw [if_neg c1]
    obtain ⟨f, f1, f2, f3, f4⟩ := m3 (by omega)
    obtain ⟨n1, n2, n3⟩ := ln_r f3 (by omega)
    rw [f2, if_neg (fun z => (n_m1 (by omega)).mp z), cl_n (by omega)]
    by_cases c2 : a = -1
    · rw [if_pos c2, if_pos c2, Qu_ofRing_33, if_neg (fun z => (n_m1 (by omega)).mp z)]
      exact ⟨σ2, rfl, fr⟩
    · rw [if_neg c2, if_neg c2]
      have hd2 : ∀ i, i < 8 → σ2 78 i = mk (eO ow i) 8 := fun i hi => by rw [b2 78 (by omega)]; exact d3 i hi
      obtain ⟨σ3, r1, r2, r3⟩ := ringFrom_v (σ := σ2) (E := eO ow) (f := f) (by omega) hd2
      have fr3 : ∀ c, c ≠ 78 → c ≠ 79 → σ3 c = σ c := fun c h1 h2 => by rw [r2 c h2, fr c h1 h2]
      rw [r1, w_bd]
      by_cases c3 : nI (mnF (eO ow) 8) ≤ a
      · rw [if_pos c3, if_pos c3]
        exact ⟨σ3, rfl, fr3⟩
      · rw [if_neg c3, if_neg c3]
        have hl : lw (rg (eO ow) f) 8 = mnF (eO ow) 8 - 1 := by unfold lnF at f3; omega
        have n2b : 2 ≤ mnF (eO ow) 8 := by
          rcases Nat.lt_or_ge (mnF (eO ow) 8) 2 with z | z
          · have : mnF (eO ow) 8 - 1 = 0 := by omega
            rw [this, rg_0 (fun p hp => (ho p p hp hp).2.2 (Or.inr (Or.inr rfl)))] at n2
            cases n2
          · exact z
        have ho3 : OwC σ3 ow P := fun p q hp hq => by rw [fr3 14 (by omega) (by omega)]; exact ho p q hp hq
        have al := along_L (σ := σ3) (i := a) ho3 (show f < 8 by omega) n2b (by omega) n2 n3 (fun i hi => by rw [r2 78 (by omega)]; exact hd2 i hi) (fun q hq => by rw [← hl]; exact r3 (by omega) q hq) (mnF (eO ow) 8) 0 z_FU (by omega) (by have := z_FU_ge; omega) (fun j hj => absurd hj (Nat.not_lt_zero j))
        rw [if_neg (show ¬ 0 = mnF (eO ow) 8 by omega)] at al
        have al2 : Qu_alongRing (nI f) (nI (mnF (eO ow) 8)) a σ3 = _ := al
        rw [al2, w_bd]
        exact ⟨σ3, rfl, fr3⟩
/-! the reference -/
theorem isRing_v {τ : gx_R} {ow : Nat → Nat → Nat} {P f len : Nat} (hl : len ≤ 8) (hl2 : 2 ≤ len) (hP : P ≤ 8) (hf : f < P) (h0 : τ 110 0 = nI P) (hO : OwM τ ow) (hE : ∀ p q, eO ow p q = true → p < P ∧ q < P) (hm : ∀ i, i < len - 1 → rg (eO ow) f i = false) : ∃ τ', Md_isRing (nI f) (nI len) τ = some (bI (rg (eO ow) f (len - 1)), τ') ∧ (∀ c, c ≠ 151 → τ' c = τ c) ∧ (rg (eO ow) f (len - 1) = true → ∀ i, i < len → τ' 151 i = nI (pth (eO ow) f len i)) := by
  have hz := z_FU_ge
  have b7 : ∀ d, d ≤ 7 → 8 * rcc d ≤ 100000000 := by decide +kernel
  have b8 := b7 (len - 2) (by omega)
  have fr : ∀ c, c ≠ 151 → gx_up (gx_up τ 151 0 (nI f)) 151 1 (nI f) c = τ c := fun c hc => by rw [gx_up_ne hc, gx_up_ne hc]
  rw [Md_isRing, show (0 : Int32).toNatClampNeg = 0 from rfl, show (1 : Int32).toNatClampNeg = 1 from rfl]
  cases hr : rg (eO ow) f (len - 1) with
  | false =>
    obtain ⟨c, τ', y1, y2, y3, y4⟩ := ring_fail (τ0 := τ) (ow := ow) (P := P) (f := f) (len := len) hl hP hf h0 hO (len - 2) 0 (by omega) (fun _ => f) (fun i hi => by show f < 8; omega) (fun q hq y1 => by
      cases hh : wk (eO ow) f (len - (0 + 1)) q with
      | false => rfl
      | true =>
        rw [rg_t.mpr ⟨q, hq, y1, hh⟩] at hr
        cases hr) (P - f - 1) f _ (by omega) (Nat.le_refl _) fr (fun i hi => by
        obtain rfl : i = 0 := by omega
        rw [up_p _ _ _ (by omega), up_e]) (up_e _ _ _ _)
    have hc : c ≤ 8 * rcc (len - 2) := Nat.le_trans y1 (Nat.mul_le_mul_right _ (by omega))
    refine ⟨τ', ?_, y2, fun z => by cases z⟩
    have := y4 (z_FU - c - 1 + 1)
    rw [show z_FU - c - 1 + 1 + c = z_FU by omega, Md_isRing_12, Md_isRing_12_B, if_pos (show nI 0 ≤ 0 by decide)] at this
    exact this
  | true =>
    obtain ⟨c, τ', y1, y2, y3, y4⟩ := ring_ok (τ0 := τ) (ow := ow) (P := P) (f := f) (len := len) hl hP hf h0 hO hE hr hm (len - 2) 0 (by omega) (P - f - 1) f _ (by omega) (Nat.le_refl _) (pth_gt hr (by omega) (by omega)) fr (fun i hi => by
        obtain rfl : i = 0 := by omega
        rw [up_p _ _ _ (by omega), up_e]; rfl) (up_e _ _ _ _)
    have hc : c ≤ 8 * rcc (len - 2) := Nat.le_trans y1 (Nat.mul_le_mul_right _ (by omega))
    refine ⟨τ', ?_, y2, fun _ => y3⟩
    have := y4 (z_FU - c)
    rw [show z_FU - c + c = z_FU by omega] at this
    exact this
def RingR (ow : Nat → Nat → Nat) (τ' : gx_R) (v : Int32) : Prop := (mnF (eO ow) 8 = 9 → v = -1) ∧ (mnF (eO ow) 8 < 9 → v = nI (mnF (eO ow) 8) ∧ 2 ≤ mnF (eO ow) 8 ∧ ∃ f, fsF (eO ow) 8 = nI f ∧ f < 8 ∧ rg (eO ow) f (mnF (eO ow) 8 - 1) = true ∧ ∀ i, i < mnF (eO ow) 8 → τ' 151 i = nI (pth (eO ow) f (mnF (eO ow) 8) i))
theorem lays_in {τ0 : gx_R} {ow : Nat → Nat → Nat} {P len : Nat} {K2 : Int32 → gx_R → Option (Int32 × gx_R)} (hl : len ≤ 8) (hl2 : 2 ≤ len) (hP : P ≤ 8) (h0 : τ0 110 0 = nI P) (hO : OwM τ0 ow) (hE : ∀ p q, eO ow p q = true → p < P ∧ q < P) (hm : ∀ f i, i < len - 1 → rg (eO ow) f i = false) : ∀ m f n τ, f + m = P → m < n → (∀ c, c ≠ 151 → τ c = τ0 c) → (∀ i, i < f → rg (eO ow) i (len - 1) = false) → (∃ τ' v, Md_laysRing_10 K2 n (nI len) (nI f) τ = some (v, τ') ∧ (∀ c, c ≠ 151 → τ' c = τ0 c) ∧ RingR ow τ' v) ∨ ∃ τ', Md_laysRing_10 K2 n (nI len) (nI f) τ = K2 (nI (len + 1)) τ' ∧ (∀ c, c ≠ 151 → τ' c = τ0 c) ∧ ∀ i, i < P → rg (eO ow) i (len - 1) = false := by
  intro m
  induction m with
  | zero =>
    intro f n τ h1 h2 h3 h4
    obtain ⟨n, rfl⟩ : ∃ q, n = q + 1 := ⟨n - 1, by omega⟩
    obtain rfl : f = P := by omega
    refine Or.inr ⟨τ, ?_, h3, h4⟩
    rw [Md_laysRing_10, Md_laysRing_10_B, show (0 : Int32).toNatClampNeg = 0 from rfl, h3 110 (by omega), h0, if_pos ((nI_leI (by omega) (by omega)).mpr (Nat.le_refl _)), Md_laysRing_25, show nI len + 1 = nI (len + 1) from nI_add len 1]
  | succ m ih =>
    intro f n τ h1 h2 h3 h4
    obtain ⟨n, rfl⟩ : ∃ q, n = q + 1 := ⟨n - 1, by omega⟩
    have g0 : τ 110 0 = nI P := by rw [h3 110 (by omega)]; exact h0
    obtain ⟨τ1, r1, r2, r3⟩ := isRing_v (τ := τ) (ow := ow) (P := P) (f := f) (len := len) hl hl2 hP (by omega) g0 (fun p q hp hq => by rw [h3 110 (by omega)]; exact hO p q hp hq) hE (hm f)
    have fr1 : ∀ c, c ≠ 151 → τ1 c = τ0 c := fun c hc => by rw [r2 c hc]; exact h3 c hc
    rw [Md_laysRing_10, Md_laysRing_10_B, show (0 : Int32).toNatClampNeg = 0 from rfl, g0, if_neg (fun z => by have := (nI_leI (by omega) (by omega)).mp z; omega), r1, w_bd]
    cases hr : rg (eO ow) f (len - 1) with
    | false =>
      rw [bI_f, if_pos rfl, show nI f + 1 = nI (f + 1) from nI_add f 1]
      exact ih (f + 1) n τ1 (by omega) (by omega) fr1 (fun i hi => by
        by_cases z : i = f
        · rw [z]; exact hr
        · exact h4 i (by omega))
    | true =>
      rw [bI_t, if_neg (by decide)]
      refine Or.inl ⟨τ1, nI len, rfl, fr1, ?_⟩
      have lf : lnF (eO ow) f = len := by unfold lnF; rw [lw_eq (show len - 1 < 8 by omega) hr (hm f)]; omega
      have la : ∀ i, len ≤ lnF (eO ow) i := by
        intro i
        rcases Nat.lt_or_ge (lnF (eO ow) i) len with z | z
        · have := (ln_r (E := eO ow) (f := i) rfl (by omega)).2.1
          rw [hm i _ (by have := (ln_r (E := eO ow) (f := i) rfl (by omega)).1; omega)] at this
          cases this
        · exact z
      have lb : ∀ i, i < f → len < lnF (eO ow) i := by
        intro i hi
        rcases Nat.lt_or_ge len (lnF (eO ow) i) with z | z
        · exact z
        · have e : lnF (eO ow) i = len := by have := la i; omega
          have := (ln_r e (by omega)).2.1
          rw [h4 i hi] at this
          cases this
      obtain ⟨m1, m2, m3, m4⟩ := mn_sp (E := eO ow) 8
      have m5 := m2 f (by omega)
      obtain ⟨f0, g1, g2, g3, g4⟩ := m3 (by omega)
      have g5 := la f0
      have g6 : mnF (eO ow) 8 = len := by omega
      have g7 : f0 = f := by
        rcases Nat.lt_trichotomy f0 f with z | z | z
        · have := lb f0 z; omega
        · exact z
        · have := g4 f z; omega
      refine ⟨fun z => by omega, fun _ => ⟨by rw [g6], by omega, f, by rw [g2, g7], by omega, by rw [g6]; exact hr, fun i hi => ?_⟩⟩
      rw [g6]
      exact r3 hr i (by omega)
theorem lays_no {ow : Nat → Nat → Nat} {P len f0 M : Nat} (hE : ∀ p q, eO ow p q = true → p < P ∧ q < P) (hz0 : ∀ f, rg (eO ow) f 0 = false) (hl : P < len) (h5 : ∀ f i, i < len - 1 → rg (eO ow) f i = false) (h : M < 9) (g3 : lnF (eO ow) f0 = M) : False := by
  obtain ⟨n1, n2, n3⟩ := ln_r g3 h
  have n4 : 2 ≤ M := by
    rcases Nat.lt_or_ge M 2 with z | z
    · rw [show M - 1 = 0 by omega, hz0] at n2
      exact absurd n2 Bool.false_ne_true
    · exact z
  have n5 := pth_P hE n4 n2 n3
  have n6 := h5 f0 (M - 1) (by omega)
  exact absurd (n6.symm.trans n2) Bool.false_ne_true
theorem lays_out {τ0 : gx_R} {ow : Nat → Nat → Nat} {P : Nat} (hP : P ≤ 8) (h0 : τ0 110 0 = nI P) (hO : OwM τ0 ow) (hE : ∀ p q, eO ow p q = true → p < P ∧ q < P) (hz0 : ∀ f, rg (eO ow) f 0 = false) : ∀ m len n τ, len + m = P + 1 ∨ (m = 0 ∧ P < len) → m < n → 2 ≤ len → (∀ c, c ≠ 151 → τ c = τ0 c) → (∀ f i, i < len - 1 → rg (eO ow) f i = false) → len ≤ 9 → ∃ τ' v, Md_laysRing_2 n (nI len) τ = some (v, τ') ∧ (∀ c, c ≠ 151 → τ' c = τ0 c) ∧ RingR ow τ' v := by
  intro m
  induction m with
  | zero =>
    intro len n τ h1 h2 h3 h4 h5 h6
    obtain ⟨n, rfl⟩ : ∃ q, n = q + 1 := ⟨n - 1, by omega⟩
    refine ⟨τ, -1, ?_, h4, fun _ => rfl, fun h => ?_⟩
    · rw [Md_laysRing_2, Md_laysRing_2_B, show (0 : Int32).toNatClampNeg = 0 from rfl, h4 110 (by omega), h0, if_pos ((nI_ltI (by omega) (by omega)).mpr (by omega))]
    · exfalso
      obtain ⟨f0, -, -, g3, -⟩ := (mn_sp (E := eO ow) 8).2.2.1 h
      exact lays_no hE hz0 (by omega) h5 h g3
  | succ m ih =>
    intro len n τ h1 h2 h3 h4 h5 h6
    obtain ⟨n, rfl⟩ : ∃ q, n = q + 1 := ⟨n - 1, by omega⟩
    rw [Md_laysRing_2, Md_laysRing_2_B, show (0 : Int32).toNatClampNeg = 0 from rfl, h4 110 (by omega), h0, if_neg (fun z => by have := (nI_ltI (by omega) (by omega)).mp z; omega)]
    rcases lays_in (τ0 := τ0) (ow := ow) (P := P) (len := len) (K2 := Md_laysRing_2 n) (by omega) h3 hP h0 hO hE h5 P 0 z_FU τ (by omega) (by have := z_FU_ge; omega) h4 (fun i hi => absurd hi (Nat.not_lt_zero i)) with ⟨τ', v, r1, r2, r3⟩ | ⟨τ', r1, r2, r3⟩
    · exact ⟨τ', v, r1, r2, r3⟩
    · obtain ⟨τ2, v, s1, s2, s3⟩ := ih (len + 1) n τ' (by omega) (by omega) (by omega) r2 (fun f i hi => by
        by_cases z : i = len - 1
        · rw [z]
          rcases Nat.lt_or_ge f P with y | y
          · exact r3 f y
          · cases hr : rg (eO ow) f (len - 1) with
            | false => rfl
            | true =>
              obtain ⟨q, hq, k1, k2⟩ := rg_t.mp hr
              have := (hE _ _ k1).1
              omega
        · exact h5 f i (by omega)) (by omega)
      exact ⟨τ2, v, r1.trans s1, s2, s3⟩
theorem lo_m : ∀ n, n < 9 → 2 ≤ n → ∀ k, k < 8 → nI (k + 1) - nI (k + 1) / nI n * nI n = nI ((k + 1) % n) ∧ (k + 1) % n < n ∧ z_nzi (nI n) = true := by decide +kernel
theorem min_L {τ : gx_R} {ow : Nat → Nat → Nat} {r : Nat → Nat} {n : Nat} (hn : n < 9) (hn2 : 2 ≤ n) (hO : OwM τ ow) (hr : ∀ i, i < n → τ 151 i = nI (r i) ∧ r i < 8) : ∀ m k g, k + m = n → m < g → Md_ring_31 g (nI n) (lo ow r n k) (nI k) τ = some (lo ow r n n, τ) := by
  intro m
  induction m with
  | zero =>
    intro k g h1 h2
    obtain ⟨g, rfl⟩ : ∃ q, g = q + 1 := ⟨g - 1, by omega⟩
    obtain rfl : k = n := by omega
    rw [Md_ring_31, Md_ring_31_B, if_pos ((nI_leI (by omega) (by omega)).mpr (Nat.le_refl _))]
  | succ m ih =>
    intro k g h1 h2
    obtain ⟨g, rfl⟩ : ∃ q, g = q + 1 := ⟨g - 1, by omega⟩
    obtain ⟨e1, e2, e3⟩ := lo_m n hn hn2 k (by omega)
    obtain ⟨r1, r2⟩ := hr k (by omega)
    obtain ⟨r3, r4⟩ := hr ((k + 1) % n) e2
    have hi := ih (k + 1) g (by omega) (by omega)
    rw [lo] at hi
    have e4 : ((98 : Int32) + (8 : Int32) * nI (r k)) + nI (r ((k + 1) % n)) = nI (98 + (8 * r k + r ((k + 1) % n))) := by
      rw [show (98 : Int32) = nI 98 from rfl, show (8 : Int32) = nI 8 from rfl, pk_mul, nI_add, nI_add, Nat.add_assoc]
    rw [Md_ring_31, Md_ring_31_B, if_neg (fun z => by have := (nI_leI (by omega) (by omega)).mp z; omega), ix_n (by omega), decide_eq_true (show k < 8 by omega), w_ck, e3, w_ck, show nI k + 1 = nI (k + 1) from nI_add k 1, e1, ix_n (by omega), decide_eq_true (show (k + 1) % n < 8 by omega), w_ck, cl_n (by omega), cl_n (by omega), r1, r3, e4, ix_n (by omega), decide_eq_true (show 98 + (8 * r k + r ((k + 1) % n)) < 8880 by omega), w_ck, cl_n (by omega), (hO _ _ r2 r4).1]
    by_cases c : nI (ow (r k) (r ((k + 1) % n))) < lo ow r n k
    · rw [if_pos c] at hi
      rw [if_neg (Int32.not_le.mpr c), Md_ring_61, show nI k + 1 = nI (k + 1) from nI_add k 1]
      exact hi
    · rw [if_neg c] at hi
      rw [if_pos (Int32.not_lt.mp c), Md_ring_61, show nI k + 1 = nI (k + 1) from nI_add k 1]
      exact hi
theorem S_ring {σ τ : gx_R} (r : Rel σ τ) (a : Int32) : SimP (Sf_ring a) (Md_ring a) σ τ := by
  obtain ⟨P, W, H, K, T, P', W', H', K', T', rr⟩ := id r
  have r1 := rr.1
  have hP := r1.1.1.1
  have p2 : τ 110 0 = nI P := r1.1.2.1.2.1
  have h12 := r1.2.1.2.2.2.2.2.2.2.2.2.1
  obtain ⟨ow, how⟩ : ∃ ow : Nat → Nat → Nat, ow = fun p q => if p < 8 ∧ q < 8 then (σ 14 (8 * p + q)).toNatClampNeg else 0 := ⟨_, rfl⟩
  have hC : OwC σ ow P := by
    intro p q hp hq
    obtain ⟨o, o1, o2, o3⟩ := h12 p q hp hq
    rw [nu_e σ _ (by omega)] at o2
    have o2 : σ 14 (8 * p + q) = nI o := o2
    have e : ow p q = o := by rw [how]; show (if p < 8 ∧ q < 8 then (σ 14 (8 * p + q)).toNatClampNeg else 0) = o; rw [if_pos ⟨hp, hq⟩, o2, cl_n (by omega)]
    rw [e]
    exact ⟨o2, o1, o3⟩
  have hM : OwM τ ow := fun p q hp hq => ⟨by rw [owes_eq r1 (by omega)]; exact (hC p q hp hq).1, (hC p q hp hq).2.1⟩
  have hE8 : ∀ p q, eO ow p q = true → p < P ∧ q < P := by
    intro p q h
    have h2 := eO_f.mp h
    by_cases z : p < 8 ∧ q < 8
    · have h3 := (hC p q z.1 z.2).2.2
      refine Classical.byContradiction (fun y => h2 (h3 (by omega)))
    · exact absurd (show ow p q = 0 by rw [how]; exact if_neg z) h2
  have hz0 : ∀ f, rg (eO ow) f 0 = false := fun f => rg_0 (fun p hp => (hC p p hp hp).2.2 (Or.inr (Or.inr rfl)))
  obtain ⟨τ', v, l1, l2, l3, l4⟩ := lays_out hP p2 hM hE8 hz0 (P - 1) 2 z_FU τ (by omega) (by have := z_FU_ge; omega) (Nat.le_refl _) (fun _ _ => rfl) (fun f i hi => by
    obtain rfl : i = 0 := by omega
    exact hz0 f) (by omega)
  have l1 : Md_laysRing τ = some (v, τ') := l1
  obtain ⟨m1, m2, m3, m4⟩ := mn_sp (E := eO ow) 8
  have sm1 : sm τ τ' := ⟨fun k hk => l2 k (by omega), fun j hj => by rw [l2 109 (by omega)]⟩
  have mO : OwM τ' ow := fun p q hp hq => by rw [l2 110 (by omega)]; exact hM p q hp hq
  by_cases c1 : a < -2
  · refine SimP_sc r (-1) (σ' := σ) (τ' := τ') ?_ ?_ (sc_rf σ) sm1
    · rw [Sf_ring, if_pos c1, Sf_ring_6]
    · rw [Md_ring, l1, w_bd]
      by_cases c2 : v = -1
      · rw [if_pos c2]
      · rw [if_neg c2, if_pos c1]
  · by_cases c3 : a < 8
    · obtain ⟨σ', o1, o2⟩ := ofRing_v (a := a) hC
      refine SimP_sc r (rAns ow a) (σ' := σ') (τ' := τ') ?_ ?_ (fun k hk => o2 k (by omega) (by omega)) sm1
      · rw [Sf_ring, if_neg c1, if_pos c3, o1, w_bd]
      · rw [Md_ring, l1, w_bd, rAns]
        by_cases c4 : mnF (eO ow) 8 = 9
        · rw [if_pos (l3 c4), if_pos c4]
        · obtain ⟨k1, k2, f, k3, k4, k5, k6⟩ := l4 (by omega)
          rw [k1, if_neg (fun z => (n_m1 (by omega)).mp z), if_neg c1, if_neg c4, k3, cl_n (by omega)]
          have pr : ∀ i, i < mnF (eO ow) 8 → τ' 151 i = nI (pth (eO ow) f (mnF (eO ow) 8) i) ∧ pth (eO ow) f (mnF (eO ow) 8) i < 8 := fun i hi => ⟨k6 i hi, pth_8 k4 k5 (by omega)⟩
          by_cases c5 : a < nI (mnF (eO ow) 8)
          · rw [if_pos c5, if_neg (Int32.not_le.mpr c5)]
            by_cases c6 : a < -1
            · have e : a = -2 := by grind
              rw [if_pos c6, if_neg (by rw [e]; decide), if_neg (fun ⟨j, y1, y2⟩ => by
                rw [y2] at c6
                exact absurd c6 (fun z => by
                  have : nI j < 0 := by grind
                  exact (n_lt0 (by omega)).mp this))]
              exact min_L (by omega) k2 mO pr (mnF (eO ow) 8) 0 z_FU (by omega) (by have := z_FU_ge; omega)
            · rw [if_neg c6]
              by_cases c7 : a = -1
              · rw [if_pos c7, if_pos c7]
              · rw [if_neg c7, if_neg c7]
                obtain ⟨j, j1, rfl⟩ := nI_of (x := a) (fun z => c7 (by grind))
                have j2 := (nI_ltI j1 (by omega)).mp c5
                rw [ix_n (by omega), decide_eq_true (show j < 8 by omega), w_ck, cl_n (by omega), k6 j j2, if_pos ⟨j, j2, rfl⟩]
          · rw [if_neg c5, if_pos (Int32.not_lt.mp c5)]
            by_cases c7 : a = -1
            · exfalso
              rw [c7] at c5
              exact c5 (by
                have : (0 : Int32) ≤ nI (mnF (eO ow) 8) := (n_0le (by omega)).mpr trivial
                grind)
            · rw [if_neg c7]
    · refine SimP_sc r (-1) (σ' := σ) (τ' := τ') ?_ ?_ (sc_rf σ) sm1
      · rw [Sf_ring, if_neg c1, if_neg c3, Sf_ring_6]
      · rw [Md_ring, l1, w_bd]
        by_cases c2 : mnF (eO ow) 8 = 9
        · rw [if_pos (l3 c2)]
        · obtain ⟨k1, k2, -⟩ := l4 (by omega)
          rw [k1, if_neg (fun z => (n_m1 (by omega)).mp z), if_neg c1, if_neg]
          intro z
          have : nI (mnF (eO ow) 8) ≤ 8 := (nI_leI (b := 8) (by omega) (by omega)).mpr (by omega)
          grind
