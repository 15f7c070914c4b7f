/-! ===== who sleeps for whom: what it is ===== -/
def gP (key : (Nat → Nat) → Nat) (n : Nat) (en : Nat → Int32) (S : (Nat → Nat) → Prop) (b : Nat) (pl : Nat → Int32) (b' : Nat) (pl' : Nat → Int32) : Prop :=
  (b' = b ∧ (∀ i, i < n → pl' i = pl i) ∧ ∀ u, S u → b ≤ key u) ∨
  (b' < b ∧ ∃ u, S u ∧ key u = b' ∧ (∀ i, i < n → pl' i = en (u i)) ∧ ∀ w, S w → b' ≤ key w ∧ (key w = b' → roE n u w))
theorem gP_le {key : (Nat → Nat) → Nat} {n : Nat} {en : Nat → Int32} {S : (Nat → Nat) → Prop} {b b' : Nat} {pl pl' : Nat → Int32} (h : gP key n en S b pl b' pl') : b' ≤ b := by
  rcases h with ⟨h, -⟩ | ⟨h, -⟩ <;> omega
theorem gP_no {key : (Nat → Nat) → Nat} {n : Nat} {en : Nat → Int32} {S : (Nat → Nat) → Prop} {b : Nat} {pl : Nat → Int32} (h : ∀ u, S u → b ≤ key u) : gP key n en S b pl b pl := Or.inl ⟨rfl, fun _ _ => rfl, h⟩
theorem gP_eq {key : (Nat → Nat) → Nat} {n : Nat} {en : Nat → Int32} {S S' : (Nat → Nat) → Prop} {b b' : Nat} {pl pl' : Nat → Int32} (h : ∀ u, S u ↔ S' u) (hp : gP key n en S b pl b' pl') : gP key n en S' b pl b' pl' := by
  rcases hp with ⟨h1, h2, h3⟩ | ⟨h1, u, h2, h3, h4, h5⟩
  · exact Or.inl ⟨h1, h2, fun u z => h3 u ((h u).mpr z)⟩
  · exact Or.inr ⟨h1, u, (h u).mp h2, h3, h4, fun w z => h5 w ((h w).mpr z)⟩
theorem gP_pl {key : (Nat → Nat) → Nat} {n : Nat} {en : Nat → Int32} {S : (Nat → Nat) → Prop} {b b' : Nat} {pl pl0 pl' : Nat → Int32} (h : ∀ i, i < n → pl0 i = pl i) (hp : gP key n en S b pl0 b' pl') : gP key n en S b pl b' pl' := by
  rcases hp with ⟨h1, h2, h3⟩ | hp
  · exact Or.inl ⟨h1, fun i hi => by rw [h2 i hi, h i hi], h3⟩
  · exact Or.inr hp
theorem gP_tr {key : (Nat → Nat) → Nat} {n : Nat} {en : Nat → Int32} {S1 S2 S : (Nat → Nat) → Prop} {b b1 b2 : Nat} {pl pl1 pl2 : Nat → Int32} (h1 : gP key n en S1 b pl b1 pl1) (h2 : gP key n en S2 b1 pl1 b2 pl2) (h : ∀ u, S u ↔ S1 u ∨ S2 u) (hl : ∀ u w, S1 u → S2 w → roE n u w) : gP key n en S b pl b2 pl2 := by
  rcases h1 with ⟨a1, a2, a3⟩ | ⟨a1, u, a2, a3, a4, a5⟩
  · rcases h2 with ⟨c1, c2, c3⟩ | ⟨c1, u2, c2, c3, c4, c5⟩
    · refine Or.inl ⟨by omega, fun i hi => by rw [c2 i hi, a2 i hi], fun w z => ?_⟩
      rcases (h w).mp z with z | z
      · exact a3 w z
      · have := c3 w z; omega
    · refine Or.inr ⟨by omega, u2, (h u2).mpr (Or.inr c2), c3, c4, fun w z => ?_⟩
      rcases (h w).mp z with z | z
      · have := a3 w z; exact ⟨by omega, fun y => by omega⟩
      · exact c5 w z
  · rcases h2 with ⟨c1, c2, c3⟩ | ⟨c1, u2, c2, c3, c4, c5⟩
    · refine Or.inr ⟨by omega, u, (h u).mpr (Or.inl a2), by omega, fun i hi => by rw [c2 i hi, a4 i hi], fun w z => ?_⟩
      rcases (h w).mp z with z | z
      · have := a5 w z; exact ⟨by omega, fun y => this.2 (by omega)⟩
      · have := c3 w z; exact ⟨by omega, fun y => hl u w a2 z⟩
    · refine Or.inr ⟨by omega, u2, (h u2).mpr (Or.inr c2), c3, c4, fun w z => ?_⟩
      rcases (h w).mp z with z | z
      · have := (a5 w z).1; exact ⟨by omega, fun y => by omega⟩
      · exact c5 w z
def pFu (Wt : Nat → Nat → Nat) (c : Nat → Nat) : Nat → Nat → Nat
  | 0, _ => 0
  | k + 1, w => pFu Wt c k w + (if c k = w then Wt k w else 0)
def pCo (nw : Nat) (Pc : Nat → Nat → Nat) (c : Nat → Nat) : Nat → Nat
  | 0 => 0
  | k + 1 => pCo nw Pc c k + (if c k < nw then Pc k (c k) else 0)
def pCn (nw : Nat) (c : Nat → Nat) : Nat → Nat
  | 0 => 0
  | k + 1 => pCn nw c k + (if c k < nw then 1 else 0)
def pOk (nw : Nat) (al : Nat → Nat → Bool) (c : Nat → Nat) (s : Nat) : Prop := c s = nw ∨ (c s < nw ∧ al s (c s) = true)
def pVal (nw ns : Nat) (al : Nat → Nat → Bool) (Wt : Nat → Nat → Nat) (B : Nat → Nat) (c : Nat → Nat) : Prop := (∀ s, s < ns → pOk nw al c s) ∧ ∀ w, w < nw → B w ≤ pFu Wt c ns w
def pRs (al : Nat → Nat → Bool) (Wt : Nat → Nat → Nat) (w : Nat) : Nat → Nat → Nat
  | _, 0 => 0
  | s, d + 1 => (if al s w = true then Wt s w else 0) + pRs al Wt w (s + 1) d
def pUn (Wt : Nat → Nat → Nat) (B : Nat → Nat) (c : Nat → Nat) (s nw : Nat) : Nat := cB (fun w => decide (pFu Wt c s w < B w)) nw
theorem pFu_c {Wt : Nat → Nat → Nat} {c c' : Nat → Nat} (w : Nat) : ∀ k, (∀ i, i < k → c i = c' i) → pFu Wt c k w = pFu Wt c' k w := by
  intro k
  induction k with
  | zero => intro _; rfl
  | succ k ih => intro z; rw [pFu, pFu, ih (fun i hi => z i (by omega)), z k (by omega)]
theorem pCo_c {nw : Nat} {Pc : Nat → Nat → Nat} {c c' : Nat → Nat} : ∀ k, (∀ i, i < k → c i = c' i) → pCo nw Pc c k = pCo nw Pc c' k := by
  intro k
  induction k with
  | zero => intro _; rfl
  | succ k ih => intro z; rw [pCo, pCo, ih (fun i hi => z i (by omega)), z k (by omega)]
theorem pCn_c {nw : Nat} {c c' : Nat → Nat} : ∀ k, (∀ i, i < k → c i = c' i) → pCn nw c k = pCn nw c' k := by
  intro k
  induction k with
  | zero => intro _; rfl
  | succ k ih => intro z; rw [pCn, pCn, ih (fun i hi => z i (by omega)), z k (by omega)]
theorem pFu_b {Wt : Nat → Nat → Nat} {c : Nat → Nat} {M : Nat} {w : Nat} : ∀ k, (∀ s, s < k → c s = w → Wt s w ≤ M) → pFu Wt c k w ≤ M * k := by
  intro k
  induction k with
  | zero => intro _; exact Nat.zero_le _
  | succ k ih =>
    intro h
    have h1 := ih (fun s hs => h s (by omega))
    rw [pFu, Nat.mul_succ]
    by_cases z : c k = w
    · rw [if_pos z]; have := h k (by omega) z; omega
    · rw [if_neg z]; omega
theorem pCo_b {nw : Nat} {Pc : Nat → Nat → Nat} {c : Nat → Nat} {M : Nat} : ∀ k, (∀ s, s < k → c s < nw → Pc s (c s) ≤ M) → pCo nw Pc c k ≤ M * k := by
  intro k
  induction k with
  | zero => intro _; exact Nat.zero_le _
  | succ k ih =>
    intro h
    have h1 := ih (fun s hs => h s (by omega))
    rw [pCo, Nat.mul_succ]
    by_cases z : c k < nw
    · rw [if_pos z]; have := h k (by omega) z; omega
    · rw [if_neg z]; omega
theorem pCn_b {nw : Nat} {c : Nat → Nat} : ∀ k, pCn nw c k ≤ k := by
  intro k
  induction k with
  | zero => exact Nat.le_refl _
  | succ k ih =>
    rw [pCn]
    by_cases z : c k < nw
    · rw [if_pos z]; omega
    · rw [if_neg z]; omega
theorem pRs_b {al : Nat → Nat → Bool} {Wt : Nat → Nat → Nat} {M w : Nat} : ∀ d s, (∀ i, i < s + d → al i w = true → Wt i w ≤ M) → pRs al Wt w s d ≤ M * d := by
  intro d
  induction d with
  | zero => intro s _; exact Nat.zero_le _
  | succ d ih =>
    intro s h
    have h1 := ih (s + 1) (fun i hi => h i (by omega))
    rw [pRs, Nat.mul_succ]
    by_cases z : al s w = true
    · rw [if_pos z]; have := h s (by omega) z; omega
    · rw [if_neg z]; omega
theorem pFu_rs {nw : Nat} {al : Nat → Nat → Bool} {Wt : Nat → Nat → Nat} {c : Nat → Nat} {w : Nat} (hw : w < nw) : ∀ d s, (∀ i, i < s + d → pOk nw al c i) → pFu Wt c (s + d) w ≤ pFu Wt c s w + pRs al Wt w s d := by
  intro d
  induction d with
  | zero => intro s _; exact Nat.le_refl _
  | succ d ih =>
    intro s h
    have h1 := ih (s + 1) (fun i hi => h i (by omega))
    rw [show s + (d + 1) = s + 1 + d by omega, pRs]
    rw [pFu] at h1
    by_cases z : c s = w
    · rw [if_pos z] at h1
      have := h s (by omega)
      unfold pOk at this
      rw [z] at this
      rcases this with y | ⟨-, y⟩
      · omega
      · rw [if_pos y]; omega
    · rw [if_neg z] at h1; omega
theorem cB_le1 {f g : Nat → Bool} {j : Nat} : ∀ n, (∀ i, i < n → i ≠ j → f i = g i) → cB f n ≤ cB g n + 1 := by
  intro n
  induction n with
  | zero => intro _; exact Nat.zero_le _
  | succ n ih =>
    intro h
    rw [cB, cB]
    by_cases e : n = j
    · have h1 : cB f n = cB g n := cB_cong (fun i hi => h i (by omega) (by omega))
      have h2 : (f n).toNat ≤ 1 := Bool.toNat_le _
      omega
    · have := ih (fun i hi hj => h i (by omega) hj)
      rw [h n (by omega) e]; omega
theorem pUn_s {nw : Nat} {al : Nat → Nat → Bool} {Wt : Nat → Nat → Nat} {B c : Nat → Nat} {s : Nat} (h : pOk nw al c s) : pUn Wt B c s nw ≤ pUn Wt B c (s + 1) nw + (if c s < nw then 1 else 0) := by
  unfold pUn
  by_cases z : c s < nw
  · rw [if_pos z]
    refine cB_le1 (j := c s) nw (fun i hi hj => ?_)
    rw [pFu, if_neg (fun y => hj y.symm), Nat.add_zero]
  · rw [if_neg z, cB_cong (g := fun w => decide (pFu Wt c (s + 1) w < B w)) (fun i hi => by
      rw [pFu, if_neg (show ¬ c s = i by omega), Nat.add_zero])]
    exact Nat.le_refl _
theorem prune {nw ns lp : Nat} {al : Nat → Nat → Bool} {Wt Pc : Nat → Nat → Nat} {B c : Nat → Nat} (hv : pVal nw ns al Wt B c) (hl : ∀ s w, s < ns → w < nw → al s w = true → lp ≤ Pc s w) : ∀ d s, s + d = ns → pCo nw Pc c s + pUn Wt B c s nw * lp ≤ pCo nw Pc c ns ∧ pCn nw c s + pUn Wt B c s nw ≤ pCn nw c ns := by
  intro d
  induction d with
  | zero =>
    intro s h
    obtain rfl : s = ns := by omega
    have : pUn Wt B c s nw = 0 := by
      have h1 : pUn Wt B c s nw = cB (fun _ => false) nw := cB_cong (fun i hi => decide_eq_false (fun z => by have := hv.2 i hi; omega))
      rw [h1]
      clear h1 hv hl h
      induction nw with
      | zero => rfl
      | succ n ih => rw [cB, ih]; rfl
    rw [this, Nat.zero_mul]
    exact ⟨Nat.le_refl _, Nat.le_refl _⟩
  | succ d ih =>
    intro s h
    obtain ⟨h1, h2⟩ := ih (s + 1) (by omega)
    have h3 := pUn_s (Wt := Wt) (B := B) (hv.1 s (by omega))
    rw [pCo] at h1
    rw [pCn] at h2
    by_cases z : c s < nw
    · rw [if_pos z] at h1 h2 h3
      have h4 : al s (c s) = true := by
        rcases hv.1 s (by omega) with y | ⟨-, y⟩
        · omega
        · exact y
      have h5 := hl s (c s) (by omega) z h4
      have h6 : pUn Wt B c s nw * lp ≤ (pUn Wt B c (s + 1) nw + 1) * lp := Nat.mul_le_mul_right _ h3
      rw [Nat.succ_mul] at h6
      exact ⟨by omega, by omega⟩
    · rw [if_neg z] at h1 h2 h3
      have h6 : pUn Wt B c s nw * lp ≤ pUn Wt B c (s + 1) nw * lp := Nat.mul_le_mul_right _ h3
      exact ⟨by omega, by omega⟩
/-! listing a set -/
def nth (f : Nat → Bool) (j : Nat) : Nat := lw (fun p => f p && decide (cB f p = j)) 8
theorem nth_v {f : Nat → Bool} {p : Nat} (hp : p < 8) (hf : f p = true) : nth f (cB f p) = p := by
  unfold nth
  refine lw_eq hp (by rw [hf, decide_eq_true rfl]; rfl) (fun i hi => ?_)
  cases hg : f i with
  | false => rfl
  | true => rw [decide_eq_false (fun z => by have := cB_inj hg hf z; omega)]; rfl
theorem nth_sp {f : Nat → Bool} {j : Nat} (h : j < cB f 8) : nth f j < 8 ∧ f (nth f j) = true ∧ cB f (nth f j) = j := by
  obtain ⟨p, p1, p2, p3⟩ := cB_ex 8 h
  have := nth_v p1 p2
  rw [p3] at this
  rw [this]
  exact ⟨p1, p2, p3⟩
theorem list_L {σ0 : gx_R} {G : Int32} {b1 len : Nat} (hb : (lay0 b1).2.1 = len) (hl : cB (bt G) 8 ≤ len) (hl8 : len ≤ 8) : ∀ m p f σ, p + m = 8 → m < f → (∀ c, c ≠ b1 → σ c = σ0 c) → (∀ q, q < p → bt G q = true → σ b1 (cB (bt G) q) = nI q) → ∃ σ', Pa_list_4 f G b1 (nI (cB (bt G) p)) (nI p) σ = some (nI (cB (bt G) 8), σ') ∧ (∀ c, c ≠ b1 → σ' c = σ0 c) ∧ ∀ q, q < 8 → bt G q = true → σ' b1 (cB (bt G) q) = nI q := by
  intro m
  induction m with
  | zero =>
    intro p f σ h1 h2 h3 h4
    obtain ⟨f, rfl⟩ : ∃ q, f = q + 1 := ⟨f - 1, by omega⟩
    obtain rfl : p = 8 := by omega
    refine ⟨σ, ?_, h3, h4⟩
    rw [Pa_list_4, Pa_list_4_B, if_pos (show (8 : Int32) ≤ nI 8 by decide)]
  | succ m ih =>
    intro p f σ h1 h2 h3 h4
    obtain ⟨f, rfl⟩ : ∃ q, f = q + 1 := ⟨f - 1, by omega⟩
    have e1 : nI p + 1 = nI (p + 1) := nI_add p 1
    have hc := cB_mono (bt G) (p := p) 8 (by omega)
    have hB : cB (bt G) (p + 1) = cB (bt G) p + (bt G p).toNat := rfl
    rw [Pa_list_4, Pa_list_4_B, if_neg (fun z => by have := (nI_leI (a := 8) (by omega) (by omega)).mp z; omega), hb]
    by_cases c : len ≤ cB (bt G) p
    · rw [if_pos ((nI_leI (by omega) (by omega)).mpr c)]
      refine ⟨σ, by rw [show cB (bt G) p = cB (bt G) 8 by omega], h3, fun q hq hq2 => ?_⟩
      rcases Nat.lt_or_ge q p with y | y
      · exact h4 q y hq2
      · have := cB_lt (f := bt G) hq hq2
        have := cB_mono (bt G) (p := p) q y
        omega
    · rw [if_neg (fun z => c ((nI_leI (by omega) (by omega)).mp z))]
      cases hg : bt G p with
      | false =>
        have hB2 : cB (bt G) (p + 1) = cB (bt G) p := by rw [hB, hg]; rfl
        rw [if_neg (fun z => by have := (h_1 (by omega)).mp z; rw [hg] at this; cases this), Pa_list_23, e1, ← hB2]
        exact ih (p + 1) f σ (by omega) (by omega) h3 (fun q hq hq2 => by
          by_cases z : q = p
          · rw [z, hg] at hq2; cases hq2
          · exact h4 q (by omega) hq2)
      | true =>
        have hB2 : cB (bt G) (p + 1) = cB (bt G) p + 1 := by rw [hB, hg]; rfl
        rw [if_pos ((h_1 (by omega)).mpr hg), ix_n (by omega), decide_eq_true (show cB (bt G) p < len by omega), w_ck, cl_n (by omega), Pa_list_23, e1, show nI (cB (bt G) p) + 1 = nI (cB (bt G) p + 1) from nI_add _ 1, ← hB2]
        exact ih (p + 1) f _ (by omega) (by omega) (fun c hc => by rw [gx_up_ne hc]; exact h3 c hc) (fun q hq hq2 => by
          by_cases z : q = p
          · rw [z, up_e]
          · have := cB_lt (f := bt G) (show q < p by omega) hq2
            rw [up_p _ _ _ (by omega)]; exact h4 q (by omega) hq2)
theorem list_v {σ : gx_R} {G : Int32} {b1 len : Nat} (hb : (lay0 b1).2.1 = len) (hl : cB (bt G) 8 ≤ len) (hl8 : len ≤ 8) : ∃ σ', Pa_list G b1 σ = some (nI (cB (bt G) 8), σ') ∧ (∀ c, c ≠ b1 → σ' c = σ c) ∧ ∀ j, j < cB (bt G) 8 → σ' b1 j = nI (nth (bt G) j) := by
  obtain ⟨σ', i1, i2, i3⟩ := list_L (σ0 := σ) (G := G) hb hl hl8 8 0 z_FU σ (by omega) (by have := z_FU_ge; omega) (fun _ _ => rfl) (fun q hq => absurd hq (Nat.not_lt_zero q))
  refine ⟨σ', i1, i2, fun j hj => ?_⟩
  obtain ⟨n1, n2, n3⟩ := nth_sp hj
  have := i3 _ n1 n2
  rw [n3] at this
  exact this
theorem lay64 : (lay0 64).2.1 = 4 ∧ (lay0 65).2.1 = 6 := ⟨rfl, rfl⟩
