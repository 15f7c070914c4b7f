/-! ===== who can't ===== -/
def wcB (B : Nat → Nat) (g : Nat) : Nat → Nat
  | 0 => 0
  | k + 1 => wcB B g k + (if bt (nI g) k = true then B k else 0)
def wcM (al : Nat → Nat → Bool) (Wt : Nat → Nat → Nat) (g s : Nat) : Nat → Nat
  | 0 => 0
  | k + 1 => if bt (nI g) k = true ∧ al s k = true ∧ wcM al Wt g s k < Wt s k then Wt s k else wcM al Wt g s k
def wcS (nw : Nat) (al : Nat → Nat → Bool) (Wt : Nat → Nat → Nat) (g : Nat) : Nat → Nat
  | 0 => 0
  | k + 1 => wcS nw al Wt g k + wcM al Wt g k nw
def wcP (wk : Nat → Nat) (g : Nat) : Nat → Int32
  | 0 => 0
  | k + 1 => wcP wk g k ||| (if bt (nI g) k = true then (1 : Int32) <<< (nI (wk k) &&& 31) else 0)
theorem wcB_b {B : Nat → Nat} {g : Nat} : ∀ k, (∀ w, w < k → B w ≤ 99) → wcB B g k ≤ 99 * k := by
  intro k
  induction k with
  | zero => intro _; exact Nat.zero_le _
  | succ k ih =>
    intro h
    have h1 := ih (fun w hw => h w (by omega))
    have h2 := h k (by omega)
    rw [wcB, Nat.mul_succ]
    split <;> omega
theorem wcM_b {al : Nat → Nat → Bool} {Wt : Nat → Nat → Nat} {g s : Nat} : ∀ k, (∀ w, w < k → Wt s w ≤ 99) → wcM al Wt g s k ≤ 99 := by
  intro k
  induction k with
  | zero => intro _; exact Nat.zero_le _
  | succ k ih =>
    intro h
    have h1 := ih (fun w hw => h w (by omega))
    have h2 := h k (by omega)
    rw [wcM]
    split <;> omega
theorem wcS_b {nw : Nat} {al : Nat → Nat → Bool} {Wt : Nat → Nat → Nat} {g : Nat} : ∀ k, (∀ s w, s < k → w < nw → Wt s w ≤ 99) → wcS nw al Wt g k ≤ 99 * k := by
  intro k
  induction k with
  | zero => intro _; exact Nat.zero_le _
  | succ k ih =>
    intro h
    have h1 := ih (fun s w hs hw => h s w (by omega) hw)
    have h2 := wcM_b (al := al) (g := g) nw (fun w hw => h k w (by omega) hw)
    rw [wcS, Nat.mul_succ]
    omega
theorem shl_0 (k : Nat) (hk : k < 8) : (0 : Int32) <<< (nI k &&& 31) = 0 := by
  apply b_ext
  intro i hi
  rw [b_shl k (by omega) 0 hi, b_0, b_0, Bool.and_false]
/-! the class -/
theorem cB_v {nw ns lp g : Nat} {wk : Nat → Nat} {al : Nat → Nat → Bool} {B : Nat → Nat} {Wt Pc : Nat → Nat → Nat} {σ : gx_R} (hD : PairD nw ns wk al B Wt Pc lp σ) : ∀ m k f, k + m = nw → m < f → Pa_burnOfGroup_4 f (nI g) (nI (wcB B g k)) (nI k) σ = some (nI (wcB B g nw), σ) := by
  intro m
  induction m with
  | zero =>
    intro k f h1 h2
    obtain ⟨f, rfl⟩ : ∃ q, f = q + 1 := ⟨f - 1, by omega⟩
    obtain rfl : k = nw := by omega
    rw [Pa_burnOfGroup_4, Pa_burnOfGroup_4_B, hD.2.1.1, if_pos ((nI_leI (by have := hD.1.1; omega) (by have := hD.1.1; omega)).mpr (Nat.le_refl _))]
  | succ m ih =>
    intro k f h1 h2
    obtain ⟨f, rfl⟩ : ∃ q, f = q + 1 := ⟨f - 1, by omega⟩
    have d4 := hD.1.1
    have hi := ih (k + 1) f (by omega) (by omega)
    rw [wcB] at hi
    rw [Pa_burnOfGroup_4, Pa_burnOfGroup_4_B, hD.2.1.1, if_neg (fun z => by have := (nI_leI (by omega) (by omega)).mp z; omega)]
    cases hb : bt (nI g) k with
    | true =>
      rw [hb, if_pos rfl] at hi
      rw [if_pos ((h_1 (by omega)).mpr hb), ix_n (by omega), decide_eq_true (show k < 4 by omega), w_ck, cl_n (by omega), (hD.2.2.2.1 k (by omega)).1, Pa_burnOfGroup_22, nI_add, show nI k + 1 = nI (k + 1) from nI_add k 1]
      exact hi
    | false =>
      rw [hb, if_neg (by decide)] at hi
      rw [if_neg (fun z => by have := (h_1 (by omega)).mp z; rw [hb] at this; cases this), Pa_burnOfGroup_22, show nI (wcB B g k) + 0 = nI (wcB B g k + 0) from nI_add _ 0, show nI k + 1 = nI (k + 1) from nI_add k 1]
      exact hi
theorem cM_v {nw ns lp g s : Nat} {wk : Nat → Nat} {al : Nat → Nat → Bool} {B : Nat → Nat} {Wt Pc : Nat → Nat → Nat} {σ : gx_R} {K4 : Int32 → Int32 → Int32 → gx_R → Option (Int32 × gx_R)} {a2 : Int32} (hD : PairD nw ns wk al B Wt Pc lp σ) (hs : s < ns) : ∀ m k f, k + m = nw → m < f → Pa_worthForGroup_12 K4 f (nI g) a2 (nI s) (nI (wcM al Wt g s k)) (nI k) σ = K4 (nI g) (a2 + nI (wcM al Wt g s nw)) (nI (s + 1)) σ := by
  have d4 := hD.1.1
  have d6 := hD.1.2.1
  intro m
  induction m with
  | zero =>
    intro k f h1 h2
    obtain ⟨f, rfl⟩ : ∃ q, f = q + 1 := ⟨f - 1, by omega⟩
    obtain rfl : k = nw := by omega
    rw [Pa_worthForGroup_12, Pa_worthForGroup_12_B, hD.2.1.1, if_pos ((nI_leI (by omega) (by omega)).mpr (Nat.le_refl _)), Pa_worthForGroup_36, show nI s + 1 = nI (s + 1) from nI_add s 1]
  | succ m ih =>
    intro k f h1 h2
    obtain ⟨f, rfl⟩ : ∃ q, f = q + 1 := ⟨f - 1, by omega⟩
    have hi := ih (k + 1) f (by omega) (by omega)
    obtain ⟨w1, -, w3, -⟩ := hD.2.2.2.2.1 s k hs (by omega)
    have hb2 := wcM_b (al := al) (g := g) (s := s) (Wt := Wt) k (fun w hw => (hD.2.2.2.2.1 s w hs (by omega)).2.2.1)
    rw [wcM] at hi
    have e1 : nI k + 1 = nI (k + 1) := nI_add k 1
    rw [Pa_worthForGroup_12, Pa_worthForGroup_12_B, hD.2.1.1, if_neg (fun z => by have := (nI_leI (by omega) (by omega)).mp z; omega)]
    cases hb : bt (nI g) k with
    | true =>
      rw [hb] at hi
      rw [if_pos ((h_1 (by omega)).mpr hb), ix4, ix_n (by omega), decide_eq_true (show 4 * s + k < 24 by omega), w_ck, cl_n (by omega), w1, Pa_worthForGroup_34, e1]
      unfold wtI
      cases ha : al s k with
      | true =>
        rw [ha] at hi
        rw [if_pos rfl]
        by_cases c : wcM al Wt g s k < Wt s k
        · rw [if_pos ⟨rfl, rfl, c⟩] at hi
          rw [if_pos ((nI_ltI (by omega) (by omega)).mpr c)]
          exact hi
        · rw [if_neg (fun z => c z.2.2)] at hi
          rw [if_neg (fun z => c ((nI_ltI (by omega) (by omega)).mp z))]
          exact hi
      | false =>
        rw [ha, if_neg (fun z => by cases z.2.1)] at hi
        rw [if_neg (show ¬ (false = true) by decide), if_neg (fun z => by
          have := Int32.lt_trans z (show (-1 : Int32) < 0 by decide)
          exact (n_lt0 (by omega)).mp this)]
        exact hi
    | false =>
      rw [hb, if_neg (fun z => by cases z.1)] at hi
      rw [if_neg (fun z => by have := (h_1 (by omega)).mp z; rw [hb] at this; cases this), Pa_worthForGroup_34, e1]
      exact hi
theorem cS_v {nw ns lp g : Nat} {wk : Nat → Nat} {al : Nat → Nat → Bool} {B : Nat → Nat} {Wt Pc : Nat → Nat → Nat} {σ : gx_R} (hD : PairD nw ns wk al B Wt Pc lp σ) : ∀ m k f, k + m = ns → m < f → Pa_worthForGroup_4 f (nI g) (nI (wcS nw al Wt g k)) (nI k) σ = some (nI (wcS nw al Wt g ns), σ) := by
  have d6 := hD.1.2.1
  have d4 := hD.1.1
  intro m
  induction m with
  | zero =>
    intro k f h1 h2
    obtain ⟨f, rfl⟩ : ∃ q, f = q + 1 := ⟨f - 1, by omega⟩
    obtain rfl : k = ns := by omega
    rw [Pa_worthForGroup_4, Pa_worthForGroup_4_B, hD.2.1.2.1, if_pos ((nI_leI (by omega) (by omega)).mpr (Nat.le_refl _))]
  | succ m ih =>
    intro k f h1 h2
    obtain ⟨f, rfl⟩ : ∃ q, f = q + 1 := ⟨f - 1, by omega⟩
    have hi := ih (k + 1) f (by omega) (by omega)
    have h3 := cM_v (g := g) (s := k) (K4 := Pa_worthForGroup_4 f) (a2 := nI (wcS nw al Wt g k)) hD (by omega) nw 0 z_FU (by omega) (by have := z_FU_ge; omega)
    have h3 : Pa_worthForGroup_12 (Pa_worthForGroup_4 f) z_FU (nI g) (nI (wcS nw al Wt g k)) (nI k) 0 0 σ = _ := h3
    rw [wcS, ← nI_add] at hi
    rw [Pa_worthForGroup_4, Pa_worthForGroup_4_B, hD.2.1.2.1, if_neg (fun z => by have := (nI_leI (by omega) (by omega)).mp z; omega), h3]
    exact hi
theorem cP_v {nw ns lp g : Nat} {wk : Nat → Nat} {al : Nat → Nat → Bool} {B : Nat → Nat} {Wt Pc : Nat → Nat → Nat} {σ : gx_R} (hwk : ∀ w, w < nw → wk w < 8) (hD : PairD nw ns wk al B Wt Pc lp σ) : ∀ m k f, k + m = nw → m < f → Pa_peopleOf_4 f (nI g) (wcP wk g k) (nI k) σ = some (wcP wk g nw, σ) := by
  have d4 := hD.1.1
  intro m
  induction m with
  | zero =>
    intro k f h1 h2
    obtain ⟨f, rfl⟩ : ∃ q, f = q + 1 := ⟨f - 1, by omega⟩
    obtain rfl : k = nw := by omega
    rw [Pa_peopleOf_4, Pa_peopleOf_4_B, hD.2.1.1, if_pos ((nI_leI (by omega) (by omega)).mpr (Nat.le_refl _))]
  | succ m ih =>
    intro k f h1 h2
    obtain ⟨f, rfl⟩ : ∃ q, f = q + 1 := ⟨f - 1, by omega⟩
    have hi := ih (k + 1) f (by omega) (by omega)
    rw [wcP] at hi
    rw [Pa_peopleOf_4, Pa_peopleOf_4_B, hD.2.1.1, if_neg (fun z => by have := (nI_leI (by omega) (by omega)).mp z; omega), ix_n (by omega), decide_eq_true (show k < 4 by omega), w_ck, cl_n (by omega), hD.2.2.1 k (by omega), b_has (by omega), show nI k + 1 = nI (k + 1) from nI_add k 1]
    cases hb : bt (nI g) k with
    | true =>
      rw [hb, if_pos rfl] at hi
      exact hi
    | false =>
      rw [hb, if_neg (by decide)] at hi
      rw [bI_f, shl_0 _ (hwk k (by omega))]
      exact hi
def wcA (nw ns : Nat) (wk : Nat → Nat) (al : Nat → Nat → Bool) (B : Nat → Nat) (Wt : Nat → Nat → Nat) : Nat → Nat → Int32
  | _, 0 => -1
  | g, d + 1 => if wcS nw al Wt g ns < wcB B g nw then wcP wk g nw else wcA nw ns wk al B Wt (g + 1) d
theorem short_v {nw ns lp : Nat} {wk : Nat → Nat} {al : Nat → Nat → Bool} {B : Nat → Nat} {Wt Pc : Nat → Nat → Nat} {σ : gx_R} (hwk : ∀ w, w < nw → wk w < 8) (hD : PairD nw ns wk al B Wt Pc lp σ) : ∀ d g f, g + d = 2 ^ nw → d < f → Pa_lowestShort_2 f (nI g) σ = some (wcA nw ns wk al B Wt g d, σ) := by
  have d4 := hD.1.1
  have d6 := hD.1.2.1
  have hpow : 2 ^ nw ≤ 16 := Nat.pow_le_pow_right (n := 2) (j := 4) (by omega) d4
  have hsh : (1 : Int32) <<< (nI nw &&& 31) = nI (2 ^ nw) := by
    rcases (show nw = 0 ∨ nw = 1 ∨ nw = 2 ∨ nw = 3 ∨ nw = 4 by omega) with h | h | h | h | h <;> rw [h] <;> decide
  intro d
  induction d with
  | zero =>
    intro g f h1 h2
    obtain ⟨f, rfl⟩ : ∃ q, f = q + 1 := ⟨f - 1, by omega⟩
    rw [Pa_lowestShort_2, Pa_lowestShort_2_B, hD.2.1.1, hsh, if_pos ((nI_leI (by omega) (by omega)).mpr (by omega))]; rfl
  | succ d ih =>
    intro g f h1 h2
    obtain ⟨f, rfl⟩ : ∃ q, f = q + 1 := ⟨f - 1, by omega⟩
    have z := z_FU_ge
    have e1 : Pa_burnOfGroup (nI g) σ = _ := cB_v (g := g) hD nw 0 z_FU (by omega) (by omega)
    have e2 : Pa_worthForGroup (nI g) σ = _ := cS_v (g := g) hD ns 0 z_FU (by omega) (by omega)
    have e3 : Pa_peopleOf (nI g) σ = _ := cP_v (g := g) hwk hD nw 0 z_FU (by omega) (by omega)
    have b1 := wcB_b (B := B) (g := g) nw (fun w hw => (hD.2.2.2.1 w hw).2)
    have b2 := wcS_b (nw := nw) (al := al) (Wt := Wt) (g := g) ns (fun s w hs hw => (hD.2.2.2.2.1 s w hs hw).2.2.1)
    rw [Pa_lowestShort_2, Pa_lowestShort_2_B, hD.2.1.1, hsh, if_neg (fun z => by have := (nI_leI (by omega) (by omega)).mp z; omega), e1, w_bd, e2, w_bd, wcA]
    by_cases c : wcS nw al Wt g ns < wcB B g nw
    · rw [if_neg (fun z => by have := (nI_leI (by omega) (by omega)).mp z; omega), if_pos c, Pa_lowestShort_15, e3, w_bd]
    · rw [if_pos ((nI_leI (by omega) (by omega)).mpr (by omega)), if_neg c, show nI g + 1 = nI (g + 1) from nI_add g 1]
      exact ih (g + 1) f (by omega) (by omega)
/-! the reference -/
theorem mB_v {nw ns g : Nat} {wk sl : Nat → Nat} {al : Nat → Nat → Bool} {B : Nat → Nat} {Wt Pr : Nat → Nat → Nat} {τ : gx_R} (hnw : nw ≤ 4) (hM : PairM nw ns wk sl al B Wt Pr τ (fun _ _ => True)) : ∀ m k f, k + m = nw → m < f → Md_cannot_4 f (nI g) (nI (wcB B g k)) (nI k) τ = Md_cannot_23 (nI g) (nI (wcB B g nw)) τ := by
  intro m
  induction m with
  | zero =>
    intro k f h1 h2
    obtain ⟨f, rfl⟩ : ∃ q, f = q + 1 := ⟨f - 1, by omega⟩
    obtain rfl : k = nw := by omega
    rw [Md_cannot_4, Md_cannot_4_B, hM.1.1, if_pos ((nI_leI (by omega) (by omega)).mpr (Nat.le_refl _))]
  | succ m ih =>
    intro k f h1 h2
    obtain ⟨f, rfl⟩ : ∃ q, f = q + 1 := ⟨f - 1, by omega⟩
    have hi := ih (k + 1) f (by omega) (by omega)
    rw [wcB] at hi
    rw [Md_cannot_4, Md_cannot_4_B, hM.1.1, if_neg (fun z => by have := (nI_leI (by omega) (by omega)).mp z; omega), Md_has_v _ (by omega), w_bd]
    cases hb : bt (nI g) k with
    | true =>
      rw [hb, if_pos rfl] at hi
      rw [bI_t, if_neg (by decide), ix_n (by omega), decide_eq_true (show k < 8 by omega), w_ck, cl_n (by omega), (hM.2.1 k (by omega)).2, Md_cannot_19, nI_add, show nI k + 1 = nI (k + 1) from nI_add k 1]
      exact hi
    | false =>
      rw [hb, if_neg (by decide)] at hi
      rw [bI_f, if_pos rfl, Md_cannot_19, show nI (wcB B g k) + 0 = nI (wcB B g k + 0) from nI_add _ 0, show nI k + 1 = nI (k + 1) from nI_add k 1]
      exact hi
theorem mM_v {nw ns g s : Nat} {wk sl : Nat → Nat} {al : Nat → Nat → Bool} {B : Nat → Nat} {Wt Pr : Nat → Nat → Nat} {τ : gx_R} {K25 : Int32 → Int32 → Int32 → gx_R → Option (Int32 × gx_R)} {a2 : Int32} (hnw : nw ≤ 4) (hns : ns ≤ 6) (hWt : ∀ s w, s < ns → w < nw → Wt s w ≤ 99) (hs : s < ns) (hM : PairM nw ns wk sl al B Wt Pr τ (fun _ _ => True)) : ∀ m k f, k + m = nw → m < f → Md_cannot_33 K25 f (nI g) a2 (nI s) (nI (wcM al Wt g s k)) (nI k) τ = K25 (nI g) (a2 - nI (wcM al Wt g s nw)) (nI (s + 1)) τ := by
  intro m
  induction m with
  | zero =>
    intro k f h1 h2
    obtain ⟨f, rfl⟩ : ∃ q, f = q + 1 := ⟨f - 1, by omega⟩
    obtain rfl : k = nw := by omega
    rw [Md_cannot_33, Md_cannot_33_B, hM.1.1, if_pos ((nI_leI (by omega) (by omega)).mpr (Nat.le_refl _)), Md_cannot_64, show nI s + 1 = nI (s + 1) from nI_add s 1]
  | succ m ih =>
    intro k f h1 h2
    obtain ⟨f, rfl⟩ : ∃ q, f = q + 1 := ⟨f - 1, by omega⟩
    have hi := ih (k + 1) f (by omega) (by omega)
    have w1 := (hM.2.2.2 s k hs (by omega) trivial).1
    have w3 := hWt s k hs (by omega)
    have hb2 := wcM_b (al := al) (g := g) (s := s) (Wt := Wt) k (fun w hw => hWt s w hs (by omega))
    rw [wcM] at hi
    have e1 : nI k + 1 = nI (k + 1) := nI_add k 1
    rw [Md_cannot_33, Md_cannot_33_B, hM.1.1, if_neg (fun z => by have := (nI_leI (by omega) (by omega)).mp z; omega), Md_has_v _ (by omega), w_bd]
    cases hb : bt (nI g) k with
    | true =>
      rw [hb] at hi
      rw [bI_t, if_neg (by decide), ix8r, ix_n (by omega), decide_eq_true (show 8 * s + k < 64 by omega), w_ck, w_ck, cl_n (by omega), w1]
      unfold wtI
      cases ha : al s k with
      | true =>
        rw [ha] at hi
        rw [if_pos rfl]
        by_cases c : wcM al Wt g s k < Wt s k
        · rw [if_pos ⟨rfl, rfl, c⟩] at hi
          rw [if_neg (fun z => by have := (nI_leI (by omega) (by omega)).mp z; omega), Md_cannot_61, e1]
          exact hi
        · rw [if_neg (fun z => c z.2.2)] at hi
          rw [if_pos ((nI_leI (by omega) (by omega)).mpr (by omega)), Md_cannot_60, Md_cannot_61, e1]
          exact hi
      | false =>
        rw [ha, if_neg (fun z => by cases z.2.1)] at hi
        rw [if_neg (show ¬ (false = true) by decide), if_pos (Int32.le_of_lt (Int32.lt_of_lt_of_le (show (-1 : Int32) < 0 by decide) ((n_0le (by omega)).mpr trivial))), Md_cannot_60, Md_cannot_61, e1]
        exact hi
    | false =>
      rw [hb, if_neg (fun z => by cases z.1)] at hi
      rw [bI_f, if_pos rfl, Md_cannot_60, Md_cannot_61, e1]
      exact hi
theorem sub_sub (a b c : Int32) : a - b - c = a - (b + c) := by grind
theorem mS_v {nw ns g b : Nat} {wk sl : Nat → Nat} {al : Nat → Nat → Bool} {B : Nat → Nat} {Wt Pr : Nat → Nat → Nat} {τ : gx_R} (hb : b ≤ 1000) (hnw : nw ≤ 4) (hns : ns ≤ 6) (hWt : ∀ s w, s < ns → w < nw → Wt s w ≤ 99) (hM : PairM nw ns wk sl al B Wt Pr τ (fun _ _ => True)) : ∀ m k f, k + m = ns → m < f → Md_cannot_25 f (nI g) (nI b - nI (wcS nw al Wt g k)) (nI k) τ = some (bI (decide (wcS nw al Wt g ns < b)), τ) := by
  intro m
  induction m with
  | zero =>
    intro k f h1 h2
    obtain ⟨f, rfl⟩ : ∃ q, f = q + 1 := ⟨f - 1, by omega⟩
    obtain rfl : k = ns := by omega
    have b2 := wcS_b (nw := nw) (al := al) (Wt := Wt) (g := g) k hWt
    rw [Md_cannot_25, Md_cannot_25_B, hM.1.2, if_pos ((nI_leI (by omega) (by omega)).mpr (Nat.le_refl _)), Md_cannot_70]
    by_cases c : b ≤ wcS nw al Wt g k
    · rw [if_pos ((sub_le0 (by omega) (by omega)).mpr c), decide_eq_false (by omega)]; rfl
    · rw [if_neg (fun z => c ((sub_le0 (by omega) (by omega)).mp z)), decide_eq_true (by omega)]; rfl
  | succ m ih =>
    intro k f h1 h2
    obtain ⟨f, rfl⟩ : ∃ q, f = q + 1 := ⟨f - 1, by omega⟩
    have hi := ih (k + 1) f (by omega) (by omega)
    have h3 := mM_v (g := g) (s := k) (K25 := Md_cannot_25 f) (a2 := nI b - nI (wcS nw al Wt g k)) hnw hns hWt (by omega) hM nw 0 z_FU (by omega) (by have := z_FU_ge; omega)
    have h3 : Md_cannot_33 (Md_cannot_25 f) z_FU (nI g) (nI b - nI (wcS nw al Wt g k)) (nI k) 0 0 τ = _ := h3
    rw [wcS, ← nI_add, ← sub_sub] at hi
    rw [Md_cannot_25, Md_cannot_25_B, hM.1.2, if_neg (fun z => by have := (nI_leI (by omega) (by omega)).mp z; omega), h3]
    exact hi
theorem mP_v {nw ns g : Nat} {wk sl : Nat → Nat} {al : Nat → Nat → Bool} {B : Nat → Nat} {Wt Pr : Nat → Nat → Nat} {τ : gx_R} (hnw : nw ≤ 4) (hM : PairM nw ns wk sl al B Wt Pr τ (fun _ _ => True)) : ∀ m k f, k + m = nw → m < f → Md_whoCannot_24 f (nI g) (wcP wk g k) (nI k) τ = some (wcP wk g nw, τ) := by
  intro m
  induction m with
  | zero =>
    intro k f h1 h2
    obtain ⟨f, rfl⟩ : ∃ q, f = q + 1 := ⟨f - 1, by omega⟩
    obtain rfl : k = nw := by omega
    rw [Md_whoCannot_24, Md_whoCannot_24_B, hM.1.1, if_pos ((nI_leI (by omega) (by omega)).mpr (Nat.le_refl _))]
  | succ m ih =>
    intro k f h1 h2
    obtain ⟨f, rfl⟩ : ∃ q, f = q + 1 := ⟨f - 1, by omega⟩
    have hi := ih (k + 1) f (by omega) (by omega)
    rw [wcP] at hi
    rw [Md_whoCannot_24, Md_whoCannot_24_B, hM.1.1, if_neg (fun z => by have := (nI_leI (by omega) (by omega)).mp z; omega), Md_has_v _ (by omega), w_bd]
    cases hb : bt (nI g) k with
    | true =>
      rw [hb, if_pos rfl] at hi
      rw [bI_t, if_neg (by decide), ix_n (by omega), decide_eq_true (show k < 8 by omega), w_ck, cl_n (by omega), (hM.2.1 k (by omega)).1, Md_whoCannot_41, show nI k + 1 = nI (k + 1) from nI_add k 1]
      exact hi
    | false =>
      rw [hb, if_neg (by decide)] at hi
      rw [bI_f, if_pos rfl, Md_whoCannot_41, show nI k + 1 = nI (k + 1) from nI_add k 1]
      exact hi
theorem cannot_v {nw ns : Nat} {wk sl : Nat → Nat} {al : Nat → Nat → Bool} {B : Nat → Nat} {Wt Pr : Nat → Nat → Nat} {τ : gx_R} (hnw : nw ≤ 4) (hns : ns ≤ 6) (hWt : ∀ s w, s < ns → w < nw → Wt s w ≤ 99) (hB : ∀ w, w < nw → B w ≤ 99) (hM : PairM nw ns wk sl al B Wt Pr τ (fun _ _ => True)) : ∀ d g f, g + d = 2 ^ nw → d < f → Md_whoCannot_10 f (nI g) τ = some (wcA nw ns wk al B Wt g d, τ) := by
  have hpow : 2 ^ nw ≤ 16 := Nat.pow_le_pow_right (n := 2) (j := 4) (by omega) hnw
  have hsh : (1 : Int32) <<< (nI nw &&& 31) = nI (2 ^ nw) := by
    rcases (show nw = 0 ∨ nw = 1 ∨ nw = 2 ∨ nw = 3 ∨ nw = 4 by omega) with h | h | h | h | h <;> rw [h] <;> decide
  intro d
  induction d with
  | zero =>
    intro g f h1 h2
    obtain ⟨f, rfl⟩ : ∃ q, f = q + 1 := ⟨f - 1, by omega⟩
    rw [Md_whoCannot_10, Md_whoCannot_10_B, hM.1.1, hsh, if_pos ((nI_leI (by omega) (by omega)).mpr (by omega))]; rfl
  | succ d ih =>
    intro g f h1 h2
    obtain ⟨f, rfl⟩ : ∃ q, f = q + 1 := ⟨f - 1, by omega⟩
    have z := z_FU_ge
    have b1 := wcB_b (B := B) (g := g) nw hB
    have e1 : Md_cannot (nI g) τ = _ := mB_v (g := g) hnw hM nw 0 z_FU (by omega) (by omega)
    have e2 := mS_v (g := g) (b := wcB B g nw) (by omega) hnw hns hWt hM ns 0 z_FU (by omega) (by omega)
    rw [show nI (wcB B g nw) - nI (wcS nw al Wt g 0) = nI (wcB B g nw) from pk_sub (Nat.zero_le _)] at e2
    have e2 : Md_cannot_23 (nI g) (nI (wcB B g nw)) τ = _ := e2
    have e3 : Md_whoCannot_20 (nI g) τ = _ := mP_v (g := g) hnw hM nw 0 z_FU (by omega) (by omega)
    rw [Md_whoCannot_10, Md_whoCannot_10_B, hM.1.1, hsh, if_neg (fun z => by have := (nI_leI (by omega) (by omega)).mp z; omega), e1, e2, w_bd, wcA]
    by_cases c : wcS nw al Wt g ns < wcB B g nw
    · rw [decide_eq_true c, bI_t, if_neg (by decide), if_pos c]; exact e3
    · rw [decide_eq_false c, bI_f, if_pos rfl, if_neg c, show nI g + 1 = nI (g + 1) from nI_add g 1]
      exact ih (g + 1) f (by omega) (by omega)
theorem S_whoCannot {σ τ : gx_R} (r : Rel σ τ) (a1 a2 a3 : Int32) : SimP (Sf_whoCannot a1 a2 a3) (Md_whoCannot a1 a2 a3) σ τ := by
  obtain ⟨P, W, H, K, T, P', W', H', K', T', rr⟩ := id r
  have r1 := rr.1
  have hP := r1.1.1.1
  have hW := r1.1.1.2
  have p1 : σ 2 0 = nI P := r1.1.2.1.1
  have p2 : τ 110 0 = nI P := r1.1.2.1.2.1
  have p3 : σ 2 1 = nI W := r1.1.2.1.2.2.1
  have p4 : τ 110 1 = nI W := r1.1.2.1.2.2.2
  cases hc : canB P W a1 a2 a3 with
  | false =>
    refine SimP_ro r (-1) ?_ ?_
    · rw [Sf_whoCannot, canPair_v hP hW p1 p3, hc, w_bd, bI_f, if_pos rfl]
    · rw [Md_whoCannot, laysMatch_n hP hW p2 p4, hc, if_neg (by decide), w_bd, if_pos rfl]
  | true =>
    obtain ⟨g1, g2, w, rfl, rfl, rfl, k1, k2, k3, k4, k5⟩ := canB_e hP hW hc
    obtain ⟨nw, ns, al, B, Wt, Pr, enw, ens, hnw, hns, hWt, hPr, hB, hcl, τ1, t1, t2, t3, hM⟩ := ready (τ := τ) r1 rr.2.2.2.2.2 k1 k2 k4 k5 k3
    obtain ⟨σ1, lp, s1, s2, hD, h65⟩ := hcl 0
    have hwk : ∀ w, w < nw → nth (bt (nI g1)) w < 8 := fun w hw => (nth_sp (f := bt (nI g1)) (j := w) (by omega)).1
    have h2 : 0 < 2 ^ nw := Nat.two_pow_pos nw
    have hz := z_FU_ge
    have hpow : 2 ^ nw ≤ 16 := Nat.pow_le_pow_right (n := 2) (j := 4) (by omega) hnw
    have a1 : Pa_lowestShort σ1 = _ := short_v hwk hD (2 ^ nw - 1) 1 z_FU (by omega) (by omega)
    have a2 := cannot_v hnw hns hWt hB hM (2 ^ nw - 1) 1 z_FU (by omega) (by omega)
    have cL : Md_laysMatch (nI g1) (nI w) (nI g2) τ = some (1, τ1) := by rw [laysMatch_n hP hW p2 p4, hc, if_pos rfl]; exact t1
    refine SimP_sc r (wcA nw ns (nth (bt (nI g1))) al B Wt 1 (2 ^ nw - 1)) (σ' := σ1) (τ' := τ1) ?_ ?_ (fun k hk => s2 k (by omega) (by omega) (by omega)) ⟨t2, t3⟩
    rotate_left 1
    · rw [Md_whoCannot, cL, w_bd, if_neg (by decide)]; exact a2
    · rw [Sf_whoCannot, canPair_v hP hW p1 p3, hc, w_bd, bI_t, if_neg (by decide), s1, w_bd, a1, w_bd]
