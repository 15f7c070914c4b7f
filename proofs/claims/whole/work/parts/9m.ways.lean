/-! ===== who sleeps for whom: the reference goes through all ways ===== -/
theorem nI_mod {a b : Nat} (ha : a < 2 ^ 31) (hb : b < 2 ^ 31) : nI a - nI a / nI b * nI b = nI (a % b) := by
  rw [nI_div ha hb, pk_mul, pk_sub (Nat.div_mul_le_self a b)]
  have := Nat.div_add_mod a b
  rw [Nat.mul_comm] at this
  congr 1
  omega
def okW (nw : Nat) (al : Nat → Nat → Bool) (c : Nat → Nat) (s : Nat) : Bool := decide (c s = nw) || al s (c s)
/-- all from s on, d of them -/
def okA (nw : Nat) (al : Nat → Nat → Bool) (c : Nat → Nat) : Nat → Nat → Bool
  | _, 0 => true
  | s, d + 1 => okW nw al c s && okA nw al c (s + 1) d
theorem okA_t {nw : Nat} {al : Nat → Nat → Bool} {c : Nat → Nat} : ∀ d s, okA nw al c s d = true ↔ ∀ i, s ≤ i → i < s + d → okW nw al c i = true := by
  intro d
  induction d with
  | zero => intro s; exact ⟨fun _ i h1 h2 => by omega, fun _ => rfl⟩
  | succ d ih =>
    intro s
    rw [okA, Bool.and_eq_true, ih]
    constructor
    · rintro ⟨h1, h2⟩ i h3 h4
      by_cases z : i = s
      · rw [z]; exact h1
      · exact h2 i (by omega) (by omega)
    · intro h
      exact ⟨h s (Nat.le_refl _) (by omega), fun i h1 h2 => h i (by omega) (by omega)⟩
theorem okW_p {nw : Nat} {al : Nat → Nat → Bool} {c : Nat → Nat} {s : Nat} (h : c s < nw + 1) : okW nw al c s = true ↔ pOk nw al c s := by
  unfold okW pOk
  rw [Bool.or_eq_true]
  constructor
  · rintro (z | z)
    · exact Or.inl (of_decide_eq_true z)
    · by_cases y : c s = nw
      · exact Or.inl y
      · exact Or.inr ⟨by omega, z⟩
  · rintro (z | ⟨-, z⟩)
    · exact Or.inl (decide_eq_true z)
    · exact Or.inr z
def wFr (τ0 τ : gx_R) : Prop := ∀ c, c ≠ 146 → τ c = τ0 c
theorem way_L {τ0 : gx_R} {wk sl : Nat → Nat} {nw ns x : Nat} {al : Nat → Nat → Bool} {B : Nat → Nat} {Wt Pr : Nat → Nat → Nat} (hnw : nw ≤ 4) (hns : ns ≤ 6) (hx : x < 100000) (hWt : ∀ s w, s < ns → w < nw → Wt s w ≤ 99) (hM : PairM nw ns wk sl al B Wt Pr τ0 (fun _ _ => True)) : ∀ s f τ, s ≤ ns → s < f → wFr τ0 τ → (∀ i, s ≤ i → i < ns → τ 146 i = nI (dg (nw + 1) ns x i)) → ∃ τ', Md_laysWay_9 f (nI (x / (nw + 1) ^ (ns - s))) (bI (okA nw al (dg (nw + 1) ns x) s (ns - s))) (nI s - 1) τ = some (bI (okA nw al (dg (nw + 1) ns x) 0 ns), τ') ∧ wFr τ0 τ' ∧ ∀ i, i < ns → τ' 146 i = nI (dg (nw + 1) ns x i) := by
  intro s
  induction s with
  | zero =>
    intro f τ h1 h2 h3 h4
    obtain ⟨f, rfl⟩ : ∃ q, f = q + 1 := ⟨f - 1, by omega⟩
    refine ⟨τ, ?_, h3, fun i hi => h4 i (Nat.zero_le _) hi⟩
    rw [Md_laysWay_9, Md_laysWay_9_B, if_pos (show nI 0 - 1 < 0 by decide), bI_bo, w_ck]; rfl
  | succ s ih =>
    intro f τ h1 h2 h3 h4
    obtain ⟨f, rfl⟩ : ∃ q, f = q + 1 := ⟨f - 1, by omega⟩
    have hX : x / (nw + 1) ^ (ns - (s + 1)) ≤ x := Nat.div_le_self _ _
    obtain ⟨X, eX⟩ : ∃ X, X = x / (nw + 1) ^ (ns - (s + 1)) := ⟨_, rfl⟩
    rw [← eX] at hX ⊢
    have e58 : τ 109 58 = nI nw := by rw [h3 109 (by omega)]; exact hM.1.1
    have e5 : nI nw + 1 = nI (nw + 1) := nI_add nw 1
    have hd : dg (nw + 1) ns x s = X % (nw + 1) := by rw [eX]; unfold dg; rw [show ns - 1 - s = ns - (s + 1) by omega]
    have hd5 : dg (nw + 1) ns x s < nw + 1 := by rw [hd]; exact Nat.mod_lt _ (by omega)
    have hq : x / (nw + 1) ^ (ns - s) = X / (nw + 1) := by
      rw [eX, Nat.div_div_eq_div_mul, ← Nat.pow_succ, show ns - s = (ns - (s + 1)).succ by omega]
    have hok : okA nw al (dg (nw + 1) ns x) s (ns - s) = (okW nw al (dg (nw + 1) ns x) s && okA nw al (dg (nw + 1) ns x) (s + 1) (ns - (s + 1))) := by
      obtain ⟨d, hd⟩ : ∃ d, ns - s = d + 1 := ⟨ns - s - 1, by omega⟩
      rw [hd, okA, show ns - (s + 1) = d by omega]
    have nz : z_nzi (nI (nw + 1)) = true := decide_eq_true (fun z => by have := (n_eq0 (by omega)).mp z; omega)
    obtain ⟨τ1, h1'⟩ : ∃ τ1, τ1 = gx_up τ 146 s (nI (dg (nw + 1) ns x s)) := ⟨_, rfl⟩
    have f1 : wFr τ0 τ1 := fun c hc => by rw [h1', gx_up_ne hc]; exact h3 c hc
    have r1 : ∀ i, s ≤ i → i < ns → τ1 146 i = nI (dg (nw + 1) ns x i) := fun i hi hi2 => by
      rw [h1']
      by_cases z : i = s
      · rw [z, up_e]
      · rw [up_p _ _ _ z]; exact h4 i (by omega) hi2
    obtain ⟨τ', i1, i2, i3⟩ := ih f τ1 (by omega) (by omega) f1 r1
    rw [hq, hok] at i1
    refine ⟨τ', ?_, i2, i3⟩
    rw [Md_laysWay_9, Md_laysWay_9_B, n_sub1 (by omega), show s + 1 - 1 = s by omega, if_neg (fun z => (n_lt0 (by omega)).mp z), e58, e5, nz, w_ck, ix_n (by omega), decide_eq_true (show s < 8 by omega), w_ck, cl_n (by omega), nI_mod (by omega) (by omega), ← hd, up_c _ _ _ _ (show (109 : Nat) ≠ 146 by omega), e58, e5, nz, w_ck, nI_div (by omega) (by omega), up_e, ← h1']
    cases ho : okA nw al (dg (nw + 1) ns x) (s + 1) (ns - (s + 1)) with
    | false =>
      rw [ho, Bool.and_false] at i1
      rw [bI_f, if_pos rfl, Md_laysWay_52, Md_laysWay_53, add_m1]
      exact i1
    | true =>
      rw [ho, Bool.and_true] at i1
      rw [bI_t, if_neg (by decide), w_ck]
      by_cases c : dg (nw + 1) ns x s = nw
      · have : okW nw al (dg (nw + 1) ns x) s = true := by unfold okW; rw [decide_eq_true c]; rfl
        rw [this, bI_t] at i1
        rw [if_pos (by rw [c]), Md_laysWay_50, Md_laysWay_53, add_m1]
        exact i1
      · have e : okW nw al (dg (nw + 1) ns x) s = al s (dg (nw + 1) ns x s) := by unfold okW; rw [decide_eq_false c, Bool.false_or]
        rw [e] at i1
        have w143 : τ1 143 (8 * s + dg (nw + 1) ns x s) = wtI al Wt s (dg (nw + 1) ns x s) := by rw [f1 143 (by omega)]; exact (hM.2.2.2 s _ (by omega) (by omega) trivial).1
        rw [if_neg (fun z => c ((nI_eq (by omega) (by omega)).mp z)), w_ck, ix8r, ix_n (by omega), decide_eq_true (show 8 * s + dg (nw + 1) ns x s < 64 by omega), w_ck, cl_n (by omega), w143]
        unfold wtI
        cases ha : al s (dg (nw + 1) ns x s) with
        | false =>
          rw [ha, bI_f] at i1
          rw [if_neg (show ¬ (false = true) by decide), if_pos rfl, Md_laysWay_52, Md_laysWay_53, add_m1]
          exact i1
        | true =>
          rw [ha, bI_t] at i1
          have hW := hWt s (dg (nw + 1) ns x s) (by omega) (by omega)
          rw [if_pos rfl, if_neg (fun z => (n_m1 (by omega)).mp z), Md_laysWay_50, Md_laysWay_53, add_m1]
          exact i1
theorem way_v {τ0 τ : gx_R} {wk sl : Nat → Nat} {nw ns x : Nat} {al : Nat → Nat → Bool} {B : Nat → Nat} {Wt Pr : Nat → Nat → Nat} (hnw : nw ≤ 4) (hns : ns ≤ 6) (hx : x < 100000) (hWt : ∀ s w, s < ns → w < nw → Wt s w ≤ 99) (hM : PairM nw ns wk sl al B Wt Pr τ0 (fun _ _ => True)) (h : wFr τ0 τ) : ∃ τ', Md_laysWay (nI x) τ = some (bI (okA nw al (dg (nw + 1) ns x) 0 ns), τ') ∧ wFr τ0 τ' ∧ ∀ i, i < ns → τ' 146 i = nI (dg (nw + 1) ns x i) := by
  obtain ⟨τ', i1, i2, i3⟩ := way_L hnw hns hx hWt hM ns z_FU τ (Nat.le_refl _) (by have := z_FU_ge; omega) h (fun i h1 h2 => by omega)
  rw [Nat.sub_self, Nat.pow_zero, Nat.div_one] at i1
  refine ⟨τ', ?_, i2, i3⟩
  rw [Md_laysWay, h 109 (by omega), hM.1.2]
  exact i1
/-! what a way brings -/
theorem enough_in {τ : gx_R} {wk sl : Nat → Nat} {nw ns w : Nat} {al : Nat → Nat → Bool} {B : Nat → Nat} {Wt Pr : Nat → Nat → Nat} {c : Nat → Nat} {K2 : Int32 → gx_R → Option (Int32 × gx_R)} (hnw : nw ≤ 4) (hns : ns ≤ 6) (hw : w < nw) (hM : PairM nw ns wk sl al B Wt Pr τ (fun _ _ => True)) (hc : ∀ i, i < ns → c i < nw + 1 ∧ pOk nw al c i ∧ τ 146 i = nI (c i)) : ∀ m s f, s + m = ns → m < f → Md_isEnough_10 K2 f (nI w) (nI (pFu Wt c s w)) (nI s) τ = Md_isEnough_35 K2 (nI w) (nI (pFu Wt c ns w)) τ := by
  intro m
  induction m with
  | zero =>
    intro s f h1 h2
    obtain ⟨f, rfl⟩ : ∃ q, f = q + 1 := ⟨f - 1, by omega⟩
    obtain rfl : s = ns := by omega
    rw [Md_isEnough_10, Md_isEnough_10_B, hM.1.2, if_pos ((nI_leI (by omega) (by omega)).mpr (Nat.le_refl _))]
  | succ m ih =>
    intro s f h1 h2
    obtain ⟨f, rfl⟩ : ∃ q, f = q + 1 := ⟨f - 1, by omega⟩
    obtain ⟨c1, c2, c3⟩ := hc s (by omega)
    have hi := ih (s + 1) f (by omega) (by omega)
    rw [pFu] at hi
    rw [Md_isEnough_10, Md_isEnough_10_B, hM.1.2, if_neg (fun z => by have := (nI_leI (by omega) (by omega)).mp z; omega), ix_n (by omega), decide_eq_true (show s < 8 by omega), w_ck, cl_n (by omega), c3]
    by_cases z : c s = w
    · have ha : al s w = true := by
        rcases c2 with y | ⟨-, y⟩
        · omega
        · rw [z] at y; exact y
      have := (hM.2.2.2 s w (by omega) hw trivial).1
      unfold wtI at this
      rw [if_pos ha] at this
      rw [if_pos z] at hi
      rw [if_pos (by rw [z]), ix8r, ix_n (by omega), decide_eq_true (show 8 * s + w < 64 by omega), w_ck, cl_n (by omega), this, Md_isEnough_31, nI_add, show nI s + 1 = nI (s + 1) from nI_add s 1]
      exact hi
    · rw [if_neg z] at hi
      rw [if_neg (fun y => z ((nI_eq (by omega) (by omega)).mp y)), Md_isEnough_31, show nI (pFu Wt c s w) + 0 = nI (pFu Wt c s w + 0) from nI_add _ 0, show nI s + 1 = nI (s + 1) from nI_add s 1]
      exact hi
theorem enough_v {τ : gx_R} {wk sl : Nat → Nat} {nw ns : Nat} {al : Nat → Nat → Bool} {B : Nat → Nat} {Wt Pr : Nat → Nat → Nat} {c : Nat → Nat} (hnw : nw ≤ 4) (hns : ns ≤ 6) (hWt : ∀ s w, s < ns → w < nw → Wt s w ≤ 99) (hB : ∀ w, w < nw → B w ≤ 99) (hM : PairM nw ns wk sl al B Wt Pr τ (fun _ _ => True)) (hc : ∀ i, i < ns → c i < nw + 1 ∧ pOk nw al c i ∧ τ 146 i = nI (c i)) : ∀ m w f, w + m = nw → m < f → (∀ i, i < w → B i ≤ pFu Wt c ns i) → ∃ b : Bool, Md_isEnough_2 f (nI w) τ = some (bI b, τ) ∧ (b = true ↔ ∀ i, i < nw → B i ≤ pFu Wt c ns i) := by
  intro m
  induction m with
  | zero =>
    intro w f h1 h2 h3
    obtain ⟨f, rfl⟩ : ∃ q, f = q + 1 := ⟨f - 1, by omega⟩
    obtain rfl : w = nw := by omega
    exact ⟨true, by rw [Md_isEnough_2, Md_isEnough_2_B, hM.1.1, if_pos ((nI_leI (by omega) (by omega)).mpr (Nat.le_refl _))]; rfl, ⟨fun _ => h3, fun _ => rfl⟩⟩
  | succ m ih =>
    intro w f h1 h2 h3
    obtain ⟨f, rfl⟩ : ∃ q, f = q + 1 := ⟨f - 1, by omega⟩
    have hf : pFu Wt c ns w ≤ 99 * ns := pFu_b ns (fun i hi _ => hWt i w hi (by omega))
    have hBw := hB w (by omega)
    have e1 := enough_in (K2 := Md_isEnough_2 f) hnw hns (show w < nw by omega) hM hc ns 0 z_FU (by omega) (by have := z_FU_ge; omega)
    have e1 : Md_isEnough_10 (Md_isEnough_2 f) z_FU (nI w) 0 0 τ = _ := e1
    rw [Md_isEnough_2, Md_isEnough_2_B, hM.1.1, if_neg (fun z => by have := (nI_leI (by omega) (by omega)).mp z; omega), e1, Md_isEnough_35, ix_n (by omega), decide_eq_true (show w < 8 by omega), w_ck, cl_n (by omega), (hM.2.1 w (by omega)).2]
    by_cases z : B w ≤ pFu Wt c ns w
    · rw [if_pos ((nI_leI (by omega) (by omega)).mpr z), show nI w + 1 = nI (w + 1) from nI_add w 1]
      exact ih (w + 1) f (by omega) (by omega) (fun i hi => by
        by_cases y : i = w
        · rw [y]; exact z
        · exact h3 i (by omega))
    · rw [if_neg (fun y => z ((nI_leI (by omega) (by omega)).mp y))]
      exact ⟨false, rfl, ⟨fun y => (by cases y), fun y => absurd (y w (by omega)) z⟩⟩
theorem price_L {τ : gx_R} {wk sl : Nat → Nat} {nw ns : Nat} {al : Nat → Nat → Bool} {B : Nat → Nat} {Wt Pr : Nat → Nat → Nat} {c : Nat → Nat} (hnw : nw ≤ 4) (hns : ns ≤ 6) (hM : PairM nw ns wk sl al B Wt Pr τ (fun _ _ => True)) (hc : ∀ i, i < ns → c i < nw + 1 ∧ pOk nw al c i ∧ τ 146 i = nI (c i)) : ∀ m s f, s + m = ns → m < f → Md_priceNow_4 f (nI (pCo nw Pr c s)) (nI s) τ = some (nI (pCo nw Pr c ns), τ) := by
  intro m
  induction m with
  | zero =>
    intro s f h1 h2
    obtain ⟨f, rfl⟩ : ∃ q, f = q + 1 := ⟨f - 1, by omega⟩
    obtain rfl : s = ns := by omega
    rw [Md_priceNow_4, Md_priceNow_4_B, hM.1.2, if_pos ((nI_leI (by omega) (by omega)).mpr (Nat.le_refl _))]
  | succ m ih =>
    intro s f h1 h2
    obtain ⟨f, rfl⟩ : ∃ q, f = q + 1 := ⟨f - 1, by omega⟩
    obtain ⟨c1, c2, c3⟩ := hc s (by omega)
    have hi := ih (s + 1) f (by omega) (by omega)
    rw [pCo] at hi
    rw [Md_priceNow_4, Md_priceNow_4_B, hM.1.2, hM.1.1, if_neg (fun z => by have := (nI_leI (by omega) (by omega)).mp z; omega), ix_n (by omega), decide_eq_true (show s < 8 by omega), w_ck, cl_n (by omega), c3]
    by_cases z : c s < nw
    · have ha : al s (c s) = true := by
        rcases c2 with y | ⟨-, y⟩
        · omega
        · exact y
      have := (hM.2.2.2 s (c s) (by omega) z trivial).2 ha
      rw [if_pos z] at hi
      rw [if_neg (fun y => by have := (nI_leI (by omega) (by omega)).mp y; omega), w_ck, ix8r, ix_n (by omega), decide_eq_true (show 8 * s + c s < 64 by omega), w_ck, cl_n (by omega), this, Md_priceNow_29, nI_add, show nI s + 1 = nI (s + 1) from nI_add s 1]
      exact hi
    · rw [if_neg z] at hi
      rw [if_pos ((nI_leI (by omega) (by omega)).mpr (by omega)), Md_priceNow_29, show nI (pCo nw Pr c s) + 0 = nI (pCo nw Pr c s + 0) from nI_add _ 0, show nI s + 1 = nI (s + 1) from nI_add s 1]
      exact hi
theorem count_L {τ : gx_R} {wk sl : Nat → Nat} {nw ns : Nat} {al : Nat → Nat → Bool} {B : Nat → Nat} {Wt Pr : Nat → Nat → Nat} {c : Nat → Nat} (hnw : nw ≤ 4) (hns : ns ≤ 6) (hM : PairM nw ns wk sl al B Wt Pr τ (fun _ _ => True)) (hc : ∀ i, i < ns → c i < nw + 1 ∧ pOk nw al c i ∧ τ 146 i = nI (c i)) : ∀ m s f, s + m = ns → m < f → Md_sleepNow_4 f (nI (pCn nw c s)) (nI s) τ = some (nI (pCn nw c ns), τ) := by
  intro m
  induction m with
  | zero =>
    intro s f h1 h2
    obtain ⟨f, rfl⟩ : ∃ q, f = q + 1 := ⟨f - 1, by omega⟩
    obtain rfl : s = ns := by omega
    rw [Md_sleepNow_4, Md_sleepNow_4_B, hM.1.2, if_pos ((nI_leI (by omega) (by omega)).mpr (Nat.le_refl _))]
  | succ m ih =>
    intro s f h1 h2
    obtain ⟨f, rfl⟩ : ∃ q, f = q + 1 := ⟨f - 1, by omega⟩
    obtain ⟨c1, c2, c3⟩ := hc s (by omega)
    have hi := ih (s + 1) f (by omega) (by omega)
    rw [pCn] at hi
    rw [Md_sleepNow_4, Md_sleepNow_4_B, hM.1.2, hM.1.1, if_neg (fun z => by have := (nI_leI (by omega) (by omega)).mp z; omega), ix_n (by omega), decide_eq_true (show s < 8 by omega), w_ck, cl_n (by omega), c3]
    by_cases z : c s < nw
    · rw [if_pos z] at hi
      rw [if_neg (fun y => by have := (nI_leI (by omega) (by omega)).mp y; omega), Md_sleepNow_19, show nI (pCn nw c s) + 1 = nI (pCn nw c s + 1) from nI_add _ 1, show nI s + 1 = nI (s + 1) from nI_add s 1]
      exact hi
    · rw [if_neg z] at hi
      rw [if_pos ((nI_leI (by omega) (by omega)).mpr (by omega)), Md_sleepNow_19, show nI (pCn nw c s) + 0 = nI (pCn nw c s + 0) from nI_add _ 0, show nI s + 1 = nI (s + 1) from nI_add s 1]
      exact hi
theorem keep_L {τ0 : gx_R} {ns : Nat} {c : Nat → Nat} {a4 a5 a6 a7 a8 a9 : Int32} {K94 : Int32 → Int32 → Int32 → Int32 → Int32 → Int32 → gx_R → Option (Int32 × gx_R)} (hns : ns ≤ 6) (h0 : τ0 109 59 = nI ns) (hc : ∀ i, i < ns → τ0 146 i = nI (c i)) : ∀ m s f τ, s + m = ns → m < f → (∀ k, k ≠ 147 → τ k = τ0 k) → (∀ i, i < s → τ 147 i = nI (c i)) → ∃ τ', Md_match_80 K94 f a4 a5 a6 a7 a8 a9 (nI s) τ = K94 a4 a5 a6 a7 a8 a9 τ' ∧ (∀ k, k ≠ 147 → τ' k = τ0 k) ∧ ∀ i, i < ns → τ' 147 i = nI (c i) := by
  intro m
  induction m with
  | zero =>
    intro s f τ h1 h2 h3 h4
    obtain ⟨f, rfl⟩ : ∃ q, f = q + 1 := ⟨f - 1, by omega⟩
    obtain rfl : s = ns := by omega
    refine ⟨τ, ?_, h3, h4⟩
    rw [Md_match_80, Md_match_80_B, h3 109 (by omega), h0, if_pos ((nI_leI (by omega) (by omega)).mpr (Nat.le_refl _))]
  | succ m ih =>
    intro s f τ h1 h2 h3 h4
    obtain ⟨f, rfl⟩ : ∃ q, f = q + 1 := ⟨f - 1, by omega⟩
    rw [Md_match_80, Md_match_80_B, h3 109 (by omega), h0, if_neg (fun z => by have := (nI_leI (by omega) (by omega)).mp z; omega), ix_n (by omega), decide_eq_true (show s < 8 by omega), w_ck, w_ck, cl_n (by omega), h3 146 (by omega), hc s (by omega), show nI s + 1 = nI (s + 1) from nI_add s 1]
    exact ih (s + 1) f _ (by omega) (by omega) (fun k hk => by rw [gx_up_ne hk]; exact h3 k hk) (fun i hi => by
      by_cases z : i = s
      · rw [z, up_e]
      · rw [up_p _ _ _ z]; exact h4 i (by omega))
