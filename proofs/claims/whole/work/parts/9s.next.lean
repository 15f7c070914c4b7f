/-! ===== the reference reads one TOKEN ===== -/
def wo (l : Int64) : Int32 :=
  if lg_cmp l (935275816 : Int64) = 0 then 0 else
  if lg_cmp l (9133230 : Int64) = 0 then 1 else
  if lg_cmp l (868178852 : Int64) = 0 then 2 else
  if lg_cmp l (818583781 : Int64) = 0 then 3 else
  if lg_cmp l (14555877 : Int64) = 0 then 4 else
  if lg_cmp l (867326320 : Int64) = 0 then 5 else
  if lg_cmp l (10898213 : Int64) = 0 then 6 else
  if lg_cmp l (9313068 : Int64) = 0 then 7 else
  if lg_cmp l (848758905 : Int64) = 0 then 8 else
  if lg_cmp l (10681714 : Int64) = 0 then 9 else
  if lg_cmp l (2164 : Int64) = 0 then 10 else
  if lg_cmp l (158706 : Int64) = 0 then 11 else
  if lg_cmp l (3375 : Int64) = 0 then 12 else
  if lg_cmp l (2233 : Int64) = 0 then 13 else
  if lg_cmp l (3058 : Int64) = 0 then 14 else
  if lg_cmp l (138148 : Int64) = 0 then 15 else
  if lg_cmp l (191476 : Int64) = 0 then 16 else
  if lg_cmp l (2662 : Int64) = 0 then 17 else
  if lg_cmp l (13797742 : Int64) = 0 then 18 else
  if lg_cmp l (9882853 : Int64) = 0 then 19 else
  if lg_cmp l (154532 : Int64) = 0 then 20 else
  if lg_cmp l (227887 : Int64) = 0 then 21 else
  if lg_cmp l (191479 : Int64) = 0 then 22 else
  if lg_cmp l (3054 : Int64) = 0 then 23 else
  if lg_cmp l (613879080 : Int64) = 0 then 24 else
  if lg_cmp l (617240685 : Int64) = 0 then 25 else
  if lg_cmp l (14584813 : Int64) = 0 then 26 else
  if lg_cmp l (13769963 : Int64) = 0 then 27 else
  if lg_cmp l (784243941 : Int64) = 0 then 28 else
  if lg_cmp l (12548452 : Int64) = 0 then 29 else
  -1
theorem wo_v (l : Int64) (τ : gx_R) : Md_wordOf l τ = some (wo l, τ) := by
  rw [Md_wordOf]
  unfold wo
  by_cases c0 : lg_cmp l (935275816 : Int64) = 0
  · rw [if_pos c0, if_pos c0]
  rw [if_neg c0, if_neg c0]
  by_cases c1 : lg_cmp l (9133230 : Int64) = 0
  · rw [if_pos c1, if_pos c1]
  rw [if_neg c1, if_neg c1]
  by_cases c2 : lg_cmp l (868178852 : Int64) = 0
  · rw [if_pos c2, if_pos c2]
  rw [if_neg c2, if_neg c2]
  by_cases c3 : lg_cmp l (818583781 : Int64) = 0
  · rw [if_pos c3, if_pos c3]
  rw [if_neg c3, if_neg c3]
  by_cases c4 : lg_cmp l (14555877 : Int64) = 0
  · rw [if_pos c4, if_pos c4]
  rw [if_neg c4, if_neg c4]
  by_cases c5 : lg_cmp l (867326320 : Int64) = 0
  · rw [if_pos c5, if_pos c5]
  rw [if_neg c5, if_neg c5]
  by_cases c6 : lg_cmp l (10898213 : Int64) = 0
  · rw [if_pos c6, if_pos c6]
  rw [if_neg c6, if_neg c6]
  by_cases c7 : lg_cmp l (9313068 : Int64) = 0
  · rw [if_pos c7, if_pos c7]
  rw [if_neg c7, if_neg c7]
  by_cases c8 : lg_cmp l (848758905 : Int64) = 0
  · rw [if_pos c8, if_pos c8]
  rw [if_neg c8, if_neg c8]
  by_cases c9 : lg_cmp l (10681714 : Int64) = 0
  · rw [if_pos c9, if_pos c9]
  rw [if_neg c9, if_neg c9]
  by_cases c10 : lg_cmp l (2164 : Int64) = 0
  · rw [if_pos c10, if_pos c10]
  rw [if_neg c10, if_neg c10]
  by_cases c11 : lg_cmp l (158706 : Int64) = 0
  · rw [if_pos c11, if_pos c11]
  rw [if_neg c11, if_neg c11]
  by_cases c12 : lg_cmp l (3375 : Int64) = 0
  · rw [if_pos c12, if_pos c12]
  rw [if_neg c12, if_neg c12]
  by_cases c13 : lg_cmp l (2233 : Int64) = 0
  · rw [if_pos c13, if_pos c13]
  rw [if_neg c13, if_neg c13]
  by_cases c14 : lg_cmp l (3058 : Int64) = 0
  · rw [if_pos c14, if_pos c14]
  rw [if_neg c14, if_neg c14]
  by_cases c15 : lg_cmp l (138148 : Int64) = 0
  · rw [if_pos c15, if_pos c15]
  rw [if_neg c15, if_neg c15]
  by_cases c16 : lg_cmp l (191476 : Int64) = 0
  · rw [if_pos c16, if_pos c16]
  rw [if_neg c16, if_neg c16]
  by_cases c17 : lg_cmp l (2662 : Int64) = 0
  · rw [if_pos c17, if_pos c17]
  rw [if_neg c17, if_neg c17]
  by_cases c18 : lg_cmp l (13797742 : Int64) = 0
  · rw [if_pos c18, if_pos c18]
  rw [if_neg c18, if_neg c18]
  by_cases c19 : lg_cmp l (9882853 : Int64) = 0
  · rw [if_pos c19, if_pos c19]
  rw [if_neg c19, if_neg c19]
  by_cases c20 : lg_cmp l (154532 : Int64) = 0
  · rw [if_pos c20, if_pos c20]
  rw [if_neg c20, if_neg c20]
  by_cases c21 : lg_cmp l (227887 : Int64) = 0
  · rw [if_pos c21, if_pos c21]
  rw [if_neg c21, if_neg c21]
  by_cases c22 : lg_cmp l (191479 : Int64) = 0
  · rw [if_pos c22, if_pos c22]
  rw [if_neg c22, if_neg c22]
  by_cases c23 : lg_cmp l (3054 : Int64) = 0
  · rw [if_pos c23, if_pos c23]
  rw [if_neg c23, if_neg c23]
  by_cases c24 : lg_cmp l (613879080 : Int64) = 0
  · rw [if_pos c24, if_pos c24]
  rw [if_neg c24, if_neg c24]
  by_cases c25 : lg_cmp l (617240685 : Int64) = 0
  · rw [if_pos c25, if_pos c25]
  rw [if_neg c25, if_neg c25]
  by_cases c26 : lg_cmp l (14584813 : Int64) = 0
  · rw [if_pos c26, if_pos c26]
  rw [if_neg c26, if_neg c26]
  by_cases c27 : lg_cmp l (13769963 : Int64) = 0
  · rw [if_pos c27, if_pos c27]
  rw [if_neg c27, if_neg c27]
  by_cases c28 : lg_cmp l (784243941 : Int64) = 0
  · rw [if_pos c28, if_pos c28]
  rw [if_neg c28, if_neg c28]
  by_cases c29 : lg_cmp l (12548452 : Int64) = 0
  · rw [if_pos c29, if_pos c29]
  rw [if_neg c29, if_neg c29]
theorem wo_1 : ∀ w, w < 30 → wo (lQ (hkC w)) = nI (rI w) := by decide +kernel
theorem hk_b : ∀ w, w < 30 → hkC w < 1073741824 := by decide +kernel
theorem wo_0 {H : Nat} (hH : H < 9223372036854775808) (h : ∀ w, w < 30 → H ≠ hkC w) : wo (lQ H) = -1 := by
  have q : ∀ w, w < 30 → ∀ c : Int64, c = lQ (hkC w) → ¬ lg_cmp (lQ H) c = 0 := fun w hw c hc z => by
    rw [hc] at z
    have := hk_b w hw
    exact h w hw ((lQ_eq hH (by omega)).mp ((cmp_eq _ _).mp z))
  have hc : (935275816 : Int64) = lQ (hkC 0) ∧ (9133230 : Int64) = lQ (hkC 1) ∧ (868178852 : Int64) = lQ (hkC 2) ∧ (818583781 : Int64) = lQ (hkC 3) ∧ (14555877 : Int64) = lQ (hkC 4) ∧ (867326320 : Int64) = lQ (hkC 5) ∧ (10898213 : Int64) = lQ (hkC 6) ∧ (9313068 : Int64) = lQ (hkC 7) ∧ (848758905 : Int64) = lQ (hkC 8) ∧ (10681714 : Int64) = lQ (hkC 9) ∧ (2164 : Int64) = lQ (hkC 10) ∧ (158706 : Int64) = lQ (hkC 11) ∧ (3375 : Int64) = lQ (hkC 12) ∧ (2233 : Int64) = lQ (hkC 13) ∧ (3058 : Int64) = lQ (hkC 18) ∧ (138148 : Int64) = lQ (hkC 19) ∧ (191476 : Int64) = lQ (hkC 20) ∧ (2662 : Int64) = lQ (hkC 14) ∧ (13797742 : Int64) = lQ (hkC 15) ∧ (9882853 : Int64) = lQ (hkC 16) ∧ (154532 : Int64) = lQ (hkC 17) ∧ (227887 : Int64) = lQ (hkC 21) ∧ (191479 : Int64) = lQ (hkC 22) ∧ (3054 : Int64) = lQ (hkC 23) ∧ (613879080 : Int64) = lQ (hkC 24) ∧ (617240685 : Int64) = lQ (hkC 25) ∧ (14584813 : Int64) = lQ (hkC 26) ∧ (13769963 : Int64) = lQ (hkC 27) ∧ (784243941 : Int64) = lQ (hkC 28) ∧ (12548452 : Int64) = lQ (hkC 29) := by decide +kernel
  obtain ⟨h0, h1, h2, h3, h4, h5, h6, h7, h8, h9, h10, h11, h12, h13, h14, h15, h16, h17, h18, h19, h20, h21, h22, h23, h24, h25, h26, h27, h28, h29⟩ := hc
  unfold wo
  rw [if_neg (q 0 (by omega) _ h0), if_neg (q 1 (by omega) _ h1), if_neg (q 2 (by omega) _ h2), if_neg (q 3 (by omega) _ h3), if_neg (q 4 (by omega) _ h4), if_neg (q 5 (by omega) _ h5), if_neg (q 6 (by omega) _ h6), if_neg (q 7 (by omega) _ h7), if_neg (q 8 (by omega) _ h8), if_neg (q 9 (by omega) _ h9), if_neg (q 10 (by omega) _ h10), if_neg (q 11 (by omega) _ h11), if_neg (q 12 (by omega) _ h12), if_neg (q 13 (by omega) _ h13), if_neg (q 18 (by omega) _ h14), if_neg (q 19 (by omega) _ h15), if_neg (q 20 (by omega) _ h16), if_neg (q 14 (by omega) _ h17), if_neg (q 15 (by omega) _ h18), if_neg (q 16 (by omega) _ h19), if_neg (q 17 (by omega) _ h20), if_neg (q 21 (by omega) _ h21), if_neg (q 22 (by omega) _ h22), if_neg (q 23 (by omega) _ h23), if_neg (q 24 (by omega) _ h24), if_neg (q 25 (by omega) _ h25), if_neg (q 26 (by omega) _ h26), if_neg (q 27 (by omega) _ h27), if_neg (q 28 (by omega) _ h28), if_neg (q 29 (by omega) _ h29)]
theorem dec_iff {p q : Prop} [Decidable p] [Decidable q] (h : decide p = decide q) : p ↔ q := ⟨fun z => of_decide_eq_true (h ▸ decide_eq_true z), fun z => of_decide_eq_true (h.symm ▸ decide_eq_true z)⟩
def bv (x : Nat) : Int32 := (nI x).toInt8.toInt32
def bvL (x : Nat) : Bool := decide (¬ bv x < 97 ∧ ¬ 122 < bv x)
def bvU (x : Nat) : Bool := decide (¬ bv x < 65 ∧ ¬ 90 < bv x)
theorem bv_1 : ∀ x, x < 256 → bvL x = decide (97 ≤ x ∧ x ≤ 122) ∧ bvU x = decide (65 ≤ x ∧ x ≤ 90) := by decide +kernel
theorem bv_2 : ∀ x, x < 256 → decide (¬ bv x < 48 ∧ ¬ 57 < bv x) = isD x := by decide +kernel
theorem bv_3 : ∀ x, x < 256 → decide (bv x = 32) = decide (x = 32) ∧ decide (bv x = 10) = decide (x = 10) ∧ decide (bv x = 61) = decide (x = 61) ∧ decide (bv x = 60) = decide (x = 60) ∧ decide (bv x = 62) = decide (x = 62) := by decide +kernel
theorem bv_4 : ∀ x, x < 128 → bv x = nI x := by decide +kernel
/-- what sort a sign is of -/
def sgS (x : Nat) : Bool := decide (59 ≤ x ∧ x ≤ 62) || (decide (40 ≤ x ∧ x ≤ 45) || (decide (x = 47) || decide (x = 35)))
theorem bv_5 : ∀ x, x < 256 → decide (¬ bv x < 59 ∧ ¬ 62 < bv x) = decide (59 ≤ x ∧ x ≤ 62) ∧ decide (¬ bv x < 40 ∧ ¬ 45 < bv x) = decide (40 ≤ x ∧ x ≤ 45) ∧ decide (bv x = 47) = decide (x = 47) ∧ decide (bv x = 35) = decide (x = 35) := by decide +kernel
theorem isLetter_M (x : Nat) (hx : x < 256) (τ : gx_R) : Md_isLetter (bv x) τ = some (bI (isL x), τ) := by
  obtain ⟨h1, h2⟩ := bv_1 x hx
  unfold bvL at h1
  unfold bvU at h2
  rw [Md_isLetter, Md_in_v, h1, w_bd]
  unfold isL
  cases decide (97 ≤ x ∧ x ≤ 122) with
  | true => rw [bI_t, if_neg (by decide)]; rfl
  | false =>
    rw [bI_f, if_pos rfl, Md_in_v, h2, w_bd, Bool.false_or]
    cases decide (65 ≤ x ∧ x ≤ 90) with
    | true => rw [bI_t, if_neg (by decide)]; rfl
    | false => rw [bI_f, if_pos rfl]
def TpM (τ : gx_R) (b : Nat → Nat) (n : Nat) : Prop := n ≤ 300 ∧ τ 109 14 = nI n ∧ ∀ i, i < n → τ 112 i = bv (b i) ∧ b i < 256
theorem TpM_c {τ0 τ : gx_R} {b : Nat → Nat} {n : Nat} (h : τ 112 = τ0 112) (h1 : τ 109 14 = τ0 109 14) (hT : TpM τ0 b n) : TpM τ b n := ⟨hT.1, by rw [h1]; exact hT.2.1, fun i hi => by rw [h]; exact hT.2.2 i hi⟩
def sI (k : Nat) : Nat := if k < 36 then (match k with | 31 => 60 | 32 => 300 | 33 => 62 | 34 => 301 | _ => 61) else (match k with | 36 => 35 | 37 => 43 | 38 => 45 | 39 => 42 | 40 => 47 | 41 => 40 | 42 => 41 | _ => 59)
/-- how the class and the reference name one TOKEN -/
def KR (k num : Nat) (so is : Int32) : Prop :=
  (k < 30 ∧ so = 1 ∧ is = nI (rI k)) ∨ (k = 30 ∧ so = 2 ∧ ∃ u, is = nI u ∧ u ≤ 1000000 ∧ num = min u 10000) ∨ (31 ≤ k ∧ k ≤ 43 ∧ so = 3 ∧ is = nI (sI k)) ∨ (k = 44 ∧ so = 0) ∨ (k = 45 ∧ (so = 4 ∨ (so = 3 ∧ is = 44)))
def nxF (τ0 τ : gx_R) : Prop := (∀ c, c ≠ 109 → τ c = τ0 c) ∧ ∀ j, ¬ (15 ≤ j ∧ j ≤ 18) → τ 109 j = τ0 109 j
theorem word_L {τ0 : gx_R} {b : Nat → Nat} {n s : Nat} (hs : s ≤ n) : ∀ m k f τ, s + k + m = n → m < f → TpM τ b n → nxF τ0 τ → τ 109 16 = nI s → τ 109 15 = nI (s + k) → ∃ τ' L, Md_next_52 f (lQ (hsF (fun i => b (s + i) - 64) (min k 8))) (nI k) τ = Md_next_90 (lQ (hsF (fun i => b (s + i) - 64) (min L 8))) (nI L) τ' ∧ s + L = tkR isL b n (s + k) ∧ nxF τ0 τ' ∧ τ' 109 16 = nI s ∧ τ' 109 15 = nI (s + L) := by
  intro m
  induction m with
  | zero =>
    intro k f τ h1 h2 hT hF h16 h15
    obtain ⟨f, rfl⟩ : ∃ q, f = q + 1 := ⟨f - 1, by omega⟩
    have hn := hT.1
    refine ⟨τ, k, ?_, by rw [tkR_n (by omega)], hF, h16, h15⟩
    rw [Md_next_52, Md_next_52_B, hT.2.1, h15, if_pos ((nI_leI (by omega) (by omega)).mpr (by omega))]
  | succ m ih =>
    intro k f τ h1 h2 hT hF h16 h15
    obtain ⟨f, rfl⟩ : ∃ q, f = q + 1 := ⟨f - 1, by omega⟩
    have hn := hT.1
    obtain ⟨t1, t2⟩ := hT.2.2 (s + k) (by omega)
    rw [Md_next_52, Md_next_52_B, hT.2.1, h15, if_neg (fun z => by have := (nI_leI (by omega) (by omega)).mp z; omega), ix_n (by omega), decide_eq_true (show s + k < 300 by omega), w_ck, cl_n (by omega), t1, isLetter_M _ t2, w_bd]
    cases hb : isL (b (s + k)) with
    | false =>
      rw [bI_f, if_pos rfl]
      exact ⟨τ, k, rfl, by rw [tkR_f (by omega) hb], hF, h16, h15⟩
    | true =>
      have hx := isL_b hb
      have go := ih (k + 1) f (gx_up τ 109 15 (nI (s + k + 1))) (by omega) (by omega) (TpM_c (gx_up_ne (by omega)) (up_p _ _ _ (by omega)) hT) ⟨fun c hc => by rw [gx_up_ne hc]; exact hF.1 c hc, fun j hj => by rw [up_p _ _ _ (by omega)]; exact hF.2 j hj⟩ (by rw [up_p _ _ _ (by omega)]; exact h16) (by rw [up_e]; rfl)
      rw [show s + (k + 1) = s + k + 1 by omega, ← tkR_t (by omega) hb] at go
      have e81 : ∀ l, Md_next_81 (Md_next_52 f) (nI k) l τ = Md_next_52 f l (nI (k + 1)) (gx_up τ 109 15 (nI (s + k + 1))) := fun l => by
        rw [Md_next_81, h15, show nI (s + k) + 1 = nI (s + k + 1) from nI_add _ 1, show nI k + 1 = nI (k + 1) from nI_add k 1]
      rw [bI_t, if_neg (by decide)]
      by_cases c : 8 ≤ k
      · rw [if_pos (show (8 : Int32) ≤ nI k from (nI_leI (a := 8) (by omega) (by omega)).mpr c), e81]
        rw [show min (k + 1) 8 = min k 8 by omega] at go
        exact go
      · rw [if_neg (show ¬ (8 : Int32) ≤ nI k from fun z => c ((nI_leI (a := 8) (by omega) (by omega)).mp z)), h15, ix_n (by omega), decide_eq_true (show s + k < 300 by omega), w_ck, cl_n (by omega), t1, bv_4 _ (by omega), e81]
        rw [show min (k + 1) 8 = k + 1 by omega, hsF] at go
        have e : (64 : Int64) * lQ (hsF (fun i => b (s + i) - 64) (min k 8)) + (nI (b (s + k))).toInt64 - (64 : Int64) = lQ (64 * hsF (fun i => b (s + i) - 64) k + (b (s + k) - 64)) := by
          rw [show min k 8 = k by omega, show (64 : Int64) = lQ 64 from rfl, show (nI (b (s + k))).toInt64 = lQ (b (s + k)) from by rw [iI_n, iI_64 (by omega) (by omega)]; rfl, lQ_mul, lQ_add, lQ_sub (by omega)]
          congr 1
          omega
        rw [e]
        exact go
theorem num_L {τ0 : gx_R} {b : Nat → Nat} {n s : Nat} : ∀ m p f u τ, p + m = n → m < f → u ≤ 1000000 → TpM τ b n → nxF τ0 τ → τ 109 16 = nI s → τ 109 15 = nI p → τ 109 17 = 2 → τ 109 18 = nI u → ∃ τ' u', Md_next_119 f τ = some ((), τ') ∧ nxF τ0 τ' ∧ τ' 109 16 = nI s ∧ τ' 109 15 = nI (tkR isD b n p) ∧ τ' 109 17 = 2 ∧ τ' 109 18 = nI u' ∧ u' ≤ 1000000 ∧ nmE b (min u 10000) p (n - p) = min u' 10000 := by
  intro m
  induction m with
  | zero =>
    intro p f u τ h1 h2 hu hT hF h16 h15 h17 h18
    obtain ⟨f, rfl⟩ : ∃ q, f = q + 1 := ⟨f - 1, by omega⟩
    obtain rfl : p = n := by omega
    have hn := hT.1
    refine ⟨τ, u, ?_, hF, h16, by rw [tkR_n (Nat.le_refl _)]; exact h15, h17, h18, hu, by rw [Nat.sub_self]; rfl⟩
    rw [Md_next_119, Md_next_119_B, hT.2.1, h15, if_pos ((nI_leI (by omega) (by omega)).mpr (Nat.le_refl _))]
  | succ m ih =>
    intro p f u τ h1 h2 hu hT hF h16 h15 h17 h18
    obtain ⟨f, rfl⟩ : ∃ q, f = q + 1 := ⟨f - 1, by omega⟩
    have hn := hT.1
    obtain ⟨t1, t2⟩ := hT.2.2 p (by omega)
    have hd : n - p = (n - (p + 1)) + 1 := by omega
    rw [Md_next_119, Md_next_119_B, hT.2.1, h15, if_neg (fun z => by have := (nI_leI (by omega) (by omega)).mp z; omega), ix_n (by omega), decide_eq_true (show p < 300 by omega), w_ck, cl_n (by omega), t1, Md_in_v, bv_2 _ t2, w_bd, hd, nmE]
    cases hb : isD (b p) with
    | false =>
      rw [bI_f, if_pos rfl, if_neg (by decide)]
      exact ⟨τ, u, rfl, hF, h16, by rw [tkR_f (by omega) hb]; exact h15, h17, h18, hu, rfl⟩
    | true =>
      have hx : 48 ≤ b p ∧ b p ≤ 57 := of_decide_eq_true hb
      have go : ∀ u2, u2 ≤ 1000000 → min (min u 10000 * 10 + b p - 48) 10000 = min u2 10000 → ∃ τ' u', Md_next_153 (Md_next_119 f) (nI u2) τ = some ((), τ') ∧ nxF τ0 τ' ∧ τ' 109 16 = nI s ∧ τ' 109 15 = nI (tkR isD b n p) ∧ τ' 109 17 = 2 ∧ τ' 109 18 = nI u' ∧ u' ≤ 1000000 ∧ nmE b (min (min u 10000 * 10 + b p - 48) 10000) (p + 1) (n - (p + 1)) = min u' 10000 := by
        intro u2 h3 h4
        rw [Md_next_153, up_p _ _ _ (show (15 : Nat) ≠ 18 by omega), h15, show nI p + 1 = nI (p + 1) from nI_add p 1, tkR_t (by omega) hb, h4]
        exact ih (p + 1) f u2 _ (by omega) (by omega) h3 (TpM_c (by rw [gx_up_ne (by omega), gx_up_ne (by omega)]) (by rw [up_p _ _ _ (by omega), up_p _ _ _ (by omega)]) hT) ⟨fun c hc => by rw [gx_up_ne hc, gx_up_ne hc]; exact hF.1 c hc, fun j hj => by rw [up_p _ _ _ (by omega), up_p _ _ _ (by omega)]; exact hF.2 j hj⟩ (by rw [up_p _ _ _ (by omega), up_p _ _ _ (by omega)]; exact h16) (up_e _ _ _ _) (by rw [up_p _ _ _ (by omega), up_p _ _ _ (by omega)]; exact h17) (by rw [up_p _ _ _ (by omega), up_e])
      rw [bI_t, if_neg (by decide), if_pos rfl, h18]
      by_cases c : u ≤ 99999
      · rw [if_pos (show nI u ≤ (99999 : Int32) from (nI_leI (b := 99999) (by omega) (by omega)).mpr c), h15, ix_n (by omega), decide_eq_true (show p < 300 by omega), w_ck, cl_n (by omega), t1, bv_4 _ (by omega), show (10 : Int32) = nI 10 from rfl, pk_mul, nI_add, show (48 : Int32) = nI 48 from rfl, pk_sub (by omega)]
        exact go _ (by omega) (by omega)
      · rw [if_neg (show ¬ nI u ≤ (99999 : Int32) from fun z => c ((nI_leI (b := 99999) (by omega) (by omega)).mp z))]
        exact go u hu (by omega)
theorem sg_KR (x : Nat) (hx : x < 256) (lk : Bool) (num : Nat) (so is : Int32) (h1 : so = if sgS x = true then 3 else 4) (h2 : is = if lk = true ∧ x = 60 then 300 else if lk = true ∧ x = 62 then 301 else bv x) : KR (sgK x lk) num so is := by
  unfold sgK
  have big : x < 128 → bv x = nI x := bv_4 x
  have st : ∀ k : Nat, 31 ≤ k → k ≤ 43 → sgS x = true → is = nI (sI k) → KR k num so is := fun k k1 k2 k3 k4 => Or.inr (Or.inr (Or.inl ⟨k1, k2, by rw [h1, if_pos k3], k4⟩))
  have pl : ¬ x = 60 → ¬ x = 62 → is = bv x := fun z1 z2 => by rw [h2, if_neg (fun z => z1 z.2), if_neg (fun z => z2 z.2)]
  by_cases c0 : x = 35
  · rw [if_pos c0]; exact st 36 (by omega) (by omega) (by rw [c0]; rfl) (by rw [pl (by omega) (by omega), big (by omega), c0]; rfl)
  rw [if_neg c0]
  by_cases c1 : x = 40
  · rw [if_pos c1]; exact st 41 (by omega) (by omega) (by rw [c1]; rfl) (by rw [pl (by omega) (by omega), big (by omega), c1]; rfl)
  rw [if_neg c1]
  by_cases c2 : x = 41
  · rw [if_pos c2]; exact st 42 (by omega) (by omega) (by rw [c2]; rfl) (by rw [pl (by omega) (by omega), big (by omega), c2]; rfl)
  rw [if_neg c2]
  by_cases c3 : x = 42
  · rw [if_pos c3]; exact st 39 (by omega) (by omega) (by rw [c3]; rfl) (by rw [pl (by omega) (by omega), big (by omega), c3]; rfl)
  rw [if_neg c3]
  by_cases c4 : x = 43
  · rw [if_pos c4]; exact st 37 (by omega) (by omega) (by rw [c4]; rfl) (by rw [pl (by omega) (by omega), big (by omega), c4]; rfl)
  rw [if_neg c4]
  by_cases c5 : x = 45
  · rw [if_pos c5]; exact st 38 (by omega) (by omega) (by rw [c5]; rfl) (by rw [pl (by omega) (by omega), big (by omega), c5]; rfl)
  rw [if_neg c5]
  by_cases c6 : x = 47
  · rw [if_pos c6]; exact st 40 (by omega) (by omega) (by rw [c6]; rfl) (by rw [pl (by omega) (by omega), big (by omega), c6]; rfl)
  rw [if_neg c6]
  by_cases c7 : x = 59
  · rw [if_pos c7]; exact st 43 (by omega) (by omega) (by rw [c7]; rfl) (by rw [pl (by omega) (by omega), big (by omega), c7]; rfl)
  rw [if_neg c7]
  by_cases c8 : x = 60
  · rw [if_pos c8]
    cases lk with
    | true => rw [if_pos rfl]; exact st 32 (by omega) (by omega) (by rw [c8]; rfl) (by rw [h2, if_pos ⟨rfl, c8⟩]; rfl)
    | false => rw [if_neg (by decide)]; exact st 31 (by omega) (by omega) (by rw [c8]; rfl) (by rw [h2, if_neg (fun z => by cases z.1), if_neg (fun z => by cases z.1), big (by omega), c8]; rfl)
  rw [if_neg c8]
  by_cases c9 : x = 61
  · rw [if_pos c9]; exact st 35 (by omega) (by omega) (by rw [c9]; rfl) (by rw [pl (by omega) (by omega), big (by omega), c9]; rfl)
  rw [if_neg c9]
  by_cases ca : x = 62
  · rw [if_pos ca]
    cases lk with
    | true => rw [if_pos rfl]; exact st 34 (by omega) (by omega) (by rw [ca]; rfl) (by rw [h2, if_neg (by omega), if_pos ⟨rfl, ca⟩]; rfl)
    | false => rw [if_neg (by decide)]; exact st 33 (by omega) (by omega) (by rw [ca]; rfl) (by rw [h2, if_neg (fun z => by cases z.1), if_neg (fun z => by cases z.1), big (by omega), ca]; rfl)
  rw [if_neg ca]
  refine Or.inr (Or.inr (Or.inr (Or.inr ⟨rfl, ?_⟩)))
  by_cases cb : x = 44
  · exact Or.inr ⟨by rw [h1, cb]; rfl, by rw [pl c8 ca, big (by omega), cb]; rfl⟩
  · refine Or.inl ?_
    rw [h1, if_neg]
    intro z
    unfold sgS at z
    simp only [Bool.or_eq_true, decide_eq_true_eq] at z
    omega
def nxR (τ0 : gx_R) (b : Nat → Nat) (n s : Nat) (r : Option (Unit × gx_R)) : Prop := ∃ τ', r = some ((), τ') ∧ nxF τ0 τ' ∧ τ' 109 16 = nI s ∧ τ' 109 15 = nI (if s = n then n else tkE b n s) ∧ KR (if s = n then 44 else tkK b n s) (tkN b n s) (τ' 109 17) (τ' 109 18)
theorem nxF_u {τ0 τ : gx_R} {j : Nat} {x : Int32} (hj : 15 ≤ j ∧ j ≤ 18) (h : nxF τ0 τ) : nxF τ0 (gx_up τ 109 j x) := ⟨fun c hc => by rw [gx_up_ne hc]; exact h.1 c hc, fun i hi => by rw [up_p _ _ _ (by omega)]; exact h.2 i hi⟩
theorem word_KR {b : Nat → Nat} {s L num : Nat} {so is : Int32} (hL : ∀ i, i < L → isL (b (s + i)) = true) (h : (L ≤ 7 ∧ is = wo (lQ (hsF (fun i => b (s + i) - 64) L))) ∨ (¬ L ≤ 7 ∧ is = -1)) (hs : so = if 0 ≤ is then 1 else 4) : KR (kwL b s L) num so is := by
  have bnd : ∀ i, i < L → b (s + i) - 64 ≤ 63 := fun i hi => by have := isL_b (hL i hi); omega
  unfold kwL
  obtain ⟨l1, l2, l3⟩ := lw_sp (isW b s L) 30
  by_cases c : lw (isW b s L) 30 < 30
  · rw [if_pos c]
    have h1 := l2 c
    have h5 : L ≤ 5 := of_decide_eq_true (Bool.and_eq_true_iff.mp h1).1
    rcases h with ⟨-, h⟩ | ⟨h, -⟩
    · rw [(isW_h c hL).mp h1, wo_1 _ c] at h
      have hr : rI (lw (isW b s L) 30) < 2 ^ 31 := by unfold rI; split <;> (try split) <;> (try split) <;> omega
      refine Or.inl ⟨c, ?_, h⟩
      rw [hs, h, if_pos ((n_0le hr).mpr trivial)]
    · omega
  · rw [if_neg c]
    have hno : ∀ w, w < 30 → isW b s L w = false := fun w hw => l3 w (by omega)
    have e : is = -1 := by
      rcases h with ⟨h, h2⟩ | ⟨-, h⟩
      · have hb := hsF_b (g := fun i => b (s + i) - 64) L bnd
        have : 64 ^ L ≤ 64 ^ 7 := Nat.pow_le_pow_right (by omega) h
        rw [h2]
        refine wo_0 (by omega) (fun w hw z => ?_)
        have := (isW_h hw hL).mpr z
        rw [hno w hw] at this
        cases this
      · exact h
    refine Or.inr (Or.inr (Or.inr (Or.inr ⟨rfl, Or.inl ?_⟩)))
    rw [hs, e, if_neg (by decide)]
theorem next26_v {τ0 τ : gx_R} {b : Nat → Nat} {n s : Nat} (hT : TpM τ b n) (hs : s ≤ n) (hF : nxF τ0 τ) (h15 : τ 109 15 = nI s) : nxR τ0 b n s (Md_next_26 τ) := by
  have hn := hT.1
  have hz := z_FU_ge
  obtain ⟨τa, ha⟩ : ∃ τa, τa = gx_up τ 109 16 (nI s) := ⟨_, rfl⟩
  have a15 : τa 109 15 = nI s := by rw [ha, up_p _ _ _ (by omega)]; exact h15
  have a14 : τa 109 14 = nI n := by rw [ha, up_p _ _ _ (by omega)]; exact hT.2.1
  have a16 : τa 109 16 = nI s := by rw [ha, up_e]
  have aT : TpM τa b n := by rw [ha]; exact TpM_c (gx_up_ne (by omega)) (up_p _ _ _ (by omega)) hT
  have aF : nxF τ0 τa := by rw [ha]; exact nxF_u (by omega) hF
  rw [Md_next_26, h15, ← ha, a15, a14]
  by_cases c0 : s = n
  · rw [if_pos (by rw [c0])]
    refine ⟨_, rfl, nxF_u (by omega) aF, by rw [up_p _ _ _ (by omega)]; exact a16, by rw [up_p _ _ _ (by omega), if_pos c0, ← c0]; exact a15, ?_⟩
    rw [if_pos c0, up_e]
    exact Or.inr (Or.inr (Or.inr (Or.inl ⟨rfl, rfl⟩)))
  · obtain ⟨t1, t2⟩ := aT.2.2 s (by omega)
    rw [if_neg (fun z => c0 ((nI_eq (by omega) (by omega)).mp z)), ix_n (by omega), decide_eq_true (show s < 300 by omega), w_ck, cl_n (by omega), t1, isLetter_M _ t2, w_bd]
    unfold nxR
    rw [if_neg c0, if_neg c0]
    cases hl : isL (b s) with
    | true =>
      have eK : tkK b n s = kwL b s (tkR isL b n s - s) := by unfold tkK; rw [if_pos hl]
      have eE : tkE b n s = tkR isL b n s := by unfold tkE; rw [if_pos hl]
      obtain ⟨τ1, L, w1, w2, w3, w4, w5⟩ := word_L (τ0 := τ0) (b := b) (n := n) (s := s) hs (n - s) 0 z_FU τa (by omega) (by omega) aT aF a16 a15
      have w1 : Md_next_52 z_FU 0 0 τa = _ := w1
      rw [Nat.add_zero] at w2
      have eL : tkR isL b n s - s = L := by omega
      obtain ⟨r1, r2, r3, r4⟩ := tkR_b (P := isL) (b := b) (n := n) (n - s) s (by omega)
      have hL : ∀ i, i < L → isL (b (s + i)) = true := fun i hi => r3 (s + i) (by omega) (by omega)
      have fin : ∀ r : Int32, ((L ≤ 7 ∧ r = wo (lQ (hsF (fun i => b (s + i) - 64) L))) ∨ (¬ L ≤ 7 ∧ r = -1)) → ∃ τ', Md_next_98 r τ1 = some ((), τ') ∧ nxF τ0 τ' ∧ τ' 109 16 = nI s ∧ τ' 109 15 = nI (tkE b n s) ∧ KR (tkK b n s) (tkN b n s) (τ' 109 17) (τ' 109 18) := by
        intro r hr
        rw [Md_next_98, up_e, eK, eL, eE, ← w2]
        by_cases c : 0 ≤ r
        · rw [if_pos c, Md_next_106]
          refine ⟨_, rfl, nxF_u (by omega) (nxF_u (by omega) w3), by rw [up_p _ _ _ (by omega), up_p _ _ _ (by omega)]; exact w4, by rw [up_p _ _ _ (by omega), up_p _ _ _ (by omega)]; exact w5, ?_⟩
          rw [up_e, up_p _ _ _ (by omega), up_e]
          exact word_KR hL hr (by rw [if_pos c])
        · rw [if_neg c, Md_next_106]
          refine ⟨_, rfl, nxF_u (by omega) (nxF_u (by omega) w3), by rw [up_p _ _ _ (by omega), up_p _ _ _ (by omega)]; exact w4, by rw [up_p _ _ _ (by omega), up_p _ _ _ (by omega)]; exact w5, ?_⟩
          rw [up_e, up_p _ _ _ (by omega), up_e]
          exact word_KR hL hr (by rw [if_neg c])
      rw [bI_t, if_neg (by decide), w1, Md_next_90]
      by_cases c : L ≤ 7
      · rw [if_pos (show nI L ≤ (7 : Int32) from (nI_leI (b := 7) (by omega) (by omega)).mpr c), wo_v, w_bd, show min L 8 = L by omega]
        exact fin _ (Or.inl ⟨c, rfl⟩)
      · rw [if_neg (show ¬ nI L ≤ (7 : Int32) from fun z => c ((nI_leI (b := 7) (by omega) (by omega)).mp z))]
        exact fin _ (Or.inr ⟨c, rfl⟩)
    | false =>
      rw [bI_f, if_pos rfl, Md_in_v, bv_2 _ t2, w_bd]
      cases hd : isD (b s) with
      | true =>
        have eK : tkK b n s = 30 := by unfold tkK; rw [hl, if_neg (by decide), if_pos hd]
        have eE : tkE b n s = tkR isD b n s := by unfold tkE; rw [hl, if_neg (by decide), if_pos hd]
        obtain ⟨τ1, u, u1, u2, u3, u4, u5, u6, u7, u8⟩ := num_L (τ0 := τ0) (b := b) (n := n) (s := s) (n - s) s z_FU 0 (gx_up (gx_up τa 109 17 2) 109 18 0) (by omega) (by omega) (by omega) (TpM_c (by rw [gx_up_ne (by omega), gx_up_ne (by omega)]) (by rw [up_p _ _ _ (by omega), up_p _ _ _ (by omega)]) aT) (nxF_u (by omega) (nxF_u (by omega) aF)) (by rw [up_p _ _ _ (by omega), up_p _ _ _ (by omega)]; exact a16) (by rw [up_p _ _ _ (by omega), up_p _ _ _ (by omega)]; exact a15) (by rw [up_p _ _ _ (by omega), up_e]) (by rw [up_e]; rfl)
        rw [bI_t, if_neg (by decide)]
        refine ⟨τ1, u1, u2, u3, by rw [eE]; exact u4, ?_⟩
        rw [eK, u5, u6]
        exact Or.inr (Or.inl ⟨rfl, rfl, u, rfl, u7, u8⟩)
      | false =>
        have eK : tkK b n s = sgK (b s) (lkT b n s) := by unfold tkK; rw [hl, if_neg (by decide), hd, if_neg (by decide)]
        have eE : tkE b n s = if lkT b n s = true ∧ (b s = 60 ∨ b s = 62) then s + 2 else s + 1 := by unfold tkE; rw [hl, if_neg (by decide), hd, if_neg (by decide)]
        obtain ⟨v1, v2, v3, v4⟩ := bv_5 _ t2
        obtain ⟨-, -, -, v60, v62⟩ := bv_3 _ t2
        have e60 : bv (b s) = 60 ↔ b s = 60 := dec_iff v60
        have e62 : bv (b s) = 62 ↔ b s = 62 := dec_iff v62
        obtain ⟨τ2, h2⟩ : ∃ τ2, τ2 = gx_up (gx_up τa 109 15 (nI (s + 1))) 109 18 (bv (b s)) := ⟨_, rfl⟩
        have b15 : τ2 109 15 = nI (s + 1) := by rw [h2, up_p _ _ _ (by omega), up_e]
        have b14 : τ2 109 14 = nI n := by rw [h2, up_p _ _ _ (by omega), up_p _ _ _ (by omega)]; exact a14
        have b16 : τ2 109 16 = nI s := by rw [h2, up_p _ _ _ (by omega), up_p _ _ _ (by omega)]; exact a16
        have b18 : τ2 109 18 = bv (b s) := by rw [h2, up_e]
        have bT : TpM τ2 b n := by rw [h2]; exact TpM_c (by rw [gx_up_ne (by omega), gx_up_ne (by omega)]) (by rw [up_p _ _ _ (by omega), up_p _ _ _ (by omega)]) aT
        have bF : nxF τ0 τ2 := by rw [h2]; exact nxF_u (by omega) (nxF_u (by omega) aF)
        have fin : ∀ so : Int32, (so = if sgS (b s) = true then 3 else 4) → ∃ τ', Md_next_190 (bv (b s)) so τ2 = some ((), τ') ∧ nxF τ0 τ' ∧ τ' 109 16 = nI s ∧ τ' 109 15 = nI (tkE b n s) ∧ KR (tkK b n s) (tkN b n s) (τ' 109 17) (τ' 109 18) := by
          intro so hso
          rw [eK, eE]
          -- with no '=' behind
          have plain : ¬ (lkT b n s = true ∧ (b s = 60 ∨ b s = 62)) → ∃ τ', (some ((), gx_up τ2 109 17 so) : Option (Unit × gx_R)) = some ((), τ') ∧ nxF τ0 τ' ∧ τ' 109 16 = nI s ∧ τ' 109 15 = nI (if lkT b n s = true ∧ (b s = 60 ∨ b s = 62) then s + 2 else s + 1) ∧ KR (sgK (b s) (lkT b n s)) (tkN b n s) (τ' 109 17) (τ' 109 18) := by
            intro hno
            refine ⟨_, rfl, nxF_u (by omega) bF, by rw [up_p _ _ _ (by omega)]; exact b16, by rw [if_neg hno, up_p _ _ _ (by omega)]; exact b15, ?_⟩
            rw [up_e, up_p _ _ _ (by omega), b18]
            exact sg_KR _ t2 _ _ _ _ hso (by rw [if_neg (fun z => hno ⟨z.1, Or.inl z.2⟩), if_neg (fun z => hno ⟨z.1, Or.inr z.2⟩)])
          have two : (b s = 60 ∨ b s = 62) → ∃ τ', Md_next_197 (bv (b s)) (gx_up τ2 109 17 so) = some ((), τ') ∧ nxF τ0 τ' ∧ τ' 109 16 = nI s ∧ τ' 109 15 = nI (if lkT b n s = true ∧ (b s = 60 ∨ b s = 62) then s + 2 else s + 1) ∧ KR (sgK (b s) (lkT b n s)) (tkN b n s) (τ' 109 17) (τ' 109 18) := by
            intro hx
            rw [Md_next_197, up_p _ _ _ (show (14 : Nat) ≠ 17 by omega), up_p _ _ _ (show (15 : Nat) ≠ 17 by omega), b14, b15]
            by_cases c1 : n ≤ s + 1
            · rw [if_pos ((nI_leI (by omega) (by omega)).mpr c1)]
              exact plain (fun z => by
                have := of_decide_eq_true (Bool.and_eq_true_iff.mp z.1).1
                omega)
            · obtain ⟨y1, y2⟩ := bT.2.2 (s + 1) (by omega)
              obtain ⟨-, -, v61, -⟩ := bv_3 _ y2
              have e61 : bv (b (s + 1)) = 61 ↔ b (s + 1) = 61 := dec_iff v61
              rw [if_neg (fun z => c1 ((nI_leI (by omega) (by omega)).mp z)), ix_n (by omega), decide_eq_true (show s + 1 < 300 by omega), w_ck, cl_n (by omega), up_c _ _ _ _ (show (112 : Nat) ≠ 109 by omega), y1]
              by_cases c2 : b (s + 1) = 61
              · have hlk : lkT b n s = true := by unfold lkT; rw [decide_eq_true (show s + 1 < n by omega), decide_eq_true c2]; rfl
                have hS : sgS (b s) = true := by
                  rcases hx with hx | hx <;> rw [hx] <;> rfl
                rw [if_pos hS] at hso
                have last : ∀ v : Int32, (v = if b s = 60 then 300 else 301) → ∃ τ', Md_next_216 v (gx_up τ2 109 17 so) = some ((), τ') ∧ nxF τ0 τ' ∧ τ' 109 16 = nI s ∧ τ' 109 15 = nI (if lkT b n s = true ∧ (b s = 60 ∨ b s = 62) then s + 2 else s + 1) ∧ KR (sgK (b s) (lkT b n s)) (tkN b n s) (τ' 109 17) (τ' 109 18) := by
                  intro v hv
                  rw [Md_next_216, up_p _ _ _ (show (15 : Nat) ≠ 18 by omega), up_p _ _ _ (show (15 : Nat) ≠ 17 by omega), b15, show nI (s + 1) + 1 = nI (s + 2) from nI_add _ 1]
                  refine ⟨_, rfl, nxF_u (by omega) (nxF_u (by omega) (nxF_u (by omega) bF)), by rw [up_p _ _ _ (by omega), up_p _ _ _ (by omega), up_p _ _ _ (by omega)]; exact b16, by rw [if_pos ⟨hlk, hx⟩, up_e], ?_⟩
                  rw [up_p _ _ _ (show (17 : Nat) ≠ 15 by omega), up_p _ _ _ (show (17 : Nat) ≠ 18 by omega), up_e, up_p _ _ _ (show (18 : Nat) ≠ 15 by omega), up_e]
                  refine sg_KR _ t2 _ _ _ _ (by rw [if_pos hS]; exact hso) ?_
                  rw [hv]
                  by_cases z : b s = 60
                  · rw [if_pos z, if_pos ⟨hlk, z⟩]
                  · rw [if_neg z, if_neg (fun y => z y.2), if_pos ⟨hlk, by omega⟩]
                rw [if_pos (e61.mpr c2)]
                by_cases z : b s = 60
                · rw [if_pos (e60.mpr z)]; exact last 300 (by rw [if_pos z])
                · rw [if_neg (fun y => z (e60.mp y))]; exact last 301 (by rw [if_neg z])
              · rw [if_neg (fun z => c2 (e61.mp z))]
                exact plain (fun z => c2 (of_decide_eq_true (Bool.and_eq_true_iff.mp z.1).2))
          rw [Md_next_190]
          by_cases z1 : b s = 60
          · rw [if_pos (e60.mpr z1)]; exact two (Or.inl z1)
          · rw [if_neg (fun y => z1 (e60.mp y))]
            by_cases z2 : b s = 62
            · rw [if_pos (e62.mpr z2)]; exact two (Or.inr z2)
            · rw [if_neg (fun y => z2 (e62.mp y))]
              exact plain (fun z => z.2.elim z1 z2)
        have e47 : bv (b s) = 47 ↔ b s = 47 := dec_iff v3
        have e35 : bv (b s) = 35 ↔ b s = 35 := dec_iff v4
        rw [bI_f, if_pos rfl, a15, show nI s + 1 = nI (s + 1) from nI_add s 1, ← h2, Md_in_v, v1, w_bd]
        cases h59 : decide (59 ≤ b s ∧ b s ≤ 62) with
        | true => rw [bI_t, if_neg (by decide), Md_next_187]; exact fin 3 (by unfold sgS; rw [h59]; rfl)
        | false =>
          rw [bI_f, if_pos rfl, Md_in_v, v2, w_bd]
          cases h40 : decide (40 ≤ b s ∧ b s ≤ 45) with
          | true => rw [bI_t, if_neg (by decide), Md_next_187]; exact fin 3 (by unfold sgS; rw [h59, h40]; rfl)
          | false =>
            rw [bI_f, if_pos rfl]
            by_cases z1 : b s = 47
            · rw [if_pos (e47.mpr z1), Md_next_187]; exact fin 3 (by unfold sgS; rw [z1]; rfl)
            · rw [if_neg (fun y => z1 (e47.mp y))]
              by_cases z2 : b s = 35
              · rw [if_pos (e35.mpr z2), Md_next_187]; exact fin 3 (by unfold sgS; rw [z2]; rfl)
              · rw [if_neg (fun y => z2 (e35.mp y))]
                exact fin 4 (by unfold sgS; rw [h59, h40, decide_eq_false z1, decide_eq_false z2]; rfl)
theorem nxt_L {τ0 : gx_R} {b : Nat → Nat} {n : Nat} : ∀ m p f τ, p + m = n → m < f → TpM τ b n → nxF τ0 τ → τ 109 15 = nI p → nxR τ0 b n (tkR isK b n p) (Md_next_0 f τ) := by
  intro m
  induction m with
  | zero =>
    intro p f τ h1 h2 hT hF h15
    obtain ⟨f, rfl⟩ : ∃ q, f = q + 1 := ⟨f - 1, by omega⟩
    obtain rfl : p = n := by omega
    have hn := hT.1
    rw [Md_next_0, Md_next_0_B, hT.2.1, h15, if_pos ((nI_leI (by omega) (by omega)).mpr (Nat.le_refl _)), tkR_n (Nat.le_refl _)]
    exact next26_v hT (Nat.le_refl _) hF h15
  | succ m ih =>
    intro p f τ h1 h2 hT hF h15
    obtain ⟨f, rfl⟩ : ∃ q, f = q + 1 := ⟨f - 1, by omega⟩
    have hn := hT.1
    obtain ⟨t1, t2⟩ := hT.2.2 p (by omega)
    obtain ⟨v32, v10, -⟩ := bv_3 _ t2
    have e32 : bv (b p) = 32 ↔ b p = 32 := dec_iff v32
    have e10 : bv (b p) = 10 ↔ b p = 10 := dec_iff v10
    rw [Md_next_0, Md_next_0_B, hT.2.1, h15, if_neg (fun z => by have := (nI_leI (by omega) (by omega)).mp z; omega), ix_n (by omega), decide_eq_true (show p < 300 by omega), w_ck, w_ck, cl_n (by omega), t1]
    have go : isK (b p) = true → nxR τ0 b n (tkR isK b n p) (Md_next_19 (Md_next_0 f) τ) := fun hb => by
      rw [Md_next_19, h15, show nI p + 1 = nI (p + 1) from nI_add p 1, tkR_t (by omega) hb]
      exact ih (p + 1) f _ (by omega) (by omega) (TpM_c (gx_up_ne (by omega)) (up_p _ _ _ (by omega)) hT) (nxF_u (by omega) hF) (up_e _ _ _ _)
    by_cases c1 : b p = 32
    · rw [if_pos (e32.mpr c1)]
      exact go (by unfold isK; rw [decide_eq_true c1]; rfl)
    · rw [if_neg (fun z => c1 (e32.mp z))]
      by_cases c2 : b p = 10
      · rw [if_pos (e10.mpr c2)]
        exact go (by unfold isK; rw [decide_eq_true c2, Bool.or_true])
      · rw [if_neg (fun z => c2 (e10.mp z)), tkR_f (by omega) (by unfold isK; rw [decide_eq_false c1, decide_eq_false c2]; rfl)]
        exact next26_v hT (by omega) hF h15
theorem nxt_v {τ : gx_R} {b : Nat → Nat} {n p : Nat} (hT : TpM τ b n) (hp : p ≤ n) (h15 : τ 109 15 = nI p) : nxR τ b n (tkR isK b n p) (Md_next τ) := nxt_L (n - p) p z_FU τ (by omega) (by have := z_FU_ge; have := hT.1; omega) hT ⟨fun _ _ => rfl, fun _ _ => rfl⟩ h15
