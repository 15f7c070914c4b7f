/-! ===== the class splits the tape ===== -/
theorem up_up (σ : gx_R) (c j : Nat) (x y : Int32) : gx_up (gx_up σ c j x) c j y = gx_up σ c j y := by
  funext c' j'
  by_cases z : c' = c
  · subst z
    by_cases y : j' = j
    · rw [y, up_e, up_e]
    · rw [up_p _ _ _ y, up_p _ _ _ y, up_p _ _ _ y]
  · rw [up_c _ _ _ _ z, up_c _ _ _ _ z, up_c _ _ _ _ z]
theorem up_same {σ : gx_R} {c j : Nat} {x : Int32} (h : σ c j = x) : gx_up σ c j x = σ := by
  funext c' j'
  by_cases z : c' = c
  · subst z
    by_cases y : j' = j
    · rw [y, up_e, h]
    · rw [up_p _ _ _ y]
  · rw [up_c _ _ _ _ z]
theorem TpC_c {σ0 σ : gx_R} {b : Nat → Nat} {n : Nat} (h : σ 38 = σ0 38) (h1 : σ 39 1 = σ0 39 1) (hT : TpC σ0 b n) : TpC σ b n := ⟨hT.1, by rw [h1]; exact hT.2.1, fun i hi => by rw [h]; exact hT.2.2 i hi⟩
theorem numberHere_L {b : Nat → Nat} {n t : Nat} (ht : t ≤ 300) : ∀ m p f v σ, p + m = n → m < f → v ≤ 10000 → TpC σ b n → σ 39 6 = nI t → σ 39 2 = nI p → Re_numberHere_2 f (nI v) σ = some (30, gx_up (gx_up σ 39 2 (nI (tkR isD b n p))) 42 t (nI (nmE b v p (n - p)))) := by
  intro m
  induction m with
  | zero =>
    intro p f v σ h1 h2 hv hT h6 h5
    obtain ⟨f, rfl⟩ : ∃ q, f = q + 1 := ⟨f - 1, by omega⟩
    obtain rfl : p = n := by omega
    have hn := hT.1
    rw [Re_numberHere_2, Re_numberHere_2_B, hT.2.1, h5, if_pos ((nI_leI (by omega) (by omega)).mpr (Nat.le_refl _)), Re_numberHere_35, h6, ix_n (by omega), decide_eq_true (show t < 301 by omega), w_ck, cl_n (by omega), tkR_n (Nat.le_refl _), up_same h5, Nat.sub_self]; rfl
  | succ m ih =>
    intro p f v σ h1 h2 hv hT h6 h5
    obtain ⟨f, rfl⟩ : ∃ q, f = q + 1 := ⟨f - 1, by omega⟩
    have hn := hT.1
    obtain ⟨t1, t2⟩ := hT.2.2 p (by omega)
    have hd : n - p = (n - (p + 1)) + 1 := by omega
    rw [Re_numberHere_2, Re_numberHere_2_B, hT.2.1, h5, if_neg (fun z => by have := (nI_leI (by omega) (by omega)).mp z; omega), ix_n (by omega), decide_eq_true (show p < 300 by omega), w_ck, cl_n (by omega), t1, isDigit_C _ t2, w_bd, hd, nmE]
    cases hb : isD (b p) with
    | true =>
      have hx : 48 ≤ b p ∧ b p ≤ 57 := of_decide_eq_true hb
      have e : (if (10000 : Int32) < nI v * 10 + nI (b p) - 48 then (10000 : Int32) else nI v * 10 + nI (b p) - 48) = nI (min (v * 10 + b p - 48) 10000) := by
        rw [show (10 : Int32) = nI 10 from rfl, pk_mul, nI_add, show (48 : Int32) = nI 48 from rfl, pk_sub (by omega)]
        by_cases c : 10000 < v * 10 + b p - 48
        · rw [if_pos (show (10000 : Int32) < nI (v * 10 + b p - 48) from (nI_ltI (a := 10000) (by omega) (by omega)).mpr c), Nat.min_eq_right (by omega)]; rfl
        · rw [if_neg (show ¬ (10000 : Int32) < nI (v * 10 + b p - 48) from fun z => c ((nI_ltI (a := 10000) (by omega) (by omega)).mp z)), Nat.min_eq_left (by omega)]
      rw [bI_t, if_neg (by decide), h5, ix_n (by omega), decide_eq_true (show p < 300 by omega), w_ck, cl_n (by omega), t1, e, show nI p + 1 = nI (p + 1) from nI_add p 1, tkR_t (by omega) hb, if_pos rfl]
      have := ih (p + 1) f (min (v * 10 + b p - 48) 10000) (gx_up σ 39 2 (nI (p + 1))) (by omega) (by omega) (by omega) (TpC_c (gx_up_ne (by omega)) (up_p _ _ _ (by omega)) hT) (by rw [up_p _ _ _ (by omega)]; exact h6) (up_e _ _ _ _)
      rw [this, up_up]
    | false =>
      rw [bI_f, if_pos rfl, tkR_f (by omega) hb, Re_numberHere_35, h6, ix_n (by omega), decide_eq_true (show t < 301 by omega), w_ck, cl_n (by omega), up_same h5, if_neg (by decide)]
theorem sign_v (x : Nat) (hx : x < 256) (lk : Bool) (σ : gx_R) : Re_signHere_30 (nI x) (bI lk) σ = some (nI (sgK x lk), σ) := by
  have e : ∀ c : Nat, c < 256 → (nI x = nI c ↔ x = c) := fun c hc => nI_eq (by omega) (by omega)
  have a0 : nI x = 35 ↔ x = 35 := e 35 (by omega)
  have a1 : nI x = 40 ↔ x = 40 := e 40 (by omega)
  have a2 : nI x = 41 ↔ x = 41 := e 41 (by omega)
  have a3 : nI x = 42 ↔ x = 42 := e 42 (by omega)
  have a4 : nI x = 43 ↔ x = 43 := e 43 (by omega)
  have a5 : nI x = 45 ↔ x = 45 := e 45 (by omega)
  have a6 : nI x = 47 ↔ x = 47 := e 47 (by omega)
  have a7 : nI x = 59 ↔ x = 59 := e 59 (by omega)
  have a8 : nI x = 60 ↔ x = 60 := e 60 (by omega)
  have a9 : nI x = 61 ↔ x = 61 := e 61 (by omega)
  have aa : nI x = 62 ↔ x = 62 := e 62 (by omega)
  rw [Re_signHere_30]
  unfold sgK
  by_cases c0 : x = 35
  · rw [if_pos (a0.mpr c0), if_pos c0]; rfl
  rw [if_neg (fun z => c0 (a0.mp z)), if_neg c0]
  by_cases c1 : x = 40
  · rw [if_pos (a1.mpr c1), if_pos c1]; rfl
  rw [if_neg (fun z => c1 (a1.mp z)), if_neg c1]
  by_cases c2 : x = 41
  · rw [if_pos (a2.mpr c2), if_pos c2]; rfl
  rw [if_neg (fun z => c2 (a2.mp z)), if_neg c2]
  by_cases c3 : x = 42
  · rw [if_pos (a3.mpr c3), if_pos c3]; rfl
  rw [if_neg (fun z => c3 (a3.mp z)), if_neg c3]
  by_cases c4 : x = 43
  · rw [if_pos (a4.mpr c4), if_pos c4]; rfl
  rw [if_neg (fun z => c4 (a4.mp z)), if_neg c4]
  by_cases c5 : x = 45
  · rw [if_pos (a5.mpr c5), if_pos c5]; rfl
  rw [if_neg (fun z => c5 (a5.mp z)), if_neg c5]
  by_cases c6 : x = 47
  · rw [if_pos (a6.mpr c6), if_pos c6]; rfl
  rw [if_neg (fun z => c6 (a6.mp z)), if_neg c6]
  by_cases c7 : x = 59
  · rw [if_pos (a7.mpr c7), if_pos c7]; rfl
  rw [if_neg (fun z => c7 (a7.mp z)), if_neg c7]
  by_cases c8 : x = 60
  · rw [if_pos (a8.mpr c8), if_pos c8]
    cases lk with
    | true => rw [bI_t, if_neg (by decide), if_pos rfl]; rfl
    | false => rw [bI_f, if_pos rfl, if_neg (by decide)]; rfl
  rw [if_neg (fun z => c8 (a8.mp z)), if_neg c8]
  by_cases c9 : x = 61
  · rw [if_pos (a9.mpr c9), if_pos c9]; rfl
  rw [if_neg (fun z => c9 (a9.mp z)), if_neg c9]
  by_cases ca : x = 62
  · rw [if_pos (aa.mpr ca), if_pos ca]
    cases lk with
    | true => rw [bI_t, if_neg (by decide), if_pos rfl]; rfl
    | false => rw [bI_f, if_pos rfl, if_neg (by decide)]; rfl
  rw [if_neg (fun z => ca (aa.mp z)), if_neg ca]; rfl
theorem signHere_v {b : Nat → Nat} {n p : Nat} {σ : gx_R} (hT : TpC σ b n) (hp : p < n) (h5 : σ 39 2 = nI p) : Re_signHere (nI (b p)) σ = some (nI (sgK (b p) (lkT b n p)), gx_up σ 39 2 (nI (if lkT b n p = true ∧ (b p = 60 ∨ b p = 62) then p + 2 else p + 1))) := by
  have hn := hT.1
  have t2 := (hT.2.2 p hp).2
  have hT1 : TpC (gx_up σ 39 2 (nI (p + 1))) b n := TpC_c (gx_up_ne (by omega)) (up_p _ _ _ (by omega)) hT
  have lk : (if p + 1 < n then nI (b (p + 1)) else -1) = (61 : Int32) ↔ lkT b n p = true := by
    unfold lkT
    by_cases c : p + 1 < n
    · have t3 := (hT.2.2 (p + 1) c).2
      rw [if_pos c, decide_eq_true c, Bool.true_and]
      constructor
      · intro z; exact decide_eq_true ((nI_eq (b := 61) (by omega) (by omega)).mp z)
      · intro z; rw [of_decide_eq_true z]; rfl
    · rw [if_neg c, decide_eq_false c, Bool.false_and]
      exact ⟨fun z => absurd z (by decide), fun z => by cases z⟩
  have e60 : nI (b p) = 60 ↔ b p = 60 := nI_eq (b := 60) (by omega) (by omega)
  have e62 : nI (b p) = 62 ↔ b p = 62 := nI_eq (b := 62) (by omega) (by omega)
  rw [Re_signHere, h5, show nI p + 1 = nI (p + 1) from nI_add p 1, up_e, byteAt_C hT1 (by omega), w_bd]
  cases hl : lkT b n p with
  | true =>
    have two : Re_signHere_24 Re_signHere_30 (nI (b p)) 1 (gx_up σ 39 2 (nI (p + 1))) = some (nI (sgK (b p) true), gx_up σ 39 2 (nI (p + 2))) := by
      rw [Re_signHere_24, up_e, show nI (p + 1) + 1 = nI (p + 2) from nI_add _ 1, up_up]
      exact sign_v _ t2 true _
    rw [if_pos (lk.mpr hl), Re_signHere_15, if_neg (by decide)]
    by_cases c1 : b p = 60
    · rw [if_pos (e60.mpr c1), two, if_pos ⟨rfl, Or.inl c1⟩]
    · rw [if_neg (fun z => c1 (e60.mp z))]
      by_cases c2 : b p = 62
      · rw [if_pos (e62.mpr c2), two, if_pos ⟨rfl, Or.inr c2⟩]
      · rw [if_neg (fun z => c2 (e62.mp z)), if_neg (fun z => z.2.elim c1 c2)]
        exact sign_v _ t2 true _
  | false =>
    rw [if_neg (fun z => by rw [lk.mp z] at hl; cases hl), Re_signHere_15, if_pos rfl, if_neg (fun z => by cases z.1)]
    exact sign_v _ t2 false _
/-- the rows of TOKENS below t -/
def TkR (σ : gx_R) (b : Nat → Nat) (n t : Nat) : Prop := ∀ i, i < t → tkS b n i < n ∧ σ 41 i = nI (tkS b n i) ∧ σ 40 i = nI (tkK b n (tkS b n i)) ∧ (tkK b n (tkS b n i) = 30 → σ 42 i = nI (tkN b n (tkS b n i)))
theorem kwL_30 {b : Nat → Nat} {s L : Nat} : kwL b s L ≠ 30 ∧ (kwL b s L < 30 ∨ kwL b s L = 45) := by
  unfold kwL
  by_cases c : lw (isW b s L) 30 < 30
  · rw [if_pos c]; exact ⟨by omega, Or.inl c⟩
  · rw [if_neg c]; exact ⟨by omega, Or.inr rfl⟩
theorem sgK_30 {x : Nat} {lk : Bool} : sgK x lk ≠ 30 ∧ 31 ≤ sgK x lk ∧ sgK x lk ≤ 45 := by
  unfold sgK
  repeat' split
  all_goals exact ⟨by omega, by omega, by omega⟩
theorem split_L {σ0 : gx_R} {b : Nat → Nat} {n : Nat} (hT0 : TpC σ0 b n) : ∀ m p i t f σ, p + m = n → m < f → i ≤ p → t ≤ p → rdF σ0 σ → σ 39 2 = nI p → σ 39 6 = nI t → TkR σ b n t → tkR isK b n p = tkS b n t → ∃ T σ', Re_split_8 f (nI i) σ = some ((), σ') ∧ T ≤ n ∧ rdF σ0 σ' ∧ σ' 39 6 = nI (T + 1) ∧ TkR σ' b n T ∧ tkS b n T = n ∧ σ' 41 T = nI n ∧ σ' 40 T = 44 := by
  have hn := hT0.1
  intro m
  induction m using Nat.strongRecOn with
  | _ m ih =>
    intro p i t f σ h1 h2 hi ht hF h5 h6 hR hS
    obtain ⟨f, rfl⟩ : ∃ q, f = q + 1 := ⟨f - 1, by omega⟩
    have hT := TpC_F hF hT0
    by_cases hp : p = n
    · have e70 : Re_split_8 (f + 1) (nI i) σ = Re_split_70 σ := by
        rw [Re_split_8, Re_split_8_B]
        by_cases c : 300 < nI i
        · rw [if_pos c]
        · rw [if_neg c, hT.2.1, h5, if_pos ((nI_leI (by omega) (by omega)).mpr (by omega))]
      rw [tkR_n (by omega)] at hS
      refine ⟨t, _, by rw [e70, Re_split_70, h6, ix_n (by omega), decide_eq_true (show t < 301 by omega), w_ck, cl_n (by omega), up_c _ _ _ _ (show (39 : Nat) ≠ 41 by omega), h6, ix_n (by omega), decide_eq_true (show t < 301 by omega), w_ck, cl_n (by omega), up_c _ _ _ _ (show (39 : Nat) ≠ 40 by omega), up_c _ _ _ _ (show (39 : Nat) ≠ 41 by omega), h6, show nI t + 1 = nI (t + 1) from nI_add t 1], by omega, ⟨fun c hc hc2 => by rw [gx_up_ne hc, gx_up_ne (by omega), gx_up_ne (by omega)]; exact hF.1 c hc hc2, fun j j1 j2 => by rw [up_p _ _ _ j2, up_c _ _ _ _ (by omega), up_c _ _ _ _ (by omega)]; exact hF.2 j j1 j2⟩, up_e _ _ _ _, fun k hk => ?_, by omega, ?_, ?_⟩
      · obtain ⟨q1, q2, q3, q4⟩ := hR k hk
        refine ⟨q1, ?_, ?_, fun z => ?_⟩
        · rw [up_c _ _ _ _ (by omega), up_c _ _ _ _ (by omega), up_p _ _ _ (by omega)]; exact q2
        · rw [up_c _ _ _ _ (by omega), up_p _ _ _ (by omega), up_c _ _ _ _ (by omega)]; exact q3
        · rw [up_c _ _ _ _ (by omega), up_c _ _ _ _ (by omega), up_c _ _ _ _ (by omega)]; exact q4 z
      · rw [up_c _ _ _ _ (by omega), up_c _ _ _ _ (by omega), up_e, hT.2.1]
      · rw [up_c _ _ _ _ (by omega), up_e]
    · have hpn : p < n := by omega
      obtain ⟨t1, t2⟩ := hT.2.2 p hpn
      have st : ∀ r, Re_split_8 (f + 1) (nI i) σ = r ↔ (if nI (b p) = 32 then Re_split_28 (Re_split_68 (Re_split_8 f)) (nI i) σ else if nI (b p) = 10 then Re_split_28 (Re_split_68 (Re_split_8 f)) (nI i) σ else z_bd (Re_isLetter (nI (b p)) (gx_up σ 41 t (nI p))) (fun r7 σ8 => if r7 = 0 then z_bd (Re_isDigit (nI (b p)) σ8) (fun r11 σ12 => if r11 = 0 then z_bd (Re_signHere (nI (b p)) σ12) (fun r15 σ16 => Re_split_61 (Re_split_68 (Re_split_8 f)) (nI i) (nI t) r15 σ16) else z_bd (Re_numberHere σ12) (fun r18 σ19 => Re_split_61 (Re_split_68 (Re_split_8 f)) (nI i) (nI t) r18 σ19)) else z_bd (Re_wordHere σ8) (fun r21 σ22 => Re_split_61 (Re_split_68 (Re_split_8 f)) (nI i) (nI t) r21 σ22))) = r := by
        intro r
        rw [Re_split_8, Re_split_8_B, if_neg (show ¬ (300 : Int32) < nI i from fun z => by have := (nI_ltI (a := 300) (by omega) (by omega)).mp z; omega), hT.2.1, h5, if_neg (fun z => by have := (nI_leI (by omega) (by omega)).mp z; omega), ix_n (by omega), decide_eq_true (show p < 300 by omega), w_ck, cl_n (by omega), t1, h6, ix_n (by omega), decide_eq_true (show t < 301 by omega), w_ck, cl_n (by omega), up_c _ _ _ _ (show (39 : Nat) ≠ 41 by omega), h6]
      have e32 : nI (b p) = 32 ↔ b p = 32 := nI_eq (b := 32) (by omega) (by omega)
      have e10 : nI (b p) = 10 ↔ b p = 10 := nI_eq (b := 10) (by omega) (by omega)
      have e1 : nI i + 1 = nI (i + 1) := nI_add i 1
      by_cases hb : isK (b p) = true
      · have blank : ∃ T σ', Re_split_28 (Re_split_68 (Re_split_8 f)) (nI i) σ = some ((), σ') ∧ T ≤ n ∧ rdF σ0 σ' ∧ σ' 39 6 = nI (T + 1) ∧ TkR σ' b n T ∧ tkS b n T = n ∧ σ' 41 T = nI n ∧ σ' 40 T = 44 := by
          rw [Re_split_28, Re_split_68, e1, h5, show nI p + 1 = nI (p + 1) from nI_add p 1]
          refine ih (m - 1) (by omega) (p + 1) (i + 1) t f _ (by omega) (by omega) (by omega) (by omega) ⟨fun c hc hc2 => by rw [gx_up_ne hc]; exact hF.1 c hc hc2, fun j j1 j2 => by rw [up_p _ _ _ j1]; exact hF.2 j j1 j2⟩ (up_e _ _ _ _) (by rw [up_p _ _ _ (by omega)]; exact h6) (fun k hk => ?_) (by rw [← tkR_t hpn hb]; exact hS)
          rw [up_c _ _ _ _ (show (41 : Nat) ≠ 39 by omega), up_c _ _ _ _ (show (40 : Nat) ≠ 39 by omega), up_c _ _ _ _ (show (42 : Nat) ≠ 39 by omega)]
          exact hR k hk
        obtain ⟨T, σ', q1, q2⟩ := blank
        refine ⟨T, σ', (st _).mpr ?_, q2⟩
        unfold isK at hb
        rw [Bool.or_eq_true] at hb
        by_cases c1 : b p = 32
        · rw [if_pos (e32.mpr c1)]; exact q1
        · rcases hb with hb | hb
          · exact absurd (of_decide_eq_true hb) c1
          · rw [if_neg (fun z => c1 (e32.mp z)), if_pos (e10.mpr (of_decide_eq_true hb))]; exact q1
      · have hb : isK (b p) = false := by cases h : isK (b p) with | false => rfl | true => exact absurd h hb
        rw [tkR_f hpn hb] at hS
        unfold isK at hb
        obtain ⟨b1, b2⟩ := Bool.or_eq_false_iff.mp hb
        have b1 := of_decide_eq_false b1
        have b2 := of_decide_eq_false b2
        obtain ⟨te1, te2⟩ := tkE_b (b := b) hpn
        -- behind a TOKEN
        have next : ∀ σ1 : gx_R, (∀ c, c ≠ 39 → c ≠ 41 → c ≠ 42 → σ1 c = σ c) → (∀ j, j ≠ 2 → σ1 39 j = σ 39 j) → σ1 39 2 = nI (tkE b n p) → (∀ k, k < t → σ1 41 k = σ 41 k ∧ σ1 42 k = σ 42 k) → σ1 41 t = nI p → (tkK b n p = 30 → σ1 42 t = nI (tkN b n p)) → ∃ T σ', Re_split_61 (Re_split_68 (Re_split_8 f)) (nI i) (nI t) (nI (tkK b n p)) σ1 = some ((), σ') ∧ T ≤ n ∧ rdF σ0 σ' ∧ σ' 39 6 = nI (T + 1) ∧ TkR σ' b n T ∧ tkS b n T = n ∧ σ' 41 T = nI n ∧ σ' 40 T = 44 := by
          intro σ1 g1 g2 g3 g4 g5 g6
          rw [Re_split_61, ix_n (by omega), decide_eq_true (show t < 301 by omega), w_ck, cl_n (by omega), up_c _ _ _ _ (show (39 : Nat) ≠ 40 by omega), g2 6 (by omega), h6, show nI t + 1 = nI (t + 1) from nI_add t 1, Re_split_68, e1]
          refine ih (n - tkE b n p) (by omega) (tkE b n p) (i + 1) (t + 1) f _ (by omega) (by omega) (by omega) (by omega) ⟨fun c hc hc2 => by rw [gx_up_ne hc, gx_up_ne (by omega), g1 c hc (by omega) (by omega)]; exact hF.1 c hc hc2, fun j j1 j2 => by rw [up_p _ _ _ j2, up_c _ _ _ _ (by omega), g2 j j1]; exact hF.2 j j1 j2⟩ (by rw [up_p _ _ _ (by omega), up_c _ _ _ _ (by omega)]; exact g3) (up_e _ _ _ _) (fun k hk => ?_) (by rw [tkS, ← hS])
          rw [up_c _ _ _ _ (show (41 : Nat) ≠ 39 by omega), up_c _ _ _ _ (show (41 : Nat) ≠ 40 by omega), up_c _ _ _ _ (show (40 : Nat) ≠ 39 by omega), up_c _ _ _ _ (show (42 : Nat) ≠ 39 by omega), up_c _ _ _ _ (show (42 : Nat) ≠ 40 by omega)]
          by_cases z : k = t
          · rw [z, up_e, ← hS]
            exact ⟨hpn, g5, rfl, g6⟩
          · rw [up_p _ _ _ z, (g4 k (by omega)).1, (g4 k (by omega)).2, g1 40 (by omega) (by omega) (by omega)]
            exact hR k (by omega)
        have hT1 : TpC (gx_up σ 41 t (nI p)) b n := TpC_c (gx_up_ne (by omega)) (congrFun (gx_up_ne (by omega)) 1) hT
        have g5' : gx_up σ 41 t (nI p) 39 2 = nI p := by rw [up_c _ _ _ _ (by omega)]; exact h5
        have g6' : gx_up σ 41 t (nI p) 39 6 = nI t := by rw [up_c _ _ _ _ (by omega)]; exact h6
        cases hl : isL (b p) with
        | true =>
          have eK : tkK b n p = kwL b p (tkR isL b n p - p) := by unfold tkK; rw [if_pos hl]
          have eE : tkE b n p = tkR isL b n p := by unfold tkE; rw [if_pos hl]
          have wh : Re_wordHere (gx_up σ 41 t (nI p)) = some (nI (tkK b n p), gx_up (gx_up σ 41 t (nI p)) 39 2 (nI (tkE b n p))) := by
            rw [Re_wordHere, g5', eK, eE]
            exact wordHere_L hT1 m p z_FU _ h1 (by have := z_FU_ge; omega) (Nat.le_refl _) (fun _ _ _ => rfl) g5'
          obtain ⟨T, σ', q1, q2⟩ := next (gx_up (gx_up σ 41 t (nI p)) 39 2 (nI (tkE b n p))) (fun c c1 c2 c3 => by rw [gx_up_ne c1, gx_up_ne c2]) (fun j j1 => by rw [up_p _ _ _ j1, up_c _ _ _ _ (by omega)]) (up_e _ _ _ _) (fun k hk => ⟨by rw [up_c _ _ _ _ (by omega), up_p _ _ _ (by omega)], by rw [up_c _ _ _ _ (by omega), up_c _ _ _ _ (by omega)]⟩) (by rw [up_c _ _ _ _ (by omega), up_e]) (fun z => by rw [eK] at z; exact absurd z kwL_30.1)
          refine ⟨T, σ', (st _).mpr ?_, q2⟩
          rw [if_neg (fun z => b1 (e32.mp z)), if_neg (fun z => b2 (e10.mp z)), isLetter_C _ t2, hl, w_bd, bI_t, if_neg (by decide), wh, w_bd]
          exact q1
        | false =>
          cases hd : isD (b p) with
          | true =>
            have eK : tkK b n p = 30 := by unfold tkK; rw [hl, if_neg (by decide), if_pos hd]
            have eE : tkE b n p = tkR isD b n p := by unfold tkE; rw [hl, if_neg (by decide), if_pos hd]
            have nh := numberHere_L (b := b) (n := n) (t := t) (by omega) m p z_FU 0 (gx_up σ 41 t (nI p)) h1 (by have := z_FU_ge; omega) (by omega) hT1 g6' g5'
            have nh : Re_numberHere (gx_up σ 41 t (nI p)) = _ := nh
            obtain ⟨T, σ', q1, q2⟩ := next (gx_up (gx_up (gx_up σ 41 t (nI p)) 39 2 (nI (tkE b n p))) 42 t (nI (tkN b n p))) (fun c c1 c2 c3 => by rw [gx_up_ne c3, gx_up_ne c1, gx_up_ne c2]) (fun j j1 => by rw [up_c _ _ _ _ (by omega), up_p _ _ _ j1, up_c _ _ _ _ (by omega)]) (by rw [up_c _ _ _ _ (by omega), up_e]) (fun k hk => ⟨by rw [up_c _ _ _ _ (by omega), up_c _ _ _ _ (by omega), up_p _ _ _ (by omega)], by rw [up_p _ _ _ (by omega), up_c _ _ _ _ (by omega), up_c _ _ _ _ (by omega)]⟩) (by rw [up_c _ _ _ _ (by omega), up_c _ _ _ _ (by omega), up_e]) (fun _ => up_e _ _ _ _)
            refine ⟨T, σ', (st _).mpr ?_, q2⟩
            rw [if_neg (fun z => b1 (e32.mp z)), if_neg (fun z => b2 (e10.mp z)), isLetter_C _ t2, hl, w_bd, bI_f, if_pos rfl, isDigit_C _ t2, hd, w_bd, bI_t, if_neg (by decide), nh, w_bd]
            rw [eK, eE] at q1
            exact q1
          | false =>
            have eK : tkK b n p = sgK (b p) (lkT b n p) := by unfold tkK; rw [hl, if_neg (by decide), hd, if_neg (by decide)]
            have eE : tkE b n p = if lkT b n p = true ∧ (b p = 60 ∨ b p = 62) then p + 2 else p + 1 := by unfold tkE; rw [hl, if_neg (by decide), hd, if_neg (by decide)]
            have sh := signHere_v hT1 hpn g5'
            rw [← eK, ← eE] at sh
            obtain ⟨T, σ', q1, q2⟩ := next (gx_up (gx_up σ 41 t (nI p)) 39 2 (nI (tkE b n p))) (fun c c1 c2 c3 => by rw [gx_up_ne c1, gx_up_ne c2]) (fun j j1 => by rw [up_p _ _ _ j1, up_c _ _ _ _ (by omega)]) (up_e _ _ _ _) (fun k hk => ⟨by rw [up_c _ _ _ _ (by omega), up_p _ _ _ (by omega)], by rw [up_c _ _ _ _ (by omega), up_c _ _ _ _ (by omega)]⟩) (by rw [up_c _ _ _ _ (by omega), up_e]) (fun z => by rw [eK] at z; exact absurd z sgK_30.1)
            refine ⟨T, σ', (st _).mpr ?_, q2⟩
            rw [if_neg (fun z => b1 (e32.mp z)), if_neg (fun z => b2 (e10.mp z)), isLetter_C _ t2, hl, w_bd, bI_f, if_pos rfl, isDigit_C _ t2, hd, w_bd, bI_f, if_pos rfl, sh, w_bd]
            exact q1
theorem split_v {σ : gx_R} {b : Nat → Nat} {n : Nat} (hT : TpC σ b n) : ∃ T σ', Re_split σ = some ((), σ') ∧ T ≤ n ∧ rdF σ σ' ∧ σ' 39 6 = nI (T + 1) ∧ TkR σ' b n T ∧ tkS b n T = n ∧ σ' 41 T = nI n ∧ σ' 40 T = 44 := by
  have hn := hT.1
  exact split_L hT n 0 0 0 z_FU (gx_up (gx_up σ 39 2 0) 39 6 0) (by omega) (by have := z_FU_ge; omega) (Nat.le_refl _) (Nat.le_refl _) ⟨fun c hc _ => by rw [gx_up_ne hc, gx_up_ne hc], fun j j1 j2 => by rw [up_p _ _ _ j2, up_p _ _ _ j1]⟩ (by rw [up_p _ _ _ (by omega), up_e]; rfl) (by rw [up_e]; rfl) (fun k hk => absurd hk (Nat.not_lt_zero k)) rfl
