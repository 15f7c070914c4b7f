/-! ===== rotas: both alike ===== -/
theorem isGroup_u {σ : gx_R} {P u : Nat} (hP : P ≤ 8) (hu : u ≤ 8) (h0 : σ 2 0 = nI P) (a : Int32) : Fo_isGroup a 1 (nI u) σ = some (bI (gpB P a && decide (pcN 8 a.toNatClampNeg ≤ u)), σ) := by
  obtain ⟨c, hc⟩ : ∃ c, Jd_bitCount a σ = some (c, σ) := ⟨_, rfl⟩
  rw [Fo_isGroup, hc, w_bd, Fo_everyone, w_bd, h0, every_v hP]
  have h2 := pow_8 hP
  have h3 : 0 < 2 ^ P := Nat.two_pow_pos P
  by_cases hs : a &&& (nI (2 ^ P - 1) ^^^ -1) = 0
  · obtain ⟨k, hk, rfl⟩ := (group_sub hP a).mp hs
    have hk8 : k < 256 := by omega
    rw [bitCount_v hk8] at hc
    have e : c = nI (pcN 8 k) := by cases hc; rfl
    subst e
    have p8 := pcN_8 k
    have zk : ¬ nI (2 ^ P - 1) < nI k := fun z => by have := (nI_ltI (by omega) (by omega)).mp z; omega
    rw [if_pos hs, cl_n (by omega)]
    by_cases k0 : k = 0
    · subst k0
      rw [if_pos (by decide), show gpB P (nI 0) = false from decide_eq_false (fun z => z.1 (by decide))]; rfl
    · have pk : 1 ≤ pcN 8 k := (by decide +kernel : ∀ k, k < 256 → k ≠ 0 → 1 ≤ pcN 8 k) k hk8 k0
      have z1 : ¬ nI (pcN 8 k) < 1 := fun z => by have := (nI_ltI (b := 1) (by omega) (by omega)).mp z; omega
      have z2 : ¬ nI k < 1 := fun z => by have := (nI_ltI (b := 1) (by omega) (by omega)).mp z; omega
      rw [if_neg z1, show gpB P (nI k) = true from decide_eq_true ⟨z2, zk⟩]
      by_cases c : pcN 8 k ≤ u
      · rw [if_neg (fun z => by have := (nI_ltI (by omega) (by omega)).mp z; omega), decide_eq_true c]; rfl
      · rw [if_pos ((nI_ltI (by omega) (by omega)).mpr (by omega)), decide_eq_false c]; rfl
  · have hg : gpB P a = false := by
      cases h : gpB P a with
      | false => rfl
      | true =>
        obtain ⟨k, -, k2, k3⟩ := gp_n hP h
        exact absurd ((group_sub hP a).mpr ⟨k, k2, k3⟩) hs
    rw [if_neg hs, hg]; rfl
theorem cB_mono (f : Nat → Bool) {p : Nat} : ∀ q, p ≤ q → cB f p ≤ cB f q := by
  intro q
  induction q with
  | zero => intro h; rw [show p = 0 by omega]; exact Nat.le_refl _
  | succ q ih =>
    intro h
    by_cases e : p = q + 1
    · rw [e]; exact Nat.le_refl _
    · have := ih (by omega)
      rw [cB]; omega
theorem cB_lt {f : Nat → Bool} {p q : Nat} (h : p < q) (hf : f p = true) : cB f p < cB f q := by
  have := cB_mono f q (show p + 1 ≤ q by omega)
  rw [cB, hf] at this
  have e : (true).toNat = 1 := rfl
  omega
theorem cB_inj {f : Nat → Bool} {p q : Nat} (hp : f p = true) (hq : f q = true) (h : cB f p = cB f q) : p = q := by
  rcases Nat.lt_trichotomy p q with z | z | z
  · have := cB_lt z hp; omega
  · exact z
  · have := cB_lt z hq; omega
theorem cB_ex {f : Nat → Bool} {j : Nat} : ∀ n, j < cB f n → ∃ p, p < n ∧ f p = true ∧ cB f p = j := by
  intro n
  induction n with
  | zero => intro h; rw [cB] at h; omega
  | succ n ih =>
    intro h
    by_cases c : j < cB f n
    · obtain ⟨p, p1, p2, p3⟩ := ih c
      exact ⟨p, by omega, p2, p3⟩
    · rw [cB] at h
      cases hf : f n with
      | false => rw [hf] at h; exact absurd h (by have : (false).toNat = 0 := rfl; omega)
      | true =>
        rw [hf] at h
        have e : (true).toNat = 1 := rfl
        exact ⟨n, by omega, hf, by omega⟩
/-- the same rota told in other numbers -/
theorem mapR {g : Nat → Nat} {t : Nat → Nat} {n : Nat} (hi : ∀ i j, i < n → j < n → g (t i) = g (t j) → t i = t j) : ∀ h, h < n → roR (fun i => g (t i)) h = roR t h := by
  intro h
  induction h with
  | zero => intro _; rfl
  | succ h ih =>
    intro hh
    rw [roR, roR, ih (by omega)]
    by_cases z : t (h + 1) = t h
    · rw [if_pos z, if_pos (by rw [z])]
    · rw [if_neg z, if_neg (fun y => z (hi _ _ hh (by omega) y))]
theorem mapC {g : Nat → Nat} {t : Nat → Nat} {n : Nat} (hi : ∀ i j, i < n → j < n → g (t i) = g (t j) → t i = t j) : ∀ h, h < n → roC (fun i => g (t i)) h = roC t h := by
  intro h
  induction h with
  | zero => intro _; rfl
  | succ h ih =>
    intro hh
    rw [roC, roC, ih (by omega)]
    by_cases z : t (h + 1) = t h
    · rw [if_pos z, if_pos (by rw [z])]
    · rw [if_neg z, if_neg (fun y => z (hi _ _ hh (by omega) y))]
theorem mapL {g : Nat → Nat} {t : Nat → Nat} {n j : Nat} (hi : ∀ i j, i < n → j < n → g (t i) = g (t j) → t i = t j) (hj : j < n) : ∀ h, h ≤ n → roL (fun i => g (t i)) h (g (t j)) = roL t h (t j) := by
  intro h
  induction h with
  | zero => intro _; rfl
  | succ h ih =>
    intro hh
    rw [roL, roL, ih (by omega)]
    by_cases z : t h = t j
    · rw [if_pos z, if_pos (by rw [z])]
    · rw [if_neg z, if_neg (fun y => z (hi _ _ (by omega) hj y))]
theorem mapV {V V2 : Nat → Prop} {e r : Nat} {g : Nat → Nat} {t : Nat → Nat} {n : Nat} (hi : ∀ i j, i < n → j < n → g (t i) = g (t j) → t i = t j) (hg : ∀ p, V p → V2 (g p)) (hv : roV V e r t n) : roV V2 e r (fun i => g (t i)) n := by
  refine ⟨fun i h => hg _ (hv.1 i h), fun h hh => ?_⟩
  have := hv.2 h hh
  unfold roO at this ⊢
  rw [mapR hi h (by omega), mapL hi hh (h + 1) (by omega)]
  rcases this with ⟨z1, z2⟩ | ⟨z1, z2⟩
  · exact Or.inl ⟨by show g (t (h + 1)) = g (t h); rw [z1], z2⟩
  · exact Or.inr ⟨fun y => z1 (hi _ _ hh (by omega) y), z2⟩
theorem solve_L {σ0 : gx_R} {G : Int32} {e r n : Nat} (hn0 : 1 ≤ n) (hn : n ≤ 8) (he : 1 ≤ e) (he8 : e ≤ 8) (hr : r ≤ 8) (g0 : σ0 73 0 = nI n) (g1 : σ0 73 1 = G) (g2 : σ0 73 2 = nI e) (g3 : σ0 73 3 = nI r) : ∀ m p f b σ, p + m = 8 → m < f → roF σ0 σ → (∀ p, p < 8 → σ 74 p = lsI 0) → σ 73 7 = nI b → b ≤ 100 → ∃ b' σ', Ro_solve_2 f (nI p) σ = Ro_solve_21 σ' ∧ roF σ0 σ' ∧ σ' 73 7 = nI b' ∧ roP n (fun u => roV (roG G) e r u n ∧ p ≤ u 0) b (σ 76) b' (σ' 76) := by
  intro m
  induction m with
  | zero =>
    intro p f b σ h1 h2 h3 h5 h6 h7
    obtain ⟨f, rfl⟩ : ∃ q, f = q + 1 := ⟨f - 1, by omega⟩
    obtain rfl : p = 8 := by omega
    refine ⟨b, σ, ?_, h3, h6, roP_no (fun u z => ?_)⟩
    · rw [Ro_solve_2, Ro_solve_2_B, if_pos (show (8 : Int32) ≤ nI 8 by decide)]
    · have := (z.1.1 0 (by omega)).1
      have := z.2
      omega
  | succ m ih =>
    intro p f b σ h1 h2 h3 h5 h6 h7
    obtain ⟨f, rfl⟩ : ∃ q, f = q + 1 := ⟨f - 1, by omega⟩
    have e1 : nI p + 1 = nI (p + 1) := nI_add p 1
    rw [Ro_solve_2, Ro_solve_2_B, if_neg (fun z => by have := (nI_leI (a := 8) (by omega) (by omega)).mp z; omega), h3.2 1 (by omega), g1]
    cases hb : bt G p with
    | false =>
      obtain ⟨b', σ', i1, i2, i3, i4⟩ := ih (p + 1) f b σ (by omega) (by omega) h3 h5 h6 h7
      refine ⟨b', σ', ?_, i2, i3, roP_eq (fun u => ⟨fun z => ⟨z.1, by have := z.2; omega⟩, fun z => ⟨z.1, ?_⟩⟩) i4⟩
      · rw [if_neg (fun z => by have := (h_1 (by omega)).mp z; rw [hb] at this; cases this), Ro_solve_19, e1]; exact i1
      · rcases Nat.lt_or_ge p (u 0) with y | y
        · exact y
        · have e2 : u 0 = p := by have := z.2; omega
          have := (z.1.1 0 (by omega)).2
          rw [e2, hb] at this; cases this
    | true =>
      have hV : roV (roG G) e r (fun _ => p) (0 + 1) := ⟨fun i hi => ⟨by show p < 8; omega, hb⟩, fun i hi => by omega⟩
      obtain ⟨b1, σ1, j1, j2, j3, j4, j5, j6⟩ := place_v (σ0 := σ0) hn he he8 hr g0 g1 g2 g3 (n - 1) 0 10 (fun _ => p) σ b (by omega) (by omega) h3 hV (fun i hi => absurd hi (Nat.not_lt_zero i)) h5 h6 h7
      have hb1 := roP_le j6
      obtain ⟨b', σ', i1, i2, i3, i4⟩ := ih (p + 1) f b1 σ1 (by omega) (by omega) j2 j4 j5 (by omega)
      refine ⟨b', σ', ?_, i2, i3, roP_tr j6 i4 (fun u => ⟨fun z => ?_, fun z => ?_⟩) (fun u w y1 y2 => ?_)⟩
      · have j1' : Ro_place 0 (nI p) 1 0 σ = some ((), σ1) := j1
        rw [if_pos ((h_1 (by omega)).mpr hb), j1', w_bd, Ro_solve_19, e1]; exact i1
      · rcases Nat.lt_or_ge p (u 0) with y | y
        · exact Or.inr ⟨z.1, y⟩
        · refine Or.inl ⟨fun i hi => ?_, z.1⟩
          rw [show i = 0 by omega]
          have := z.2
          show u 0 = p
          omega
      · rcases z with z | z
        · exact ⟨z.2, by have : u 0 = p := z.1 0 (Nat.le_refl _); omega⟩
        · exact ⟨z.1, by have := z.2; omega⟩
      · refine Or.inr ⟨0, by omega, fun j hj => absurd hj (Nat.not_lt_zero j), ?_⟩
        have : u 0 = p := y1.1 0 (Nat.le_refl _)
        have := y2.2
        omega
theorem prep_L {σ0 : gx_R} : ∀ m p f σ, p + m = 8 → m < f → (∀ c, c ≠ 74 → σ c = σ0 c) → (∀ q, q < p → σ 74 q = -100) → ∃ σ', Ro_prepare_19 f (nI p) σ = some ((), σ') ∧ (∀ c, c ≠ 74 → σ' c = σ0 c) ∧ ∀ q, q < 8 → σ' 74 q = -100 := by
  intro m
  induction m with
  | zero =>
    intro p f σ h1 h2 h3 h4
    obtain ⟨f, rfl⟩ : ∃ q, f = q + 1 := ⟨f - 1, by omega⟩
    obtain rfl : p = 8 := by omega
    exact ⟨σ, by rw [Ro_prepare_19, Ro_prepare_19_B, if_pos (show (8 : Int32) ≤ nI 8 by decide)], h3, h4⟩
  | succ m ih =>
    intro p f σ h1 h2 h3 h4
    obtain ⟨f, rfl⟩ : ∃ q, f = q + 1 := ⟨f - 1, by omega⟩
    obtain ⟨σ', i1, i2, i3⟩ := ih (p + 1) f (gx_up σ 74 p (-100)) (by omega) (by omega) (fun c hc => by rw [gx_up_ne hc]; exact h3 c hc) (fun q hq => by
      by_cases z : q = p
      · rw [z, up_e]
      · rw [up_p _ _ _ z]; exact h4 q (by omega))
    refine ⟨σ', ?_, i2, i3⟩
    rw [Ro_prepare_19, Ro_prepare_19_B, if_neg (fun z => by have := (nI_leI (a := 8) (by omega) (by omega)).mp z; omega), ix_n (by omega), decide_eq_true (show p < 8 by omega), w_ck, cl_n (by omega), show nI p + 1 = nI (p + 1) from nI_add p 1]
    exact i1
/-- the class's answer: the best rota of people, or none -/
theorem rotaC {σ : gx_R} {G : Int32} {e r n : Nat} (hn0 : 1 ≤ n) (hn : n ≤ 8) (he : 1 ≤ e) (he8 : e ≤ 8) (hr : r ≤ 8) : ∃ σ1 b σ2, Ro_prepare (nI n) G (nI e) (nI r) σ = some ((), σ1) ∧ (∀ c, c < 73 ∨ 76 < c → σ2 c = σ c) ∧ σ2 73 0 = nI n ∧ σ2 73 7 = nI b ∧ ((Ro_solve σ1 = some (0, σ2) ∧ ∀ u, ¬ roV (roG G) e r u n) ∨ (Ro_solve σ1 = some (1, σ2) ∧ ∃ u, roV (roG G) e r u n ∧ roC u (n - 1) = b ∧ (∀ i, i < n → σ2 76 i = nI (u i)) ∧ ∀ w, roV (roG G) e r w n → b ≤ roC w (n - 1) ∧ (roC w (n - 1) = b → roE n u w))) := by
  have hz := z_FU_ge
  obtain ⟨σ1, p1, p2, p3⟩ := prep_L (σ0 := gx_up (gx_up (gx_up (gx_up (gx_up σ 73 0 (nI n)) 73 1 G) 73 2 (nI e)) 73 3 (nI r)) 73 7 100) 8 0 z_FU _ (by omega) (by omega) (fun _ _ => rfl) (fun q hq => absurd hq (Nat.not_lt_zero q))
  have k0 : σ1 73 0 = nI n := by rw [p2 73 (by omega), up_p _ _ _ (by omega), up_p _ _ _ (by omega), up_p _ _ _ (by omega), up_p _ _ _ (by omega), up_e]
  have k1 : σ1 73 1 = G := by rw [p2 73 (by omega), up_p _ _ _ (by omega), up_p _ _ _ (by omega), up_p _ _ _ (by omega), up_e]
  have k2 : σ1 73 2 = nI e := by rw [p2 73 (by omega), up_p _ _ _ (by omega), up_p _ _ _ (by omega), up_e]
  have k3 : σ1 73 3 = nI r := by rw [p2 73 (by omega), up_p _ _ _ (by omega), up_e]
  have k7 : σ1 73 7 = nI 100 := by rw [p2 73 (by omega), up_e]; rfl
  obtain ⟨b, σ2, s1, s2, s3, s4⟩ := solve_L (σ0 := σ1) (e := e) (r := r) hn0 hn he he8 hr k0 k1 k2 k3 8 0 z_FU 100 σ1 (by omega) (by omega) ⟨fun _ _ => rfl, fun _ _ => rfl⟩ p3 k7 (Nat.le_refl _)
  have s1 : Ro_solve σ1 = Ro_solve_21 σ2 := s1
  have fr : ∀ c, c < 73 ∨ 76 < c → σ2 c = σ c := fun c hc => by rw [s2.1 c hc, p2 c (by omega), gx_up_ne (by omega), gx_up_ne (by omega), gx_up_ne (by omega), gx_up_ne (by omega), gx_up_ne (by omega)]
  refine ⟨σ1, b, σ2, ?_, fr, by rw [s2.2 0 (by omega)]; exact k0, s3, ?_⟩
  · rw [Ro_prepare, if_neg (fun z => by have := (nI_ltI (a := 8) (by omega) (by omega)).mp z; omega)]; exact p1
  · rw [s1, Ro_solve_21, s3]
    rcases s4 with ⟨y1, y2, y3⟩ | ⟨y1, u, y2, y3, y4, y5⟩
    · refine Or.inl ⟨by rw [if_pos (show (100 : Int32) ≤ nI b by rw [y1]; decide)], fun u hu => ?_⟩
      have := y3 u ⟨hu, Nat.zero_le _⟩
      have := roC_le (t := u) (n - 1)
      omega
    · refine Or.inr ⟨by rw [if_neg (fun z => by have := (nI_leI (a := 100) (by omega) (by omega)).mp z; omega)], u, y2.1, y3, y4, fun w hw => y5 w ⟨hw, Nat.zero_le _⟩⟩
theorem relief_L {τ0 : gx_R} {G a1 a3 a4 a5 : Int32} {P : Nat} (hP : P ≤ 8) (h0 : τ0 110 0 = nI P) : ∀ k p f τ, p + k = P → k < f → (∀ c, c ≠ 149 → τ c = τ0 c) → (∀ q, q < p → bt G q = true → τ 149 (cB (bt G) q) = nI q) → ∃ τ', Md_rota_36 f a1 G a3 a4 a5 (nI (cB (bt G) p)) (nI p) τ = Md_rota_54 a1 a3 a4 a5 (nI (cB (bt G) P)) τ' ∧ (∀ c, c ≠ 149 → τ' c = τ0 c) ∧ ∀ q, q < P → bt G q = true → τ' 149 (cB (bt G) q) = nI q := by
  intro k
  induction k with
  | zero =>
    intro p f τ h1 h2 h3 h4
    obtain ⟨f, rfl⟩ : ∃ q, f = q + 1 := ⟨f - 1, by omega⟩
    obtain rfl : p = P := by omega
    refine ⟨τ, ?_, h3, h4⟩
    rw [Md_rota_36, Md_rota_36_B, show (0 : Int32).toNatClampNeg = 0 from rfl, h3 110 (by omega), h0, if_pos ((nI_leI (by omega) (by omega)).mpr (Nat.le_refl _))]
  | succ k ih =>
    intro p f τ h1 h2 h3 h4
    obtain ⟨f, rfl⟩ : ∃ q, f = q + 1 := ⟨f - 1, by omega⟩
    have e1 : nI p + 1 = nI (p + 1) := nI_add p 1
    have hc := cB_le (bt G) p
    have hB : cB (bt G) (p + 1) = cB (bt G) p + (bt G p).toNat := rfl
    rw [Md_rota_36, Md_rota_36_B, show (0 : Int32).toNatClampNeg = 0 from rfl, h3 110 (by omega), h0, if_neg (fun z => by have := (nI_leI (by omega) (by omega)).mp z; omega), Md_has_v _ (by omega), w_bd]
    cases hb : bt G p with
    | false =>
      have hB2 : cB (bt G) (p + 1) = cB (bt G) p := by rw [hB, hb]; rfl
      rw [bI_f, if_pos rfl, Md_rota_52, e1, ← hB2]
      exact ih (p + 1) f τ (by omega) (by omega) h3 (fun q hq hq2 => by
        by_cases z : q = p
        · rw [z, hb] at hq2; cases hq2
        · exact h4 q (by omega) hq2)
    | true =>
      have hB : cB (bt G) (p + 1) = cB (bt G) p + 1 := by rw [hB, hb]; rfl
      rw [bI_t, if_neg (by decide), ix_n (by omega), decide_eq_true (show cB (bt G) p < 8 by omega), w_ck, cl_n (by omega), Md_rota_52, e1, show nI (cB (bt G) p) + 1 = nI (cB (bt G) p + 1) from nI_add _ 1, ← hB]
      exact ih (p + 1) f _ (by omega) (by omega) (fun c hc => by rw [gx_up_ne hc]; exact h3 c hc) (fun q hq hq2 => by
        by_cases z : q = p
        · rw [z, up_e]
        · have := cB_lt (f := bt G) (show q < p by omega) hq2
          rw [up_p _ _ _ (by omega)]; exact h4 q (by omega) hq2)
theorem limit_L {τ0 : gx_R} {a5 : Int32} {n m e r : Nat} (hn : n ≤ 8) (hm : m ≤ 4) (he : 1 ≤ e) (he8 : e ≤ 8) (hr : r ≤ 8) : ∀ k L f τ, L + k = n → k < f → (∀ c, c ≠ 150 → τ c = τ0 c) → (∀ w, roV (fun v => v < m) e r w n → L ≤ roC w (n - 1)) →
    (∃ τ' u, Md_rota_64 f (nI n) (nI e) (nI r) a5 (nI m) (nI L) τ = Md_rota_75 (nI n) a5 τ' ∧ (∀ c, c ≠ 150 → τ' c = τ0 c) ∧ roV (fun v => v < m) e r u n ∧ (∀ i, i < n → τ' 150 i = nI (u i)) ∧ ∀ w, roV (fun v => v < m) e r w n → roC u (n - 1) ≤ roC w (n - 1) ∧ (roC w (n - 1) = roC u (n - 1) → roE n u w)) ∨
    (∃ τ', Md_rota_64 f (nI n) (nI e) (nI r) a5 (nI m) (nI L) τ = some (-1, τ') ∧ (∀ c, c ≠ 150 → τ' c = τ0 c) ∧ (1 ≤ n → ∀ w, ¬ roV (fun v => v < m) e r w n)) := by
  have hz := z_FU_ge
  intro k
  induction k with
  | zero =>
    intro L f τ h1 h2 h3 h4
    obtain ⟨f, rfl⟩ : ∃ q, f = q + 1 := ⟨f - 1, by omega⟩
    obtain rfl : L = n := by omega
    refine Or.inr ⟨τ, ?_, h3, fun hn1 w hw => ?_⟩
    · rw [Md_rota_64, Md_rota_64_B, if_pos ((nI_leI (by omega) (by omega)).mpr (Nat.le_refl _))]
    · have := h4 w hw
      have := roC_le (t := w) (L - 1)
      omega
  | succ k ih =>
    intro L f τ h1 h2 h3 h4
    obtain ⟨f, rfl⟩ : ∃ q, f = q + 1 := ⟨f - 1, by omega⟩
    have hD : ∀ d, d ≤ 7 → 5 * rD d ≤ 100000000 := by decide +kernel
    have hD2 := hD (n - 1) (by omega)
    have hD3 : (m + 1) * rD (n - 1) ≤ 5 * rD (n - 1) := Nat.mul_le_mul_right _ (by omega)
    rw [Md_rota_64, Md_rota_64_B, if_neg (fun z => by have := (nI_leI (by omega) (by omega)).mp z; omega), Md_rotaWithin, show (0 : Int32).toNatClampNeg = 0 from rfl]
    rcases within_L (τ0 := τ0) (n := n) (m := m) (e := e) (r := r) (L := L) hn hm he he8 hr (by omega) (n - 1) 0 (by omega) (fun _ => 0) ⟨fun i hi => by omega, fun i hi => by omega⟩ m 0 (gx_up τ 150 0 (-1)) (by omega) (fun c hc => by rw [gx_up_ne hc]; exact h3 c hc) (fun i hi => by omega) (by rw [up_e]; rfl) with ⟨c, τ', u, i1, i2, i3, i4, i5, i6⟩ | ⟨c, τ', i1, i2, i3, i4, i5⟩
    · have := i6 (z_FU - c)
      rw [show z_FU - c + c = z_FU by omega] at this
      have : Md_rotaWithin_7 z_FU (nI n) (nI m) (nI e) (nI r) (nI L) 0 (gx_up τ 150 0 (-1)) = some (1, τ') := this
      refine Or.inl ⟨τ', u, by rw [this, w_bd, if_neg (by decide)], i2, i3.2.1, i4, fun w hw => ?_⟩
      have y1 := h4 w hw
      have y2 := h4 u i3.2.1
      have y3 := i3.2.2.2
      exact ⟨by omega, fun y => i5 w ⟨fun i hi => by omega, hw, Nat.zero_le _, by omega⟩⟩
    · have := i5 (z_FU - c - 1 + 1)
      rw [show z_FU - c - 1 + 1 + c = z_FU by omega, Md_rotaWithin_7, Md_rotaWithin_7_B, if_pos (show nI 0 - 1 < 0 by decide)] at this
      have : Md_rotaWithin_7 z_FU (nI n) (nI m) (nI e) (nI r) (nI L) 0 (gx_up τ 150 0 (-1)) = some (0, τ') := this
      rw [this, w_bd, if_pos rfl, show nI L + 1 = nI (L + 1) from nI_add L 1]
      exact ih (L + 1) f τ' (by omega) (by omega) i2 (fun w hw => by
        rcases Nat.lt_or_ge L (roC w (n - 1)) with y | y
        · exact y
        · exact absurd ⟨fun i hi => by omega, hw, Nat.zero_le _, y⟩ (i3 w))
theorem rota_low {V : Nat → Prop} {t : Nat → Nat} {e r n : Nat} (hn : 1 ≤ n) (he : 1 ≤ e) (hv : roV V e r t n) : (n + e - 1) / e - 1 ≤ roC t (n - 1) := by
  have h1 := roM_l he hv (n - 1) 0 (by omega) (by omega)
  unfold roM at h1
  rw [roR, roC] at h1
  have h2 : n + e - 1 ≤ (n - 1 - 0 + 1 - e + e - 1) + e := by omega
  have h3 := Nat.div_le_div_right (c := e) h2
  rw [Nat.add_div_right _ (by omega)] at h3
  omega
theorem rota_same {G : Int32} {e r n m : Nat} {t u : Nat → Nat} (hm : m = cB (bt G) 8) (ht : roV (roG G) e r t n) (hu : roV (fun v => v < m) e r u n) (ht2 : ∀ w, roV (roG G) e r w n → roC t (n - 1) ≤ roC w (n - 1) ∧ (roC w (n - 1) = roC t (n - 1) → roE n t w)) (hu2 : ∀ w, roV (fun v => v < m) e r w n → roC u (n - 1) ≤ roC w (n - 1) ∧ (roC w (n - 1) = roC u (n - 1) → roE n u w)) (hn : 1 ≤ n) : roC t (n - 1) = roC u (n - 1) ∧ ∀ i, i < n → u i = cB (bt G) (t i) := by
  have i1 : ∀ i j, i < n → j < n → cB (bt G) (t i) = cB (bt G) (t j) → t i = t j := fun i j hi hj h => cB_inj (ht.1 i hi).2 (ht.1 j hj).2 h
  have v1 : roV (fun v => v < m) e r (fun i => cB (bt G) (t i)) n := mapV i1 (fun p hp => by rw [hm]; exact cB_lt hp.1 hp.2) ht
  have c1 : roC (fun i => cB (bt G) (t i)) (n - 1) = roC t (n - 1) := mapC i1 (n - 1) (by omega)
  have ex : ∀ j : Nat, ∃ p, j < m → p < 8 ∧ bt G p = true ∧ cB (bt G) p = j := by
    intro j
    by_cases h : j < m
    · rw [hm] at h
      obtain ⟨p, p1, p2, p3⟩ := cB_ex 8 h
      exact ⟨p, fun _ => ⟨p1, p2, p3⟩⟩
    · exact ⟨0, fun z => absurd z h⟩
  obtain ⟨pe, hpe⟩ : ∃ pe : Nat → Nat, ∀ j, j < m → pe j < 8 ∧ bt G (pe j) = true ∧ cB (bt G) (pe j) = j := ⟨fun j => Classical.choose (ex j), fun j hj => Classical.choose_spec (ex j) hj⟩
  have i2 : ∀ i j, i < n → j < n → pe (u i) = pe (u j) → u i = u j := fun i j hi hj h => by
    rw [← (hpe _ (hu.1 i hi)).2.2, ← (hpe _ (hu.1 j hj)).2.2, h]
  have v2 : roV (roG G) e r (fun i => pe (u i)) n := mapV i2 (fun p hp => ⟨(hpe p hp).1, (hpe p hp).2.1⟩) hu
  have c2 : roC (fun i => pe (u i)) (n - 1) = roC u (n - 1) := mapC i2 (n - 1) (by omega)
  have a1 := ht2 _ v2
  have a2 := hu2 _ v1
  rw [c2] at a1
  rw [c1] at a2
  have e1 : roC t (n - 1) = roC u (n - 1) := by have := a1.1; have := a2.1; omega
  refine ⟨e1, ?_⟩
  have b1 := a1.2 e1.symm
  have b2 := a2.2 e1
  refine roE_as b2 ?_
  rcases b1 with b1 | ⟨i, y1, y2, y3⟩
  · refine Or.inl (fun i hi => ?_)
    show cB (bt G) (t i) = u i
    rw [b1 i hi, (hpe _ (hu.1 i hi)).2.2]
  · refine Or.inr ⟨i, y1, fun j hj => ?_, ?_⟩
    · show cB (bt G) (t j) = u j
      rw [y2 j hj, (hpe _ (hu.1 j (by omega))).2.2]
    · show cB (bt G) (t i) < u i
      have := cB_lt (f := bt G) y3 (ht.1 i y1).2
      rw [(hpe _ (hu.1 i y1)).2.2] at this
      exact this
theorem rota_none {G : Int32} {e r n m : Nat} (hm : m = cB (bt G) 8) : (∀ t, ¬ roV (roG G) e r t n) ↔ ∀ u, ¬ roV (fun v => v < m) e r u n := by
  have ex : ∀ j : Nat, ∃ p, j < m → p < 8 ∧ bt G p = true ∧ cB (bt G) p = j := by
    intro j
    by_cases h : j < m
    · rw [hm] at h
      obtain ⟨p, p1, p2, p3⟩ := cB_ex 8 h
      exact ⟨p, fun _ => ⟨p1, p2, p3⟩⟩
    · exact ⟨0, fun z => absurd z h⟩
  obtain ⟨pe, hpe⟩ : ∃ pe : Nat → Nat, ∀ j, j < m → pe j < 8 ∧ bt G (pe j) = true ∧ cB (bt G) (pe j) = j := ⟨fun j => Classical.choose (ex j), fun j hj => Classical.choose_spec (ex j) hj⟩
  constructor
  · intro h u hu
    exact h _ (mapV (g := pe) (fun i j hi hj z => by rw [← (hpe _ (hu.1 i hi)).2.2, ← (hpe _ (hu.1 j hj)).2.2, z]) (fun p hp => ⟨(hpe p hp).1, (hpe p hp).2.1⟩) hu)
  · intro h t ht
    exact h _ (mapV (g := cB (bt G)) (fun i j hi hj z => cB_inj (ht.1 i hi).2 (ht.1 j hj).2 z) (fun p hp => by rw [hm]; exact cB_lt hp.1 hp.2) ht)
theorem rota_no (a1 a2 a3 a4 a5 : Int32) (σ : gx_R) : Sf_rota_19 Sf_rota_20 a1 a2 a3 a4 a5 σ = some (-1, σ) := by rw [Sf_rota_19, Sf_rota_20, if_pos rfl]
theorem rota_out {τ : gx_R} {P : Nat} {a1 a2 a3 a4 a5 : Int32} (hP : P ≤ 8) (p2 : τ 110 0 = nI P) (h1 : ¬ a1 < 1 ∧ ¬ 8 < a1) (h : ¬ (¬ a3 < 1 ∧ ¬ 8 < a3) ∨ ¬ (¬ a4 < 0 ∧ ¬ 8 < a4)) : Md_rota a1 a2 a3 a4 a5 τ = some (-1, τ) := by
  have i1 : (1 : Int32) ≠ 0 := by decide
  rw [Md_rota, Md_in_v, decide_eq_true h1, w_bd, bI_t, if_neg i1, isSet_v hP p2, w_bd]
  cases hg : gpB P a2 with
  | false => rw [bI_f, if_pos rfl]
  | true =>
    obtain ⟨g, g1, g2, rfl⟩ := gp_n hP hg
    have g256 : g < 256 := by have := pow_8 hP; omega
    rw [bI_t, if_neg i1, many_v g256, w_bd]
    by_cases h6 : 4 < nI (pcN 8 g)
    · rw [if_pos h6]
    · rw [if_neg h6, Md_in_v, w_bd]
      by_cases h3 : ¬ a3 < 1 ∧ ¬ 8 < a3
      · rw [decide_eq_true h3, bI_t, if_neg i1, Md_in_v, w_bd]
        rcases h with h | h
        · exact absurd h3 h
        · rw [decide_eq_false h, bI_f, if_pos rfl]
      · rw [decide_eq_false h3, bI_f, if_pos rfl]
theorem S_rota {σ τ : gx_R} (r : Rel σ τ) (a1 a2 a3 a4 a5 : Int32) : SimP (Sf_rota a1 a2 a3 a4 a5) (Md_rota a1 a2 a3 a4 a5) σ τ := by
  obtain ⟨P, W, H, K, T, P', W', H', K', T', rr⟩ := id r
  have r1 := rr.1
  have hP := r1.1.1.1
  have p1 : σ 2 0 = nI P := r1.1.2.1.1
  have p2 : τ 110 0 = nI P := r1.1.2.1.2.1
  have i1 : (1 : Int32) ≠ 0 := by decide
  have hm1 : (-1 : Int32) < 0 := by decide
  by_cases h1 : ¬ a1 < 1 ∧ ¬ 8 < a1
  · by_cases h3 : ¬ a3 < 1 ∧ ¬ 8 < a3
    · by_cases h4 : ¬ a4 < 0 ∧ ¬ 8 < a4
      · have cS : Sf_rota a1 a2 a3 a4 a5 σ = Sf_rota_20 a1 a2 a3 a4 a5 1 σ := by rw [Sf_rota, if_neg h1.1, if_neg h1.2, if_neg h3.1, if_neg h3.2, if_neg h4.1, if_neg h4.2]
        have gS := isGroup_u (u := 4) hP (by omega) p1 a2
        have gS : Fo_isGroup a2 1 4 σ = _ := gS
        cases hg : gpB P a2 with
        | false =>
          refine SimP_ro r (-1) ?_ ?_
          · rw [cS, Sf_rota_20, if_neg i1, gS, hg, Bool.false_and, w_bd, bI_f, if_pos rfl]
          · rw [Md_rota, Md_in_v, decide_eq_true h1, w_bd, bI_t, if_neg i1, isSet_v hP p2, hg, w_bd, bI_f, if_pos rfl]
        | true =>
          obtain ⟨g, g1, g2, rfl⟩ := gp_n hP hg
          have g256 : g < 256 := by have := pow_8 hP; omega
          have p8 := pcN_8 g
          rw [hg, Bool.true_and, cl_n (by omega)] at gS
          by_cases h6 : pcN 8 g ≤ 4
          · rw [decide_eq_true h6, bI_t] at gS
            have h6n : ¬ 4 < nI (pcN 8 g) := fun z => by have := (nI_ltI (a := 4) (by omega) (by omega)).mp z; omega
            by_cases h5 : ¬ a5 < -1 ∧ a5 < a1
            · obtain ⟨n, n1, n2, rfl⟩ := in_nat (l := 1) (u := 8) (by omega) (by omega) h1.1 h1.2
              obtain ⟨e, e1, e2, rfl⟩ := in_nat (l := 1) (u := 8) (by omega) (by omega) h3.1 h3.2
              obtain ⟨rr', r1', r2', rfl⟩ := in_nat (l := 0) (u := 8) (by omega) (by omega) h4.1 h4.2
              have en : nI n - 1 = nI (n - 1) := n_sub1 n1
              have h5m : ¬ a5 < -1 ∧ ¬ nI n - 1 < a5 := ⟨h5.1, fun z => by
                rw [en] at z
                obtain ⟨q, q1, rfl⟩ := nI_of (x := a5) (fun y => absurd (Int32.lt_trans z y) (fun x => (n_lt0 (by omega)).mp x))
                have y1 := (nI_ltI (by omega) q1).mp z
                have y2 := (nI_ltI q1 (by omega)).mp h5.2
                omega⟩
              have hm : cB (bt (nI g)) P = cB (bt (nI g)) 8 := by
                have : ∀ d, P + d ≤ 8 → cB (bt (nI g)) (P + d) = cB (bt (nI g)) P := by
                  intro d
                  induction d with
                  | zero => intro _; rfl
                  | succ d ih =>
                    intro h
                    rw [show P + (d + 1) = P + d + 1 by omega, cB, ih (by omega), bt_n _ (by omega), Nat.testBit_lt_two_pow (Nat.lt_of_lt_of_le g2 (Nat.pow_le_pow_right (by omega) (show P ≤ P + d by omega)))]
                    rfl
                have := this (8 - P) (by omega)
                rw [show P + (8 - P) = 8 by omega] at this
                exact this.symm
              have hmp : cB (bt (nI g)) 8 = pcN 8 g := by
                rw [pc_cB g g256]
                exact cB_cong (fun i hi => bt_n _ (by omega))
              obtain ⟨σ1, b, σ2, c1, c2, c3, c4, c5⟩ := rotaC (σ := σ) (G := nI g) (e := e) (r := rr') (n := n) n1 n2 e1 e2 r2'
              obtain ⟨τ1, d1, d2, d3⟩ := relief_L (τ0 := τ) (G := nI g) (a1 := nI n) (a3 := nI e) (a4 := nI rr') (a5 := a5) hP p2 P 0 z_FU τ (by omega) (by have := z_FU_ge; omega) (fun _ _ => rfl) (fun q hq => absurd hq (Nat.not_lt_zero q))
              have d1 : Md_rota_36 z_FU (nI n) (nI g) (nI e) (nI rr') a5 0 0 τ = _ := d1
              have cM : Md_rota (nI n) (nI g) (nI e) (nI rr') a5 τ = Md_rota_64 z_FU (nI n) (nI e) (nI rr') a5 (nI (cB (bt (nI g)) P)) (nI ((n + e - 1) / e - 1)) τ1 := by
                have hq : 1 ≤ (n + e - 1) / e := (Nat.one_le_div_iff (by omega)).mpr (by omega)
                have hq2 : (n + e - 1) / e ≤ n + e - 1 := Nat.div_le_self _ _
                rw [Md_rota, Md_in_v, decide_eq_true h1, w_bd, bI_t, if_neg i1, isSet_v hP p2, hg, w_bd, bI_t, if_neg i1, many_v g256, w_bd, if_neg h6n, Md_in_v, decide_eq_true h3, w_bd, bI_t, if_neg i1, Md_in_v, decide_eq_true h4, w_bd, bI_t, if_neg i1, Md_in_v, decide_eq_true h5m, w_bd, bI_t, if_neg i1, d1, Md_rota_54, show z_nzi (nI e) = true from decide_eq_true (fun z => by have := (n_eq0 (by omega)).mp z; omega), w_ck, nI_add, n_sub1 (by omega), nI_div (by omega) (by omega), n_sub1 hq]
              have cS2 : Sf_rota (nI n) (nI g) (nI e) (nI rr') a5 σ = z_bd (Ro_solve σ1) (fun r17 σ18 => if r17 = 0 then some (-1, σ18) else if a5 = -1 then some (σ18 73 7, σ18) else z_bd (Ro_whoIn a5 σ18) (fun r22 σ23 => some (r22, σ23))) := by
                rw [cS, Sf_rota_20, if_neg i1, gS, w_bd, if_neg i1, if_neg h5.1, if_pos h5.2, c1, w_bd]
              have fr : sc σ σ2 := fun k hk => c2 k (by omega)
              rcases limit_L (τ0 := τ1) (a5 := a5) (n := n) (m := cB (bt (nI g)) P) (e := e) (r := rr') n2 (by omega) e1 e2 r2' (n - ((n + e - 1) / e - 1)) ((n + e - 1) / e - 1) z_FU τ1 (by
                  have h3 : (n + e - 1) / e ≤ n := by
                    rw [Nat.div_le_iff_le_mul (by omega)]
                    have : n * e = n * (e - 1) + n := by rw [← Nat.mul_succ]; congr 1; omega
                    have : 1 * (e - 1) ≤ n * (e - 1) := Nat.mul_le_mul_right _ n1
                    omega
                  omega) (by have := z_FU_ge; omega) (fun _ _ => rfl) (fun w hw => rota_low n1 e1 hw) with ⟨τ2, u, l1, l2, l3, l4, l5⟩ | ⟨τ2, l1, l2, l3⟩
              · have sm1 : sm τ τ2 := ⟨fun k hk => by rw [l2 k (by omega), d2 k (by omega)], fun j hj => by rw [l2 109 (by omega), d2 109 (by omega)]⟩
                rcases c5 with ⟨-, c6⟩ | ⟨c6, t, t1, t2, t3, t4⟩
                · exact absurd l3 ((rota_none (by rw [hm])).mp c6 u)
                · obtain ⟨s1, s2⟩ := rota_same (by rw [hm]) t1 l3 (fun w hw => by rw [t2]; exact t4 w hw) l5 n1
                  have h8 : ∀ i, i ≤ n - 1 → u i < 100 := fun i hi => by
                    have y : u i < cB (bt (nI g)) P := l3.1 i (by omega)
                    have := cB_le (bt (nI g)) P
                    omega
                  by_cases h7 : a5 = -1
                  · refine SimP_sc r (nI b) (σ' := σ2) (τ' := τ2) ?_ ?_ fr sm1
                    · rw [cS2, c6, w_bd, if_neg i1, if_pos h7, c4]
                    · rw [cM, l1, Md_rota_75, if_pos h7, en, changesTo_v (t := u) (by omega) h8 (fun i hi => l4 i (by omega)), w_bd, ← s1, t2]
                  · obtain ⟨q, q1, rfl⟩ := nI_of (x := a5) (fun z => h7 (by have := h5.1; grind))
                    have q2 := (nI_ltI q1 (by omega)).mp h5.2
                    have tq := t1.1 q q2
                    have uq := h8 q (by omega)
                    have tP : t q < P := by
                      rcases Nat.lt_or_ge (t q) P with y | y
                      · exact y
                      · have y2 := tq.2
                        rw [bt_n _ (by have := tq.1; omega), Nat.testBit_lt_two_pow (Nat.lt_of_lt_of_le g2 (Nat.pow_le_pow_right (by omega) y))] at y2
                        cases y2
                    have u8 : u q < 8 := by
                      have y : u q < cB (bt (nI g)) P := l3.1 q q2
                      have := cB_le (bt (nI g)) P
                      omega
                    refine SimP_sc r (nI (t q)) (σ' := σ2) (τ' := τ2) ?_ ?_ fr sm1
                    · rw [cS2, c6, w_bd, if_neg i1, if_neg h7, Ro_whoIn, if_neg (fun z => (n_lt0 q1).mp z), c3, if_neg (fun z => by have := (nI_leI (by omega) q1).mp z; omega), ix_n q1, decide_eq_true (show q < 8 by omega), w_ck, cl_n q1, t3 q q2, w_bd]
                    · rw [cM, l1, Md_rota_75, if_neg h7, ix_n q1, decide_eq_true (show q < 8 by omega), w_ck, cl_n q1, l4 q q2, ix_n (by omega), decide_eq_true u8, w_ck, cl_n (by omega), l2 149 (by omega), s2 q q2, d3 _ tP tq.2]
              · have sm1 : sm τ τ2 := ⟨fun k hk => by rw [l2 k (by omega), d2 k (by omega)], fun j hj => by rw [l2 109 (by omega), d2 109 (by omega)]⟩
                rcases c5 with ⟨c6, -⟩ | ⟨c6, t, t1, -⟩
                · refine SimP_sc r (-1) (σ' := σ2) (τ' := τ2) ?_ (cM.trans l1) fr sm1
                  rw [cS2, c6, w_bd, if_pos rfl]
                · exact absurd t1 ((rota_none (by rw [hm])).mpr (l3 n1) t)
            · refine SimP_ro r (-1) ?_ ?_
              · rw [cS, Sf_rota_20, if_neg i1, gS, w_bd, if_neg i1]
                by_cases h7 : a5 < -1
                · rw [if_pos h7]
                · rw [if_neg h7, if_neg (fun z => h5 ⟨h7, z⟩)]
              · have h5m : ¬ (¬ a5 < -1 ∧ ¬ a1 - 1 < a5) := by
                  rintro ⟨z1, z2⟩
                  refine h5 ⟨z1, ?_⟩
                  obtain ⟨n, n1, n2, rfl⟩ := in_nat (l := 1) (u := 8) (by omega) (by omega) h1.1 h1.2
                  rw [n_sub1 n1] at z2
                  by_cases c : a5 < 0
                  · exact Int32.lt_of_lt_of_le c ((n_0le (by omega)).mpr trivial)
                  · obtain ⟨q, q1, rfl⟩ := nI_of (x := a5) c
                    refine (nI_ltI q1 (by omega)).mpr ?_
                    have : ¬ n - 1 < q := fun y => z2 ((nI_ltI (by omega) q1).mpr y)
                    omega
                rw [Md_rota, Md_in_v, decide_eq_true h1, w_bd, bI_t, if_neg i1, isSet_v hP p2, hg, w_bd, bI_t, if_neg i1, many_v g256, w_bd, if_neg h6n, Md_in_v, decide_eq_true h3, w_bd, bI_t, if_neg i1, Md_in_v, decide_eq_true h4, w_bd, bI_t, if_neg i1, Md_in_v, decide_eq_false h5m, w_bd, bI_f, if_pos rfl]
          · rw [decide_eq_false h6, bI_f] at gS
            refine SimP_ro r (-1) ?_ ?_
            · rw [cS, Sf_rota_20, if_neg i1, gS, w_bd, if_pos rfl]
            · rw [Md_rota, Md_in_v, decide_eq_true h1, w_bd, bI_t, if_neg i1, isSet_v hP p2, hg, w_bd, bI_t, if_neg i1, many_v g256, w_bd, if_pos (show 4 < nI (pcN 8 g) from (nI_ltI (a := 4) (b := pcN 8 g) (by omega) (by omega)).mpr (by omega))]
      · refine SimP_ro r (-1) ?_ (rota_out hP p2 h1 (Or.inr h4))
        rw [Sf_rota, if_neg h1.1, if_neg h1.2, if_neg h3.1, if_neg h3.2]
        by_cases h5 : a4 < 0
        · rw [if_pos h5, rota_no]
        · by_cases h6 : 8 < a4
          · rw [if_neg h5, if_pos h6, rota_no]
          · exact absurd ⟨h5, h6⟩ h4
    · refine SimP_ro r (-1) ?_ (rota_out hP p2 h1 (Or.inl h3))
      rw [Sf_rota, if_neg h1.1, if_neg h1.2]
      by_cases h5 : a3 < 1
      · rw [if_pos h5, rota_no]
      · by_cases h6 : 8 < a3
        · rw [if_neg h5, if_pos h6, rota_no]
        · exact absurd ⟨h5, h6⟩ h3
  · refine SimP_ro r (-1) ?_ ?_
    · rw [Sf_rota]
      by_cases h5 : a1 < 1
      · rw [if_pos h5, rota_no]
      · by_cases h6 : 8 < a1
        · rw [if_neg h5, if_pos h6, rota_no]
        · exact absurd ⟨h5, h6⟩ h1
    · rw [Md_rota, Md_in_v, decide_eq_false h1, bI_f, w_bd, if_pos rfl]
