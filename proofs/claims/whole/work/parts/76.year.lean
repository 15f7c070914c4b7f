/-! ===== a year ===== -/
def lowF (f : Nat → Bool) : Nat → Nat → Int32 → Int32
  | _, 0, d => d
  | k, m + 1, d => match f k with
    | true => nI k
    | false => lowF f (k + 1) m d
theorem lowF_t {f : Nat → Bool} {k m : Nat} {d : Int32} (h : f k = true) : lowF f k (m + 1) d = nI k := by rw [lowF, h]
theorem lowF_f {f : Nat → Bool} {k m : Nat} {d : Int32} (h : f k = false) : lowF f k (m + 1) d = lowF f (k + 1) m d := by rw [lowF, h]
theorem lowF_sn (f : Nat → Bool) (d : Int32) : ∀ m k, lowF f k (m + 1) d = lowF f k m (if f (k + m) = true then nI (k + m) else d) := by
  intro m
  induction m with
  | zero =>
    intro k
    cases h : f k with
    | true => rw [lowF_t h]; simp [lowF, h]
    | false => rw [lowF_f h]; simp [lowF, h]
  | succ m ih =>
    intro k
    cases h : f k with
    | true => rw [lowF_t h, lowF_t h]
    | false => rw [lowF_f h, lowF_f h, ih (k + 1), show k + 1 + m = k + (m + 1) by omega]
theorem lowF_cong {f g : Nat → Bool} {d : Int32} : ∀ m k, (∀ i, k ≤ i → i < k + m → f i = g i) → lowF f k m d = lowF g k m d := by
  intro m
  induction m with
  | zero => intro k h; rfl
  | succ m ih =>
    intro k h
    have e := h k (Nat.le_refl _) (by omega)
    cases hf : f k with
    | true => rw [lowF_t hf, lowF_t (e ▸ hf)]
    | false => rw [lowF_f hf, lowF_f (e ▸ hf)]; exact ih (k + 1) (fun i h1 h2 => h i (by omega) (by omega))
theorem lowF_cut {f : Nat → Bool} {d : Int32} : ∀ n m, (∀ i, m ≤ i → i < m + n → f i = false) → lowF f 0 (m + n) d = lowF f 0 m d := by
  intro n
  induction n with
  | zero => intro m h; rfl
  | succ n ih =>
    intro m h
    rw [show m + (n + 1) = m + n + 1 by omega, lowF_sn, Nat.zero_add, h (m + n) (by omega) (by omega), if_neg (by decide)]
    exact ih m (fun i h1 h2 => h i h1 (by omega))
theorem lowF_or {f : Nat → Bool} {d : Int32} : ∀ m k, lowF f k m d = d ∨ ∃ q, k ≤ q ∧ q < k + m ∧ f q = true ∧ lowF f k m d = nI q := by
  intro m
  induction m with
  | zero => intro k; exact Or.inl rfl
  | succ m ih =>
    intro k
    cases h : f k with
    | true => exact Or.inr ⟨k, Nat.le_refl _, by omega, h, lowF_t h⟩
    | false =>
      rw [lowF_f h]
      rcases ih (k + 1) with e | ⟨q, h1, h2, h3, h4⟩
      · exact Or.inl e
      · exact Or.inr ⟨q, by omega, by omega, h3, h4⟩
theorem low_C (a : Int32) (σ : gx_R) : ∀ m k n, k + m = 8 → m < n → Sf_lowestOf_2 n a (nI k) σ = some (lowF (bt a) k m (-1), σ) := by
  intro m
  induction m with
  | zero =>
    intro k n hk hn
    obtain ⟨n, rfl⟩ : ∃ q, n = q + 1 := ⟨n - 1, by omega⟩
    have e : k = 8 := by omega
    subst e
    rw [Sf_lowestOf_2, Sf_lowestOf_2_B, if_pos (by decide)]; rfl
  | succ m ih =>
    intro k n hk hn
    obtain ⟨n, rfl⟩ : ∃ q, n = q + 1 := ⟨n - 1, by omega⟩
    have h1 : ¬ (8 : Int32) ≤ nI k := fun z => by have := (nI_leI (a := 8) (by omega) (by omega)).mp z; omega
    rw [Sf_lowestOf_2, Sf_lowestOf_2_B, if_neg h1]
    cases h : bt a k with
    | true => rw [if_pos ((h_1 (by omega)).mpr h), lowF_t h]
    | false => rw [if_neg (fun z => by rw [(h_1 (by omega)).mp z] at h; cases h), lowF_f h, nI_1]; exact ih (k + 1) n (by omega) (by omega)
theorem low_M {p : Nat} (hp : p < 8) (τ : gx_R) : ∀ k n d, k ≤ 8 → k < n → Md_lowestFor_9 n (nI p) d (nI k - 1) τ = some (lowF (fun i => bt (τ 110 (26 + p)) i && decide (τ 110 (60 + i) = 1)) 0 k d, τ) := by
  intro k
  induction k with
  | zero =>
    intro n d hk hn
    obtain ⟨n, rfl⟩ : ∃ q, n = q + 1 := ⟨n - 1, by omega⟩
    rw [Md_lowestFor_9, Md_lowestFor_9_B, if_pos (by decide)]; rfl
  | succ k ih =>
    intro n d hk hn
    obtain ⟨n, rfl⟩ : ∃ q, n = q + 1 := ⟨n - 1, by omega⟩
    have c1 : 26 + p < 8880 := by omega
    have c2 : 60 + k < 8880 := by omega
    have c3 : nI (k + 1) - 1 = nI k := nI_pred k
    have c4 : nI k + -1 = nI k - 1 := by grind
    have c5 : Md_lowestFor_9 (n + 1) (nI p) d (nI k) τ = Md_lowestFor_9 n (nI p) (if (bt (τ 110 (26 + p)) k && decide (τ 110 (60 + k) = 1)) = true then nI k else d) (nI k - 1) τ := by
      rw [Md_lowestFor_9, Md_lowestFor_9_B, if_neg (nI_pos (by omega)), show (26 : Int32) + nI p = nI (26 + p) from nI_add 26 p, show (60 : Int32) + nI k = nI (60 + k) from nI_add 60 k, ix_t c1 (by omega), w_ck, cl_n (by omega), Md_has_v _ (by omega), w_bd, ix_t c2 (by omega), w_ck, cl_n (by omega)]
      cases hb : bt (τ 110 (26 + p)) k with
      | false => rw [bI_f, if_pos rfl, Bool.false_and, if_neg (by decide), Md_lowestFor_30, Md_lowestFor_31, c4]
      | true =>
        rw [bI_t, if_neg (by decide), Bool.true_and]
        by_cases h : τ 110 (60 + k) = 1
        · rw [if_pos h, decide_eq_true h, if_pos rfl, Md_lowestFor_31, c4]
        · rw [if_neg h, decide_eq_false h, if_neg (by decide), Md_lowestFor_30, Md_lowestFor_31, c4]
    rw [c3, c5, ih n _ (by omega) (by omega), lowF_sn, Nat.zero_add]
theorem low_R {σ τ : gx_R} {P W H K T p : Nat} (hp : p < P) (r : ValleyR σ 1 (τ 110) P W H K T) : ∃ x, Sf_lowestOf (σ 5 p &&& mk (fun i => decide (σ 10 i = 1)) 8) σ = some (x, σ) ∧ Md_lowestFor (nI p) τ = some (x, τ) ∧ (x = -1 ∨ ∃ q, q < P ∧ x = nI q) := by
  have hP := r.1.1.1
  refine ⟨lowF (fun i => bt (τ 110 (26 + p)) i && decide (τ 110 (60 + i) = 1)) 0 P (-1), ?_, ?_, ?_⟩
  · have h1 := low_C (σ 5 p &&& mk (fun i => decide (σ 10 i = 1)) 8) σ 8 0 z_FU (by omega) (Nat.lt_of_lt_of_le (by decide) z_FU_ge)
    have h2 : Sf_lowestOf (σ 5 p &&& mk (fun i => decide (σ 10 i = 1)) 8) σ = Sf_lowestOf_2 z_FU (σ 5 p &&& mk (fun i => decide (σ 10 i = 1)) 8) (nI 0) σ := rfl
    rw [h2, h1]
    have e1 : lowF (bt (σ 5 p &&& mk (fun i => decide (σ 10 i = 1)) 8)) 0 8 (-1) = lowF (fun i => bt (τ 110 (26 + p)) i && decide (τ 110 (60 + i) = 1)) 0 8 (-1) := by
      refine lowF_cong 8 0 (fun i z1 z2 => ?_)
      rw [b_and, mk_b (by omega) (by omega), decide_eq_true (show i < 8 by omega), Bool.true_and, (r.1.2.2.2.1 p (by omega)).1, doing_eq r (show i < 8 by omega)]
    have e2 : lowF (fun i => bt (τ 110 (26 + p)) i && decide (τ 110 (60 + i) = 1)) 0 8 (-1) = lowF (fun i => bt (τ 110 (26 + p)) i && decide (τ 110 (60 + i) = 1)) 0 P (-1) := by
      have := lowF_cut (f := fun i => bt (τ 110 (26 + p)) i && decide (τ 110 (60 + i) = 1)) (d := -1) (8 - P) P (fun i z1 z2 => by
        rw [doing_eq r (show i < 8 by omega)]
        have h0 : σ 10 i = 0 := by
          have := (r.2.1.2.2.1 i z1 (by omega)).1
          rwa [nu_d σ _ (by omega)] at this
        rw [h0, decide_eq_false (by decide), Bool.and_false])
      rwa [show P + (8 - P) = 8 by omega] at this
    rw [e1, e2]
  · have h1 := low_M (p := p) (by omega) τ P z_FU (-1) hP (Nat.lt_of_le_of_lt hP (Nat.lt_of_lt_of_le (by decide) z_FU_ge))
    rw [Md_lowestFor, show (0 : Int32).toNatClampNeg = 0 from rfl, r.1.2.1.2.1]
    exact h1
  · rcases lowF_or (f := fun i => bt (τ 110 (26 + p)) i && decide (τ 110 (60 + i) = 1)) (d := -1) P 0 with e | ⟨q, h1, h2, h3, h4⟩
    · exact Or.inl e
    · exact Or.inr ⟨q, by omega, h4⟩
theorem NightR_x {ν s nd ν' s' : gx_F} {P W H y : Nat} (hy : y < 30211) (hP : P ≤ 8) (h1 : ∀ i, i < 103 → ν' i = ν i) (h2 : ∀ i, i < 103 → s' i = s i) (h3 : ν' 103 = nI y) (h4 : s' 103 = nI y) (r : NightR ν s nd P W H) : NightR ν' s' nd P W H := by
  obtain ⟨r1, r2, r3, r4, r5, ⟨r6, r7, r8⟩, r9, r10, r11, r12, r13⟩ := r
  refine ⟨fun i hi => ?_, fun i hi => ?_, fun i hi hi2 => ?_, fun i hi => ?_, fun i hi => ?_, ⟨?_, ?_, ?_⟩, ⟨y, hy, h3⟩, fun i hi => ?_, fun i hi => ?_, fun i j hi hj => ?_, fun i hi => ?_⟩
  · rw [h1 i (by omega), h1 (16 + i) (by omega), h1 (24 + i) (by omega), h2 i (by omega), h2 (16 + i) (by omega), h2 (24 + i) (by omega)]; exact r1 i hi
  · rw [h1 (8 + i) (by omega), h2 (8 + i) (by omega)]; exact r2 i hi
  · rw [h1 i (by omega), h1 (8 + i) (by omega), h1 (16 + i) (by omega), h1 (24 + i) (by omega)]; exact r3 i hi hi2
  · rw [h1 (32 + i) (by omega), h2 (38 + i) (by omega)]; exact r4 i hi
  · rw [h1 (96 + i) (by omega), h2 (32 + i) (by omega)]; exact r5 i hi
  · rw [h1 102 (by omega), h2 102 (by omega)]; exact r6
  · rw [h3, h4]
  · rw [h1 102 (by omega)]; exact r8
  · rw [h1 i (by omega), h1 (8 + i) (by omega)]; exact r10 i hi
  · rw [h1 (16 + i) (by omega), h1 (24 + i) (by omega)]; exact r11 i hi
  · rw [h1 (32 + (8 * i + j)) (by omega)]; exact r12 i j hi hj
  · rw [h1 (96 + i) (by omega)]; exact r13 i hi
theorem Valley_x {σ τ : gx_R} {P W H K T y : Nat} (hy : y < 30211) (r : ValleyR σ 1 (τ 110) P W H K T) : ValleyR (gx_up σ 9 7 (nI y)) 1 (gx_up τ 110 163 (nI y) 110) P W H K T := by
  have hP := r.1.1.1
  refine Valley_night (fun c z1 z2 z3 => gx_up_ne (by omega)) (fun j hj => up_p _ _ _ (by omega)) (NightR_x hy hP (fun i hi => ?_) (fun i hi => up_p _ _ _ (by omega)) ((nu_x _ _).trans (up_e _ _ _ _)) (up_e _ _ _ _) r.2.1) r
  show nuC (gx_up σ 9 7 (nI y)) 9 i = nuC σ 9 i
  unfold nuC
  simp only [gx_up]
  grind
theorem drw_R {σ τ : gx_R} {P W H K T m : Nat} (hm : 0 < m) (hm2 : m ≤ 10) (r : ValleyR σ 1 (τ 110) P W H K T) : ∃ v σ' τ', v < m ∧ Ni_draw 9 (nI m) σ = some (nI v, σ') ∧ Md_draw (nI m) τ = some (nI v, τ') ∧ ValleyR σ' 1 (τ' 110) P W H K T ∧ (∀ c, c ≠ 9 → σ' c = σ c) ∧ (∀ c, c ≠ 110 → τ' c = τ c) := by
  obtain ⟨x, hx, hx2⟩ := r.2.1.2.2.2.2.2.2.1
  have hx2 : σ 9 7 = nI x := hx2
  have hx3 : τ 110 163 = nI x := by rw [← hx2]; exact r.2.1.2.2.2.2.2.1.2.1
  have hy : (x * 241 + 139) % 30211 < 30211 := Nat.mod_lt _ (by omega)
  refine ⟨x % m, _, gx_up τ 110 163 (nI ((x * 241 + 139) % 30211)), Nat.mod_lt _ hm, draw_v hm hm2 hx hx2, ?_, Valley_x hy r, fun c hc => gx_up_ne hc, fun c hc => gx_up_ne hc⟩
  have c2 : z_nzi (nI m) = true := decide_eq_true (nI_ne0 hm (by omega))
  unfold Md_draw
  simp (disch := omega) only [c2, w_ck, hx3, pk_rem, z_c0, z_c1, nI_leI, nI_ltI, nI_eq, ix_n, cl_n, nI_add, pk_mul, nI_1, n_lt0, n_0le, n_le0, n_0lt, n_eq0, n_1le, n_le1, n_lt1, n_1lt, n_eq1, n_m1, n_m1a, L_2, L_3, L_4, L_5, L_6, L_7, L_8, L_9, L_10, L_11, L_12, L_14, L_15, L_16, L_17, L_18, L_20, L_21, L_24, L_26, L_30, L_32, L_34, L_35, L_36, L_37, L_38, L_39, L_40, L_41, L_42, L_43, L_44, L_45, L_46, L_47, L_48, L_57, L_59, L_60, L_61, L_62, L_64, L_65, L_68, L_76, L_80, L_84, L_90, L_92, L_96, L_97, L_98, L_99, L_100, L_104, L_122, L_139, L_140, L_162, L_163, L_164, L_200, L_241, L_255, L_256, L_280, L_284, L_300, L_301, L_303, L_309, L_360, L_400, L_401, L_402, L_403, L_404, L_405, L_406, L_407, L_408, L_999, L_1600, L_3120, L_8596, L_8880, L_9999, L_10000, L_30211, L_99999, L_1000000]
theorem keepC_tr {a b c : gx_R} (h : keepC a b) (h2 : keepC b c) : keepC a c := fun k z1 z2 => (h2 k z1 z2).trans (h k z1 z2)
theorem keepM_tr {a b c : gx_R} (h : keepM a b) (h2 : keepM b c) : keepM a c := ⟨fun k z => (h2.1 k z).trans (h.1 k z), fun j z => (h2.2 j z).trans (h.2 j z)⟩
theorem Texts_k {σ τ σ' τ' : gx_R} {T : Nat} (hT : T ≤ 4) (h1 : keepC σ σ') (h2 : keepM τ τ') (ht : ∀ t, t < T → TextR σ τ t) : ∀ t, t < T → TextR σ' τ' t := fun t h => TextR_fr (fun k z1 z2 => h1 k (by omega) (by omega)) (fun k z1 z2 => h2.1 k (by omega)) (by omega) (ht t h)
theorem turn_88 {σ τ : gx_R} {P W H K T p : Nat} (r : ValleyR σ 1 (τ 110) P W H K T) (ht : ∀ t, t < T → TextR σ τ t) (hp : p < P) : ∃ σ' τ', Sf_takeTurn_88 4 (nI p) σ = some (0, σ') ∧ (z_ck (z_ix (60 + nI p) 8880) (if τ 110 ((60 + nI p).toNatClampNeg) = 2 then z_bd (Md_calls (nI p) τ) (fun _ σ25 => Md_happens_93 σ25) else Md_happens_93 τ)) = some (0, τ') ∧ ValleyR σ' 1 (τ' 110) P W H K T ∧ keepC σ σ' ∧ keepM τ τ' := by
  have hP := r.1.1.1
  have p1 : σ 2 0 = nI P := r.1.2.1.1
  have e := doing_eq r (show p < 8 by omega)
  have c1 : (60 : Int32) + nI p = nI (60 + p) := nI_add 60 p
  rw [c1, ix_t (show 60 + p < 8880 by omega) (by omega), w_ck, cl_n (by omega), e, Sf_takeTurn_88, if_pos rfl, isDoing_v p1 hP, ix_t hp (by omega), cl_n (by omega), w_bd, Bool.true_and]
  by_cases h0 : σ 10 p = 2
  · obtain ⟨x, σ1, σ', τ', hx, w1, w2, w3, w4, w5, w6, -⟩ := calls_v r ht hp
    exact ⟨σ', τ', by rw [decide_eq_true h0, bI_t, if_neg (by decide), w1, w_bd, w2, w_bd], by rw [if_pos h0, w3, w_bd, Md_happens_93], w4, w5, w6⟩
  · exact ⟨σ, τ, by rw [decide_eq_false h0, bI_f, if_pos rfl], by rw [if_neg h0, Md_happens_93], r, fun _ _ _ => rfl, fun _ _ => rfl, fun _ _ => rfl⟩
theorem begin_KC {σ : gx_R} {p : Nat} {w x : Int32} : keepC σ (gx_up (gx_up (gx_up σ 10 p w) 11 p x) 12 p 0) := fun c z1 z2 => by rw [gx_up_ne (by omega), gx_up_ne (by omega), gx_up_ne (by omega)]
theorem begin_KM {τ : gx_R} {p : Nat} {w x : Int32} : keepM τ (gx_up (gx_up (gx_up τ 110 (60 + p) w) 110 (68 + p) x) 110 (76 + p) 0) :=
  ⟨fun c z => by rw [gx_up_ne (by omega), gx_up_ne (by omega), gx_up_ne (by omega)], fun j hj => by rw [gx_up_ne (by omega), gx_up_ne (by omega), gx_up_ne (by omega)]⟩
theorem turn_v {σ τ : gx_R} {P W H K T : Nat} (hP0 : 0 < P) (r : ValleyR σ 1 (τ 110) P W H K T) (ht : ∀ t, t < T → TextR σ τ t) : ∃ v σ' τ' H', Sf_takeTurn σ = some (v, σ') ∧ Md_happens τ = some (v, τ') ∧ ValleyR σ' 1 (τ' 110) P W H' K T ∧ keepC σ σ' ∧ keepM τ τ' := by
  have hP := r.1.1.1
  have hW := r.1.1.2
  have hT : T ≤ 4 := r.2.2.2.2.2.2.1.2.2
  have hH : H ≤ 999 := r.2.2.1
  obtain ⟨v, σ1, τ1, hv, d1, d2, r1, f1, g1⟩ := drw_R (m := 8) (by omega) (by omega) r
  have kC1 : keepC σ σ1 := fun c z1 z2 => f1 c (by omega)
  have kM1 : keepM τ τ1 := ⟨fun c z => g1 c (by omega), fun j hj => by rw [g1 109 (by omega)]⟩
  have ht1 := Texts_k hT kC1 kM1 ht
  have p1 : σ1 2 0 = nI P := r1.1.2.1.1
  have p2 : τ1 110 0 = nI P := r1.1.2.1.2.1
  have w1 : σ1 2 1 = nI W := r1.1.2.1.2.2.1
  have w2 : τ1 110 1 = nI W := r1.1.2.1.2.2.2
  have c1 : σ1 9 6 = nI H := r1.2.1.2.2.2.2.2.1.2.2
  have c2 : τ1 110 162 = nI H := by rw [← c1]; exact r1.2.1.2.2.2.2.2.1.1
  rw [Sf_takeTurn, show (8 : Int32) = nI 8 from rfl, d1, w_bd, Md_happens, show (8 : Int32) = nI 8 from rfl, d2, w_bd, show (0 : Int32).toNatClampNeg = 0 from rfl, show (1 : Int32).toNatClampNeg = 1 from rfl, show (162 : Int32).toNatClampNeg = 162 from rfl, p2, w2, c2]
  by_cases h5 : 5 ≤ v
  · have e1 : ¬ nI v ≤ 4 := fun z => by have := (nI_leI (b := 4) (by omega) (by omega)).mp z; omega
    have e2 : (3 : Int32) ≤ nI v := (nI_leI (a := 3) (by omega) (by omega)).mpr (by omega)
    have e3 : ¬ nI v = 3 := fun z => by have := (nI_eq (b := 3) (by omega) (by omega)).mp z; omega
    have e4 : ¬ nI v = 4 := fun z => by have := (nI_eq (b := 4) (by omega) (by omega)).mp z; omega
    have zz : ∀ X : Option (Int32 × gx_R), z_bd X (fun r s => some (r, s)) = X := fun X => by cases X with | none => rfl | some q => cases q; rfl
    obtain ⟨N, hN⟩ : ∃ N, z_FU = N + 2 := ⟨z_FU - 2, by have := z_FU_ge; omega⟩
    rw [if_neg e1, if_pos e2, if_neg e3, if_neg e4, zz, Sf_passHours, hN, Sf_passHours_8, Sf_passHours_8_B, if_neg (by decide), c1, if_neg (nI_pos (by omega))]
    by_cases h9 : 999 ≤ H
    · have e5 : (999 : Int32) ≤ nI H := (nI_leI (a := 999) (by omega) (by omega)).mpr h9
      rw [if_pos e5, if_pos e5]
      exact ⟨0, σ1, τ1, H, rfl, rfl, r1, kC1, kM1⟩
    · have e5 : ¬ (999 : Int32) ≤ nI H := fun z => h9 ((nI_leI (a := 999) (by omega) (by omega)).mp z)
      obtain ⟨u, σ2, τ2, hu, u1, u2, u3, u4, u5, u6⟩ := hour_v r1 ht1 (by omega)
      rw [if_neg e5, if_neg e5, if_pos rfl, u1, u2, w_bd, Sf_passHours_8, Sf_passHours_8_B, if_pos (by decide)]
      exact ⟨nI u, σ2, τ2, H + 1, by rw [Int32.zero_add], rfl, u3, keepC_tr kC1 u4, keepM_tr kM1 u5⟩
  · have e1 : nI v ≤ 4 := (nI_leI (b := 4) (by omega) (by omega)).mpr (by omega)
    rw [if_pos e1]
    by_cases h3 : v = 3
    · subst h3
      rw [if_pos (show nI 3 = (3 : Int32) from rfl), if_pos (show (3 : Int32) ≤ nI 3 by decide), if_pos (show nI 3 = (3 : Int32) from rfl), w1]
      by_cases hW0 : W = 0
      · subst hW0
        rw [if_pos (show nI 0 = (0 : Int32) from rfl), if_pos (show nI 0 ≤ (0 : Int32) by decide)]
        exact ⟨0, σ1, τ1, H, rfl, rfl, r1, kC1, kM1⟩
      · have e6 : ¬ nI W = 0 := fun z => by have := (nI_eq (b := 0) (by omega) (by omega)).mp z; omega
        have e7 : ¬ nI W ≤ 0 := fun z => by have := (nI_leI (b := 0) (by omega) (by omega)).mp z; omega
        obtain ⟨p, σ2, τ2, hp, d3, d4, r2, f2, g2⟩ := drw_R (m := P) hP0 (by omega) r1
        have w3 : σ2 2 1 = nI W := by rw [f2 2 (by omega)]; exact w1
        have w4 : τ2 110 1 = nI W := r2.1.2.1.2.2.2
        obtain ⟨w, σ3, τ3, hw, d5, d6, r3, f3, g3⟩ := drw_R (m := W) (by omega) (by omega) r2
        have kC3 : keepC σ σ3 := fun c z1 z2 => by rw [f3 c (by omega), f2 c (by omega), f1 c (by omega)]
        have kM3 : keepM τ τ3 := ⟨fun c z => by rw [g3 c (by omega), g2 c (by omega), g1 c (by omega)], fun j hj => by rw [g3 109 (by omega), g2 109 (by omega), g1 109 (by omega)]⟩
        have e := doing_eq r3 (show p < 8 by omega)
        have q1 : σ3 2 0 = nI P := r3.1.2.1.1
        have c3 : (60 : Int32) + nI p = nI (60 + p) := nI_add 60 p
        rw [if_neg e6, if_neg e7, d4, w_bd, Sf_takeTurn_26, p1, d3, w_bd, if_pos (show nI 3 = (3 : Int32) from rfl), w3, d5, w_bd, w4, d6, w_bd, c3, ix_t (show 60 + p < 8880 by omega) (by omega), w_ck, cl_n (by omega), e, Sf_takeTurn_44, if_pos (show (3 : Int32) ≤ nI 3 by decide), Sf_takeTurn_74, if_pos (show nI 3 = (3 : Int32) from rfl), isDoing_v q1 hP, ix_t hp (by omega), cl_n (by omega), w_bd, Bool.true_and]
        by_cases h0 : σ3 10 p = 0
        · obtain ⟨b1, b2, b3⟩ := begin_R (w := 1) (x := nI w) hp (Or.inr (Or.inl ⟨rfl, w, hw, rfl⟩)) r3
          rw [decide_eq_true h0, bI_t, if_neg (by decide), b1, w_bd, if_pos h0, b2, w_bd, Md_happens_70]
          exact ⟨0, _, _, H, rfl, rfl, b3, keepC_tr kC3 begin_KC, keepM_tr kM3 begin_KM⟩
        · rw [decide_eq_false h0, bI_f, if_pos rfl, if_neg h0, Md_happens_70, Sf_takeTurn_88, if_neg (show ¬ nI 3 = (4 : Int32) by decide)]
          exact ⟨0, σ3, τ3, H, rfl, rfl, r3, kC3, kM3⟩
    · have e3 : ¬ nI v = 3 := fun z => h3 ((nI_eq (b := 3) (by omega) (by omega)).mp z)
      rw [if_neg e3, Sf_takeTurn_26, p1]
      obtain ⟨p, σ2, τ2, hp, d3, d4, r2, f2, g2⟩ := drw_R (m := P) hP0 (by omega) r1
      have kC2 : keepC σ σ2 := fun c z1 z2 => by rw [f2 c (by omega), f1 c (by omega)]
      have kM2 : keepM τ τ2 := ⟨fun c z => by rw [g2 c (by omega), g1 c (by omega)], fun j hj => by rw [g2 109 (by omega), g1 109 (by omega)]⟩
      have q1 : σ2 2 0 = nI P := r2.1.2.1.1
      have e := doing_eq r2 (show p < 8 by omega)
      have c3 : (60 : Int32) + nI p = nI (60 + p) := nI_add 60 p
      rw [d3, w_bd, if_neg e3, Sf_takeTurn_44]
      by_cases h4 : v = 4
      · subst h4
        rw [if_pos (show (3 : Int32) ≤ nI 4 by decide), if_pos (show (3 : Int32) ≤ nI 4 by decide), if_neg (show ¬ nI 4 = (3 : Int32) by decide), if_pos (show nI 4 = (4 : Int32) from rfl), d4, w_bd, Sf_takeTurn_74, if_neg (show ¬ nI 4 = (3 : Int32) by decide)]
        obtain ⟨σ3, τ3, s1, s2, s3, s4, s5⟩ := turn_88 r2 (Texts_k hT kC2 kM2 ht) hp
        exact ⟨0, σ3, τ3, H, s1, s2, s3, keepC_tr kC2 s4, keepM_tr kM2 s5⟩
      · have e4 : ¬ (3 : Int32) ≤ nI v := fun z => by have := (nI_leI (a := 3) (by omega) (by omega)).mp z; omega
        have e8 : ¬ nI v = 4 := fun z => h4 ((nI_eq (b := 4) (by omega) (by omega)).mp z)
        rw [if_neg e4, if_neg e4, d4, w_bd, c3, ix_t (show 60 + p < 8880 by omega) (by omega), w_ck, cl_n (show 60 + p < 2 ^ 31 by omega), e, isDoing_v q1 hP, ix_t hp (by omega), cl_n (by omega), w_bd, Bool.true_and]
        by_cases h0 : σ2 10 p = 0
        · obtain ⟨x, l1, l2, l3⟩ := low_R hp r2
          rw [decide_eq_true h0, bI_t, if_neg (by decide), ix_t (show p < 8 by omega) (by omega), w_ck, Ni_those_v, w_bd, l1, w_bd, if_pos h0, l2, w_bd, Md_happens_26]
          by_cases hx : x = -1
          · rw [if_pos hx, if_pos hx, Md_happens_35, Sf_takeTurn_73]
            exact ⟨0, σ2, τ2, H, rfl, rfl, r2, kC2, kM2⟩
          · obtain ⟨q, hq, rfl⟩ := l3.resolve_left hx
            obtain ⟨b1, b2, b3⟩ := begin_R (w := 2) (x := nI q) hp (Or.inr (Or.inr ⟨rfl, q, hq, rfl⟩)) r2
            rw [if_neg hx, if_neg hx, b1, w_bd, b2, w_bd, Md_happens_35, Sf_takeTurn_73]
            exact ⟨0, _, _, H, rfl, rfl, b3, keepC_tr kC2 begin_KC, keepM_tr kM2 begin_KM⟩
        · rw [decide_eq_false h0, bI_f, if_pos rfl, if_neg h0, Md_happens_26, if_pos rfl, Md_happens_35, Sf_takeTurn_74, if_neg e3, Sf_takeTurn_88, if_neg e8]
          exact ⟨0, σ2, τ2, H, rfl, rfl, r2, kC2, kM2⟩
theorem year_L {P W T A K : Nat} (hP0 : 0 < P) (hA : A ≤ 30) : ∀ m j n n' σ τ H a, j + m = A → m < n → m < n' → ValleyR σ 1 (τ 110) P W H K T → (∀ t, t < T → TextR σ τ t) → ∃ v σ' τ' H', Sf_year_44 n (nI A) a (nI j) σ = some (v, σ') ∧ Md_year_32 n' (nI A) a (nI j) τ = some (v, τ') ∧ ValleyR σ' 1 (τ' 110) P W H' K T ∧ keepC σ σ' ∧ keepM τ τ' := by
  intro m
  induction m with
  | zero =>
    intro j n n' σ τ H a hj hn hn' r ht
    obtain ⟨n, rfl⟩ : ∃ q, n = q + 1 := ⟨n - 1, by omega⟩
    obtain ⟨n', rfl⟩ : ∃ q, n' = q + 1 := ⟨n' - 1, by omega⟩
    have e : j = A := by omega
    subst e
    refine ⟨a, σ, τ, H, ?_, ?_, r, fun _ _ _ => rfl, fun _ _ => rfl, fun _ _ => rfl⟩
    · rw [Sf_year_44, Sf_year_44_B, if_pos Int32.le_rfl]
    · rw [Md_year_32, Md_year_32_B, if_pos Int32.le_rfl]
  | succ m ih =>
    intro j n n' σ τ H a hj hn hn' r ht
    obtain ⟨n, rfl⟩ : ∃ q, n = q + 1 := ⟨n - 1, by omega⟩
    obtain ⟨n', rfl⟩ : ∃ q, n' = q + 1 := ⟨n' - 1, by omega⟩
    have hT : T ≤ 4 := r.2.2.2.2.2.2.1.2.2
    obtain ⟨v, σ1, τ1, H1, u1, u2, u3, u4, u5⟩ := turn_v hP0 r ht
    obtain ⟨v', σ', τ', H', w1, w2, w3, w4, w5⟩ := ih (j + 1) n n' σ1 τ1 H1 (a + v) (by omega) (by omega) (by omega) u3 (Texts_k hT u4 u5 ht)
    have d1 : ¬ nI A ≤ nI j := by rw [nI_leI (by omega) (by omega)]; omega
    refine ⟨v', σ', τ', H', ?_, ?_, w3, keepC_tr u4 w4, keepM_tr u5 w5⟩
    · rw [Sf_year_44, Sf_year_44_B, if_neg d1, u1, w_bd, nI_1]
      exact w1
    · rw [Md_year_32, Md_year_32_B, if_neg d1, u2, w_bd, nI_1]
      exact w2
theorem Sf_year_v (a1 a2 : Int32) (σ : gx_R) : Sf_year a1 a2 σ = if ¬ a1 < 0 ∧ ¬ (9999 : Int32) < a1 ∧ ¬ a2 < 1 ∧ ¬ (30 : Int32) < a2 then Sf_year_14 a1 a2 1 σ else some (-1, σ) := by
  have e : Sf_year_13 Sf_year_14 a1 a2 σ = some (-1, σ) := rfl
  unfold Sf_year
  rw [e]
  by_cases h1 : a1 < 0
  · rw [if_pos h1, if_neg (fun z => z.1 h1)]
  · rw [if_neg h1]
    by_cases h2 : (9999 : Int32) < a1
    · rw [if_pos h2, if_neg (fun z => z.2.1 h2)]
    · rw [if_neg h2]
      by_cases h3 : a2 < 1
      · rw [if_pos h3, if_neg (fun z => z.2.2.1 h3)]
      · rw [if_neg h3]
        by_cases h4 : (30 : Int32) < a2
        · rw [if_pos h4, if_neg (fun z => z.2.2.2 h4)]
        · rw [if_neg h4, if_pos ⟨h1, h2, h3, h4⟩]
theorem S_year {σ τ : gx_R} (r : Rel σ τ) (a1 a2 : Int32) : SimP (Sf_year a1 a2) (Md_year a1 a2) σ τ := by
  obtain ⟨P, W, H, K, T, P', W', H', K', T', rr⟩ := id r
  have r1 := rr.1
  have hP := r1.1.1.1
  have hT : T ≤ 4 := r1.2.2.2.2.2.2.1.2.2
  have p1 : σ 2 0 = nI P := r1.1.2.1.1
  have p2 : τ 110 0 = nI P := r1.1.2.1.2.1
  by_cases hc : ¬ a1 < 0 ∧ ¬ (9999 : Int32) < a1 ∧ ¬ a2 < 1 ∧ ¬ (30 : Int32) < a2
  · obtain ⟨h1, h2, h3, h4⟩ := hc
    have cla : Sf_year a1 a2 σ = Sf_year_14 a1 a2 1 σ := by rw [Sf_year_v, if_pos ⟨h1, h2, h3, h4⟩]
    rw [Sf_year_14, if_neg (by decide), p1] at cla
    have mda : Md_year a1 a2 τ = if nI P = 0 then some (-1, τ) else z_bd (Md_keepsStep τ) (fun _ σ11 => Md_year_32 z_FU a2 0 0 (gx_up σ11 110 163 (a1 * 2 + 43))) := by
      rw [Md_year, Md_in_v, w_bd, decide_eq_true ⟨h1, h2⟩, bI_t, if_neg (by decide), Md_in_v, w_bd, decide_eq_true ⟨h3, h4⟩, bI_t, if_neg (by decide), show (0 : Int32).toNatClampNeg = 0 from rfl, p2]; rfl
    by_cases hP0 : P = 0
    · subst hP0
      exact SimP_ro r (-1) (by rw [cla, if_pos (show nI 0 = (0 : Int32) from rfl)]) (by rw [mda, if_pos (show nI 0 = (0 : Int32) from rfl)])
    · have e1 : ¬ nI P = 0 := fun z => by have := (nI_eq (b := 0) (by omega) (by omega)).mp z; omega
      obtain ⟨y, hy, hy2, rfl⟩ := in_nat (l := 0) (u := 9999) (by omega) (by omega) h1 h2
      obtain ⟨A, hA, hA2, rfl⟩ := in_nat (l := 1) (u := 30) (by omega) (by omega) h3 h4
      obtain ⟨σ1, τ1, s1, s2, s3, s4, s5, s6⟩ := push_R r1
      have e2 : nI y * 2 + 43 = nI (y * 2 + 43) := by rw [show (2 : Int32) = nI 2 from rfl, show (43 : Int32) = nI 43 from rfl, pk_mul, nI_add]
      have V := Valley_x (y := y * 2 + 43) (by omega) s3
      have kC : keepC σ (gx_up σ1 9 7 (nI (y * 2 + 43))) := fun c z1 z2 => by rw [gx_up_ne (by omega), s4 c (by omega) (by omega)]
      have kM : keepM τ (gx_up τ1 110 163 (nI (y * 2 + 43))) := ⟨fun c z => by rw [gx_up_ne (by omega), s5 c (by omega)], fun j hj => by rw [gx_up_ne (by omega), s5 109 (by omega)]⟩
      obtain ⟨v, σ', τ', H2, w1, w2, w3, w4, w5⟩ := year_L (A := A) (by omega) hA2 A 0 z_FU z_FU _ _ H 0 (by omega) (Nat.lt_of_le_of_lt hA2 (Nat.lt_of_lt_of_le (by decide) z_FU_ge)) (Nat.lt_of_le_of_lt hA2 (Nat.lt_of_lt_of_le (by decide) z_FU_ge)) V (Texts_k hT kC kM rr.2.2.2.2.2)
      refine ⟨v, σ', τ', ?_, ?_, Rel_mk w3 (keepC_tr kC w4) (keepM_tr kM w5) rr, fun c hc => (keepC_tr kC w4) c (by omega) (by omega), fun c hc => (keepM_tr kM w5).1 c (by omega)⟩
      · rw [cla, if_neg e1, s1, w_bd, e2]; exact w1
      · rw [mda, if_neg e1, s2, w_bd, e2]; exact w2
  · refine SimP_ro r (-1) ?_ ?_
    · rw [Sf_year_v, if_neg hc]
    · rw [Md_year, Md_in_v, w_bd]
      by_cases h1 : ¬ a1 < 0 ∧ ¬ (9999 : Int32) < a1
      · rw [decide_eq_true h1, bI_t, if_neg (by decide), Md_in_v, w_bd, decide_eq_false (fun z => hc ⟨h1.1, h1.2, z.1, z.2⟩), bI_f, if_pos rfl]
      · rw [decide_eq_false h1, bI_f, if_pos rfl]
