/-! ===== who fits ===== -/
theorem lb_r {r t l p : Nat} (hr : r < 256) (ht : t < 256) (hl : l < 256) (hp : p < 8) : bt (nI (r + 256 * t + 65536 * l)) p = bt (nI r) p := by
  rw [← log_v hr ht hl, b_or, b_or, b_shl8 _ (by omega), b_shl16 _ (by omega), decide_eq_false (show ¬ 8 ≤ p by omega), decide_eq_false (show ¬ 16 ≤ p by omega)]
  simp
theorem lb_t {r t l p : Nat} (hr : r < 256) (ht : t < 256) (hl : l < 256) (hp : p < 8) : bt (nI (r + 256 * t + 65536 * l)) (8 + p) = bt (nI t) p := by
  rw [← log_v hr ht hl, b_or, b_or, b_shl8 _ (by omega), b_shl16 _ (by omega), decide_eq_true (show 8 ≤ 8 + p by omega), decide_eq_false (show ¬ 16 ≤ 8 + p by omega), bt_n r (by omega), tb_f hr (by omega), Nat.add_sub_cancel_left]
  simp
theorem lb_l {r t l : Nat} (hr : r < 256) (ht : t < 256) (hl : l < 256) : (nI (r + 256 * t + 65536 * l) >>> ((16 : Int32) &&& 31)) &&& 255 = nI l := by
  rw [pk_shrN (by omega) _ 16 (by decide), pk_andN (by omega) 8 (by decide)]
  congr 1; omega
theorem fits_L {σ τ : gx_R} {H p : Nat} (hH : H ≤ 999) (hp : p < 8) (c2 : τ 110 162 = nI H) (hk : KeptR (σ 18) (fun i => τ 110 (60 + i)) H) : ∀ m k n n' a2 a3, k + m = H → H ≤ k + 60 → m < n → m < n' → ∃ v, Qu_fitting_21 n (nI p) a2 a3 (nI H) (nI k) σ = some (v, σ) ∧ Md_fits_19 n' (nI p) a2 a3 (nI k) τ = some (v, τ) := by
  intro m
  induction m with
  | zero =>
    intro k n n' a2 a3 hkm h60 hn hn'
    obtain ⟨n, rfl⟩ : ∃ q, n = q + 1 := ⟨n - 1, by omega⟩
    obtain ⟨n', rfl⟩ : ∃ q, n' = q + 1 := ⟨n' - 1, by omega⟩
    have e : k = H := by omega
    subst e
    rw [Qu_fitting_21, Qu_fitting_21_B, if_pos Int32.le_rfl, Md_fits_19, Md_fits_19_B, show (162 : Int32).toNatClampNeg = 162 from rfl, c2, if_pos Int32.le_rfl, Qu_fitting_68, Md_fits_79]
    by_cases h : a3 = 0
    · rw [if_pos h, if_pos h]; exact ⟨-1, rfl, rfl⟩
    · rw [if_neg h, if_neg h]; exact ⟨a2, rfl, rfl⟩
  | succ m ih =>
    intro k n n' a2 a3 hkm h60 hn hn'
    obtain ⟨n, rfl⟩ : ∃ q, n = q + 1 := ⟨n - 1, by omega⟩
    obtain ⟨n', rfl⟩ : ∃ q, n' = q + 1 := ⟨n' - 1, by omega⟩
    have d1 : ¬ nI H ≤ nI k := by rw [nI_leI (by omega) (by omega)]; omega
    have d2 : ¬ nI k < nI (H - 60) := by rw [nI_ltI (by omega) (by omega)]; omega
    obtain ⟨r, t, l, hr, ht, hl, e1, e2, e3, e4⟩ := hk k (by omega) h60
    have hm : k % 60 < 60 := Nat.mod_lt _ (by omega)
    have e2 : τ 110 (164 + 3 * (k % 60)) = nI r := by rw [← e2]; exact congrArg (τ 110) (by omega)
    have e3 : τ 110 (164 + 3 * (k % 60) + 1) = nI t := by rw [← e3]; exact congrArg (τ 110) (by omega)
    have e4 : τ 110 (164 + 3 * (k % 60) + 2) = nI l := by rw [← e4]; exact congrArg (τ 110) (by omega)
    have d3 : nI k - nI k / 60 * 60 = nI (k % 60) := by
      rw [show (60 : Int32) = nI 60 from rfl, pk_div (by omega) (by omega) (by omega), pk_mul, pk_sub (by omega)]; congr 1; omega
    have d4 : (164 : Int32) + 3 * nI (k % 60) = nI (164 + 3 * (k % 60)) := by
      rw [show (164 : Int32) = nI 164 from rfl, show (3 : Int32) = nI 3 from rfl, pk_mul, nI_add]
    have d5 : nI (164 + 3 * (k % 60)) + 2 = nI (164 + 3 * (k % 60) + 2) := nI_add _ 2
    have d6 : (8 : Int32) + nI p = nI (8 + p) := nI_add 8 p
    have j0 := ix_t (show 164 + 3 * (k % 60) < 8880 by omega) (by omega)
    have j1 := ix_t (show 164 + 3 * (k % 60) + 1 < 8880 by omega) (by omega)
    have j2 := ix_t (show 164 + 3 * (k % 60) + 2 < 8880 by omega) (by omega)
    have i0 := cl_n (show 164 + 3 * (k % 60) < 2 ^ 31 by omega)
    have i1 := cl_n (show 164 + 3 * (k % 60) + 1 < 2 ^ 31 by omega)
    have i2 := cl_n (show 164 + 3 * (k % 60) + 2 < 2 ^ 31 by omega)
    have cl2 : ∀ x y, Qu_fitting_49 (Qu_fitting_21 n) (nI p) x y (nI H) (nI k) (nI (r + 256 * t + 65536 * l)) (nI l) σ = if bt (nI t) p = true then Qu_fitting_21 n (nI p) (x &&& (nI l ^^^ -1)) 1 (nI H) (nI (k + 1)) σ else Qu_fitting_21 n (nI p) x y (nI H) (nI (k + 1)) σ := by
      intro x y
      rw [Qu_fitting_49, d6, Qu_fitting_66, Qu_fitting_66, nI_1]
      by_cases h : bt (nI t) p = true
      · rw [if_pos ((h_1 (by omega)).mpr (by rw [lb_t hr ht hl hp]; exact h)), if_pos h]
      · rw [if_neg (fun z => h (by rw [← lb_t hr ht hl hp]; exact (h_1 (by omega)).mp z)), if_neg h]
    have md2 : ∀ x y, Md_fits_55 (Md_fits_77 (Md_fits_19 n')) (nI p) x y (nI k) (nI (164 + 3 * (k % 60))) τ = if bt (nI t) p = true then Md_fits_19 n' (nI p) (x &&& (nI l ^^^ -1)) 1 (nI (k + 1)) τ else Md_fits_19 n' (nI p) x y (nI (k + 1)) τ := by
      intro x y
      rw [Md_fits_55, nI_1, j1, w_ck, i1, e3, Md_has_v _ (by omega), w_bd, d5, j2, w_ck, i2, e4, Md_fits_77, Md_fits_77, nI_1]
      cases h : bt (nI t) p with
      | true => rw [bI_t, if_neg (by decide), if_pos rfl]
      | false => rw [bI_f, if_pos rfl, if_neg (by decide)]
    have fin : ∀ x y, ∃ v, (if bt (nI t) p = true then Qu_fitting_21 n (nI p) (x &&& (nI l ^^^ -1)) 1 (nI H) (nI (k + 1)) σ else Qu_fitting_21 n (nI p) x y (nI H) (nI (k + 1)) σ) = some (v, σ) ∧ (if bt (nI t) p = true then Md_fits_19 n' (nI p) (x &&& (nI l ^^^ -1)) 1 (nI (k + 1)) τ else Md_fits_19 n' (nI p) x y (nI (k + 1)) τ) = some (v, τ) := by
      intro x y
      by_cases h : bt (nI t) p = true
      · rw [if_pos h, if_pos h]; exact ih (k + 1) n n' _ _ (by omega) (by omega) (by omega) (by omega)
      · rw [if_neg h, if_neg h]; exact ih (k + 1) n n' _ _ (by omega) (by omega) (by omega) (by omega)
    have e1 : σ 18 k = nI (r + 256 * t + 65536 * l) := e1
    rw [Qu_fitting_21, Qu_fitting_21_B, if_neg d1, ix_t (show k < 999 by omega) (by omega), w_ck, cl_n (by omega), e1, lb_l hr ht hl, cl2, cl2, Md_fits_19, Md_fits_19_B, show (162 : Int32).toNatClampNeg = 162 from rfl, c2, if_neg d1, isKept_v c2 hH, w_bd, decide_eq_true ⟨d2, d1⟩, bI_t, if_neg (show ¬ (1 : Int32) = 0 by decide), d3, d4, j0, w_ck, i0, e2, Md_has_v _ (by omega), w_bd, d5, j2, w_ck, i2, e4, md2, md2]
    cases h : bt (nI r) p with
    | true =>
      rw [if_pos ((h_1 (by omega)).mpr (by rw [lb_r hr ht hl hp]; exact h)), bI_t, if_neg (show ¬ (1 : Int32) = 0 by decide)]
      exact fin _ _
    | false =>
      rw [if_neg (fun z => by rw [← lb_r hr ht hl hp, (h_1 (by omega)).mp z] at h; cases h), bI_f, if_pos (show (0 : Int32) = 0 from rfl)]
      exact fin _ _
theorem fits_S {τ : gx_R} {H p : Nat} (hH : H ≤ 999) (c2 : τ 110 162 = nI H) : ∀ m k n a2 a3, k + m = H - 60 → m + 100 < n → ∃ n', 100 < n' ∧ Md_fits_19 n (nI p) a2 a3 (nI k) τ = Md_fits_19 n' (nI p) a2 a3 (nI (H - 60)) τ := by
  intro m
  induction m with
  | zero =>
    intro k n a2 a3 hk hn
    have e : k = H - 60 := by omega
    subst e
    exact ⟨n, by omega, rfl⟩
  | succ m ih =>
    intro k n a2 a3 hk hn
    obtain ⟨n, rfl⟩ : ∃ q, n = q + 1 := ⟨n - 1, by omega⟩
    obtain ⟨n', h1, h2⟩ := ih (k + 1) n a2 a3 (by omega) (by omega)
    refine ⟨n', h1, ?_⟩
    have d1 : ¬ nI H ≤ nI k := by rw [nI_leI (by omega) (by omega)]; omega
    have d2 : nI k < nI (H - 60) := by rw [nI_ltI (by omega) (by omega)]; omega
    rw [Md_fits_19, Md_fits_19_B, show (162 : Int32).toNatClampNeg = 162 from rfl, c2, if_neg d1, isKept_v c2 hH, w_bd, decide_eq_false (fun z => z.1 d2), bI_f, if_pos rfl, Md_fits_77, nI_1]
    exact h2
theorem S_fits {σ τ : gx_R} (r : Rel σ τ) (a1 : Int32) : SimP (Sf_fits a1) (Md_fits a1) σ τ := by
  obtain ⟨P, W, H, K, T, P', W', H', K', T', rr⟩ := id r
  have r1 := rr.1
  have hP := r1.1.1.1
  have hH : H ≤ 999 := r1.2.2.1
  have p1 : σ 2 0 = nI P := r1.1.2.1.1
  have p2 := r1.1.2.1.2.1
  have c1 : σ 9 6 = nI H := r1.2.1.2.2.2.2.2.1.2.2
  have c2 : τ 110 162 = nI H := by rw [← c1]; exact r1.2.1.2.2.2.2.2.1.1
  cases hz : z_ix a1 P with
  | false =>
    refine SimP_ro r (-1) ?_ ?_
    · rw [Sf_fits, Fo_isPerson_v p1 hP, hz, w_bd, bI_f, if_pos rfl]
    · rw [Md_fits, Md_isPerson_v p2 hP, hz, w_bd, bI_f, if_pos rfl]
  | true =>
    obtain ⟨p, hp, rfl⟩ := ix_ex hz (by omega)
    obtain ⟨n', h1, h2⟩ := fits_S (p := p) hH c2 (H - 60) 0 z_FU (((1 : Int32) <<< (nI P &&& 31)) - 1) 0 (by omega) (by have := z_FU_ge; omega)
    obtain ⟨v, w1, w2⟩ := fits_L (p := p) hH (by omega) c2 r1.2.2.2.1 (H - (H - 60)) (H - 60) z_FU n' (((1 : Int32) <<< (nI P &&& 31)) - 1) 0 (by omega) (by omega) (by have := z_FU_ge; omega) (by omega)
    have e9 : (if nI 999 < nI H then nI 999 else nI H) = nI H := if_neg (fun z => by have := (nI_ltI (by omega) (by omega)).mp z; omega)
    refine SimP_ro r v ?_ ?_
    · rw [Sf_fits, Fo_isPerson_v p1 hP, hz, w_bd, bI_t, if_neg (by decide), Qu_fitting, Fo_everyone, p1, w_bd, firstKept_v c1 hH, w_bd, c1, e9, show (0 : Int32) = nI 0 from rfl]
      rw [show Qu_fitting_21 z_FU (nI p) ((1 : Int32) <<< (nI P &&& 31) - 1) (nI 0) (nI H) (nI (H - 60)) σ = some (v, σ) from w1, w_bd]
    · rw [Md_fits, Md_isPerson_v p2 hP, hz, w_bd, bI_t, if_neg (by decide), show (0 : Int32).toNatClampNeg = 0 from rfl, p2]
      exact h2.trans w2
