/-! ===== the worths with no dream, and who stops without some ===== -/
def fsum (g : Nat → Nat) : Nat → Nat → Nat
  | _, 0 => 0
  | k, m + 1 => g k + fsum g (k + 1) m
theorem fsum_add (g : Nat → Nat) (n : Nat) : ∀ m k, fsum g k (m + n) = fsum g k m + fsum g (k + m) n := by
  intro m
  induction m with
  | zero => intro k; simp [fsum]
  | succ m ih =>
    intro k
    rw [show m + 1 + n = m + n + 1 by omega, fsum, fsum, ih (k + 1), show k + 1 + m = k + (m + 1) by omega, Nat.add_assoc]
theorem fsum_0 {g : Nat → Nat} : ∀ m k, (∀ i, k ≤ i → i < k + m → g i = 0) → fsum g k m = 0 := by
  intro m
  induction m with
  | zero => intro k h; rfl
  | succ m ih => intro k h; rw [fsum, h k (Nat.le_refl _) (by omega), ih (k + 1) (fun i h1 h2 => h i (by omega) (by omega))]
theorem fsum_cut {g : Nat → Nat} {P : Nat} (hP : P ≤ 8) (h : ∀ i, P ≤ i → i < 8 → g i = 0) : fsum g 0 8 = fsum g 0 P := by
  rw [show 8 = P + (8 - P) by omega, fsum_add, fsum_0 (8 - P) (0 + P) (fun i h1 h2 => h i (by omega) (by omega)), Nat.add_zero]
def DrmR (σ τ : gx_R) (P : Nat) (wd : Nat → Nat) : Prop := ∀ s, s < P → σ 10 s = 2 → wd s ≤ 99 ∧
  (∀ σ1, eC σ σ1 → ∃ σ2, La_worthOf (nI s) (σ 11 s) (σ 12 s) 0 (σ 9 6) σ1 = some (nI (wd s), σ2) ∧ lC σ1 σ2) ∧
  (∀ τ1, eM τ τ1 → τ1 109 42 = τ 109 42 → ∃ τ2, Md_worthBy (nI s) (τ 137 s) 0 (σ 11 s) τ1 = some (nI (wd s), τ2) ∧ lM τ1 τ2)
theorem drm_ex {P W T H : Nat} (hH : H ≤ 2000) {σ τ : gx_R} {nd : gx_F} (hE : EnvR σ τ P W T) (hN : NowR 9 σ τ nd P W H) : ∃ wd, DrmR σ τ P wd := by
  have hP := hE.1.1.1
  have : ∀ s : Nat, ∃ v : Nat, s < P → σ 10 s = 2 → v ≤ 99 ∧
      (∀ σ1, eC σ σ1 → ∃ σ2, La_worthOf (nI s) (σ 11 s) (σ 12 s) 0 (σ 9 6) σ1 = some (nI v, σ2) ∧ lC σ1 σ2) ∧
      (∀ τ1, eM τ τ1 → τ1 109 42 = τ 109 42 → ∃ τ2, Md_worthBy (nI s) (τ 137 s) 0 (σ 11 s) τ1 = some (nI v, τ2) ∧ lM τ1 τ2) := by
    intro s
    by_cases h : s < P ∧ σ 10 s = 2
    · obtain ⟨hs, h2⟩ := h
      obtain ⟨q, hq, hq2⟩ : ∃ q, q < P ∧ σ 11 s = nI q := by
        rcases hN.2.2.2.2.2.2.2.1 s hs with ⟨z, -⟩ | ⟨z, -⟩ | ⟨-, z⟩
        · exact absurd (z.symm.trans h2) (by decide)
        · exact absurd (z.symm.trans h2) (by decide)
        · exact z
      obtain ⟨o, d, ho, hd, o1, o2⟩ := hN.2.2.2.2.2.2.2.2.1 s hs
      have o1 : σ 12 s = nI o := o1
      have n2 : τ 137 s = nI o := by rw [← o1]; exact (hN.1 s (by omega)).2.1
      obtain ⟨h42, -, h6⟩ := hN.2.2.2.2.2.1
      obtain ⟨v, v1, v2, v3⟩ := wrt_ex hE (show H ≤ 1000000 by omega) (h42.trans h6) hs (show q ≤ 1000000 by omega) (show o ≤ 1000000 by omega) (show 0 ≤ 1000000 by omega)
      refine ⟨v, fun _ _ => ⟨v1, fun σ1 e => ?_, fun τ1 e1 e2 => ?_⟩⟩
      · rw [hq2, o1, h6]; exact v2 σ1 e
      · rw [hq2, n2]; exact v3 τ1 e1 e2
    · exact ⟨0, fun h1 h2 => absurd ⟨h1, h2⟩ h⟩
  exact ⟨fun s => Classical.choose (this s), fun s h1 h2 => Classical.choose_spec (this s) h1 h2⟩
def wC (σ σ' : gx_R) : Prop := ∀ c, c ≠ 51 → c ≠ 52 → c ≠ 80 → σ' c = σ c
theorem wC_e {σ σ' : gx_R} (h : wC σ σ') : eC σ σ' := fun k hk => h k (by omega) (by omega) (by omega)
theorem weigh_L {P : Nat} {wd : Nat → Nat} {σ τ : gx_R} (hP : P ≤ 8) (hD : DrmR σ τ P wd) (h0 : ∀ p, P ≤ p → p < 8 → σ 10 p = 0) : ∀ m k n σ1, k + m = 8 → m < n → wC σ σ1 → ∃ σ', Qu_weighDreamless_2 n (nI k) σ1 = some ((), σ') ∧ wC σ σ' ∧ (∀ j, j < k → σ' 80 j = σ1 80 j) ∧ ∀ j, k ≤ j → j < 8 → σ' 80 j = if σ 10 j = 2 then nI (wd j) else 0 := by
  intro m
  induction m with
  | zero =>
    intro k n σ1 hk hn hw
    obtain ⟨n, rfl⟩ : ∃ q, n = q + 1 := ⟨n - 1, by omega⟩
    have e : k = 8 := by omega
    subst e
    exact ⟨σ1, by rw [Qu_weighDreamless_2, Qu_weighDreamless_2_B, if_pos (by decide)], hw, fun _ _ => rfl, fun j y1 y2 => absurd y2 (by omega)⟩
  | succ m ih =>
    intro k n σ1 hk hn hw
    obtain ⟨n, rfl⟩ : ∃ q, n = q + 1 := ⟨n - 1, by omega⟩
    have c5 : ¬ (8 : Int32) ≤ nI k := fun z => by have := (nI_leI (a := 8) (by omega) (by omega)).mp z; omega
    have i8 := ix_t (show k < 8 by omega) (show (8 : Nat) < 2 ^ 31 by omega)
    have e10 : σ1 10 = σ 10 := hw 10 (by omega) (by omega) (by omega)
    have e11 : σ1 11 = σ 11 := hw 11 (by omega) (by omega) (by omega)
    have e12 : σ1 12 = σ 12 := hw 12 (by omega) (by omega) (by omega)
    have e9 : σ1 9 = σ 9 := hw 9 (by omega) (by omega) (by omega)
    obtain ⟨x, σ2, s1, s2, s3, s4⟩ : ∃ x σ2, Qu_weighDreamless_2 (n + 1) (nI k) σ1 = Qu_weighDreamless_2 n (nI (k + 1)) (gx_up σ2 80 k x) ∧ wC σ σ2 ∧ σ2 80 = σ1 80 ∧ x = if σ 10 k = 2 then nI (wd k) else 0 := by
      rw [Qu_weighDreamless_2, Qu_weighDreamless_2_B, if_neg c5, i8, w_ck, cl_n (by omega), e10]
      by_cases h : σ 10 k = 2
      · have hkP : k < P := by
          rcases Nat.lt_or_ge k P with h1 | h1
          · exact h1
          · rw [h0 k h1 (by omega)] at h; exact absurd h (by decide)
        obtain ⟨-, d2, -⟩ := hD k hkP h
        obtain ⟨σ2, y1, y2⟩ := d2 σ1 (wC_e hw)
        refine ⟨nI (wd k), σ2, ?_, fun c z1 z2 z3 => (y2 c z1 z2).trans (hw c z1 z2 z3), y2 80 (by omega) (by omega), by rw [if_pos h]⟩
        rw [if_pos h, La_worthNow, i8, w_ck, w_ck, cl_n (by omega), e11, e12, e9, y1, w_bd, w_bd, Qu_weighDreamless_26, i8, w_ck, cl_n (by omega), nI_1]
      · refine ⟨0, σ1, ?_, hw, rfl, by rw [if_neg h]⟩
        rw [if_neg h, Qu_weighDreamless_26, i8, w_ck, cl_n (by omega), nI_1]
    obtain ⟨σ', q1, q2, q3, q4⟩ := ih (k + 1) n (gx_up σ2 80 k x) (by omega) (by omega) (fun c z1 z2 z3 => by rw [gx_up_ne z3, s2 c z1 z2 z3])
    refine ⟨σ', s1.trans q1, q2, fun j hj => by rw [q3 j (by omega), up_p _ _ _ (by omega), s3], fun j y1 y2 => ?_⟩
    by_cases e : j = k
    · subst e; rw [q3 j (by omega), up_e, s4]
    · exact q4 j (by omega) y2
def gW (σ : gx_R) (wd : Nat → Nat) (S : Int32) (w s : Nat) : Nat := match !bt S s && slB σ 9 s w with
  | true => wd s
  | false => 0
theorem fuelC_L {σ σ1 : gx_R} {wd : Nat → Nat} {S : Int32} {w : Nat} (hw : wC σ σ1) (h80 : ∀ j, j < 8 → σ1 80 j = if σ 10 j = 2 then nI (wd j) else 0) : ∀ m k n a, k + m = 8 → m < n → Qu_fuelWithout_4 n (nI w) S (nI a) (nI k) σ1 = some (nI (a + fsum (gW σ wd S w) k m), σ1) := by
  intro m
  induction m with
  | zero =>
    intro k n a hk hn
    obtain ⟨n, rfl⟩ : ∃ q, n = q + 1 := ⟨n - 1, by omega⟩
    have e : k = 8 := by omega
    subst e
    rw [Qu_fuelWithout_4, Qu_fuelWithout_4_B, if_pos (by decide)]; rfl
  | succ m ih =>
    intro k n a hk hn
    obtain ⟨n, rfl⟩ : ∃ q, n = q + 1 := ⟨n - 1, by omega⟩
    have c5 : ¬ (8 : Int32) ≤ nI k := fun z => by have := (nI_leI (a := 8) (by omega) (by omega)).mp z; omega
    have i8 := ix_t (show k < 8 by omega) (show (8 : Nat) < 2 ^ 31 by omega)
    have esl : slB σ1 9 k w = slB σ 9 k w := by unfold slB; rw [hw 10 (by omega) (by omega) (by omega), hw 11 (by omega) (by omega) (by omega)]
    rw [Qu_fuelWithout_4, Qu_fuelWithout_4_B, if_neg c5, fsum, sleepsFor_v (by omega), w_bd, esl]
    cases hb : bt S k with
    | true =>
      have hg : gW σ wd S w k = 0 := by unfold gW; rw [hb]; rfl
      rw [if_neg (fun z => by rw [(h_0 (by omega)).mp z] at hb; cases hb), Qu_fuelWithout_27, nI_1, ih (k + 1) n a (by omega) (by omega), hg, Nat.zero_add]
    | false =>
      rw [if_pos ((h_0 (by omega)).mpr hb)]
      cases hs : slB σ 9 k w with
      | false =>
        have hg : gW σ wd S w k = 0 := by unfold gW; rw [hb, hs]; rfl
        rw [bI_f, if_pos rfl, Qu_fuelWithout_27, nI_1, ih (k + 1) n a (by omega) (by omega), hg, Nat.zero_add]
      | true =>
        have hg : gW σ wd S w k = wd k := by unfold gW; rw [hb, hs]; rfl
        have h2 : σ 10 k = 2 := (of_decide_eq_true hs).1
        rw [bI_t, if_neg (by decide), i8, w_ck, cl_n (by omega), h80 k (by omega), if_pos h2, nI_add, Qu_fuelWithout_27, nI_1, ih (k + 1) n (a + wd k) (by omega) (by omega), hg, Nat.add_assoc]
