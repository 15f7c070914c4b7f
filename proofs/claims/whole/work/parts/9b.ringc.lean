/-! ===== rings: the class ===== -/
theorem ix8 (p q : Nat) : nI p * (8 : Int32) + nI q = nI (8 * p + q) := by
  rw [show (8 : Int32) = nI 8 from rfl, pk_mul, nI_add, Nat.mul_comm]
def eO (ow : Nat → Nat → Nat) : Nat → Nat → Bool := fun p q => !decide (ow p q = 0)
def OwC (σ : gx_R) (ow : Nat → Nat → Nat) (P : Nat) : Prop := ∀ p q, p < 8 → q < 8 → σ 14 (8 * p + q) = nI (ow p q) ∧ ow p q ≤ 99 ∧ (P ≤ p ∨ P ≤ q ∨ p = q → ow p q = 0)
theorem debt_in {σ : gx_R} {ow : Nat → Nat → Nat} {P p : Nat} {K2 : Int32 → gx_R → Option (Unit × gx_R)} (ho : OwC σ ow P) (hp : p < 8) : ∀ m q f σ1, q + m = 8 → m < f → (∀ c, c ≠ 78 → σ1 c = σ c) → (∀ i, i < p → σ1 78 i = mk (eO ow i) 8) → σ1 78 p = mk (eO ow p) q → ∃ σ2, Qu_listDebts_12 K2 f (nI p) (nI q) σ1 = K2 (nI (p + 1)) σ2 ∧ (∀ c, c ≠ 78 → σ2 c = σ c) ∧ ∀ i, i < p + 1 → σ2 78 i = mk (eO ow i) 8 := by
  intro m
  induction m with
  | zero =>
    intro q f σ1 h1 h2 h3 h4 h5
    obtain ⟨f, rfl⟩ : ∃ q, f = q + 1 := ⟨f - 1, by omega⟩
    obtain rfl : q = 8 := by omega
    refine ⟨σ1, ?_, h3, fun i hi => ?_⟩
    · rw [Qu_listDebts_12, Qu_listDebts_12_B, if_pos (show (8 : Int32) ≤ nI 8 by decide), Qu_listDebts_38, show nI p + 1 = nI (p + 1) from nI_add p 1]
    · by_cases e : i = p
      · rw [e]; exact h5
      · exact h4 i (by omega)
  | succ m ih =>
    intro q f σ1 h1 h2 h3 h4 h5
    obtain ⟨f, rfl⟩ : ∃ q, f = q + 1 := ⟨f - 1, by omega⟩
    obtain ⟨o1, o2, -⟩ := ho p q hp (by omega)
    rw [Qu_listDebts_12, Qu_listDebts_12_B, if_neg (fun z => by have := (nI_leI (a := 8) (by omega) (by omega)).mp z; omega), ix8, ix_n (by omega), decide_eq_true (show 8 * p + q < 64 by omega), w_ck, cl_n (by omega), h3 14 (by omega), o1]
    by_cases c : ow p q = 0
    · rw [if_pos ((n_le0 (by omega)).mpr c), Qu_listDebts_36, show nI q + 1 = nI (q + 1) from nI_add q 1]
      exact ih (q + 1) f σ1 (by omega) (by omega) h3 h4 (by rw [h5, mk_f (show eO ow p q = false by unfold eO; rw [decide_eq_true c]; rfl)])
    · rw [if_neg (fun z => c ((n_le0 (by omega)).mp z)), ix_n (by omega), decide_eq_true hp, w_ck, w_ck, cl_n (by omega), Qu_listDebts_36, show nI q + 1 = nI (q + 1) from nI_add q 1]
      exact ih (q + 1) f _ (by omega) (by omega) (fun c hc => by rw [gx_up_ne hc]; exact h3 c hc) (fun i hi => by rw [up_p _ _ _ (by omega)]; exact h4 i hi) (by rw [up_e, h5, mk_t (show eO ow p q = true by unfold eO; rw [decide_eq_false c]; rfl)])
theorem debts_L {σ : gx_R} {ow : Nat → Nat → Nat} {P : Nat} (ho : OwC σ ow P) : ∀ m p f σ1, p + m = 8 → m < f → (∀ c, c ≠ 78 → σ1 c = σ c) → (∀ i, i < p → σ1 78 i = mk (eO ow i) 8) → ∃ σ2, Qu_listDebts_2 f (nI p) σ1 = some ((), σ2) ∧ (∀ c, c ≠ 78 → σ2 c = σ c) ∧ ∀ i, i < 8 → σ2 78 i = mk (eO ow i) 8 := by
  intro m
  induction m with
  | zero =>
    intro p f σ1 h1 h2 h3 h4
    obtain ⟨f, rfl⟩ : ∃ q, f = q + 1 := ⟨f - 1, by omega⟩
    obtain rfl : p = 8 := by omega
    refine ⟨σ1, ?_, h3, h4⟩
    rw [Qu_listDebts_2, Qu_listDebts_2_B, if_pos (show (8 : Int32) ≤ nI 8 by decide)]
  | succ m ih =>
    intro p f σ1 h1 h2 h3 h4
    obtain ⟨f, rfl⟩ : ∃ q, f = q + 1 := ⟨f - 1, by omega⟩
    obtain ⟨σ2, i1, i2, i3⟩ := debt_in (K2 := Qu_listDebts_2 f) (p := p) ho (by omega) 8 0 z_FU (gx_up σ1 78 p 0) (by omega) (by have := z_FU_ge; omega) (fun c hc => by rw [gx_up_ne hc]; exact h3 c hc) (fun i hi => by rw [up_p _ _ _ (by omega)]; exact h4 i hi) (by rw [up_e]; rfl)
    obtain ⟨σ3, j1, j2, j3⟩ := ih (p + 1) f σ2 (by omega) (by omega) i2 i3
    refine ⟨σ3, ?_, j2, j3⟩
    rw [Qu_listDebts_2, Qu_listDebts_2_B, if_neg (fun z => by have := (nI_leI (a := 8) (by omega) (by omega)).mp z; omega), ix_n (by omega), decide_eq_true (show p < 8 by omega), w_ck, cl_n (by omega)]
    exact (show Qu_listDebts_12 (Qu_listDebts_2 f) z_FU (nI p) 0 (gx_up σ1 78 p 0) = _ from i1).trans j1
theorem debts_v {σ : gx_R} {ow : Nat → Nat → Nat} {P : Nat} (ho : OwC σ ow P) : ∃ σ2, Qu_listDebts σ = some ((), σ2) ∧ (∀ c, c ≠ 78 → σ2 c = σ c) ∧ ∀ i, i < 8 → σ2 78 i = mk (eO ow i) 8 := debts_L ho 8 0 z_FU σ (by omega) (by have := z_FU_ge; omega) (fun _ _ => rfl) (fun i hi => absurd hi (Nat.not_lt_zero i))
theorem mk_and {g h : Nat → Bool} : ¬ mk g 8 &&& mk h 8 = 0 ↔ ∃ q, q < 8 ∧ g q = true ∧ h q = true := by
  rw [nz_b]
  constructor
  · rintro ⟨i, hi, hb⟩
    rw [b_and, mk_b (by omega) hi, mk_b (by omega) hi] at hb
    obtain ⟨h1, h2⟩ := Bool.and_eq_true_iff.mp hb
    obtain ⟨h3, h4⟩ := Bool.and_eq_true_iff.mp h1
    exact ⟨i, of_decide_eq_true h3, h4, (Bool.and_eq_true_iff.mp h2).2⟩
  · rintro ⟨i, hi, h1, h2⟩
    refine ⟨i, by omega, ?_⟩
    rw [b_and, mk_b (by omega) (by omega), mk_b (by omega) (by omega), h1, h2, decide_eq_true hi]; rfl
theorem mk_none {g : Nat → Bool} : ∀ n, (∀ i, i < n → g i = false) → mk g n = 0 := by
  intro n
  induction n with
  | zero => intro _; rfl
  | succ n ih => intro h; rw [mk_f (h n (by omega))]; exact ih (fun i hi => h i (by omega))
theorem mk_zero {g : Nat → Bool} : mk g 8 = 0 ↔ ∀ q, q < 8 → g q = false := by
  constructor
  · intro h q hq
    have := mk_b (f := g) (n := 8) (i := q) (by omega) (by omega)
    rw [h, b_0, decide_eq_true hq, Bool.true_and] at this
    exact this.symm
  · exact mk_none 8
/-- the row of distances while round s is made, ahead of p -/
def mxt (E : Nat → Nat → Bool) (f s p : Nat) : Nat → Int32 := fun q => if q < p then tw E f (s + 1) q else tw E f s q
theorem tw_low {E : Nat → Nat → Bool} {f s q : Nat} (h : q ≤ f) : tw E f (s + 1) q = tw E f s q := by
  rw [tw, if_neg]
  rintro ⟨-, z⟩
  have := wk_gt (by omega) z
  omega
theorem found_in {σ : gx_R} {E : Nat → Nat → Bool} {f s : Nat} {K18 : Int32 → Int32 → Int32 → gx_R → Option (Int32 × gx_R)} (hs : s < 100) (hf : f < 8) (hd : ∀ i, i < 8 → σ 78 i = mk (E i) 8) : ∀ m p n σ1, p + m = 8 → m < n → f < p → (∀ c, c ≠ 79 → σ1 c = σ c) → (∀ q, q < 8 → σ1 79 q = mxt E f s p q) → ∃ σ2, Qu_ringFrom_38 K18 n (nI f) (mk (Ls E f s) 8) (nI (s + 1)) (mk (Ls E f (s + 1)) p) (nI p) σ1 = K18 (nI f) (mk (Ls E f (s + 1)) 8) (nI (s + 1 + 1)) σ2 ∧ (∀ c, c ≠ 79 → σ2 c = σ c) ∧ ∀ q, q < 8 → σ2 79 q = tw E f (s + 1) q := by
  intro m
  induction m with
  | zero =>
    intro p n σ1 h1 h2 h0 h3 h4
    obtain ⟨n, rfl⟩ : ∃ q, n = q + 1 := ⟨n - 1, by omega⟩
    obtain rfl : p = 8 := by omega
    refine ⟨σ1, ?_, h3, fun q hq => by rw [h4 q hq, mxt, if_pos hq]⟩
    rw [Qu_ringFrom_38, Qu_ringFrom_38_B, if_pos (show (8 : Int32) ≤ nI 8 by decide), Qu_ringFrom_67, show nI (s + 1) + 1 = nI (s + 1 + 1) from nI_add (s + 1) 1]
  | succ m ih =>
    intro p n σ1 h1 h2 h0 h3 h4
    obtain ⟨n, rfl⟩ : ∃ q, n = q + 1 := ⟨n - 1, by omega⟩
    have e1 : nI p + 1 = nI (p + 1) := nI_add p 1
    have kp : tw E f (s + 1) p = tw E f s p → ∀ q, q < 8 → σ1 79 q = mxt E f s (p + 1) q := by
      intro z q hq
      rw [h4 q hq]
      unfold mxt
      by_cases y : q < p
      · rw [if_pos y, if_pos (by omega)]
      · by_cases y2 : q = p
        · subst y2; rw [if_neg y, if_pos (by omega)]; exact z.symm
        · rw [if_neg y, if_neg (by omega)]
    have hl : Ls E f (s + 1) p = decide (tw E f (s + 1) p = nI (s + 1)) := rfl
    have hne : ¬ tw E f s p = nI (s + 1) := by
      intro z
      rcases tw_r (E := E) (f := f) (p := p) s with h5 | ⟨i, y1, y2, y3⟩
      · rw [h5] at z; exact (n_m1 (by omega)).mp z.symm
      · rw [y3] at z
        have := (nI_eq (by omega) (by omega)).mp z
        omega
    rw [Qu_ringFrom_38, Qu_ringFrom_38_B, if_neg (fun z => by have := (nI_leI (a := 8) (by omega) (by omega)).mp z; omega), ix_n (by omega), decide_eq_true (show p < 8 by omega), w_ck, w_ck, w_ck, cl_n (by omega), h4 p (by omega), show mxt E f s p p = tw E f s p from if_neg (Nat.lt_irrefl p), h3 78 (by omega), hd p (by omega)]
    by_cases c : tw E f s p = -1
    · rw [if_pos c]
      have hn := ls_new (E := E) hs h0 c
      have ht : tw E f (s + 1) p = if wk E f (s + 1) p = true then nI (s + 1) else -1 := by
        rw [tw]
        by_cases y : wk E f (s + 1) p = true
        · rw [if_pos ⟨c, y⟩, if_pos y]
        · rw [if_neg (fun z => y z.2), if_neg y, c]
      by_cases c2 : mk (E p) 8 &&& mk (Ls E f s) 8 = 0
      · have c3 : ¬ wk E f (s + 1) p = true := fun z => (mk_and.mpr (hn.mpr z)) c2
        rw [if_neg c3] at ht
        rw [if_pos c2, Qu_ringFrom_65, e1]
        have hi := ih (p + 1) n σ1 (by omega) (by omega) (by omega) h3 (kp (by rw [ht, c]))
        rw [mk_f (f := Ls E f (s + 1)) (n := p) (by rw [hl, ht]; exact decide_eq_false (fun z => (n_m1 (by omega)).mp z.symm))] at hi
        exact hi
      · have c3 : wk E f (s + 1) p = true := hn.mp (mk_and.mp c2)
        rw [if_pos c3] at ht
        rw [if_neg c2, Qu_ringFrom_65, e1]
        have hi := ih (p + 1) n (gx_up σ1 79 p (nI (s + 1))) (by omega) (by omega) (by omega) (fun c hc => by rw [gx_up_ne hc]; exact h3 c hc) (fun q hq => by
          unfold mxt
          by_cases y2 : q = p
          · subst y2; rw [up_e, if_pos (by omega), ht]
          · rw [up_p _ _ _ y2, h4 q hq]
            unfold mxt
            by_cases y : q < p
            · rw [if_pos y, if_pos (by omega)]
            · rw [if_neg y, if_neg (by omega)])
        rw [mk_t (f := Ls E f (s + 1)) (n := p) (by rw [hl, ht]; exact decide_eq_true rfl)] at hi
        exact hi
    · rw [if_neg c, Qu_ringFrom_65, e1]
      have ht : tw E f (s + 1) p = tw E f s p := by rw [tw, if_neg (fun z => c z.1)]
      have hi := ih (p + 1) n σ1 (by omega) (by omega) (by omega) h3 (kp ht)
      rw [mk_f (f := Ls E f (s + 1)) (n := p) (by rw [hl, ht]; exact decide_eq_false hne)] at hi
      exact hi
def rgV (E : Nat → Nat → Bool) (f : Nat) : Int32 := if lw (rg E f) 8 < 8 then nI (lw (rg E f) 8 + 1) else -1
theorem rings_L {σ : gx_R} {E : Nat → Nat → Bool} {f : Nat} (hf : f < 8) (hd : ∀ i, i < 8 → σ 78 i = mk (E i) 8) : ∀ m s n σ1, s + m = 8 → m < n → (∀ i, i < s → rg E f i = false) → (∀ c, c ≠ 79 → σ1 c = σ c) → (∀ q, q < 8 → σ1 79 q = tw E f s q) → ∃ σ2, Qu_ringFrom_18 n (nI f) (mk (Ls E f s) 8) (nI (s + 1)) σ1 = some (rgV E f, σ2) ∧ (∀ c, c ≠ 79 → σ2 c = σ c) ∧ (lw (rg E f) 8 < 8 → ∀ q, q < 8 → σ2 79 q = tw E f (lw (rg E f) 8) q) := by
  intro m
  induction m with
  | zero =>
    intro s n σ1 h1 h2 h0 h3 h4
    obtain ⟨n, rfl⟩ : ∃ q, n = q + 1 := ⟨n - 1, by omega⟩
    obtain rfl : s = 8 := by omega
    have e := lw_no h0
    refine ⟨σ1, ?_, h3, fun z => by omega⟩
    rw [Qu_ringFrom_18, Qu_ringFrom_18_B, if_pos (show (8 : Int32) < nI (8 + 1) by decide), rgV, e, if_neg (by omega)]
  | succ m ih =>
    intro s n σ1 h1 h2 h0 h3 h4
    obtain ⟨n, rfl⟩ : ∃ q, n = q + 1 := ⟨n - 1, by omega⟩
    rw [Qu_ringFrom_18, Qu_ringFrom_18_B, if_neg (fun z => by have := (nI_ltI (a := 8) (by omega) (by omega)).mp z; omega)]
    by_cases c : mk (Ls E f s) 8 = 0
    · rw [if_pos c]
      have h5 := ls_end hf (mk_zero.mp c) h0
      have e := lw_no (n := 8) (fun i hi => h5 i (by omega))
      exact ⟨σ1, by rw [rgV, e, if_neg (by omega)], h3, fun z => by omega⟩
    · rw [if_neg c, ix_n (by omega), decide_eq_true hf, w_ck, cl_n (by omega), h3 78 (by omega), hd f hf]
      have hr := ls_ring (E := E) (f := f) (s := s) (by omega) h0
      by_cases c2 : mk (E f) 8 &&& mk (Ls E f s) 8 = 0
      · rw [if_pos c2]
        have c3 : rg E f s = false := by
          cases hg : rg E f s with
          | false => rfl
          | true => exact absurd c2 (mk_and.mpr (hr.mpr hg))
        obtain ⟨σ2, i1, i2, i3⟩ := found_in (K18 := Qu_ringFrom_18 n) (s := s) (E := E) (by omega) hf hd (8 - (f + 1)) (f + 1) z_FU σ1 (by omega) (by have := z_FU_ge; omega) (by omega) h3 (fun q hq => by
          rw [h4 q hq]
          unfold mxt
          by_cases y : q < f + 1
          · rw [if_pos y, tw_low (by omega)]
          · rw [if_neg y])
        rw [mk_none (g := Ls E f (s + 1)) (f + 1) (fun i hi => by
          rw [Ls, tw_low (by omega)]
          refine decide_eq_false (fun z => ?_)
          rcases tw_r (E := E) (f := f) (p := i) s with h5 | ⟨i, y1, y2, y3⟩
          · rw [h5] at z; exact (n_m1 (by omega)).mp z.symm
          · rw [y3] at z
            have := (nI_eq (by omega) (by omega)).mp z
            omega)] at i1
        rw [show nI f + 1 = nI (f + 1) from nI_add f 1, i1]
        exact ih (s + 1) n σ2 (by omega) (by omega) (fun i hi => by
          by_cases z : i = s
          · rw [z]; exact c3
          · exact h0 i (by omega)) i2 i3
      · rw [if_neg c2]
        have e := lw_eq (g := rg E f) (n := 8) (show s < 8 by omega) (hr.mp (mk_and.mp c2)) h0
        exact ⟨σ1, by rw [rgV, e, if_pos (by omega)], h3, fun _ q hq => by rw [e]; exact h4 q hq⟩
theorem ring0_L {σ : gx_R} {f : Nat} : ∀ m p n σ1, p + m = 8 → m < n → (∀ c, c ≠ 79 → σ1 c = σ c) → (∀ q, q < p → σ1 79 q = -1) → ∃ σ2, Qu_ringFrom_2 n (nI f) (nI p) σ1 = Qu_ringFrom_12 (nI f) σ2 ∧ (∀ c, c ≠ 79 → σ2 c = σ c) ∧ ∀ q, q < 8 → σ2 79 q = -1 := by
  intro m
  induction m with
  | zero =>
    intro p n σ1 h1 h2 h3 h4
    obtain ⟨n, rfl⟩ : ∃ q, n = q + 1 := ⟨n - 1, by omega⟩
    obtain rfl : p = 8 := by omega
    refine ⟨σ1, ?_, h3, h4⟩
    rw [Qu_ringFrom_2, Qu_ringFrom_2_B, if_pos (show (8 : Int32) ≤ nI 8 by decide)]
  | succ m ih =>
    intro p n σ1 h1 h2 h3 h4
    obtain ⟨n, rfl⟩ : ∃ q, n = q + 1 := ⟨n - 1, by omega⟩
    obtain ⟨σ2, i1, i2, i3⟩ := ih (p + 1) n (gx_up σ1 79 p (-1)) (by omega) (by omega) (fun c hc => by rw [gx_up_ne hc]; exact h3 c hc) (fun q hq => by
      by_cases e : q = p
      · subst e; rw [up_e]
      · rw [up_p _ _ _ e]; exact h4 q (by omega))
    refine ⟨σ2, ?_, i2, i3⟩
    rw [Qu_ringFrom_2, Qu_ringFrom_2_B, if_neg (fun z => by have := (nI_leI (a := 8) (by omega) (by omega)).mp z; omega), ix_n (by omega), decide_eq_true (show p < 8 by omega), w_ck, cl_n (by omega), show nI p + 1 = nI (p + 1) from nI_add p 1]
    exact i1
theorem ringFrom_v {σ : gx_R} {E : Nat → Nat → Bool} {f : Nat} (hf : f < 8) (hd : ∀ i, i < 8 → σ 78 i = mk (E i) 8) : ∃ σ2, Qu_ringFrom (nI f) σ = some (rgV E f, σ2) ∧ (∀ c, c ≠ 79 → σ2 c = σ c) ∧ (lw (rg E f) 8 < 8 → ∀ q, q < 8 → σ2 79 q = tw E f (lw (rg E f) 8) q) := by
  have hz := z_FU_ge
  obtain ⟨σ1, a1, a2, a3⟩ := ring0_L (σ := σ) (f := f) 8 0 z_FU σ (by omega) (by omega) (fun _ _ => rfl) (fun q hq => absurd hq (Nat.not_lt_zero q))
  obtain ⟨σ2, b1, b2, b3⟩ := rings_L (σ := σ) (E := E) hf hd 8 0 z_FU σ1 (by omega) (by omega) (fun i hi => absurd hi (Nat.not_lt_zero i)) a2 (fun q hq => by rw [a3 q hq]; rfl)
  refine ⟨σ2, ?_, b2, b3⟩
  rw [Qu_ringFrom, show (0 : Int32) = nI 0 from rfl, a1, Qu_ringFrom_12]
  have h1 : (1 : Int32) <<< (nI f &&& 31) = mk (Ls E f 0) 8 := by
    apply b_ext
    intro i hi
    rw [b_bit (by omega) hi, mk_b (by omega) hi, Ls]
    by_cases e : i = f
    · rw [decide_eq_true e, decide_eq_true (show i < 8 by omega)]; rfl
    · rw [decide_eq_false e, Bool.and_false]
  rw [h1]
  exact b1
/-- along the ring -/
theorem next_L {σ : gx_R} {E : Nat → Nat → Bool} {f a j s : Nat} (hs : s < 100) (ha : a < 8) (hj : 1 ≤ j) (hjs : j ≤ s) (hd : ∀ i, i < 8 → σ 78 i = mk (E i) 8) (ht : ∀ q, q < 8 → σ 79 q = tw E f s q) (hw : ∀ q, q < 8 → E a q = true → wk E f j q = true → ∀ i, 1 ≤ i → i < j → wk E f i q = false) (hx : lw (fun q => E a q && wk E f j q) 8 < 8) : ∀ m p n, p + m = 8 → m < n → p ≤ lw (fun q => E a q && wk E f j q) 8 → Qu_nextInRing_2 n (nI a) (nI j) (nI p) σ = some (nI (lw (fun q => E a q && wk E f j q) 8), σ) := by
  obtain ⟨k1, k2, k3⟩ := lw_sp (fun q => E a q && wk E f j q) 8
  intro m
  induction m with
  | zero => intro p n h1 h2 h3; omega
  | succ m ih =>
    intro p n h1 h2 h3
    obtain ⟨n, rfl⟩ : ∃ q, n = q + 1 := ⟨n - 1, by omega⟩
    rw [Qu_nextInRing_2, Qu_nextInRing_2_B, if_neg (fun z => by have := (nI_leI (a := 8) (by omega) (by omega)).mp z; omega), ix_n (by omega), decide_eq_true ha, w_ck, cl_n (by omega), hd a ha]
    have hb : bt (mk (E a) 8) p = E a p := by rw [mk_b (by omega) (by omega), decide_eq_true (show p < 8 by omega), Bool.true_and]
    have htw := tw_b (E := E) (f := f) (p := p) s hs j hj hjs
    by_cases e : p = lw (fun q => E a q && wk E f j q) 8
    · have h4 := k2 hx
      rw [← e] at h4
      obtain ⟨h5, h6⟩ := Bool.and_eq_true_iff.mp h4
      rw [if_pos ((h_1 (by omega)).mpr (by rw [hb]; exact h5)), ix_n (by omega), decide_eq_true (show p < 8 by omega), w_ck, cl_n (by omega), ht p (by omega), if_pos (htw.mpr ⟨h6, hw p (by omega) h5 h6⟩), ← e]
    · have h4 := k3 p (by omega)
      have go : Qu_nextInRing_23 (Qu_nextInRing_2 n) (nI a) (nI j) (nI p) σ = some (nI (lw (fun q => E a q && wk E f j q) 8), σ) := by
        rw [Qu_nextInRing_23, show nI p + 1 = nI (p + 1) from nI_add p 1]
        exact ih (p + 1) n (by omega) (by omega) (by omega)
      cases h5 : E a p with
      | false => rw [if_neg (fun z => by have := (h_1 (by omega)).mp z; rw [hb, h5] at this; cases this)]; exact go
      | true =>
        rw [if_pos ((h_1 (by omega)).mpr (by rw [hb]; exact h5)), ix_n (by omega), decide_eq_true (show p < 8 by omega), w_ck, cl_n (by omega), ht p (by omega), if_neg (fun z => by
          have := (htw.mp z).1
          have h4 : (E a p && wk E f j p) = false := h4
          rw [h5, this] at h4; cases h4)]
        exact go
/-- the least owed along the first k of the ring -/
def lo (ow : Nat → Nat → Nat) (r : Nat → Nat) (n : Nat) : Nat → Int32
  | 0 => 99
  | k + 1 => if nI (ow (r k) (r ((k + 1) % n))) < lo ow r n k then nI (ow (r k) (r ((k + 1) % n))) else lo ow r n k
theorem along_L {σ : gx_R} {ow : Nat → Nat → Nat} {P f n : Nat} {i : Int32} (ho : OwC σ ow P) (hf : f < 8) (hn : 2 ≤ n) (hn8 : n ≤ 8) (hr : rg (eO ow) f (n - 1) = true) (hm : ∀ i, i < n - 1 → rg (eO ow) f i = false) (hd : ∀ i, i < 8 → σ 78 i = mk (eO ow i) 8) (ht : ∀ q, q < 8 → σ 79 q = tw (eO ow) f (n - 1) q) : ∀ m k g, k + m = n → m < g → (∀ j, j < k → i ≠ nI j) → Qu_alongRing_6 g (nI f) (nI n) i (lo ow (pth (eO ow) f n) n k) (nI (if k = n then f else pth (eO ow) f n k)) (nI k) σ = some (if ∃ j, j < n ∧ i = nI j then nI (pth (eO ow) f n i.toNatClampNeg) else lo ow (pth (eO ow) f n) n n, σ) := by
  intro m
  induction m with
  | zero =>
    intro k g h1 h2 h3
    obtain ⟨g, rfl⟩ : ∃ q, g = q + 1 := ⟨g - 1, by omega⟩
    obtain rfl : k = n := by omega
    rw [Qu_alongRing_6, Qu_alongRing_6_B, if_pos ((nI_leI (by omega) (by omega)).mpr (Nat.le_refl _)), if_neg (fun ⟨j, y1, y2⟩ => h3 j y1 y2)]
  | succ m ih =>
    intro k g h1 h2 h3
    obtain ⟨g, rfl⟩ : ∃ q, g = q + 1 := ⟨g - 1, by omega⟩
    rw [if_neg (show ¬ k = n by omega), Qu_alongRing_6, Qu_alongRing_6_B, if_neg (fun z => by have := (nI_leI (by omega) (by omega)).mp z; omega)]
    by_cases c : nI k = i
    · rw [if_pos c, if_pos ⟨k, by omega, c.symm⟩, ← c, cl_n (by omega)]
    · rw [if_neg c, show nI n - 1 = nI (n - 1) from n_sub1 (by omega)]
      have hk8 := pth_8 hf hr (show k + 1 ≤ n by omega)
      have go : ∀ q, q < 8 → q = pth (eO ow) f n ((k + 1) % n) → q = (if k + 1 = n then f else pth (eO ow) f n (k + 1)) → Qu_alongRing_29 (Qu_alongRing_6 g) (nI f) (nI n) i (lo ow (pth (eO ow) f n) n k) (nI (pth (eO ow) f n k)) (nI k) (nI q) σ = some (if ∃ j, j < n ∧ i = nI j then nI (pth (eO ow) f n i.toNatClampNeg) else lo ow (pth (eO ow) f n) n n, σ) := by
        intro q hq hq2 hq3
        have hi := ih (k + 1) g (by omega) (by omega) (fun j hj => by
          by_cases z : j = k
          · rw [z]; exact fun y => c y.symm
          · exact h3 j (by omega))
        rw [lo, ← hq2, ← hq3] at hi
        rw [Qu_alongRing_29, if_neg (fun z => (n_m1 (by omega)).mp z), ix8, ix_n (by omega), decide_eq_true (show 8 * pth (eO ow) f n k + q < 64 by omega), w_ck, cl_n (by omega), (ho _ q hk8 hq).1, show nI k + 1 = nI (k + 1) from nI_add k 1]
        exact hi
      by_cases e : k + 1 = n
      · rw [if_pos (show nI k = nI (n - 1) by rw [show n - 1 = k by omega])]
        exact go f hf (by rw [e, Nat.mod_self]; rfl) (by rw [if_pos e])
      · rw [if_neg (fun z => by have := (nI_eq (by omega) (by omega)).mp z; omega), show nI (n - 1) - nI k = nI (n - (k + 1)) from (pk_sub (by omega)).trans (by rw [show n - 1 - k = n - (k + 1) by omega])]
        obtain ⟨s1, s2, s3, s4⟩ := pth_s (k := k) hr (by omega)
        have hnx := next_L (σ := σ) (E := eO ow) (f := f) (a := pth (eO ow) f n k) (j := n - (k + 1)) (s := n - 1) (by omega) hk8 (by omega) (by omega) hd ht (fun q hq y1 y2 l l1 l2 => by
          cases hw : wk (eO ow) f l q with
          | false => rfl
          | true =>
            have := pth_ch hr k l q (by omega) hq y1 hw
            rw [hm _ (by omega)] at this
            cases this) s1 8 0 z_FU (by omega) (by have := z_FU_ge; omega) (Nat.zero_le _)
        have hnx2 : Qu_nextInRing (nI (pth (eO ow) f n k)) (nI (n - (k + 1))) σ = some (nI (pth (eO ow) f n (k + 1)), σ) := hnx
        rw [hnx2, w_bd]
        exact go _ s1 (by rw [Nat.mod_eq_of_lt (show k + 1 < n by omega)]) (by rw [if_neg e])
