/-! ===== who stands behind one ===== -/
def orB (f : Nat → Bool) : Nat → Bool
  | 0 => false
  | n + 1 => orB f n || f n
theorem orB_t {f : Nat → Bool} {n : Nat} : orB f n = true ↔ ∃ i, i < n ∧ f i = true := by
  induction n with
  | zero => constructor
            · intro h; cases h
            · rintro ⟨i, h, -⟩; omega
  | succ n ih =>
    rw [orB, Bool.or_eq_true, ih]
    constructor
    · rintro (⟨i, h, h2⟩ | h)
      · exact ⟨i, by omega, h2⟩
      · exact ⟨n, by omega, h⟩
    · rintro ⟨i, h, h2⟩
      by_cases e : i = n
      · subst e; exact Or.inr h2
      · exact Or.inl ⟨i, by omega, h2⟩
theorem orB_cong {f g : Nat → Bool} {n : Nat} (h : ∀ i, i < n → f i = g i) : orB f n = orB g n := by
  induction n with
  | zero => rfl
  | succ n ih => rw [orB, orB, ih (fun i hi => h i (by omega)), h n (by omega)]
def cB (f : Nat → Bool) : Nat → Nat
  | 0 => 0
  | n + 1 => cB f n + (f n).toNat
theorem cB_cong {f g : Nat → Bool} {n : Nat} (h : ∀ i, i < n → f i = g i) : cB f n = cB g n := by
  induction n with
  | zero => rfl
  | succ n ih => rw [cB, cB, ih (fun i hi => h i (by omega)), h n (by omega)]
theorem cB_flip {f g : Nat → Bool} {j : Nat} (hf : f j = false) (hg : g j = true) : ∀ n, j < n → (∀ i, i < n → i ≠ j → f i = g i) → cB g n = cB f n + 1 := by
  intro n
  induction n with
  | zero => intro h _; omega
  | succ n ih =>
    intro h h2
    by_cases e : j = n
    · subst e
      rw [cB, cB, hf, hg, cB_cong (fun i hi => h2 i (by omega) (by omega))]; rfl
    · rw [cB, cB, ih (by omega) (fun i hi hj => h2 i (by omega) hj), h2 n (by omega) (by omega)]; omega
theorem cB_le (f : Nat → Bool) : ∀ n, cB f n ≤ n := by
  intro n
  induction n with
  | zero => exact Nat.le_refl _
  | succ n ih =>
    rw [cB]
    have : (f n).toNat ≤ 1 := Bool.toNat_le _
    omega
theorem pc_cB : ∀ k, k < 256 → pcN 8 k = cB (fun i => k.testBit i) 8 := by decide +kernel
theorem bitCount_mk (f : Nat → Bool) (σ : gx_R) : Jd_bitCount (mk f 8) σ = some (nI (cB f 8), σ) := by
  obtain ⟨k, hk, e⟩ := set_n (x := mk f 8) (fun i hi hb => by
    rw [mk_b (by omega) hi] at hb
    exact of_decide_eq_true (Bool.and_eq_true_iff.mp hb).1)
  rw [e, bitCount_v hk, pc_cB k hk]
  congr 3
  refine cB_cong (fun i hi => ?_)
  have := mk_b (f := f) (n := 8) (i := i) (by omega) (by omega)
  rw [e, bt_n _ (by omega), decide_eq_true hi, Bool.true_and] at this
  exact this
theorem nz_b {x : Int32} : ¬ x = 0 ↔ ∃ i, i < 32 ∧ bt x i = true := by
  constructor
  · intro h
    refine Classical.byContradiction (fun z => h (b_ext (fun i hi => ?_)))
    rw [b_0]
    cases hb : bt x i with
    | false => rfl
    | true => exact absurd ⟨i, hi, hb⟩ z
  · rintro ⟨i, hi, hb⟩ rfl
    rw [b_0] at hb
    cases hb
/-- in which tier one is known to be after k rounds -/
def tv (mf : gx_F) (P x : Nat) : Nat → Nat → Int32
  | 0, p => if p = x then 0 else -1
  | k + 1, p => if tv mf P x k p = -1 ∧ orB (fun q => decide (tv mf P x k q = nI k) && bt (mf p) q) P = true then nI (k + 1) else tv mf P x k p
theorem tv_r {mf : gx_F} {P x : Nat} : ∀ k p, tv mf P x k p = -1 ∨ ∃ j, j ≤ k ∧ tv mf P x k p = nI j := by
  intro k
  induction k with
  | zero =>
    intro p
    rw [tv]
    by_cases e : p = x
    · rw [if_pos e]; exact Or.inr ⟨0, Nat.le_refl _, rfl⟩
    · rw [if_neg e]; exact Or.inl rfl
  | succ k ih =>
    intro p
    rw [tv]
    by_cases e : tv mf P x k p = -1 ∧ orB (fun q => decide (tv mf P x k q = nI k) && bt (mf p) q) P = true
    · rw [if_pos e]; exact Or.inr ⟨k + 1, Nat.le_refl _, rfl⟩
    · rw [if_neg e]
      rcases ih p with h | ⟨j, h1, h2⟩
      · exact Or.inl h
      · exact Or.inr ⟨j, by omega, h2⟩
theorem tv_keep {mf : gx_F} {P x k p : Nat} (h : ¬ tv mf P x k p = -1) : tv mf P x (k + 1) p = tv mf P x k p := by
  rw [tv, if_neg (fun z => h z.1)]
theorem tv_new {mf : gx_F} {P x k p : Nat} (hk : k < 100) : tv mf P x (k + 1) p = nI (k + 1) ↔ tv mf P x k p = -1 ∧ orB (fun q => decide (tv mf P x k q = nI k) && bt (mf p) q) P = true := by
  rw [tv]
  constructor
  · intro h
    refine Classical.byContradiction (fun z => ?_)
    rw [if_neg z] at h
    rcases tv_r (mf := mf) (P := P) (x := x) k p with h1 | ⟨j, h1, h2⟩
    · rw [h1] at h; exact (n_m1 (by omega)).mp h.symm
    · rw [h2] at h
      have := (nI_eq (by omega) (by omega)).mp h
      omega
  · intro h; rw [if_pos h]
theorem tv_x {mf : gx_F} {P x : Nat} : ∀ k, tv mf P x k x = 0 := by
  intro k
  induction k with
  | zero => rw [tv, if_pos rfl]
  | succ k ih => rw [tv_keep (by rw [ih]; decide), ih]
theorem tv_stop {mf : gx_F} {P x k : Nat} (hk : k < 100) (hP : P ≤ 8) (h : ∀ q, q < 8 → ¬ tv mf P x k q = nI k) : ∀ m, k + m < 100 → ∀ p, tv mf P x (k + m) p = tv mf P x k p := by
  intro m
  induction m with
  | zero => intro _ p; rfl
  | succ m ih =>
    intro hm p
    rw [show k + (m + 1) = k + m + 1 by omega, tv, if_neg, ih (by omega) p]
    rintro ⟨-, z⟩
    obtain ⟨q, hq, hq2⟩ := orB_t.mp z
    have h1 := of_decide_eq_true (Bool.and_eq_true_iff.mp hq2).1
    rw [ih (by omega) q] at h1
    rcases Nat.eq_zero_or_pos m with e | e
    · subst e; exact h q (by omega) h1
    · rcases tv_r (mf := mf) (P := P) (x := x) k q with h2 | ⟨j, h2, h3⟩
      · rw [h2] at h1; exact (n_m1 (by omega)).mp h1.symm
      · rw [h3] at h1
        have := (nI_eq (by omega) (by omega)).mp h1
        omega
theorem tv_last {mf : gx_F} {P x k p : Nat} (hP : P ≤ 8) (hm : ∀ p, p < 8 → ∀ i, i < 32 → bt (mf p) i = true → i < P) (hp : p < 8) : (¬ mf p &&& mk (fun q => decide (tv mf P x k q = nI k)) 8 = 0) ↔ orB (fun q => decide (tv mf P x k q = nI k) && bt (mf p) q) P = true := by
  rw [nz_b, orB_t]
  constructor
  · rintro ⟨i, hi, hb⟩
    rw [b_and, mk_b (by omega) hi] at hb
    obtain ⟨h1, h2⟩ := Bool.and_eq_true_iff.mp hb
    exact ⟨i, hm p hp i hi h1, by rw [h1, (Bool.and_eq_true_iff.mp h2).2]; rfl⟩
  · rintro ⟨i, hi, hb⟩
    obtain ⟨h1, h2⟩ := Bool.and_eq_true_iff.mp hb
    refine ⟨i, by omega, ?_⟩
    rw [b_and, mk_b (by omega) (by omega), h1, h2, decide_eq_true (show i < 8 by omega)]; rfl
def fnd (mf : gx_F) (P x k : Nat) : Nat → Bool := fun p => decide (tv mf P x (k + 1) p = nI (k + 1))
def sn (mf : gx_F) (P x k : Nat) : Nat → Bool := fun p => decide (¬ tv mf P x k p = -1)
theorem found_C {σ : gx_R} {P x k : Nat} {K13 : Int32 → Int32 → Int32 → Int32 → gx_R → Option (Int32 × gx_R)} {a2 : Int32} (hk : k < 100) (hP : P ≤ 8) (hm : ∀ p, p < 8 → ∀ i, i < 32 → bt (σ 5 p) i = true → i < P) : ∀ m j f, j + m = 8 → m < f → Qu_tierBehind_22 K13 f a2 (mk (sn (σ 5) P x k) 8) (mk (fun q => decide (tv (σ 5) P x k q = nI k)) 8) (nI (k + 1)) (mk (fnd (σ 5) P x k) j) (nI j) σ = Qu_tierBehind_48 K13 a2 (mk (sn (σ 5) P x k) 8) (nI (k + 1)) (mk (fnd (σ 5) P x k) 8) σ := by
  intro m
  induction m with
  | zero =>
    intro j f h1 h2
    obtain ⟨f, rfl⟩ : ∃ q, f = q + 1 := ⟨f - 1, by omega⟩
    obtain rfl : j = 8 := by omega
    rw [Qu_tierBehind_22, Qu_tierBehind_22_B, if_pos (show (8 : Int32) ≤ nI 8 by decide)]
  | succ m ih =>
    intro j f h1 h2
    obtain ⟨f, rfl⟩ : ∃ q, f = q + 1 := ⟨f - 1, by omega⟩
    have hi := ih (j + 1) f (by omega) (by omega)
    have e1 : nI j + 1 = nI (j + 1) := nI_add j 1
    rw [Qu_tierBehind_22, Qu_tierBehind_22_B, if_neg (fun z => by have := (nI_leI (a := 8) (by omega) (by omega)).mp z; omega)]
    have hs : bt (mk (sn (σ 5) P x k) 8) j = decide (¬ tv (σ 5) P x k j = -1) := by rw [mk_b (by omega) (by omega), decide_eq_true (show j < 8 by omega), Bool.true_and]; rfl
    have hl := tv_last (x := x) (k := k) hP hm (show j < 8 by omega)
    have hn := tv_new (mf := σ 5) (P := P) (x := x) (k := k) (p := j) hk
    by_cases c1 : tv (σ 5) P x k j = -1
    · rw [if_pos ((h_0 (by omega)).mpr (by rw [hs, decide_eq_false (fun z => z c1)])), ix_n (by omega), decide_eq_true (show j < 8 by omega), w_ck, cl_n (by omega)]
      by_cases c2 : σ 5 j &&& mk (fun q => decide (tv (σ 5) P x k q = nI k)) 8 = 0
      · rw [if_pos c2, Qu_tierBehind_46, e1]
        rw [mk_f (show fnd (σ 5) P x k j = false from decide_eq_false (fun z => (hl.mpr (hn.mp z).2) c2))] at hi
        exact hi
      · rw [if_neg c2, Qu_tierBehind_46, e1]
        rw [mk_t (show fnd (σ 5) P x k j = true from decide_eq_true (hn.mpr ⟨c1, hl.mp c2⟩))] at hi
        exact hi
    · rw [if_neg (fun z => by have := (h_0 (by omega)).mp z; rw [hs, decide_eq_true c1] at this; cases this), Qu_tierBehind_46, e1]
      rw [mk_f (show fnd (σ 5) P x k j = false from decide_eq_false (fun z => c1 (hn.mp z).1))] at hi
      exact hi
theorem sn_or {mf : gx_F} {P x k : Nat} (hk : k < 100) : mk (sn mf P x k) 8 ||| mk (fnd mf P x k) 8 = mk (sn mf P x (k + 1)) 8 := by
  apply b_ext
  intro i hi
  rw [b_or, mk_b (by omega) hi, mk_b (by omega) hi, mk_b (by omega) hi]
  by_cases h8 : i < 8
  · rw [decide_eq_true h8, Bool.true_and, Bool.true_and, Bool.true_and]
    unfold sn fnd
    by_cases c : tv mf P x k i = -1
    · by_cases c2 : tv mf P x (k + 1) i = nI (k + 1)
      · rw [show decide (¬ tv mf P x k i = -1) = false from decide_eq_false (fun z => z c), show decide (tv mf P x (k + 1) i = nI (k + 1)) = true from decide_eq_true c2, show decide (¬ tv mf P x (k + 1) i = -1) = true from decide_eq_true (fun z => by rw [c2] at z; exact (n_m1 (by omega)).mp z)]; rfl
      · have : tv mf P x (k + 1) i = -1 := by
          rw [tv, if_neg (fun z => c2 ((tv_new hk).mpr z))]; exact c
        rw [show decide (¬ tv mf P x k i = -1) = false from decide_eq_false (fun z => z c), show decide (tv mf P x (k + 1) i = nI (k + 1)) = false from decide_eq_false c2, show decide (¬ tv mf P x (k + 1) i = -1) = false from decide_eq_false (fun z => z this)]; rfl
    · rw [show decide (¬ tv mf P x k i = -1) = true from decide_eq_true c, show decide (¬ tv mf P x (k + 1) i = -1) = true from decide_eq_true (by rw [tv_keep c]; exact c), Bool.true_or]
  · rw [decide_eq_false h8]; rfl
def tEnd (mf : gx_F) (P x : Nat) (a2 : Int32) : Int32 := if a2 = -1 then nI (cB (sn mf P x 8) 8) - 1 else tv mf P x 8 a2.toNatClampNeg
theorem tier_68 {mf : gx_F} {P x k : Nat} {a2 : Int32} (σ : gx_R) (h : ∀ p, tv mf P x 8 p = tv mf P x k p) (h2 : a2 = -1 ∨ ∃ o, o < 8 ∧ a2 = nI o ∧ tv mf P x k o = -1) : Qu_tierBehind_68 a2 (mk (sn mf P x k) 8) σ = some (tEnd mf P x a2, σ) := by
  rw [Qu_tierBehind_68, tEnd]
  by_cases c : a2 = -1
  · rw [if_pos c, if_pos c, bitCount_mk, w_bd, cB_cong (f := sn mf P x 8) (g := sn mf P x k) (fun i _ => by unfold sn; rw [h i])]
  · rcases h2 with h2 | ⟨o, ho, h2, h3⟩
    · exact absurd h2 c
    · rw [if_neg c, if_neg c, h2, cl_n (by omega), h o, h3]
theorem tier_L {σ : gx_R} {P x : Nat} {a2 : Int32} (hP : P ≤ 8) (hm : ∀ p, p < 8 → ∀ i, i < 32 → bt (σ 5 p) i = true → i < P) : ∀ m k f, k + m = 8 → m < f → (a2 = -1 ∨ ∃ o, o < 8 ∧ a2 = nI o ∧ tv (σ 5) P x k o = -1) → Qu_tierBehind_13 f a2 (mk (sn (σ 5) P x k) 8) (mk (fun q => decide (tv (σ 5) P x k q = nI k)) 8) (nI (k + 1)) σ = some (tEnd (σ 5) P x a2, σ) := by
  intro m
  induction m with
  | zero =>
    intro k f h1 h2 h3
    obtain ⟨f, rfl⟩ : ∃ q, f = q + 1 := ⟨f - 1, by omega⟩
    obtain rfl : k = 8 := by omega
    rw [Qu_tierBehind_13, Qu_tierBehind_13_B, if_pos (show (8 : Int32) < nI (8 + 1) by decide)]
    exact tier_68 σ (fun _ => rfl) h3
  | succ m ih =>
    intro k f h1 h2 h3
    obtain ⟨f, rfl⟩ : ∃ q, f = q + 1 := ⟨f - 1, by omega⟩
    rw [Qu_tierBehind_13, Qu_tierBehind_13_B, if_neg (fun z => by have := (nI_ltI (a := 8) (by omega) (by omega)).mp z; omega)]
    by_cases hl : mk (fun q => decide (tv (σ 5) P x k q = nI k)) 8 = 0
    · rw [if_pos hl]
      refine tier_68 σ (fun p => ?_) h3
      have hq : ∀ q, q < 8 → ¬ tv (σ 5) P x k q = nI k := by
        intro q hq z
        have h4 := mk_b (f := fun q => decide (tv (σ 5) P x k q = nI k)) (n := 8) (i := q) (by omega) (by omega)
        rw [hl, b_0, decide_eq_true hq, decide_eq_true z] at h4
        cases h4
      have h5 := tv_stop (show k < 100 by omega) hP hq (m + 1) (by omega) p
      rw [show k + (m + 1) = 8 by omega] at h5
      exact h5
    · rw [if_neg hl, show (0 : Int32) = mk (fnd (σ 5) P x k) 0 from rfl, show mk (fnd (σ 5) P x k) 0 = nI 0 from rfl]
      have hf := found_C (σ := σ) (P := P) (x := x) (k := k) (K13 := Qu_tierBehind_13 f) (a2 := a2) (by omega) hP hm 8 0 z_FU (by omega) (by have := z_FU_ge; omega)
      have hf2 : Qu_tierBehind_22 (Qu_tierBehind_13 f) z_FU a2 (mk (sn (σ 5) P x k) 8) (mk (fun q => decide (tv (σ 5) P x k q = nI k)) 8) (nI (k + 1)) (nI 0) (nI 0) σ = _ := hf
      rw [hf2, Qu_tierBehind_48]
      have e1 : nI (k + 1) + 1 = nI (k + 1 + 1) := nI_add (k + 1) 1
      rcases h3 with h3 | ⟨o, ho, h3, h4⟩
      · rw [if_pos h3, Qu_tierBehind_60, sn_or (by omega), e1]
        exact ih (k + 1) f (by omega) (by omega) (Or.inl h3)
      · have c0 : ¬ a2 = -1 := by rw [h3]; exact fun z => (n_m1 (by omega)).mp z
        rw [if_neg c0]
        have hb : bt (mk (fnd (σ 5) P x k) 8) o = fnd (σ 5) P x k o := by rw [mk_b (by omega) (by omega), decide_eq_true ho, Bool.true_and]
        by_cases c : tv (σ 5) P x (k + 1) o = nI (k + 1)
        · rw [if_pos (by rw [h3]; exact (h_1 (by omega)).mpr (by rw [hb]; exact decide_eq_true c)), tEnd, if_neg c0, h3, cl_n (by omega)]
          have h6 : ∀ j, tv (σ 5) P x (k + 1 + j) o = nI (k + 1) := by
            intro j
            induction j with
            | zero => exact c
            | succ j ih2 => rw [show k + 1 + (j + 1) = k + 1 + j + 1 by omega, tv_keep (by rw [ih2]; exact fun z => (n_m1 (by omega)).mp z)]; exact ih2
          have h7 := h6 m
          rw [show k + 1 + m = 8 by omega] at h7
          rw [h7]
        · rw [if_neg (fun z => by rw [h3] at z; have := (h_1 (by omega)).mp z; rw [hb] at this; exact c (of_decide_eq_true this)), Qu_tierBehind_60, sn_or (by omega), e1]
          refine ih (k + 1) f (by omega) (by omega) (Or.inr ⟨o, ho, h3, ?_⟩)
          rw [tv, if_neg (fun z => c ((tv_new (by omega)).mpr z))]
          exact h4
/-! the reference -/
theorem in_M {K39 : Int32 → Int32 → Int32 → Int32 → gx_R → Option (Int32 × gx_R)} {τ : gx_R} {P k p : Nat} {g : Nat → Bool} {a2 a3 : Int32} (hP : P ≤ 8) (hp : p < 8) (h0 : τ 110 0 = nI P) (hg : ∀ q, q < P → g q = (decide (τ 148 q = nI k) && bt (τ 110 (26 + p)) q)) : ∀ m q f, q + m = P → m < f → Md_behind_49 K39 f a2 a3 (nI k) (nI p) (bI (orB g q)) (nI q) τ = Md_behind_78 K39 a2 a3 (nI k) (nI p) (bI (orB g P)) τ := by
  intro m
  induction m with
  | zero =>
    intro q f h1 h2
    obtain ⟨f, rfl⟩ : ∃ q, f = q + 1 := ⟨f - 1, by omega⟩
    obtain rfl : q = P := by omega
    rw [Md_behind_49, Md_behind_49_B, show (0 : Int32).toNatClampNeg = 0 from rfl, h0, if_pos ((nI_leI (by omega) (by omega)).mpr (Nat.le_refl _))]
  | succ m ih =>
    intro q f h1 h2
    obtain ⟨f, rfl⟩ : ∃ q, f = q + 1 := ⟨f - 1, by omega⟩
    have hi := ih (q + 1) f (by omega) (by omega)
    have e1 : nI q + 1 = nI (q + 1) := nI_add q 1
    rw [Md_behind_49, Md_behind_49_B, show (0 : Int32).toNatClampNeg = 0 from rfl, h0, if_neg (fun z => by have := (nI_leI (by omega) (by omega)).mp z; omega)]
    rw [orB] at hi
    cases ho : orB g q with
    | true =>
      rw [ho, Bool.true_or] at hi
      rw [bI_t, if_neg (by decide), Md_behind_72, Md_behind_75, e1]
      exact hi
    | false =>
      rw [ho, Bool.false_or, hg q (by omega)] at hi
      rw [bI_f, if_pos rfl, ix_n (by omega), decide_eq_true (show q < 8 by omega), w_ck, cl_n (by omega)]
      by_cases c : τ 148 q = nI k
      · rw [decide_eq_true c, Bool.true_and] at hi
        rw [if_pos c, show (26 : Int32) + nI p = nI (26 + p) from nI_add 26 p, ix_n (by omega), decide_eq_true (show 26 + p < 8880 by omega), w_ck, cl_n (by omega), Md_has_v _ (by omega), w_bd]
        cases hb : bt (τ 110 (26 + p)) q with
        | false => rw [hb] at hi; rw [bI_f, if_pos rfl, Md_behind_74, Md_behind_75, e1]; exact hi
        | true => rw [hb] at hi; rw [bI_t, if_neg (by decide), Md_behind_72, Md_behind_75, e1]; exact hi
      · rw [decide_eq_false c, Bool.false_and] at hi
        rw [if_neg c, Md_behind_74, Md_behind_75, e1]
        exact hi
def mix (mf : gx_F) (P x k p : Nat) : Nat → Int32 := fun q => if q < p then tv mf P x (k + 1) q else tv mf P x k q
def cnt (x : Nat) (t : Nat → Int32) : Nat := cB (fun q => decide (¬ t q = -1) && !decide (q = x)) 8
theorem cnt_cong {x : Nat} {t u : Nat → Int32} (h : ∀ q, q < 8 → t q = u q) : cnt x t = cnt x u := cB_cong (fun i hi => by rw [h i hi])
theorem mix_k {mf : gx_F} {P x k p q : Nat} (hk : k < 100) : decide (mix mf P x k p q = nI k) = decide (tv mf P x k q = nI k) := by
  unfold mix
  by_cases h : q < p
  · rw [if_pos h]
    by_cases c : tv mf P x k q = -1
    · by_cases c2 : tv mf P x (k + 1) q = nI (k + 1)
      · rw [c2, c, decide_eq_false (fun z => by have := (nI_eq (by omega) (by omega)).mp z; omega), decide_eq_false (fun z => (n_m1 (by omega)).mp z.symm)]
      · have : tv mf P x (k + 1) q = -1 := by
          rw [tv, if_neg (fun z => c2 ((tv_new hk).mpr z))]; exact c
        rw [this, c]
    · rw [tv_keep c]
  · rw [if_neg h]
theorem row_M {K34 : Int32 → Int32 → Int32 → gx_R → Option (Int32 × gx_R)} {τ : gx_R} {mf : gx_F} {P x k : Nat} {a2 : Int32} (hk : k < 100) (hP : P ≤ 8) (hx : x < P) (h0 : τ 110 0 = nI P) (hm : ∀ p, p < 8 → τ 110 (26 + p) = mf p) (hm2 : ∀ p, p < 8 → ∀ i, i < 32 → bt (mf p) i = true → i < P ∧ p < P) : ∀ m p f τ1, p + m = P → m < f → (∀ c, c ≠ 148 → τ1 c = τ c) → (∀ q, q < 8 → τ1 148 q = mix mf P x k p q) → ∃ τ2, Md_behind_39 K34 f a2 (nI (cnt x (mix mf P x k p))) (nI k) (nI p) τ1 = Md_behind_96 K34 a2 (nI (cnt x (tv mf P x (k + 1)))) (nI k) τ2 ∧ (∀ c, c ≠ 148 → τ2 c = τ c) ∧ ∀ q, q < 8 → τ2 148 q = tv mf P x (k + 1) q := by
  intro m
  induction m with
  | zero =>
    intro p f τ1 h1 h2 h3 h4
    obtain ⟨f, rfl⟩ : ∃ q, f = q + 1 := ⟨f - 1, by omega⟩
    obtain rfl : p = P := by omega
    have h5 : ∀ q, q < 8 → mix mf p x k p q = tv mf p x (k + 1) q := by
      intro q hq
      unfold mix
      by_cases z : q < p
      · rw [if_pos z]
      · rw [if_neg z, tv, if_neg]
        rintro ⟨-, y⟩
        obtain ⟨i, hi, hi2⟩ := orB_t.mp y
        exact z (hm2 q hq i (by omega) (Bool.and_eq_true_iff.mp hi2).2).2
    refine ⟨τ1, ?_, h3, fun q hq => by rw [h4 q hq, h5 q hq]⟩
    rw [Md_behind_39, Md_behind_39_B, show (0 : Int32).toNatClampNeg = 0 from rfl, h3 110 (by omega), h0, if_pos ((nI_leI (by omega) (by omega)).mpr (Nat.le_refl _)), cnt_cong h5]
  | succ m ih =>
    intro p f τ1 h1 h2 h3 h4
    obtain ⟨f, rfl⟩ : ∃ q, f = q + 1 := ⟨f - 1, by omega⟩
    have e1 : nI p + 1 = nI (p + 1) := nI_add p 1
    have g0 : τ1 110 0 = nI P := by rw [h3 110 (by omega)]; exact h0
    have hin := in_M (K39 := Md_behind_39 K34 f) (τ := τ1) (P := P) (k := k) (p := p) (g := fun q => decide (tv mf P x k q = nI k) && bt (mf p) q) (a2 := a2) (a3 := nI (cnt x (mix mf P x k p))) hP (by omega) g0 (fun q hq => by rw [h4 q (by omega), mix_k hk, h3 110 (by omega), hm p (by omega)]) P 0 z_FU (by omega) (by have := z_FU_ge; omega)
    have hin2 : Md_behind_49 (Md_behind_39 K34 f) z_FU a2 (nI (cnt x (mix mf P x k p))) (nI k) (nI p) 0 0 τ1 = _ := hin
    rw [Md_behind_39, Md_behind_39_B, show (0 : Int32).toNatClampNeg = 0 from rfl, g0, if_neg (fun z => by have := (nI_leI (by omega) (by omega)).mp z; omega), hin2, Md_behind_78, ix_n (by omega), decide_eq_true (show p < 8 by omega), w_ck, w_ck, cl_n (by omega), h4 p (by omega), show mix mf P x k p p = tv mf P x k p from if_neg (Nat.lt_irrefl p)]
    have keep : tv mf P x (k + 1) p = tv mf P x k p → ∀ q, mix mf P x k (p + 1) q = mix mf P x k p q := by
      intro z q
      unfold mix
      by_cases y : q < p
      · rw [if_pos (by omega), if_pos y]
      · by_cases y2 : q = p
        · subst y2; rw [if_pos (by omega), if_neg y]; exact z
        · rw [if_neg (by omega), if_neg y]
    have hn := tv_new (mf := mf) (P := P) (x := x) (k := k) (p := p) hk
    by_cases c1 : tv mf P x k p = -1
    · rw [if_pos c1]
      cases ho : orB (fun q => decide (tv mf P x k q = nI k) && bt (mf p) q) P with
      | false =>
        have kk := keep (by rw [tv, if_neg (fun z => by rw [ho] at z; cases z.2)])
        rw [bI_f, if_pos rfl, Md_behind_94, e1]
        obtain ⟨τ2, i1, i2, i3⟩ := ih (p + 1) f τ1 (by omega) (by omega) h3 (fun q hq => by rw [h4 q hq, kk q])
        rw [cnt_cong (fun q _ => kk q)] at i1
        exact ⟨τ2, i1, i2, i3⟩
      | true =>
        have c2 := hn.mpr ⟨c1, ho⟩
        have mm : ∀ q, mix mf P x k (p + 1) q = if q = p then nI (k + 1) else mix mf P x k p q := by
          intro q
          unfold mix
          by_cases y2 : q = p
          · subst y2; rw [if_pos (by omega), if_pos rfl]; exact c2
          · rw [if_neg y2]
            by_cases y : q < p
            · rw [if_pos (by omega), if_pos y]
            · rw [if_neg (by omega), if_neg y]
        have hpx : ¬ p = x := by
          intro z
          rw [z, tv_x] at c1
          exact absurd c1 (by decide)
        have hc : cnt x (mix mf P x k (p + 1)) = cnt x (mix mf P x k p) + 1 := by
          refine cB_flip (j := p) ?_ ?_ 8 (by omega) (fun i _ hi => ?_)
          · show (decide (¬ mix mf P x k p p = -1) && !decide (p = x)) = false
            rw [show mix mf P x k p p = tv mf P x k p from if_neg (Nat.lt_irrefl p), c1]; rfl
          · show (decide (¬ mix mf P x k (p + 1) p = -1) && !decide (p = x)) = true
            rw [mm p, if_pos rfl, decide_eq_true (show ¬ nI (k + 1) = -1 from fun z => (n_m1 (by omega)).mp z), decide_eq_false hpx]; rfl
          · rw [mm i, if_neg hi]
        rw [bI_t, if_neg (by decide), Md_behind_94, e1, show nI k + 1 = nI (k + 1) from nI_add k 1, show nI (cnt x (mix mf P x k p)) + 1 = nI (cnt x (mix mf P x k p) + 1) from nI_add _ 1, ← hc]
        exact ih (p + 1) f _ (by omega) (by omega) (fun c hc2 => by rw [gx_up_ne hc2]; exact h3 c hc2) (fun q hq => by
          rw [mm q]
          by_cases y2 : q = p
          · subst y2; rw [if_pos rfl, up_e]
          · rw [if_neg y2, up_p _ _ _ y2]; exact h4 q hq)
    · have kk := keep (tv_keep c1)
      rw [if_neg c1, Md_behind_94, e1]
      obtain ⟨τ2, i1, i2, i3⟩ := ih (p + 1) f τ1 (by omega) (by omega) h3 (fun q hq => by rw [h4 q hq, kk q])
      rw [cnt_cong (fun q _ => kk q)] at i1
      exact ⟨τ2, i1, i2, i3⟩
theorem rows_M {τ : gx_R} {mf : gx_F} {P x : Nat} {a2 : Int32} (hP : P ≤ 8) (hx : x < P) (h0 : τ 110 0 = nI P) (hm : ∀ p, p < 8 → τ 110 (26 + p) = mf p) (hm2 : ∀ p, p < 8 → ∀ i, i < 32 → bt (mf p) i = true → i < P ∧ p < P) : ∀ m k f τ1, k + m = 8 → m < f → (∀ c, c ≠ 148 → τ1 c = τ c) → (∀ q, q < 8 → τ1 148 q = tv mf P x k q) → ∃ τ2, Md_behind_34 f a2 (nI (cnt x (tv mf P x k))) (nI k) τ1 = Md_behind_98 a2 (nI (cnt x (tv mf P x 8))) τ2 ∧ (∀ c, c ≠ 148 → τ2 c = τ c) ∧ ∀ q, q < 8 → τ2 148 q = tv mf P x 8 q := by
  intro m
  induction m with
  | zero =>
    intro k f τ1 h1 h2 h3 h4
    obtain ⟨f, rfl⟩ : ∃ q, f = q + 1 := ⟨f - 1, by omega⟩
    obtain rfl : k = 8 := by omega
    refine ⟨τ1, ?_, h3, h4⟩
    rw [Md_behind_34, Md_behind_34_B, if_pos (show (8 : Int32) ≤ nI 8 by decide)]
  | succ m ih =>
    intro k f τ1 h1 h2 h3 h4
    obtain ⟨f, rfl⟩ : ∃ q, f = q + 1 := ⟨f - 1, by omega⟩
    have hm0 : ∀ q, mix mf P x k 0 q = tv mf P x k q := fun q => if_neg (Nat.not_lt_zero q)
    obtain ⟨τ2, r1, r2, r3⟩ := row_M (K34 := Md_behind_34 f) (a2 := a2) (x := x) (k := k) (by omega) hP hx h0 hm hm2 P 0 z_FU τ1 (by omega) (by have := z_FU_ge; omega) h3 (fun q hq => by rw [hm0 q]; exact h4 q hq)
    rw [cnt_cong (fun q _ => hm0 q)] at r1
    have r4 : Md_behind_39 (Md_behind_34 f) z_FU a2 (nI (cnt x (tv mf P x k))) (nI k) 0 τ1 = _ := r1
    obtain ⟨τ3, s1, s2, s3⟩ := ih (k + 1) f τ2 (by omega) (by omega) r2 r3
    refine ⟨τ3, ?_, s2, s3⟩
    rw [Md_behind_34, Md_behind_34_B, if_neg (fun z => by have := (nI_leI (a := 8) (by omega) (by omega)).mp z; omega), r4, Md_behind_96, show nI k + 1 = nI (k + 1) from nI_add k 1]
    exact s1
theorem init_M {τ : gx_R} {mf : gx_F} {P x : Nat} {a2 : Int32} (hx : x < 8) : ∀ m p f τ1, p + m = 8 → m < f → (∀ c, c ≠ 148 → τ1 c = τ c) → (∀ q, q < p → τ1 148 q = tv mf P x 0 q) → ∃ τ2, Md_behind_15 f (nI x) a2 (nI p) τ1 = Md_behind_30 a2 τ2 ∧ (∀ c, c ≠ 148 → τ2 c = τ c) ∧ ∀ q, q < 8 → τ2 148 q = tv mf P x 0 q := by
  intro m
  induction m with
  | zero =>
    intro p f τ1 h1 h2 h3 h4
    obtain ⟨f, rfl⟩ : ∃ q, f = q + 1 := ⟨f - 1, by omega⟩
    obtain rfl : p = 8 := by omega
    refine ⟨τ1, ?_, h3, h4⟩
    rw [Md_behind_15, Md_behind_15_B, if_pos (show (8 : Int32) ≤ nI 8 by decide)]
  | succ m ih =>
    intro p f τ1 h1 h2 h3 h4
    obtain ⟨f, rfl⟩ : ∃ q, f = q + 1 := ⟨f - 1, by omega⟩
    have go : ∀ y, y = tv mf P x 0 p → ∃ τ2, Md_behind_27 (Md_behind_15 f) (nI x) a2 (nI p) (nI p) y τ1 = Md_behind_30 a2 τ2 ∧ (∀ c, c ≠ 148 → τ2 c = τ c) ∧ ∀ q, q < 8 → τ2 148 q = tv mf P x 0 q := by
      intro y hy
      obtain ⟨τ2, i1, i2, i3⟩ := ih (p + 1) f (gx_up τ1 148 p y) (by omega) (by omega) (fun c hc => by rw [gx_up_ne hc]; exact h3 c hc) (fun q hq => by
        by_cases e : q = p
        · subst e; rw [up_e]; exact hy
        · rw [up_p _ _ _ e]; exact h4 q (by omega))
      refine ⟨τ2, ?_, i2, i3⟩
      rw [Md_behind_27, ix_n (by omega), decide_eq_true (show p < 8 by omega), w_ck, cl_n (by omega), show nI p + 1 = nI (p + 1) from nI_add p 1]
      exact i1
    rw [Md_behind_15, Md_behind_15_B, if_neg (fun z => by have := (nI_leI (a := 8) (by omega) (by omega)).mp z; omega)]
    by_cases e : p = x
    · rw [if_pos (show nI p = nI x by rw [e])]
      exact go 0 (by rw [tv, if_pos e])
    · rw [if_neg (fun z => e ((nI_eq (by omega) (by omega)).mp z))]
      exact go (-1) (by rw [tv, if_neg e])
theorem behind_v {σ τ : gx_R} {P x : Nat} {a2 : Int32} (hP : P ≤ 8) (hx : x < P) (h0 : τ 110 0 = nI P) (hm : ∀ p, p < 8 → τ 110 (26 + p) = σ 5 p) (hm2 : ∀ p, p < 8 → ∀ i, i < 32 → bt (σ 5 p) i = true → i < P ∧ p < P) (ha : a2 = -1 ∨ ∃ o, o < 8 ∧ a2 = nI o) : ∃ v τ2, Qu_tierBehind (nI x) a2 σ = some (v, σ) ∧ Md_behind_13 (nI x) a2 τ = some (v, τ2) ∧ ∀ c, c ≠ 148 → τ2 c = τ c := by
  have hz := z_FU_ge
  obtain ⟨τ1, a1, a3, a4⟩ := init_M (τ := τ) (mf := σ 5) (P := P) (x := x) (a2 := a2) (by omega) 8 0 z_FU τ (by omega) (by omega) (fun _ _ => rfl) (fun q hq => absurd hq (Nat.not_lt_zero q))
  have c0 : cnt x (tv (σ 5) P x 0) = 0 := by
    have : cnt x (tv (σ 5) P x 0) = cB (fun _ => false) 8 := cB_cong (fun q _ => by
      rw [tv]
      by_cases e : q = x
      · rw [decide_eq_true e, Bool.not_true, Bool.and_false]
      · rw [if_neg e]; rfl)
    rw [this]; rfl
  obtain ⟨τ2, b1, b2, b3⟩ := rows_M (a2 := a2) hP hx h0 hm hm2 8 0 z_FU τ1 (by omega) (by omega) a3 a4
  rw [c0] at b1
  have b4 : Md_behind_34 z_FU a2 0 0 τ1 = _ := b1
  have ho : Md_behind_98 a2 (nI (cnt x (tv (σ 5) P x 8))) τ2 = some (tEnd (σ 5) P x a2, τ2) := by
    rw [Md_behind_98, tEnd]
    by_cases c : a2 = -1
    · rw [if_pos c, if_pos c]
      have h1 : cB (sn (σ 5) P x 8) 8 = cnt x (tv (σ 5) P x 8) + 1 := by
        refine cB_flip (j := x) ?_ ?_ 8 (by omega) (fun i _ hi => ?_)
        · show (_ && !decide (x = x)) = false
          rw [decide_eq_true rfl, Bool.not_true, Bool.and_false]
        · exact decide_eq_true (by rw [tv_x]; decide)
        · show (_ && !decide (i = x)) = _
          rw [decide_eq_false hi, Bool.not_false, Bool.and_true]; rfl
      rw [h1, show nI (cnt x (tv (σ 5) P x 8) + 1) - 1 = nI (cnt x (tv (σ 5) P x 8)) from n_sub1 (by omega)]
    · rcases ha with ha | ⟨o, ho, ha⟩
      · exact absurd ha c
      · rw [if_neg c, if_neg c, ha, ix_n (by omega), decide_eq_true ho, w_ck, cl_n (by omega), b3 o ho]
  refine ⟨tEnd (σ 5) P x a2, τ2, ?_, ?_, b2⟩
  · rw [Qu_tierBehind]
    by_cases e : a2 = nI x
    · rw [if_pos e, tEnd, if_neg (by rw [e]; exact fun z => (n_m1 (by omega)).mp z), e, cl_n (by omega), tv_x]
    · rw [if_neg e]
      have h1 : (1 : Int32) <<< (nI x &&& 31) = mk (sn (σ 5) P x 0) 8 := by
        apply b_ext
        intro i hi
        rw [b_bit (by omega) hi, mk_b (by omega) hi]
        unfold sn
        rw [tv]
        by_cases e : i = x
        · rw [decide_eq_true e, if_pos e, decide_eq_true (show i < 8 by omega)]; rfl
        · rw [decide_eq_false e, if_neg e, show decide (¬ (-1 : Int32) = -1) = false from rfl, Bool.and_false]
      have h2 : (1 : Int32) <<< (nI x &&& 31) = mk (fun q => decide (tv (σ 5) P x 0 q = nI 0)) 8 := by
        apply b_ext
        intro i hi
        rw [b_bit (by omega) hi, mk_b (by omega) hi]
        show _ = (_ && decide (tv (σ 5) P x 0 i = nI 0))
        rw [tv]
        by_cases e : i = x
        · rw [decide_eq_true e, if_pos e, decide_eq_true (show i < 8 by omega)]; rfl
        · rw [decide_eq_false e, if_neg e, decide_eq_false (show ¬ (-1 : Int32) = nI 0 by decide), Bool.and_false]
      have h3 := tier_L (σ := σ) (P := P) (x := x) (a2 := a2) hP (fun p hp i hi hb => (hm2 p hp i hi hb).1) 8 0 z_FU (by omega) (by omega) (by
        rcases ha with ha | ⟨o, ho, ha⟩
        · exact Or.inl ha
        · refine Or.inr ⟨o, ho, ha, ?_⟩
          rw [tv, if_neg (fun z => e (by rw [ha, z]))])
      rw [← h2, ← h1] at h3
      exact h3
  · rw [Md_behind_13, show (0 : Int32) = nI 0 from rfl, a1, Md_behind_30]
    exact b4.trans ho
theorem S_behind {σ τ : gx_R} (r : Rel σ τ) (a1 a2 : Int32) : SimP (Sf_behind a1 a2) (Md_behind a1 a2) σ τ := by
  obtain ⟨P, W, H, K, T, P', W', H', K', T', rr⟩ := id r
  have r1 := rr.1
  have hP := r1.1.1.1
  have p1 : σ 2 0 = nI P := r1.1.2.1.1
  have p2 : τ 110 0 = nI P := r1.1.2.1.2.1
  have hm := r1.1.2.2.2.1
  have key : ∀ x, x < P → (a2 = -1 ∨ ∃ o, o < 8 ∧ a2 = nI o) → Sf_behind (nI x) a2 σ = Sf_behind_17 (nI x) a2 σ → Md_behind (nI x) a2 τ = Md_behind_13 (nI x) a2 τ → SimP (Sf_behind (nI x) a2) (Md_behind (nI x) a2) σ τ := by
    intro x hx ha e1 e2
    obtain ⟨v, τ2, b1, b2, b3⟩ := behind_v (σ := σ) hP hx p2 (fun p hp => (hm p hp).1) (fun p hp i hi hb => ⟨((hm p hp).2 i hi hb).1, ((hm p hp).2 i hi hb).2.2⟩) ha
    refine SimP_sc r v (e1.trans (by rw [Sf_behind_17, b1, w_bd])) (e2.trans b2) (sc_rf σ) ⟨fun k hk => b3 k (by omega), fun j hj => by rw [b3 109 (by omega)]⟩
  cases hz : z_ix a1 P with
  | false =>
    refine SimP_ro r (-1) ?_ ?_
    · rw [Sf_behind, Fo_isPerson_v p1 hP, hz, w_bd, bI_f, if_pos rfl]
    · rw [Md_behind, Md_isPerson_v p2 hP, hz, w_bd, bI_f, if_pos rfl]
  | true =>
    obtain ⟨x, hx, rfl⟩ := ix_ex hz (by omega)
    by_cases c : a2 = -1
    · refine key x hx (Or.inl c) ?_ ?_
      · rw [Sf_behind, Fo_isPerson_v p1 hP, hz, w_bd, bI_t, if_neg (by decide), if_pos c]
      · rw [Md_behind, Md_isPerson_v p2 hP, hz, w_bd, bI_t, if_neg (by decide), if_pos c]
    · cases hw : z_ix a2 P with
      | false =>
        refine SimP_ro r (-1) ?_ ?_
        · rw [Sf_behind, Fo_isPerson_v p1 hP, hz, w_bd, bI_t, if_neg (by decide), if_neg c, Fo_isPerson_v p1 hP, hw, w_bd, bI_f, if_pos rfl]
        · rw [Md_behind, Md_isPerson_v p2 hP, hz, w_bd, bI_t, if_neg (by decide), if_neg c, Md_isPerson_v p2 hP, hw, w_bd, bI_f, if_pos rfl]
      | true =>
        obtain ⟨o, ho, ho2⟩ := ix_ex hw (by omega)
        refine key x hx (Or.inr ⟨o, by omega, ho2⟩) ?_ ?_
        · rw [Sf_behind, Fo_isPerson_v p1 hP, hz, w_bd, bI_t, if_neg (by decide), if_neg c, Fo_isPerson_v p1 hP, hw, w_bd, bI_t, if_neg (by decide)]
        · rw [Md_behind, Md_isPerson_v p2 hP, hz, w_bd, bI_t, if_neg (by decide), if_neg c, Md_isPerson_v p2 hP, hw, w_bd, bI_t, if_neg (by decide)]
