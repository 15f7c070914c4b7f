/-! ===== the numbers of a deed ===== -/
theorem CR_base {b : Nat → Nat} {nb T c0 : Nat} {σ0 σ : gx_R} {t n : Nat} {ck ca : Nat → Nat} (h : CR b nb T c0 σ0 σ t n ck ca) {c j : Nat} (x : Int32) (hc : 44 ≤ c ∧ c ≤ 48) : CR b nb T c0 (gx_up σ0 c j x) (gx_up σ c j x) t n ck ca := by
  obtain ⟨⟨h1, h1b, h1c, h1d, h1e, h1f⟩, h2, h3, h4, h5, h6, h7, h8, h9⟩ := h
  have k : ∀ (ρ : gx_R) (y : Nat), y ≠ c → gx_up ρ c j x y = ρ y := fun ρ y hy => gx_up_ne hy
  refine ⟨⟨h1, fun i hi => by rw [k σ0 41 (by omega), k σ0 40 (by omega), k σ0 42 (by omega)]; exact h1b i hi, h1c, by rw [k σ0 41 (by omega)]; exact h1d, by rw [k σ0 40 (by omega)]; exact h1e, by rw [k σ0 39 (by omega)]; exact h1f⟩, h2, by rw [k σ 39 (by omega)]; exact h3, by rw [k σ 39 (by omega)]; exact h4, ⟨by rw [k σ 43 (by omega)]; exact h5.1, h5.2⟩, fun i hi => by rw [k σ 49 (by omega)]; exact h6 i hi, ⟨fun y y1 y2 y3 => ?_, fun i i1 i2 i3 i4 => by rw [k σ 39 (by omega), k σ0 39 (by omega)]; exact h7.2.1 i i1 i2 i3 i4, fun i hi => by rw [k σ 43 (by omega), k σ0 43 (by omega)]; exact h7.2.2 i hi⟩, by rw [k σ 39 (by omega), k σ0 39 (by omega)]; exact h8, fun i hi => by rw [k σ 49 (by omega), k σ0 49 (by omega)]; exact h9 i hi⟩
  by_cases z : y = c
  · subst z
    have e := h7.1 y y1 y2 y3
    funext i
    by_cases w : i = j
    · rw [w, up_e, up_e]
    · rw [up_p _ _ _ w, up_p _ _ _ w, e]
  · rw [k σ y z, k σ0 y z]; exact h7.1 y y1 y2 y3
/-- the reference has found a fault -/
def EM (b : Nat → Nat) (nb : Nat) (τ0 τ : gx_R) (f t : Nat) : Prop := (τ 109 19 = nI f ∧ 0 < f ∧ f < 10) ∧ τ 109 20 = nI (tkS b nb t) ∧ RdG τ0 τ ∧ τ 109 30 = τ0 109 30 ∧ τ 109 31 = τ0 109 31
theorem errs_M {b : Nat → Nat} {nb r0 : Nat} {τ0 τ : gx_R} {t : Nat} {fr ws : List (Nat × Nat)} {st n : Nat} {ck ca : Nat → Nat} (h : MR b nb r0 τ0 τ t fr ws st n ck ca) (f : Nat) (hf : 0 < f ∧ f < 10) : ∃ τ', Md_errs (nI f) τ = some ((), τ') ∧ EM b nb τ0 τ' f t := by
  obtain ⟨m1, m2, m3, ⟨m4, m5⟩, m6, m7, m8, m9, m10, m11, m12⟩ := h
  have e19 : τ 109 19 = 0 := by rw [m12.2.2 19 (by omega) (by omega) (by omega) (by omega) (by omega) (by omega)]; exact m2.1
  have g := RdF_G m12
  refine ⟨gx_up (gx_up τ 109 19 (nI f)) 109 20 (nI (tkS b nb t)), ?_, ⟨by rw [up_p _ _ _ (by omega), up_e], hf⟩, up_e _ _ _ _, ⟨fun c c1 c2 => by rw [gx_up_ne c1, gx_up_ne c1]; exact g.1 c c1 c2, fun j hj => by rw [up_p _ _ _ (by omega), up_p _ _ _ (by omega)]; exact g.2 j hj⟩, ?_, ?_⟩
  · rw [Md_errs, if_pos e19, up_p _ _ _ (show (16 : Nat) ≠ 19 by omega), m3.2.1]
  · rw [up_p _ _ _ (by omega), up_p _ _ _ (by omega)]; exact m12.2.2 30 (by omega) (by omega) (by omega) (by omega) (by omega) (by omega)
  · rw [up_p _ _ _ (by omega), up_p _ _ _ (by omega)]; exact m12.2.2 31 (by omega) (by omega) (by omega) (by omega) (by omega) (by omega)
theorem EM_n {b : Nat → Nat} {nb : Nat} {τ0 τ : gx_R} {f t : Nat} (h : EM b nb τ0 τ f t) : ¬ τ 109 19 = 0 ∧ 0 < τ 109 19 := by
  obtain ⟨⟨h1, h2, h3⟩, -⟩ := h
  rw [h1]
  exact ⟨fun z => by have := (n_eq0 (k := f) (by omega)).mp z; omega, (n_0lt (k := f) (by omega)).mpr h2⟩
theorem EM_errs {b : Nat → Nat} {nb : Nat} {τ0 τ : gx_R} {f t : Nat} (h : EM b nb τ0 τ f t) (x : Int32) : Md_errs x τ = some ((), τ) := by
  rw [Md_errs, if_neg (EM_n h).1]
theorem EM_num {b : Nat → Nat} {nb : Nat} {τ0 τ : gx_R} {f t : Nat} (h : EM b nb τ0 τ f t) (x y : Int32) : Md_number x y τ = some (x, τ) := by
  have := EM_errs h 1
  rw [Md_number, if_pos (EM_n h).2, Md_number_7, this, w_bd]
theorem EM_beh {b : Nat → Nat} {nb : Nat} {τ0 τ : gx_R} {f t : Nat} (h : EM b nb τ0 τ f t) (w x y : Int32) : Md_numberBehind w x y τ = some (x, τ) := by
  rw [Md_numberBehind, if_neg (EM_n h).1, Md_numberBehind_10, if_neg (EM_n h).1, Md_numberBehind_15, EM_num h, w_bd]
theorem num_v {b : Nat → Nat} {nb T c0 r0 : Nat} {σ0 σ τ0 τ : gx_R} {t n st : Nat} {fr ws : List (Nat × Nat)} {ck ca ck' ca' : Nat → Nat} {n' b1 q lo hi : Nat} (hC : CR b nb T c0 σ0 σ t n ck ca) (hM : MR b nb r0 τ0 τ t fr ws st n' ck' ca') (hq : q < 24) (hb : 45 ≤ b1 ∧ b1 ≤ 47) (hh : lo ≤ hi ∧ hi ≤ 99) : (∃ v σ' τ', (lo ≤ v ∧ v ≤ hi) ∧ Re_numberOf b1 (nI q) (nI lo) (nI hi) σ = some (1, σ') ∧ Md_number (nI lo) (nI hi) τ = some (nI v, τ') ∧ CR b nb T c0 (gx_up σ0 b1 q (nI v)) σ' (t + 1) n ck ca ∧ MR b nb r0 τ0 τ' (t + 1) fr ws st n' ck' ca') ∨ ∃ f x τ', FC b nb σ0 (Re_numberOf b1 (nI q) (nI lo) (nI hi) σ) f t ∧ Md_number (nI lo) (nI hi) τ = some (x, τ') ∧ EM b nb τ0 τ' f t := by
  have hT := hC.1.1
  have htT : t ≤ T := hC.2.1
  have h7 : σ 39 7 = nI t := hC.2.2.1
  have h8 : σ 39 8 = nI (kd b nb t) := hC.2.2.2.1
  have h100 := @kd_100 b nb t
  have e19 : τ 109 19 = 0 := by rw [hM.2.2.2.2.2.2.2.2.2.2.2.2 19 (by omega) (by omega) (by omega) (by omega) (by omega) (by omega)]; exact hM.2.1.1
  have n19 : ¬ (0 : Int32) < τ 109 19 := by rw [e19]; decide
  by_cases c : kd b nb t = 30
  · have h8' : σ 39 8 = 30 := by rw [h8, c]; rfl
    have h42 : σ 42 t = nI (nm b nb t) := by rw [hC.2.2.2.2.2.2.1.1 42 (by omega) (by omega) (by omega)]; exact ((TkC_at hC.1 htT).2.2 (by omega)).2 c
    obtain ⟨u, u1, u2, u3⟩ := kr_u hM.2.2.1.2.2.2 (show (if tkS b nb t = nb then 44 else tkK b nb (tkS b nb t)) = 30 from c)
    have u3 : nm b nb t = min u 10000 := by first | exact u3 | exact u3.symm
    have h17 : τ 109 17 = 2 := (kr_n hM.2.2.1.2.2.2).mpr c
    have hnm := @nm_10 b nb t
    have i1 : (nI (nm b nb t) < nI lo) ↔ nm b nb t < lo := nI_ltI (by omega) (by omega)
    have i2 : (nI (nm b nb t) ≤ nI hi) ↔ nm b nb t ≤ hi := nI_leI (by omega) (by omega)
    have hin : Md_in (nI u) (nI lo) (nI hi) τ = some (bI (decide (lo ≤ u ∧ u ≤ hi)), τ) := by
      rw [Md_in_v]
      have : (¬ nI u < nI lo ∧ ¬ nI hi < nI u) ↔ (lo ≤ u ∧ u ≤ hi) := by
        rw [nI_ltI (by omega) (by omega), nI_ltI (by omega) (by omega)]; omega
      simp only [this]
    by_cases d : lo ≤ nm b nb t ∧ nm b nb t ≤ hi
    · have hu : u = nm b nb t := by omega
      obtain ⟨σ1, a1, a2⟩ := adv_v (CR_base hC (c := b1) (j := q) (nI (nm b nb t)) (by omega)) (by omega)
      obtain ⟨τ1, x1, x2⟩ := A_next hM (kd_lt hM.2.2.1.1 (by omega))
      refine Or.inl ⟨nm b nb t, σ1, τ1, d, ?_, ?_, a2, x2⟩
      · rw [Re_numberOf, if_pos h8', h7, ix_n (by omega), decide_eq_true (show t < 301 by omega), w_ck, cl_n (by omega), h42, if_neg (fun z => by have := i1.mp z; omega), w_ck, if_pos (i2.mpr d.2), if_neg (fun z => (n_lt0 (k := q) (by omega)).mp z), if_neg (fun z => by have := (nI_leI (by omega) (by omega)).mp z; omega), w_ck, ix_n (by omega), decide_eq_true hq, w_ck, cl_n (by omega), Re_numberOf_40, a1, w_bd]
      · rw [Md_number, if_neg n19, if_pos h17, u1, hin, decide_eq_true (show lo ≤ u ∧ u ≤ hi by omega), w_bd, bI_t, if_neg (by decide), x1, w_bd, u1, hu]
    · obtain ⟨σ1, p1, p2⟩ := ref_v hC 2
      have p1 : Re_refuse 2 σ = some (0, σ1) := p1
      obtain ⟨τ1, x1, x2⟩ := errs_M hM 2 (by omega)
      have x1 : Md_errs 2 τ = some ((), τ1) := x1
      refine Or.inr ⟨2, nI lo, τ1, ⟨σ1, ?_, p2⟩, ?_, x2⟩
      · rw [Re_numberOf, if_pos h8', h7, ix_n (by omega), decide_eq_true (show t < 301 by omega), w_ck, cl_n (by omega), h42]
        by_cases d1 : nm b nb t < lo
        · rw [if_pos (i1.mpr d1), Re_numberOf_22, p1, w_bd, bo_0, w_ck]
        · rw [if_neg (fun z => d1 (i1.mp z)), w_ck, if_neg (fun z => by have := i2.mp z; omega), Re_numberOf_22, p1, w_bd, bo_0, w_ck]
      · rw [Md_number, if_neg n19, if_pos h17, u1, hin, decide_eq_false (show ¬ (lo ≤ u ∧ u ≤ hi) by omega), w_bd, bI_f, if_pos rfl, x1, w_bd]
  · have h8' : ¬ σ 39 8 = 30 := fun z => by rw [h8] at z; exact c ((kI h100 30 (by omega)).mp z)
    have h17 : ¬ τ 109 17 = 2 := fun z => c ((kr_n hM.2.2.1.2.2.2).mp z)
    obtain ⟨σ1, p1, p2⟩ := ref_v hC 1
    have p1 : Re_refuse 1 σ = some (0, σ1) := p1
    obtain ⟨τ1, x1, x2⟩ := errs_M hM 1 (by omega)
    have x1 : Md_errs 1 τ = some ((), τ1) := x1
    refine Or.inr ⟨1, nI lo, τ1, ⟨σ1, ?_, p2⟩, ?_, x2⟩
    · rw [Re_numberOf, if_neg h8', p1, w_bd, bo_0, w_ck]
    · rw [Md_number, if_neg n19, if_neg h17, Md_number_7, x1, w_bd]
/-- a word and a number behind it -/
noncomputable def BH (k : Int32) (b1 : Nat) (q lo hi : Int32) (σ : gx_R) : Option (Int32 × gx_R) := z_bd (Re_take k σ) (fun r8 σ9 => if r8 = 0 then some ((0 : Int32), σ9) else Re_numberOf b1 q lo hi σ9)
theorem beh_v {b : Nat → Nat} {nb T c0 r0 : Nat} {σ0 σ τ0 τ : gx_R} {t n st : Nat} {fr ws : List (Nat × Nat)} {ck ca ck' ca' : Nat → Nat} {n' b1 q lo hi k : Nat} (hC : CR b nb T c0 σ0 σ t n ck ca) (hM : MR b nb r0 τ0 τ t fr ws st n' ck' ca') (hq : q < 24) (hb : 45 ≤ b1 ∧ b1 ≤ 47) (hh : lo ≤ hi ∧ hi ≤ 99) (hk : k < 14) : (∃ v σ' τ', (lo ≤ v ∧ v ≤ hi) ∧ BH (nI k) b1 (nI q) (nI lo) (nI hi) σ = some (1, σ') ∧ Md_numberBehind (nI k) (nI lo) (nI hi) τ = some (nI v, τ') ∧ CR b nb T c0 (gx_up σ0 b1 q (nI v)) σ' (t + 2) n ck ca ∧ MR b nb r0 τ0 τ' (t + 2) fr ws st n' ck' ca') ∨ ∃ f x τ' t', (t ≤ t' ∧ t' ≤ t + 1 ∧ t' ≤ T) ∧ FC b nb σ0 (BH (nI k) b1 (nI q) (nI lo) (nI hi) σ) f t' ∧ Md_numberBehind (nI k) (nI lo) (nI hi) τ = some (x, τ') ∧ EM b nb τ0 τ' f t' := by
  have h100 := @kd_100 b nb t
  have e19 : τ 109 19 = 0 := by rw [hM.2.2.2.2.2.2.2.2.2.2.2.2 19 (by omega) (by omega) (by omega) (by omega) (by omega) (by omega)]; exact hM.2.1.1
  have w := isW_v (w := k) hM.2.2.1 (by omega)
  have er : rI k = k := if_pos hk
  rw [er] at w
  by_cases c : kd b nb t = k
  · obtain ⟨σ1, p1, p2⟩ := take_v hC c (by omega)
    obtain ⟨τ1, x1, x2⟩ := A_next hM (kd_lt hM.2.2.1.1 (by omega))
    rw [decide_eq_true c] at w
    have eC : BH (nI k) b1 (nI q) (nI lo) (nI hi) σ = Re_numberOf b1 (nI q) (nI lo) (nI hi) σ1 := by rw [BH, p1, w_bd, if_neg (show ¬ (1 : Int32) = 0 by decide)]
    have eM : Md_numberBehind (nI k) (nI lo) (nI hi) τ = z_bd (Md_number (nI lo) (nI hi) τ1) (fun r13 σ14 => some (r13, σ14)) := by
      rw [Md_numberBehind, if_pos e19, w, w_bd, bI_t, if_neg (by decide), Md_numberBehind_10, if_pos e19, x1, w_bd, Md_numberBehind_15]
    rcases num_v p2 x2 hq hb hh with ⟨v, σ2, τ2, h1, h2, h3, h4, h5⟩ | ⟨f, x, τ2, h1, h2, h3⟩
    · exact Or.inl ⟨v, σ2, τ2, h1, by rw [eC, h2], by rw [eM, h3, w_bd], h4, h5⟩
    · exact Or.inr ⟨f, x, τ2, t + 1, ⟨by omega, by omega, p2.2.1⟩, by rw [eC]; exact h1, by rw [eM, h2, w_bd], h3⟩
  · obtain ⟨σ1, p1, p2⟩ := take_F hC (k := k) c ⟨h100, by omega⟩
    obtain ⟨τ1, x1, x2⟩ := errs_M hM 1 (by omega)
    have x1 : Md_errs 1 τ = some ((), τ1) := x1
    rw [decide_eq_false c] at w
    refine Or.inr ⟨1, nI lo, τ1, t, ⟨by omega, by omega, hC.2.1⟩, ⟨σ1, ?_, p2⟩, ?_, x2⟩
    · rw [BH, p1, w_bd, if_pos rfl]
    · rw [Md_numberBehind, if_pos e19, w, w_bd, bI_f, if_pos rfl, x1, w_bd, Md_numberBehind_10, if_neg (EM_n x2).1, Md_numberBehind_15, EM_num x2, w_bd]
