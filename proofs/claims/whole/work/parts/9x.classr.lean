/-! ===== the class's reader: one piece of work each ===== -/
def aI (c0 k a : Nat) : Nat := if k = 15 ∨ k = 16 then (if a = 0 then 0 else c0 + a) else a
def RcE (σ0 σ : gx_R) : Prop := (∀ c, c ≠ 39 → c ≠ 43 → c ≠ 49 → σ c = σ0 c) ∧ (∀ j, j ≠ 7 → j ≠ 8 → j ≠ 11 → j ≠ 12 → σ 39 j = σ0 39 j) ∧ ∀ j, j ≠ 7 → σ 43 j = σ0 43 j
def RcF (c0 : Nat) (σ0 σ : gx_R) : Prop := RcE σ0 σ ∧ (σ 39 11 = σ0 39 11 ∧ σ 39 12 = σ0 39 12) ∧ ∀ j, j < c0 → σ 49 j = σ0 49 j
def CdC (c0 : Nat) (σ : gx_R) (n : Nat) (ck ca : Nat → Nat) : Prop := ∀ j, j < n → σ 49 (c0 + j) = nI (64 * aI c0 (ck j) (ca j) + ck j)
def TkC (σ0 : gx_R) (b : Nat → Nat) (nb T : Nat) : Prop := (T ≤ 300 ∧ nb ≤ 300) ∧ TkR σ0 b nb T ∧ tkS b nb T = nb ∧ σ0 41 T = nI nb ∧ σ0 40 T = 44 ∧ σ0 39 6 = nI (T + 1)
def CR (b : Nat → Nat) (nb T c0 : Nat) (σ0 σ : gx_R) (t n : Nat) (ck ca : Nat → Nat) : Prop := TkC σ0 b nb T ∧ t ≤ T ∧ σ 39 7 = nI t ∧ σ 39 8 = nI (kd b nb t) ∧ (σ 43 7 = nI (c0 + n) ∧ c0 + n ≤ 300) ∧ CdC c0 σ n ck ca ∧ RcF c0 σ0 σ
/-- the class has refused: fault f at token t -/
def FS (b : Nat → Nat) (nb : Nat) (σ0 σ : gx_R) (f t : Nat) : Prop := σ 39 11 = nI f ∧ σ 39 12 = nI (tkS b nb t) ∧ (∃ s, s ≤ 300 ∧ σ 43 7 = nI s) ∧ RcE σ0 σ
theorem TkC_at {σ0 : gx_R} {b : Nat → Nat} {nb T t : Nat} (h : TkC σ0 b nb T) (ht : t ≤ T) : σ0 40 t = nI (kd b nb t) ∧ σ0 41 t = nI (tkS b nb t) ∧ (kd b nb t ≠ 44 → t < T ∧ (kd b nb t = 30 → σ0 42 t = nI (nm b nb t))) := by
  by_cases c : t = T
  · subst c
    have e : kd b nb t = 44 := by unfold kd; exact if_pos h.2.2.1
    rw [e]
    exact ⟨h.2.2.2.2.1, by rw [h.2.2.1]; exact h.2.2.2.1, fun z => absurd rfl z⟩
  · obtain ⟨a1, a2, a3, a4⟩ := h.2.1 t (by omega)
    have e : kd b nb t = tkK b nb (tkS b nb t) := by unfold kd; exact if_neg (by omega)
    rw [e]
    exact ⟨a3, a2, fun _ => ⟨by omega, a4⟩⟩
theorem adv_v {b : Nat → Nat} {nb T c0 : Nat} {σ0 σ : gx_R} {t n : Nat} {ck ca : Nat → Nat} (h : CR b nb T c0 σ0 σ t n ck ca) (hk : kd b nb t ≠ 44) : ∃ σ', Re_advance σ = some ((), σ') ∧ CR b nb T c0 σ0 σ' (t + 1) n ck ca := by
  obtain ⟨h1, h2, h3, h4, h5, h6, h7, h8, h9⟩ := h
  have hT := h1.1
  have ht := ((TkC_at h1 h2).2.2 hk).1
  have e6 : σ 39 6 = nI (T + 1) := by rw [h7.2.1 6 (by omega) (by omega) (by omega) (by omega)]; exact h1.2.2.2.2.2
  have e40 : σ 40 (t + 1) = nI (kd b nb (t + 1)) := by rw [h7.1 40 (by omega) (by omega) (by omega)]; exact (TkC_at h1 (show t + 1 ≤ T by omega)).1
  have em : (if ((σ 39 6) - (1 : Int32)) < ((σ 39 7) + (1 : Int32)) then ((σ 39 6) - (1 : Int32)) else ((σ 39 7) + (1 : Int32))) = nI (t + 1) := by
    rw [e6, h3, n_sub1 (by omega), show T + 1 - 1 = T by omega, show nI t + 1 = nI (t + 1) from nI_add _ 1, if_neg (fun z => by have := (nI_ltI (by omega) (by omega)).mp z; omega)]
  refine ⟨gx_up (gx_up σ 39 7 (nI (t + 1))) 39 8 (nI (kd b nb (t + 1))), ?_, h1, by omega, by rw [up_p _ _ _ (by omega), up_e], up_e _ _ _ _, ⟨by rw [up_c _ _ _ _ (by omega), up_c _ _ _ _ (by omega)]; exact h5.1, h5.2⟩, fun j hj => by rw [up_c _ _ _ _ (by omega), up_c _ _ _ _ (by omega)]; exact h6 j hj, ⟨fun c c1 c2 c3 => by rw [gx_up_ne c1, gx_up_ne c1]; exact h7.1 c c1 c2 c3, fun j j1 j2 j3 j4 => by rw [up_p _ _ _ j2, up_p _ _ _ j1]; exact h7.2.1 j j1 j2 j3 j4, fun j hj => by rw [up_c _ _ _ _ (by omega), up_c _ _ _ _ (by omega)]; exact h7.2.2 j hj⟩, ⟨by rw [up_p _ _ _ (by omega), up_p _ _ _ (by omega)]; exact h8.1, by rw [up_p _ _ _ (by omega), up_p _ _ _ (by omega)]; exact h8.2⟩, fun j hj => by rw [up_c _ _ _ _ (by omega), up_c _ _ _ _ (by omega)]; exact h9 j hj⟩
  rw [Re_advance, em, up_e, ix_n (by omega), decide_eq_true (show t + 1 < 301 by omega), w_ck, cl_n (by omega), up_c _ _ _ _ (show (40 : Nat) ≠ 39 by omega), e40]
theorem ref_v {b : Nat → Nat} {nb T c0 : Nat} {σ0 σ : gx_R} {t n : Nat} {ck ca : Nat → Nat} (h : CR b nb T c0 σ0 σ t n ck ca) (f : Nat) : ∃ σ', Re_refuse (nI f) σ = some (0, σ') ∧ FS b nb σ0 σ' f t := by
  obtain ⟨h1, h2, h3, h4, h5, h6, h7, h8, h9⟩ := h
  have hT := h1.1
  have e41 : σ 41 t = nI (tkS b nb t) := by rw [h7.1 41 (by omega) (by omega) (by omega)]; exact (TkC_at h1 h2).2.1
  refine ⟨gx_up (gx_up σ 39 11 (nI f)) 39 12 (nI (tkS b nb t)), ?_, by rw [up_p _ _ _ (by omega), up_e], up_e _ _ _ _, ⟨c0 + n, h5.2, by rw [up_c _ _ _ _ (by omega), up_c _ _ _ _ (by omega)]; exact h5.1⟩, fun c c1 c2 c3 => by rw [gx_up_ne c1, gx_up_ne c1]; exact h7.1 c c1 c2 c3, fun j j1 j2 j3 j4 => by rw [up_p _ _ _ j4, up_p _ _ _ j3]; exact h7.2.1 j j1 j2 j3 j4, fun j hj => by rw [up_c _ _ _ _ (by omega), up_c _ _ _ _ (by omega)]; exact h7.2.2 j hj⟩
  rw [Re_refuse, up_p _ _ _ (show (7 : Nat) ≠ 11 by omega), h3, ix_n (by omega), decide_eq_true (show t < 301 by omega), w_ck, cl_n (by omega), up_c _ _ _ _ (show (41 : Nat) ≠ 39 by omega), e41]
theorem wput_v {b : Nat → Nat} {nb T c0 : Nat} {σ0 σ : gx_R} {t n k a : Nat} {ck ca : Nat → Nat} {w : Int32} (h : CR b nb T c0 σ0 σ t n ck ca) (hn : c0 + n < 300) (hw : w = nI (64 * aI c0 k a + k)) : ∃ σ', Te_put w σ = some ((), σ') ∧ CR b nb T c0 σ0 σ' t (n + 1) (fset ck n k) (fset ca n a) := by
  obtain ⟨h1, h2, h3, h4, h5, h6, h7, h8, h9⟩ := h
  refine ⟨gx_up (gx_up σ 49 (c0 + n) w) 43 7 (nI (c0 + n + 1)), ?_, h1, h2, by rw [up_c _ _ _ _ (by omega), up_c _ _ _ _ (by omega)]; exact h3, by rw [up_c _ _ _ _ (by omega), up_c _ _ _ _ (by omega)]; exact h4, ⟨by rw [up_e]; rfl, by omega⟩, fun j hj => ?_, ⟨fun c c1 c2 c3 => by rw [gx_up_ne c2, gx_up_ne c3]; exact h7.1 c c1 c2 c3, fun j j1 j2 j3 j4 => by rw [up_c _ _ _ _ (by omega), up_c _ _ _ _ (by omega)]; exact h7.2.1 j j1 j2 j3 j4, fun j hj => by rw [up_p _ _ _ hj, up_c _ _ _ _ (by omega)]; exact h7.2.2 j hj⟩, ⟨by rw [up_c _ _ _ _ (by omega), up_c _ _ _ _ (by omega)]; exact h8.1, by rw [up_c _ _ _ _ (by omega), up_c _ _ _ _ (by omega)]; exact h8.2⟩, fun j hj => by rw [up_c _ _ _ _ (by omega), up_p _ _ _ (by omega)]; exact h9 j hj⟩
  · rw [Te_put, h5.1, if_neg (fun z => by have := (nI_leI (by omega) (by omega)).mp z; omega), ix_n (by omega), decide_eq_true hn, w_ck, cl_n (by omega), up_c _ _ _ _ (show (43 : Nat) ≠ 49 by omega), h5.1, show nI (c0 + n) + 1 = nI (c0 + n + 1) from nI_add _ 1]
  · rw [up_c _ _ _ _ (by omega)]
    by_cases z : j = n
    · rw [z, up_e, fset_e, fset_e]; exact hw
    · rw [up_p _ _ _ (by omega), fset_n _ _ z, fset_n _ _ z]; exact h6 j (by omega)
theorem put_F {b : Nat → Nat} {nb : Nat} {σ0 σ : gx_R} {f t : Nat} (h : FS b nb σ0 σ f t) (w : Int32) : ∃ σ', Te_put w σ = some ((), σ') ∧ FS b nb σ0 σ' f t := by
  obtain ⟨h1, h2, ⟨s, h3, h4⟩, h5⟩ := h
  by_cases c : s = 300
  · refine ⟨σ, ?_, h1, h2, ⟨s, h3, h4⟩, h5⟩
    rw [Te_put, h4, c, if_pos (Int32.le_refl _)]
  · refine ⟨gx_up (gx_up σ 49 s w) 43 7 (nI (s + 1)), ?_, by rw [up_c _ _ _ _ (by omega), up_c _ _ _ _ (by omega)]; exact h1, by rw [up_c _ _ _ _ (by omega), up_c _ _ _ _ (by omega)]; exact h2, ⟨s + 1, by omega, up_e _ _ _ _⟩, fun c c1 c2 c3 => by rw [gx_up_ne c2, gx_up_ne c3]; exact h5.1 c c1 c2 c3, fun j j1 j2 j3 j4 => by rw [up_c _ _ _ _ (by omega), up_c _ _ _ _ (by omega)]; exact h5.2.1 j j1 j2 j3 j4, fun j hj => by rw [up_p _ _ _ hj, up_c _ _ _ _ (by omega)]; exact h5.2.2 j hj⟩
    rw [Te_put, h4, if_neg (fun z => by have := (nI_leI (by omega) (by omega)).mp z; omega), ix_n (by omega), decide_eq_true (show s < 300 by omega), w_ck, cl_n (by omega), up_c _ _ _ _ (show (43 : Nat) ≠ 49 by omega), h4, show nI s + 1 = nI (s + 1) from nI_add _ 1]
theorem onh_v {b : Nat → Nat} {nb T c0 : Nat} {σ0 σ : gx_R} {t n j : Nat} {ck ca : Nat → Nat} (h : CR b nb T c0 σ0 σ t n ck ca) (hj : j < n) (hk : ck j = 15 ∨ ck j = 16) (ha : ca j = 0) : ∃ σ', Te_goOnHere (nI (c0 + j)) σ = some ((), σ') ∧ CR b nb T c0 σ0 σ' t n ck (fset ca j n) := by
  obtain ⟨h1, h2, h3, h4, h5, h6, h7, h8, h9⟩ := h
  have ew : σ 49 (c0 + j) = nI (ck j) := by
    rw [h6 j hj, ha]
    unfold aI
    rw [if_pos hk, if_pos rfl, Nat.mul_zero, Nat.zero_add]
  refine ⟨gx_up σ 49 (c0 + j) (nI (64 * (c0 + n) + ck j)), ?_, h1, h2, by rw [up_c _ _ _ _ (by omega)]; exact h3, by rw [up_c _ _ _ _ (by omega)]; exact h4, ⟨by rw [up_c _ _ _ _ (by omega)]; exact h5.1, h5.2⟩, fun i hi => ?_, ⟨fun c c1 c2 c3 => by rw [gx_up_ne c3]; exact h7.1 c c1 c2 c3, fun i j1 j2 j3 j4 => by rw [up_c _ _ _ _ (by omega)]; exact h7.2.1 i j1 j2 j3 j4, fun i hi => by rw [up_c _ _ _ _ (by omega)]; exact h7.2.2 i hi⟩, ⟨by rw [up_c _ _ _ _ (by omega)]; exact h8.1, by rw [up_c _ _ _ _ (by omega)]; exact h8.2⟩, fun i hi => by rw [up_p _ _ _ (by omega)]; exact h9 i hi⟩
  · rw [Te_goOnHere, if_neg (show ¬ nI (c0 + j) < 0 from fun z => (n_lt0 (k := c0 + j) (by omega)).mp z), h5.1, if_neg (fun z => by have := (nI_leI (by omega) (by omega)).mp z; omega), ix_n (by omega), decide_eq_true (show c0 + j < 300 by omega), w_ck, w_ck, cl_n (by omega), ew, k_and63s (by omega), show nI (c0 + n) * 64 + nI (ck j) = nI (64 * (c0 + n) + ck j) by rw [show (64 : Int32) = nI 64 from rfl, pk_mul, nI_add, Nat.mul_comm]]
  · by_cases z : i = j
    · rw [z, up_e, fset_e]
      unfold aI
      rw [if_pos hk, if_neg (by omega)]
    · rw [up_p _ _ _ (by omega), fset_n _ _ z]; exact h6 i hi
/-- what the class answers where it refuses -/
def FC (b : Nat → Nat) (nb : Nat) (σ0 : gx_R) (r : Option (Int32 × gx_R)) (f t : Nat) : Prop := ∃ σ', r = some (0, σ') ∧ FS b nb σ0 σ' f t
theorem take_v {b : Nat → Nat} {nb T c0 : Nat} {σ0 σ : gx_R} {t n k : Nat} {ck ca : Nat → Nat} (h : CR b nb T c0 σ0 σ t n ck ca) (hk : kd b nb t = k) (h44 : k ≠ 44) : ∃ σ', Re_take (nI k) σ = some (1, σ') ∧ CR b nb T c0 σ0 σ' (t + 1) n ck ca := by
  obtain ⟨σ', e1, e2⟩ := adv_v h (by omega)
  refine ⟨σ', ?_, e2⟩
  rw [Re_take, h.2.2.2.1, hk, if_pos rfl, e1, w_bd]
theorem take_F {b : Nat → Nat} {nb T c0 : Nat} {σ0 σ : gx_R} {t n k : Nat} {ck ca : Nat → Nat} (h : CR b nb T c0 σ0 σ t n ck ca) (hk : kd b nb t ≠ k) (hk1 : kd b nb t < 100 ∧ k < 100) : FC b nb σ0 (Re_take (nI k) σ) 1 t := by
  obtain ⟨σ', e1, e2⟩ := ref_v h 1
  refine ⟨σ', ?_, e2⟩
  have e1 : Re_refuse 1 σ = some (0, σ') := e1
  rw [Re_take, h.2.2.2.1, if_neg (fun z => hk ((nI_eq (by omega) (by omega)).mp z)), e1, w_bd, bo_0, w_ck]
