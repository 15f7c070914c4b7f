/-! ===== the four levels of operations ===== -/
theorem kd_100 {b : Nat → Nat} {nb : Nat} (t : Nat) : kd b nb t < 100 := by
  have h1 := @kwL_30 b (tkS b nb t) (tkR isL b nb (tkS b nb t) - tkS b nb t)
  have h2 := @sgK_30 (b (tkS b nb t)) (lkT b nb (tkS b nb t))
  unfold kd tkK
  split
  · omega
  · split
    · omega
    · split
      · omega
      · omega
theorem hop_p : ∀ k, decide (k = 39 ∨ k = 40) = true → rk k = 4 ∧ bn k false false ∧ k ≠ 44 ∧ k < 64 := by
  intro k h
  have h := of_decide_eq_true h
  rcases h with h | h <;> subst h <;> exact ⟨rfl, Or.inl ⟨by omega, by omega, rfl, rfl⟩, by omega, by omega⟩
theorem hop_s : ∀ k, decide (k = 37 ∨ k = 38) = true → rk k = 3 ∧ bn k false false ∧ k ≠ 44 ∧ k < 64 := by
  intro k h
  have h := of_decide_eq_true h
  rcases h with h | h <;> subst h <;> exact ⟨rfl, Or.inl ⟨by omega, by omega, rfl, rfl⟩, by omega, by omega⟩
theorem hop_b : ∀ k, decide (k = 19) = true → rk k = 2 ∧ bn k true true ∧ k ≠ 44 ∧ k < 64 := by
  intro k h
  have h := of_decide_eq_true h
  subst h
  exact ⟨rfl, Or.inr (Or.inr ⟨Or.inr rfl, rfl, rfl⟩), by omega, by omega⟩
theorem hop_e : ∀ k, decide (k = 18) = true → rk k = 1 ∧ bn k true true ∧ k ≠ 44 ∧ k < 64 := by
  intro k h
  have h := of_decide_eq_true h
  subst h
  exact ⟨rfl, Or.inr (Or.inr ⟨Or.inl rfl, rfl, rfl⟩), by omega, by omega⟩
theorem Mst_g {b : Nat → Nat} {nb r0 : Nat} {τ0 : gx_R} {r : Nat} {isop : Nat → Bool} (h : ∀ k, isop k = true → rk k = r ∧ 37 ≤ k ∧ k ≤ 40) : Mst b nb r0 τ0 1 2 r isop := by
  intro fx fr ws t n ck ca τ hM hl hb hws hn
  obtain ⟨p1, p2, p3⟩ := h _ hb
  have := G_op hM hl ⟨p2, p3⟩ hws hn
  rw [p1] at this
  exact this
theorem Mst_t {b : Nat → Nat} {nb r0 : Nat} {τ0 : gx_R} {r : Nat} {isop : Nat → Bool} (h : ∀ k, isop k = true → rk k = r ∧ (k = 18 ∨ k = 19)) : Mst b nb r0 τ0 0 3 r isop := by
  intro fx fr ws t n ck ca τ hM hl hb hws hn
  obtain ⟨p1, p2⟩ := h _ hb
  have := T_wait hM (by rw [List.length_cons]; omega) p2 hws hn
  rw [p1] at this
  exact this
theorem i300 {i : Nat} (h : i < 300) : ¬ (300 : Int32) ≤ nI i := fun z => by have := (nI_leI (a := 300) (b := i) (by omega) (by omega)).mp z; omega
theorem Lop_p (rc : Nat → Int32 → gx_R → Option (Int32 × gx_R)) (a : Int32) : Lop (fun n r i σ => Re_product_6 rc n a r i σ) (rc 4 a) (fun k => decide (k = 39 ∨ k = 40)) := by
  refine ⟨fun n i σ => ?_, fun n i σ k hi hk h8 hb => ?_, fun n i σ k hi hk h8 hb => ?_⟩
  · show Re_product_6 rc (n + 1) a 0 i σ = some (0, σ)
    rw [Re_product_6, Re_product_6_B, if_pos rfl, bo_0, w_ck, ite_self]
  · have hb := of_decide_eq_false hb
    show Re_product_6 rc (n + 1) a 1 (nI i) σ = some (1, σ)
    rw [Re_product_6, Re_product_6_B, if_neg (i300 hi), if_neg (show ¬ (1 : Int32) = 0 by decide), h8, if_neg (show ¬ nI k = 39 from fun z => hb (Or.inl ((nI_eq (b := 39) (by omega) (by omega)).mp z))), if_neg (show ¬ nI k = 40 from fun z => hb (Or.inr ((nI_eq (b := 40) (by omega) (by omega)).mp z))), bo_1, w_ck]
  · have hb := of_decide_eq_true hb
    show Re_product_6 rc (n + 1) a 1 (nI i) σ = _
    rw [Re_product_6, Re_product_6_B, if_neg (i300 hi), if_neg (show ¬ (1 : Int32) = 0 by decide), h8]
    have e : Re_product_19 rc (Re_product_6 rc n) a (nI i) σ = z_bd (Re_advance σ) (fun _ σ1 => z_bd (rc 4 a σ1) (fun r σ2 => z_bd (Te_put (nI k) σ2) (fun _ σ3 => Re_product_6 rc n a r (nI (i + 1)) σ3))) := by
      rw [Re_product_19, h8, show nI i + 1 = nI (i + 1) from nI_add _ 1]
    rcases hb with z | z
    · rw [if_pos (show nI k = 39 by rw [z]; rfl)]; exact e
    · rw [if_neg (show ¬ nI k = 39 from fun y => by have := (nI_eq (b := 39) (by omega) (by omega)).mp y; omega), if_pos (show nI k = 40 by rw [z]; rfl)]; exact e
theorem Lop_s (rc : Nat → Int32 → gx_R → Option (Int32 × gx_R)) (a : Int32) : Lop (fun n r i σ => Re_sum_6 rc n a r i σ) (rc 5 a) (fun k => decide (k = 37 ∨ k = 38)) := by
  refine ⟨fun n i σ => ?_, fun n i σ k hi hk h8 hb => ?_, fun n i σ k hi hk h8 hb => ?_⟩
  · show Re_sum_6 rc (n + 1) a 0 i σ = some (0, σ)
    rw [Re_sum_6, Re_sum_6_B, if_pos rfl, bo_0, w_ck, ite_self]
  · have hb := of_decide_eq_false hb
    show Re_sum_6 rc (n + 1) a 1 (nI i) σ = some (1, σ)
    rw [Re_sum_6, Re_sum_6_B, if_neg (i300 hi), if_neg (show ¬ (1 : Int32) = 0 by decide), h8, if_neg (show ¬ nI k = 37 from fun z => hb (Or.inl ((nI_eq (b := 37) (by omega) (by omega)).mp z))), if_neg (show ¬ nI k = 38 from fun z => hb (Or.inr ((nI_eq (b := 38) (by omega) (by omega)).mp z))), bo_1, w_ck]
  · have hb := of_decide_eq_true hb
    show Re_sum_6 rc (n + 1) a 1 (nI i) σ = _
    rw [Re_sum_6, Re_sum_6_B, if_neg (i300 hi), if_neg (show ¬ (1 : Int32) = 0 by decide), h8]
    have e : Re_sum_19 rc (Re_sum_6 rc n) a (nI i) σ = z_bd (Re_advance σ) (fun _ σ1 => z_bd (rc 5 a σ1) (fun r σ2 => z_bd (Te_put (nI k) σ2) (fun _ σ3 => Re_sum_6 rc n a r (nI (i + 1)) σ3))) := by
      rw [Re_sum_19, h8, show nI i + 1 = nI (i + 1) from nI_add _ 1]
    rcases hb with z | z
    · rw [if_pos (show nI k = 37 by rw [z]; rfl)]; exact e
    · rw [if_neg (show ¬ nI k = 37 from fun y => by have := (nI_eq (b := 37) (by omega) (by omega)).mp y; omega), if_pos (show nI k = 38 by rw [z]; rfl)]; exact e
theorem Lop_b (rc : Nat → Int32 → gx_R → Option (Int32 × gx_R)) (a : Int32) : Lop (fun n r i σ => Re_both_6 rc n a r i σ) (rc 0 a) (fun k => decide (k = 19)) := by
  refine ⟨fun n i σ => ?_, fun n i σ k hi hk h8 hb => ?_, fun n i σ k hi hk h8 hb => ?_⟩
  · show Re_both_6 rc (n + 1) a 0 i σ = some (0, σ)
    rw [Re_both_6, Re_both_6_B, if_pos rfl, bo_0, w_ck, ite_self]
  · have hb := of_decide_eq_false hb
    show Re_both_6 rc (n + 1) a 1 (nI i) σ = some (1, σ)
    rw [Re_both_6, Re_both_6_B, if_neg (i300 hi), if_neg (show ¬ (1 : Int32) = 0 by decide), h8, if_neg (show ¬ nI k = 19 from fun z => hb ((nI_eq (b := 19) (by omega) (by omega)).mp z)), bo_1, w_ck]
  · have hb := of_decide_eq_true hb
    subst hb
    show Re_both_6 rc (n + 1) a 1 (nI i) σ = _
    rw [Re_both_6, Re_both_6_B, if_neg (i300 hi), if_neg (show ¬ (1 : Int32) = 0 by decide), h8, if_pos (show nI 19 = 19 from rfl), show nI i + 1 = nI (i + 1) from nI_add _ 1]
    rfl
theorem Lop_e (rc : Nat → Int32 → gx_R → Option (Int32 × gx_R)) (a : Int32) : Lop (fun n r i σ => Re_either_6 rc n a r i σ) (rc 1 a) (fun k => decide (k = 18)) := by
  refine ⟨fun n i σ => ?_, fun n i σ k hi hk h8 hb => ?_, fun n i σ k hi hk h8 hb => ?_⟩
  · show Re_either_6 rc (n + 1) a 0 i σ = some (0, σ)
    rw [Re_either_6, Re_either_6_B, if_pos rfl, bo_0, w_ck, ite_self]
  · have hb := of_decide_eq_false hb
    show Re_either_6 rc (n + 1) a 1 (nI i) σ = some (1, σ)
    rw [Re_either_6, Re_either_6_B, if_neg (i300 hi), if_neg (show ¬ (1 : Int32) = 0 by decide), h8, if_neg (show ¬ nI k = 18 from fun z => hb ((nI_eq (b := 18) (by omega) (by omega)).mp z)), bo_1, w_ck]
  · have hb := of_decide_eq_true hb
    subst hb
    show Re_either_6 rc (n + 1) a 1 (nI i) σ = _
    rw [Re_either_6, Re_either_6_B, if_neg (i300 hi), if_neg (show ¬ (1 : Int32) = 0 by decide), h8, if_pos (show nI 18 = 18 from rfl), show nI i + 1 = nI (i + 1) from nI_add _ 1]
    rfl
def nop0 : Nat → Bool := fun _ => false
def nopP : Nat → Bool := fun k => nop0 k || decide (k = 39 ∨ k = 40)
def nopS : Nat → Bool := fun k => nopP k || decide (k = 37 ∨ k = 38)
def nopB : Nat → Bool := fun k => nop0 k || decide (k = 19)
def nopE : Nat → Bool := fun k => nopB k || decide (k = 18)
theorem nopS_v {k : Nat} (h : nopS k = false) : ¬ (37 ≤ k ∧ k ≤ 40) := by
  unfold nopS nopP at h
  have h1 := of_decide_eq_false (Bool.or_eq_false_iff.mp h).2
  have h2 := of_decide_eq_false (Bool.or_eq_false_iff.mp (Bool.or_eq_false_iff.mp h).1).2
  omega
theorem nopE_v {k : Nat} (h : nopE k = false) : k ≠ 18 ∧ k ≠ 19 := by
  unfold nopE nopB at h
  exact ⟨of_decide_eq_false (Bool.or_eq_false_iff.mp h).2, of_decide_eq_false (Bool.or_eq_false_iff.mp (Bool.or_eq_false_iff.mp h).1).2⟩
theorem prod_v {b : Nat → Nat} {nb T c0 r0 lw : Nat} {σ0 τ0 : gx_R} {d o : Nat} (h : Spec b nb T c0 r0 lw σ0 τ0 1 2 7 3 5 false nop0 (Re_rec d 4 (nI o)) o) : Spec b nb T c0 r0 lw σ0 τ0 1 2 7 3 4 false nopP (Re_rec (d + 1) 5 (nI o)) o := level_v kd_100 hop_p (Mst_g (fun k hk => ⟨(hop_p k hk).1, by have := of_decide_eq_true hk; omega, by have := of_decide_eq_true hk; omega⟩)) (Lop_p (Re_rec d) (nI o)) h (by omega) (by omega)
theorem sum_v {b : Nat → Nat} {nb T c0 r0 lw : Nat} {σ0 τ0 : gx_R} {d o : Nat} (h : Spec b nb T c0 r0 lw σ0 τ0 1 2 7 3 4 false nopP (Re_rec d 5 (nI o)) o) : Spec b nb T c0 r0 lw σ0 τ0 1 2 7 3 3 false nopS (Re_rec (d + 1) 6 (nI o)) o := level_v kd_100 hop_s (Mst_g (fun k hk => ⟨(hop_s k hk).1, by have := of_decide_eq_true hk; omega, by have := of_decide_eq_true hk; omega⟩)) (Lop_s (Re_rec d) (nI o)) h (by omega) (by omega)
theorem both_v {b : Nat → Nat} {nb T c0 r0 lw : Nat} {σ0 τ0 : gx_R} {d o : Nat} (h : Spec b nb T c0 r0 lw σ0 τ0 0 3 3 1 3 true nop0 (Re_rec d 0 (nI o)) o) : Spec b nb T c0 r0 lw σ0 τ0 0 3 3 1 2 true nopB (Re_rec (d + 1) 1 (nI o)) o := level_v kd_100 hop_b (Mst_t (fun k hk => ⟨(hop_b k hk).1, Or.inr (of_decide_eq_true hk)⟩)) (Lop_b (Re_rec d) (nI o)) h (by omega) (by omega)
theorem either_v {b : Nat → Nat} {nb T c0 r0 lw : Nat} {σ0 τ0 : gx_R} {d o : Nat} (h : Spec b nb T c0 r0 lw σ0 τ0 0 3 3 1 2 true nopB (Re_rec d 1 (nI o)) o) : Spec b nb T c0 r0 lw σ0 τ0 0 3 3 1 1 true nopE (Re_rec (d + 1) 3 (nI o)) o := level_v kd_100 hop_e (Mst_t (fun k hk => ⟨(hop_e k hk).1, Or.inl (of_decide_eq_true hk)⟩)) (Lop_e (Re_rec d) (nI o)) h (by omega) (by omega)
