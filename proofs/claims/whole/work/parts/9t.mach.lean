/-! ===== the reference's reading as a machine of lists ===== -/
def rk (k : Nat) : Nat := if k = 18 then 1 else if k = 19 then 2 else if k = 37 ∨ k = 38 then 3 else 4
/-- how the reference names an operation (class: the TOKEN kind, or 46) -/
def oI (k : Nat) : Nat := if k = 30 then 400 else if 21 ≤ k ∧ k ≤ 29 then 401 else if k = 46 then 402 else if k = 15 then 403 else if k = 16 then 404 else if k = 20 then 405 else if k = 19 then 406 else if k = 18 then 407 else if k = 43 then 408 else sI k
def vI (r0 k a : Nat) : Nat := if 21 ≤ k ∧ k ≤ 29 then k - 21 else if k = 15 ∨ k = 16 then (if a = 0 then 0 else r0 + a) else a
def opN : List (Nat × Nat) → Nat
  | [] => 0
  | f :: r => opN r + (if f.1 = 1 ∨ f.1 = 4 ∨ f.1 = 5 then 0 else 1)
def FrR (r0 : Nat) (τ : gx_R) : List (Nat × Nat) → Prop
  | [] => True
  | f :: r => (τ 121 r.length = nI f.1 ∧ f.1 < 100 ∧ (f.1 = 5 → τ 122 (r.length + 1) = nI (sI f.2)) ∧ (f.1 = 8 ∨ f.1 = 9 → τ 125 (r.length + 1) = nI (r0 + f.2))) ∧ FrR r0 τ r
def WsR (τ : gx_R) : List (Nat × Nat) → Prop
  | [] => True
  | w :: r => (τ 123 r.length = nI (oI w.1) ∧ τ 124 r.length = nI w.2 ∧ w.2 < 100 ∧ (w.1 = 18 ∨ w.1 = 19 ∨ (37 ≤ w.1 ∧ w.1 ≤ 40))) ∧ WsR τ r
def fset (f : Nat → Nat) (n x : Nat) : Nat → Nat := fun i => if i = n then x else f i
theorem fset_e (f : Nat → Nat) (n x : Nat) : fset f n x n = x := if_pos rfl
theorem fset_n (f : Nat → Nat) {n i : Nat} (x : Nat) (h : ¬ i = n) : fset f n x i = f i := if_neg h
def CdR (r0 : Nat) (τ : gx_R) (n : Nat) (ck ca : Nat → Nat) : Prop := ∀ i, i < n → τ 131 (r0 + i) = nI (oI (ck i)) ∧ τ 132 (r0 + i) = nI (vI r0 (ck i) (ca i))
def LexR (τ : gx_R) (b : Nat → Nat) (nb t : Nat) : Prop := tkS b nb t ≤ nb ∧ τ 109 16 = nI (tkS b nb t) ∧ τ 109 15 = nI (if tkS b nb t = nb then nb else tkE b nb (tkS b nb t)) ∧ KR (if tkS b nb t = nb then 44 else tkK b nb (tkS b nb t)) (tkN b nb (tkS b nb t)) (τ 109 17) (τ 109 18)
/-- cells that reading leaves alone -/
def RdF (r0 : Nat) (τ0 τ : gx_R) : Prop := (∀ c, c ≠ 109 → ¬ (121 ≤ c ∧ c ≤ 125) → c ≠ 131 → c ≠ 132 → τ c = τ0 c) ∧ (∀ i, i < r0 → τ 131 i = τ0 131 i ∧ τ 132 i = τ0 132 i) ∧ ∀ j, ¬ (15 ≤ j ∧ j ≤ 18) → j ≠ 21 → j ≠ 22 → j ≠ 25 → j ≠ 28 → j ≠ 37 → τ 109 j = τ0 109 j
def MR (b : Nat → Nat) (nb r0 : Nat) (τ0 τ : gx_R) (t : Nat) (fr ws : List (Nat × Nat)) (st n : Nat) (ck ca : Nat → Nat) : Prop :=
  TpM τ0 b nb ∧ (τ0 109 19 = 0 ∧ τ0 109 20 = -1) ∧ LexR τ b nb t ∧ (τ 109 21 = nI (opN fr) ∧ τ 109 22 = nI fr.length) ∧ FrR r0 τ fr ∧ τ 109 25 = nI ws.length ∧ WsR τ ws ∧ τ 109 28 = nI st ∧ τ 109 37 = nI (r0 + n) ∧ CdR r0 τ n ck ca ∧ RdF r0 τ0 τ
theorem FrR_c {r0 : Nat} {τ τ' : gx_R} : ∀ fr : List (Nat × Nat), (∀ i, i < fr.length → τ' 121 i = τ 121 i ∧ τ' 122 (i + 1) = τ 122 (i + 1) ∧ τ' 125 (i + 1) = τ 125 (i + 1)) → FrR r0 τ fr → FrR r0 τ' fr := by
  intro fr
  induction fr with
  | nil => intro _ _; exact trivial
  | cons f r ih =>
    intro h hf
    obtain ⟨⟨h1, h1b, h2, h3⟩, h4⟩ := hf
    obtain ⟨e1, e2, e3⟩ := h r.length (by rw [List.length_cons]; omega)
    exact ⟨⟨by rw [e1]; exact h1, h1b, fun z => by rw [e2]; exact h2 z, fun z => by rw [e3]; exact h3 z⟩, ih (fun i hi => h i (by rw [List.length_cons]; omega)) h4⟩
theorem WsR_c {τ τ' : gx_R} : ∀ ws : List (Nat × Nat), (∀ i, i < ws.length → τ' 123 i = τ 123 i ∧ τ' 124 i = τ 124 i) → WsR τ ws → WsR τ' ws := by
  intro ws
  induction ws with
  | nil => intro _ _; exact trivial
  | cons w r ih =>
    intro h hf
    obtain ⟨⟨h1, h2, h3⟩, h4⟩ := hf
    obtain ⟨e1, e2⟩ := h r.length (by rw [List.length_cons]; omega)
    exact ⟨⟨by rw [e1]; exact h1, by rw [e2]; exact h2, h3⟩, ih (fun i hi => h i (by rw [List.length_cons]; omega)) h4⟩
theorem LexR_c {τ τ' : gx_R} {b : Nat → Nat} {nb t : Nat} (h : ∀ j, 15 ≤ j → j ≤ 18 → τ' 109 j = τ 109 j) (hl : LexR τ b nb t) : LexR τ' b nb t := by
  unfold LexR at hl ⊢
  rw [h 15 (by omega) (by omega), h 16 (by omega) (by omega), h 17 (by omega) (by omega), h 18 (by omega) (by omega)]
  exact hl
theorem RdF_u {r0 : Nat} {τ0 τ : gx_R} {c j : Nat} {x : Int32} (hc : (c = 109 ∧ ((15 ≤ j ∧ j ≤ 18) ∨ j = 21 ∨ j = 22 ∨ j = 25 ∨ j = 28 ∨ j = 37)) ∨ (121 ≤ c ∧ c ≤ 125) ∨ ((c = 131 ∨ c = 132) ∧ r0 ≤ j)) (h : RdF r0 τ0 τ) : RdF r0 τ0 (gx_up τ c j x) := by
  obtain ⟨h1, h2, h3⟩ := h
  refine ⟨fun k k1 k2 k3 k4 => ?_, fun i hi => ⟨?_, ?_⟩, fun k k1 k2 k3 k4 k5 k6 => ?_⟩
  · rw [gx_up_ne (by omega)]; exact h1 k k1 k2 k3 k4
  · by_cases z : c = 131
    · subst z; rw [up_p _ _ _ (by omega)]; exact (h2 i hi).1
    · rw [up_c _ _ _ _ (fun y => z y.symm)]; exact (h2 i hi).1
  · by_cases z : c = 132
    · subst z; rw [up_p _ _ _ (by omega)]; exact (h2 i hi).2
    · rw [up_c _ _ _ _ (fun y => z y.symm)]; exact (h2 i hi).2
  · by_cases z : c = 109
    · subst z; rw [up_p _ _ _ (by omega)]; exact h3 k k1 k2 k3 k4 k5 k6
    · rw [up_c _ _ _ _ (fun y => z y.symm)]; exact h3 k k1 k2 k3 k4 k5 k6
/-! one piece of work each -/
theorem A_emit {b : Nat → Nat} {nb r0 : Nat} {τ0 τ : gx_R} {t : Nat} {fr ws : List (Nat × Nat)} {st n k a : Nat} {ck ca : Nat → Nat} {o v : Int32} (h : MR b nb r0 τ0 τ t fr ws st n ck ca) (hn : r0 + n < 400) (ho : o = nI (oI k)) (hv : v = nI (vI r0 k a)) : ∃ τ', Md_emits o v τ = some ((), τ') ∧ MR b nb r0 τ0 τ' t fr ws st (n + 1) (fset ck n k) (fset ca n a) := by
  obtain ⟨m1, m2, m3, ⟨m4, m5⟩, m6, m7, m8, m9, m10, m11, m12⟩ := h
  refine ⟨gx_up (gx_up (gx_up τ 131 (r0 + n) o) 132 (r0 + n) v) 109 37 (nI (r0 + n + 1)), ?_, m1, m2, LexR_c (fun j _ _ => by rw [up_p _ _ _ (by omega), up_c _ _ _ _ (by omega), up_c _ _ _ _ (by omega)]) m3, ⟨by rw [up_p _ _ _ (by omega), up_c _ _ _ _ (by omega), up_c _ _ _ _ (by omega)]; exact m4, by rw [up_p _ _ _ (by omega), up_c _ _ _ _ (by omega), up_c _ _ _ _ (by omega)]; exact m5⟩, FrR_c fr (fun i _ => ⟨by rw [up_c _ _ _ _ (by omega), up_c _ _ _ _ (by omega), up_c _ _ _ _ (by omega)], by rw [up_c _ _ _ _ (by omega), up_c _ _ _ _ (by omega), up_c _ _ _ _ (by omega)], by rw [up_c _ _ _ _ (by omega), up_c _ _ _ _ (by omega), up_c _ _ _ _ (by omega)]⟩) m6, by rw [up_p _ _ _ (by omega), up_c _ _ _ _ (by omega), up_c _ _ _ _ (by omega)]; exact m7, WsR_c ws (fun i _ => ⟨by rw [up_c _ _ _ _ (by omega), up_c _ _ _ _ (by omega), up_c _ _ _ _ (by omega)], by rw [up_c _ _ _ _ (by omega), up_c _ _ _ _ (by omega), up_c _ _ _ _ (by omega)]⟩) m8, by rw [up_p _ _ _ (by omega), up_c _ _ _ _ (by omega), up_c _ _ _ _ (by omega)]; exact m9, by rw [up_e]; rfl, fun i hi => ?_, RdF_u (Or.inl ⟨rfl, by omega⟩) (RdF_u (Or.inr (Or.inr ⟨Or.inr rfl, by omega⟩)) (RdF_u (Or.inr (Or.inr ⟨Or.inl rfl, by omega⟩)) m12))⟩
  · rw [Md_emits, m10, ix_n (by omega), decide_eq_true hn, w_ck, cl_n (by omega), up_c _ _ _ _ (show (109 : Nat) ≠ 131 by omega), m10, ix_n (by omega), decide_eq_true hn, w_ck, cl_n (by omega), up_c _ _ _ _ (show (109 : Nat) ≠ 132 by omega), up_c _ _ _ _ (show (109 : Nat) ≠ 131 by omega), m10, show nI (r0 + n) + 1 = nI (r0 + n + 1) from nI_add _ 1]
  · rw [up_c _ _ _ _ (show (131 : Nat) ≠ 109 by omega), up_c _ _ _ _ (show (131 : Nat) ≠ 132 by omega), up_c _ _ _ _ (show (132 : Nat) ≠ 109 by omega)]
    by_cases z : i = n
    · rw [z, up_e, up_e, fset_e, fset_e]; exact ⟨ho, hv⟩
    · rw [up_p _ _ _ (by omega), up_p _ _ _ (by omega), up_c _ _ _ _ (show (132 : Nat) ≠ 131 by omega), fset_n _ _ z, fset_n _ _ z]; exact m11 i (by omega)
theorem A_next {b : Nat → Nat} {nb r0 : Nat} {τ0 τ : gx_R} {t : Nat} {fr ws : List (Nat × Nat)} {st n : Nat} {ck ca : Nat → Nat} (h : MR b nb r0 τ0 τ t fr ws st n ck ca) (ht : tkS b nb t < nb) : ∃ τ', Md_next τ = some ((), τ') ∧ MR b nb r0 τ0 τ' (t + 1) fr ws st n ck ca := by
  obtain ⟨m1, m2, m3, ⟨m4, m5⟩, m6, m7, m8, m9, m10, m11, m12⟩ := h
  have e := tkE_b (b := b) ht
  have hT : TpM τ b nb := TpM_c (m12.1 112 (by omega) (by omega) (by omega) (by omega)) (m12.2.2 14 (by omega) (by omega) (by omega) (by omega) (by omega) (by omega)) m1
  have h15 := m3.2.2.1
  rw [if_neg (by omega)] at h15
  obtain ⟨τ', n1, n2, n3, n4, n5⟩ := nxt_v hT e.2 h15
  have hb := tkR_b (P := isK) (b := b) (n := nb) (nb - tkE b nb (tkS b nb t)) (tkE b nb (tkS b nb t)) (by omega)
  refine ⟨τ', n1, m1, m2, ⟨hb.2.1, n3, n4, n5⟩, ⟨by rw [n2.2 21 (by omega)]; exact m4, by rw [n2.2 22 (by omega)]; exact m5⟩, FrR_c fr (fun i _ => by rw [n2.1 121 (by omega), n2.1 122 (by omega), n2.1 125 (by omega)]; exact ⟨rfl, rfl, rfl⟩) m6, by rw [n2.2 25 (by omega)]; exact m7, WsR_c ws (fun i _ => by rw [n2.1 123 (by omega), n2.1 124 (by omega)]; exact ⟨rfl, rfl⟩) m8, by rw [n2.2 28 (by omega)]; exact m9, by rw [n2.2 37 (by omega)]; exact m10, fun i hi => by rw [n2.1 131 (by omega), n2.1 132 (by omega)]; exact m11 i hi, fun c c1 c2 c3 c4 => by rw [n2.1 c c1]; exact m12.1 c c1 c2 c3 c4, fun i hi => by rw [n2.1 131 (by omega), n2.1 132 (by omega)]; exact m12.2.1 i hi, fun j j1 j2 j3 j4 j5 j6 => by rw [n2.2 j j1]; exact m12.2.2 j j1 j2 j3 j4 j5 j6⟩
theorem A_state {b : Nat → Nat} {nb r0 : Nat} {τ0 τ : gx_R} {t : Nat} {fr ws : List (Nat × Nat)} {st n : Nat} {ck ca : Nat → Nat} (h : MR b nb r0 τ0 τ t fr ws st n ck ca) (s : Nat) : MR b nb r0 τ0 (gx_up τ 109 28 (nI s)) t fr ws s n ck ca := by
  obtain ⟨m1, m2, m3, ⟨m4, m5⟩, m6, m7, m8, m9, m10, m11, m12⟩ := h
  exact ⟨m1, m2, LexR_c (fun j _ _ => up_p _ _ _ (by omega)) m3, ⟨by rw [up_p _ _ _ (by omega)]; exact m4, by rw [up_p _ _ _ (by omega)]; exact m5⟩, FrR_c fr (fun i _ => ⟨up_c _ _ _ _ (by omega), up_c _ _ _ _ (by omega), up_c _ _ _ _ (by omega)⟩) m6, by rw [up_p _ _ _ (by omega)]; exact m7, WsR_c ws (fun i _ => ⟨up_c _ _ _ _ (by omega), up_c _ _ _ _ (by omega)⟩) m8, up_e _ _ _ _, by rw [up_p _ _ _ (by omega)]; exact m10, fun i hi => by rw [up_c _ _ _ _ (by omega), up_c _ _ _ _ (by omega)]; exact m11 i hi, RdF_u (Or.inl ⟨rfl, by omega⟩) m12⟩
theorem A_top {b : Nat → Nat} {nb r0 : Nat} {τ0 τ : gx_R} {t : Nat} {f : Nat × Nat} {fr ws : List (Nat × Nat)} {st n : Nat} {ck ca : Nat → Nat} (h : MR b nb r0 τ0 τ t (f :: fr) ws st n ck ca) (hl : fr.length < 39) : Md_top τ = some (nI f.1, τ) := by
  obtain ⟨m1, m2, m3, ⟨m4, m5⟩, ⟨⟨m6, -⟩, -⟩, -⟩ := h
  rw [List.length_cons] at m5
  rw [Md_top, m5, n_sub1 (by omega), show fr.length + 1 - 1 = fr.length by omega, ix_n (by omega), decide_eq_true (show fr.length < 40 by omega), w_ck, cl_n (by omega), m6]
/-- a frame more; it counts as open where it does -/
theorem A_push {b : Nat → Nat} {nb r0 : Nat} {τ0 τ : gx_R} {t : Nat} {fr ws : List (Nat × Nat)} {st n x : Nat} {ck ca : Nat → Nat} (h : MR b nb r0 τ0 τ t fr ws st n ck ca) (hl : fr.length < 39) (hx : x < 8 ∧ x ≠ 5) (ho : (x = 1 ∨ x = 4) ∨ (¬ (x = 1 ∨ x = 4))) : ∃ τ', Md_opensFrame (nI x) (if x = 1 ∨ x = 4 then τ else gx_up τ 109 21 (nI (opN fr) + 1)) = some ((), τ') ∧ MR b nb r0 τ0 τ' t ((x, 0) :: fr) ws st n ck ca := by
  obtain ⟨m1, m2, m3, ⟨m4, m5⟩, m6, m7, m8, m9, m10, m11, m12⟩ := h
  obtain ⟨τ1, h1⟩ : ∃ τ1, τ1 = (if x = 1 ∨ x = 4 then τ else gx_up τ 109 21 (nI (opN fr) + 1)) := ⟨_, rfl⟩
  have k1 : ∀ c, c ≠ 109 → τ1 c = τ c := fun c hc => by
    rw [h1]
    split
    · rfl
    · rw [gx_up_ne hc]
  have k2 : ∀ j, j ≠ 21 → τ1 109 j = τ 109 j := fun j hj => by
    rw [h1]
    split
    · rfl
    · rw [up_p _ _ _ hj]
  have k3 : τ1 109 21 = nI (opN ((x, 0) :: fr)) := by
    rw [h1, opN]
    by_cases c : x = 1 ∨ x = 4
    · rw [if_pos c, if_pos (by omega), Nat.add_zero]; exact m4
    · rw [if_neg c, up_e, if_neg (by omega)]; exact nI_add _ 1
  have k4 : RdF r0 τ0 τ1 := by
    rw [h1]
    split
    · exact m12
    · exact RdF_u (Or.inl ⟨rfl, by omega⟩) m12
  rw [← h1]
  refine ⟨gx_up (gx_up τ1 121 fr.length (nI x)) 109 22 (nI (fr.length + 1)), ?_, m1, m2, LexR_c (fun j _ _ => by rw [up_p _ _ _ (by omega), up_c _ _ _ _ (by omega), k2 j (by omega)]) m3, ⟨by rw [up_p _ _ _ (by omega), up_c _ _ _ _ (by omega)]; exact k3, by rw [up_e, List.length_cons]⟩, ⟨⟨by rw [up_c _ _ _ _ (by omega), up_e], by show x < 100; omega, fun z => absurd z hx.2, fun z => by have z : x = 8 ∨ x = 9 := z; omega⟩, FrR_c fr (fun i hi => ⟨by rw [up_c _ _ _ _ (by omega), up_p _ _ _ (by omega), k1 121 (by omega)], by rw [up_c _ _ _ _ (by omega), up_c _ _ _ _ (by omega), k1 122 (by omega)], by rw [up_c _ _ _ _ (by omega), up_c _ _ _ _ (by omega), k1 125 (by omega)]⟩) m6⟩, by rw [up_p _ _ _ (by omega), up_c _ _ _ _ (by omega), k2 25 (by omega)]; exact m7, WsR_c ws (fun i _ => ⟨by rw [up_c _ _ _ _ (by omega), up_c _ _ _ _ (by omega), k1 123 (by omega)], by rw [up_c _ _ _ _ (by omega), up_c _ _ _ _ (by omega), k1 124 (by omega)]⟩) m8, by rw [up_p _ _ _ (by omega), up_c _ _ _ _ (by omega), k2 28 (by omega)]; exact m9, by rw [up_p _ _ _ (by omega), up_c _ _ _ _ (by omega), k2 37 (by omega)]; exact m10, fun i hi => by rw [up_c _ _ _ _ (by omega), up_c _ _ _ _ (by omega), up_c _ _ _ _ (by omega), up_c _ _ _ _ (by omega), k1 131 (by omega), k1 132 (by omega)]; exact m11 i hi, RdF_u (Or.inl ⟨rfl, by omega⟩) (RdF_u (Or.inr (Or.inl ⟨by omega, by omega⟩)) k4)⟩
  rw [Md_opensFrame, k2 22 (by omega), m5, ix_n (by omega), decide_eq_true (show fr.length < 40 by omega), w_ck, cl_n (by omega), up_c _ _ _ _ (show (109 : Nat) ≠ 121 by omega), k2 22 (by omega), m5, show nI fr.length + 1 = nI (fr.length + 1) from nI_add _ 1]
/-- a frame less -/
theorem A_pop {b : Nat → Nat} {nb r0 : Nat} {τ0 τ : gx_R} {t : Nat} {f : Nat × Nat} {fr ws : List (Nat × Nat)} {st n : Nat} {ck ca : Nat → Nat} (h : MR b nb r0 τ0 τ t (f :: fr) ws st n ck ca) (hf : ¬ (f.1 = 1 ∨ f.1 = 4 ∨ f.1 = 5)) : MR b nb r0 τ0 (gx_up (gx_up τ 109 22 (nI fr.length)) 109 21 (nI (opN fr))) t fr ws st n ck ca := by
  obtain ⟨m1, m2, m3, ⟨m4, m5⟩, m6, m7, m8, m9, m10, m11, m12⟩ := h
  exact ⟨m1, m2, LexR_c (fun j _ _ => by rw [up_p _ _ _ (by omega), up_p _ _ _ (by omega)]) m3, ⟨up_e _ _ _ _, by rw [up_p _ _ _ (by omega), up_e]⟩, FrR_c fr (fun i _ => ⟨by rw [up_c _ _ _ _ (by omega), up_c _ _ _ _ (by omega)], by rw [up_c _ _ _ _ (by omega), up_c _ _ _ _ (by omega)], by rw [up_c _ _ _ _ (by omega), up_c _ _ _ _ (by omega)]⟩) m6.2, by rw [up_p _ _ _ (by omega), up_p _ _ _ (by omega)]; exact m7, WsR_c ws (fun i _ => ⟨by rw [up_c _ _ _ _ (by omega), up_c _ _ _ _ (by omega)], by rw [up_c _ _ _ _ (by omega), up_c _ _ _ _ (by omega)]⟩) m8, by rw [up_p _ _ _ (by omega), up_p _ _ _ (by omega)]; exact m9, by rw [up_p _ _ _ (by omega), up_p _ _ _ (by omega)]; exact m10, fun i hi => by rw [up_c _ _ _ _ (by omega), up_c _ _ _ _ (by omega), up_c _ _ _ _ (by omega), up_c _ _ _ _ (by omega)]; exact m11 i hi, RdF_u (Or.inl ⟨rfl, by omega⟩) (RdF_u (Or.inl ⟨rfl, by omega⟩) m12)⟩
theorem A_popR {b : Nat → Nat} {nb r0 : Nat} {τ0 τ : gx_R} {t : Nat} {f : Nat × Nat} {fr ws : List (Nat × Nat)} {st n : Nat} {ck ca : Nat → Nat} (h : MR b nb r0 τ0 τ t (f :: fr) ws st n ck ca) (hf : f.1 = 5) : MR b nb r0 τ0 (gx_up τ 109 22 (nI fr.length)) t fr ws st n ck ca := by
  obtain ⟨m1, m2, m3, ⟨m4, m5⟩, m6, m7, m8, m9, m10, m11, m12⟩ := h
  rw [opN, if_pos (by omega), Nat.add_zero] at m4
  exact ⟨m1, m2, LexR_c (fun j _ _ => by rw [up_p _ _ _ (by omega)]) m3, ⟨by rw [up_p _ _ _ (by omega)]; exact m4, up_e _ _ _ _⟩, FrR_c fr (fun i _ => ⟨by rw [up_c _ _ _ _ (by omega)], by rw [up_c _ _ _ _ (by omega)], by rw [up_c _ _ _ _ (by omega)]⟩) m6.2, by rw [up_p _ _ _ (by omega)]; exact m7, WsR_c ws (fun i _ => ⟨by rw [up_c _ _ _ _ (by omega)], by rw [up_c _ _ _ _ (by omega)]⟩) m8, by rw [up_p _ _ _ (by omega)]; exact m9, by rw [up_p _ _ _ (by omega)]; exact m10, fun i hi => by rw [up_c _ _ _ _ (by omega), up_c _ _ _ _ (by omega)]; exact m11 i hi, RdF_u (Or.inl ⟨rfl, by omega⟩) m12⟩
/-! what waits is emitted -/
def fl (r F : Nat) : List (Nat × Nat) → List (Nat × Nat) × List Nat
  | [] => ([], [])
  | w :: ws => if w.2 = F ∧ r ≤ rk w.1 then ((fl r F ws).1, w.1 :: (fl r F ws).2) else (w :: ws, [])
/-- the code with these behind it -/
def emK : Nat → (Nat → Nat) → List Nat → Nat → Nat
  | _, ck, [] => ck
  | n, ck, k :: l => emK (n + 1) (fset ck n k) l
def emA : Nat → (Nat → Nat) → List Nat → Nat → Nat
  | _, ca, [] => ca
  | n, ca, _ :: l => emA (n + 1) (fset ca n 0) l
theorem rank_v (k : Nat) (hk : k = 18 ∨ k = 19 ∨ (37 ≤ k ∧ k ≤ 40)) (τ : gx_R) : Md_rank (nI (oI k)) τ = some (nI (rk k), τ) := by
  rcases (show k = 18 ∨ k = 19 ∨ k = 37 ∨ k = 38 ∨ k = 39 ∨ k = 40 by omega) with h | h | h | h | h | h <;> rw [h] <;> rfl
theorem A_unwait {b : Nat → Nat} {nb r0 : Nat} {τ0 τ : gx_R} {t : Nat} {w : Nat × Nat} {fr ws : List (Nat × Nat)} {st n : Nat} {ck ca : Nat → Nat} (h : MR b nb r0 τ0 τ t fr (w :: ws) st n ck ca) : MR b nb r0 τ0 (gx_up τ 109 25 (nI ws.length)) t fr ws st n ck ca := by
  obtain ⟨m1, m2, m3, ⟨m4, m5⟩, m6, m7, m8, m9, m10, m11, m12⟩ := h
  exact ⟨m1, m2, LexR_c (fun j _ _ => up_p _ _ _ (by omega)) m3, ⟨by rw [up_p _ _ _ (by omega)]; exact m4, by rw [up_p _ _ _ (by omega)]; exact m5⟩, FrR_c fr (fun i _ => ⟨up_c _ _ _ _ (by omega), up_c _ _ _ _ (by omega), up_c _ _ _ _ (by omega)⟩) m6, up_e _ _ _ _, WsR_c ws (fun i _ => ⟨up_c _ _ _ _ (by omega), up_c _ _ _ _ (by omega)⟩) m8.2, by rw [up_p _ _ _ (by omega)]; exact m9, by rw [up_p _ _ _ (by omega)]; exact m10, fun i hi => by rw [up_c _ _ _ _ (by omega), up_c _ _ _ _ (by omega)]; exact m11 i hi, RdF_u (Or.inl ⟨rfl, by omega⟩) m12⟩
theorem rk_4 (k : Nat) : rk k ≤ 4 := by
  unfold rk
  repeat' split
  all_goals omega
theorem rk_1 (k : Nat) : 1 ≤ rk k := by
  unfold rk
  repeat' split
  all_goals omega
theorem vI_0 {r0 k : Nat} (hk : k = 18 ∨ k = 19 ∨ (37 ≤ k ∧ k ≤ 40)) : vI r0 k 0 = 0 := by
  unfold vI
  rw [if_neg (by omega), if_neg (by omega)]
theorem A_works {b : Nat → Nat} {nb r0 r : Nat} {τ0 : gx_R} {t : Nat} {fr : List (Nat × Nat)} {st : Nat} (hr : r ≤ 4) (hfr : fr.length < 100) : ∀ (ws : List (Nat × Nat)) f n ck ca τ, ws.length < f → r0 + n + ws.length ≤ 400 → ws.length ≤ 80 → MR b nb r0 τ0 τ t fr ws st n ck ca → ∃ τ', Md_works_0 f (nI r) τ = some ((), τ') ∧ MR b nb r0 τ0 τ' t fr (fl r fr.length ws).1 st (n + (fl r fr.length ws).2.length) (emK n ck (fl r fr.length ws).2) (emA n ca (fl r fr.length ws).2) := by
  intro ws
  induction ws with
  | nil =>
    intro f n ck ca τ h1 h2 h3 h
    obtain ⟨f, rfl⟩ : ∃ q, f = q + 1 := ⟨f - 1, by omega⟩
    refine ⟨τ, ?_, h⟩
    have h25 : τ 109 25 = nI 0 := h.2.2.2.2.2.1
    rw [Md_works_0, Md_works_0_B, h25, if_pos (show nI 0 ≤ 0 by decide)]
  | cons w ws ih =>
    intro f n ck ca τ h1 h2 h3 h
    obtain ⟨f, rfl⟩ : ∃ q, f = q + 1 := ⟨f - 1, by omega⟩
    rw [List.length_cons] at h1 h2 h3
    have h25 : τ 109 25 = nI (ws.length + 1) := h.2.2.2.2.2.1
    obtain ⟨⟨w1, w2, w3, w4⟩, w5⟩ := h.2.2.2.2.2.2.1
    have h22 : τ 109 22 = nI fr.length := h.2.2.2.1.2
    have hrk := rk_4 w.1
    rw [Md_works_0, Md_works_0_B, h25, if_neg (fun z => by have := (n_le0 (by omega)).mp z; omega), n_sub1 (by omega), show ws.length + 1 - 1 = ws.length by omega, ix_n (by omega), decide_eq_true (show ws.length < 80 by omega), w_ck, cl_n (by omega), w2, h22, w_ck, w1, rank_v _ w4, w_bd, fl]
    by_cases c1 : w.2 = fr.length
    · rw [if_pos (by rw [c1])]
      by_cases c2 : r ≤ rk w.1
      · obtain ⟨τ1, e1, e2⟩ := A_emit (k := w.1) (a := 0) (o := nI (oI w.1)) (v := 0) (A_unwait h) (by omega) rfl (by rw [vI_0 w4]; rfl)
        obtain ⟨τ2, i1, i2⟩ := ih f (n + 1) _ _ τ1 (by omega) (by omega) (by omega) e2
        refine ⟨τ2, ?_, ?_⟩
        · rw [if_neg (fun z => by have := (nI_ltI (by omega) (by omega)).mp z; omega), h25, n_sub1 (by omega), show ws.length + 1 - 1 = ws.length by omega, up_e, ix_n (by omega), decide_eq_true (show ws.length < 80 by omega), w_ck, cl_n (by omega), up_c _ _ _ _ (show (123 : Nat) ≠ 109 by omega), w1, e1, w_bd]
          exact i1
        · rw [if_pos ⟨c1, c2⟩]
          show MR b nb r0 τ0 τ2 t fr (fl r fr.length ws).1 st (n + ((fl r fr.length ws).2.length + 1)) _ _
          rw [show n + ((fl r fr.length ws).2.length + 1) = n + 1 + (fl r fr.length ws).2.length by omega]
          exact i2
      · refine ⟨τ, ?_, ?_⟩
        · rw [if_pos ((nI_ltI (by omega) (by omega)).mpr (by omega))]
        · rw [if_neg (fun z => c2 z.2)]; exact h
    · refine ⟨τ, ?_, ?_⟩
      · rw [if_neg (fun z => c1 ((nI_eq (by omega) (by omega)).mp z))]
      · rw [if_neg (fun z => c1 z.1)]; exact h
theorem A_wait {b : Nat → Nat} {nb r0 : Nat} {τ0 τ : gx_R} {t : Nat} {fr ws : List (Nat × Nat)} {st n k : Nat} {ck ca : Nat → Nat} (h : MR b nb r0 τ0 τ t fr ws st n ck ca) (hk : k = 18 ∨ k = 19 ∨ (37 ≤ k ∧ k ≤ 40)) (hfr : fr.length < 100) : MR b nb r0 τ0 (gx_up (gx_up (gx_up τ 123 ws.length (nI (oI k))) 124 ws.length (nI fr.length)) 109 25 (nI (ws.length + 1))) t fr ((k, fr.length) :: ws) st n ck ca := by
  obtain ⟨m1, m2, m3, ⟨m4, m5⟩, m6, m7, m8, m9, m10, m11, m12⟩ := h
  have k1 : ∀ c, c ≠ 109 → c ≠ 123 → c ≠ 124 → gx_up (gx_up (gx_up τ 123 ws.length (nI (oI k))) 124 ws.length (nI fr.length)) 109 25 (nI (ws.length + 1)) c = τ c := fun c c1 c2 c3 => by rw [gx_up_ne c1, gx_up_ne c3, gx_up_ne c2]
  have k2 : ∀ j, j ≠ 25 → gx_up (gx_up (gx_up τ 123 ws.length (nI (oI k))) 124 ws.length (nI fr.length)) 109 25 (nI (ws.length + 1)) 109 j = τ 109 j := fun j hj => by rw [up_p _ _ _ hj, up_c _ _ _ _ (by omega), up_c _ _ _ _ (by omega)]
  exact ⟨m1, m2, LexR_c (fun j _ _ => k2 j (by omega)) m3, ⟨by rw [k2 21 (by omega)]; exact m4, by rw [k2 22 (by omega)]; exact m5⟩, FrR_c fr (fun i _ => by rw [k1 121 (by omega) (by omega) (by omega), k1 122 (by omega) (by omega) (by omega), k1 125 (by omega) (by omega) (by omega)]; exact ⟨rfl, rfl, rfl⟩) m6, up_e _ _ _ _, ⟨⟨by rw [up_c _ _ _ _ (by omega), up_c _ _ _ _ (by omega), up_e], by rw [up_c _ _ _ _ (by omega), up_e], hfr, hk⟩, WsR_c ws (fun i hi => ⟨by rw [up_c _ _ _ _ (by omega), up_c _ _ _ _ (by omega), up_p _ _ _ (by omega)], by rw [up_c _ _ _ _ (by omega), up_p _ _ _ (by omega), up_c _ _ _ _ (by omega)]⟩) m8⟩, by rw [k2 28 (by omega)]; exact m9, by rw [k2 37 (by omega)]; exact m10, fun i hi => by rw [k1 131 (by omega) (by omega) (by omega), k1 132 (by omega) (by omega) (by omega)]; exact m11 i hi, RdF_u (Or.inl ⟨rfl, by omega⟩) (RdF_u (Or.inr (Or.inl ⟨by omega, by omega⟩)) (RdF_u (Or.inr (Or.inl ⟨by omega, by omega⟩)) m12))⟩
/-- an operation waits for what comes -/
theorem A_waitsFor {b : Nat → Nat} {nb r0 : Nat} {τ0 τ : gx_R} {t : Nat} {fr ws : List (Nat × Nat)} {st n k : Nat} {ck ca : Nat → Nat} (h : MR b nb r0 τ0 τ t fr ws st n ck ca) (hk : k = 18 ∨ k = 19 ∨ (37 ≤ k ∧ k ≤ 40)) (hfr : fr.length < 40) (hws : ws.length < 80) (hn : r0 + n + ws.length ≤ 400) (ht : tkS b nb t < nb) (hfl : (fl (rk k) fr.length ws).1.length ≤ ws.length) : ∃ τ', Md_waitsFor (nI (oI k)) τ = some ((), τ') ∧ MR b nb r0 τ0 τ' (t + 1) fr ((k, fr.length) :: (fl (rk k) fr.length ws).1) st (n + (fl (rk k) fr.length ws).2.length) (emK n ck (fl (rk k) fr.length ws).2) (emA n ca (fl (rk k) fr.length ws).2) := by
  obtain ⟨τ1, w1, w2⟩ := A_works (r := rk k) (rk_4 k) (show fr.length < 100 by omega) ws z_FU n ck ca τ (by have := z_FU_ge; omega) hn (by omega) h
  have w1 : Md_works (nI (rk k)) τ = some ((), τ1) := w1
  have h25 : τ1 109 25 = nI (fl (rk k) fr.length ws).1.length := w2.2.2.2.2.2.1
  have h22 : τ1 109 22 = nI fr.length := w2.2.2.2.1.2
  obtain ⟨τ2, n1, n2⟩ := A_next (A_wait w2 hk (by omega)) ht
  refine ⟨τ2, ?_, n2⟩
  rw [Md_waitsFor, rank_v k hk, w_bd, w1, w_bd, h25, ix_n (by omega), decide_eq_true (show (fl (rk k) fr.length ws).1.length < 80 by omega), w_ck, cl_n (by omega), up_c _ _ _ _ (show (109 : Nat) ≠ 123 by omega), up_c _ _ _ _ (show (109 : Nat) ≠ 123 by omega), h25, h22, ix_n (by omega), decide_eq_true (show (fl (rk k) fr.length ws).1.length < 80 by omega), w_ck, cl_n (by omega), up_c _ _ _ _ (show (109 : Nat) ≠ 124 by omega), up_c _ _ _ _ (show (109 : Nat) ≠ 123 by omega), h25, show nI (fl (rk k) fr.length ws).1.length + 1 = nI ((fl (rk k) fr.length ws).1.length + 1) from nI_add _ 1, n1, w_bd]
theorem A_patch {b : Nat → Nat} {nb r0 : Nat} {τ0 τ : gx_R} {t : Nat} {fr ws : List (Nat × Nat)} {st n j a : Nat} {ck ca : Nat → Nat} (h : MR b nb r0 τ0 τ t fr ws st n ck ca) (hj : ck j = 15 ∨ ck j = 16) (ha : a ≠ 0) : MR b nb r0 τ0 (gx_up τ 132 (r0 + j) (nI (r0 + a))) t fr ws st n ck (fset ca j a) := by
  obtain ⟨m1, m2, m3, ⟨m4, m5⟩, m6, m7, m8, m9, m10, m11, m12⟩ := h
  have k1 : ∀ c, c ≠ 132 → gx_up τ 132 (r0 + j) (nI (r0 + a)) c = τ c := fun c c1 => gx_up_ne c1
  refine ⟨m1, m2, LexR_c (fun i _ _ => by rw [k1 109 (by omega)]) m3, ⟨by rw [k1 109 (by omega)]; exact m4, by rw [k1 109 (by omega)]; exact m5⟩, FrR_c fr (fun i _ => by rw [k1 121 (by omega), k1 122 (by omega), k1 125 (by omega)]; exact ⟨rfl, rfl, rfl⟩) m6, by rw [k1 109 (by omega)]; exact m7, WsR_c ws (fun i _ => by rw [k1 123 (by omega), k1 124 (by omega)]; exact ⟨rfl, rfl⟩) m8, by rw [k1 109 (by omega)]; exact m9, by rw [k1 109 (by omega)]; exact m10, fun i hi => ?_, RdF_u (Or.inr (Or.inr ⟨Or.inr rfl, by omega⟩)) m12⟩
  rw [k1 131 (by omega)]
  refine ⟨(m11 i hi).1, ?_⟩
  by_cases z : i = j
  · rw [z, up_e, fset_e]
    unfold vI
    rw [if_neg (by omega), if_pos hj, if_neg ha]
  · rw [up_p _ _ _ (by omega), fset_n _ _ z]; exact (m11 i hi).2
theorem A_right {b : Nat → Nat} {nb r0 : Nat} {τ0 τ : gx_R} {t i k : Nat} {fr ws : List (Nat × Nat)} {st n : Nat} {ck ca : Nat → Nat} {x : Int32} (h : MR b nb r0 τ0 τ t ((4, i) :: fr) ws st n ck ca) (hx : x = nI (sI k)) : MR b nb r0 τ0 (gx_up (gx_up τ 122 (fr.length + 1) x) 121 fr.length 5) t ((5, k) :: fr) ws st n ck ca := by
  obtain ⟨m1, m2, m3, ⟨m4, m5⟩, m6, m7, m8, m9, m10, m11, m12⟩ := h
  have k1 : ∀ c, c ≠ 121 → c ≠ 122 → gx_up (gx_up τ 122 (fr.length + 1) x) 121 fr.length 5 c = τ c := fun c c1 c2 => by rw [gx_up_ne c1, gx_up_ne c2]
  exact ⟨m1, m2, LexR_c (fun i _ _ => by rw [k1 109 (by omega) (by omega)]) m3, ⟨by rw [k1 109 (by omega) (by omega)]; exact m4, by rw [k1 109 (by omega) (by omega)]; exact m5⟩, ⟨⟨up_e _ _ _ _, by show (5 : Nat) < 100; omega, fun _ => by rw [up_c _ _ _ _ (by omega), up_e]; exact hx, fun z => by have z : (5 : Nat) = 8 ∨ (5 : Nat) = 9 := z; omega⟩, FrR_c fr (fun i hi => ⟨by rw [up_p _ _ _ (by omega), up_c _ _ _ _ (by omega)], by rw [up_c _ _ _ _ (by omega), up_p _ _ _ (by omega)], by rw [up_c _ _ _ _ (by omega), up_c _ _ _ _ (by omega)]⟩) m6.2⟩, by rw [k1 109 (by omega) (by omega)]; exact m7, WsR_c ws (fun i _ => by rw [k1 123 (by omega) (by omega), k1 124 (by omega) (by omega)]; exact ⟨rfl, rfl⟩) m8, by rw [k1 109 (by omega) (by omega)]; exact m9, by rw [k1 109 (by omega) (by omega)]; exact m10, fun i hi => by rw [k1 131 (by omega) (by omega), k1 132 (by omega) (by omega)]; exact m11 i hi, RdF_u (Or.inr (Or.inl ⟨by omega, by omega⟩)) (RdF_u (Or.inr (Or.inl ⟨by omega, by omega⟩)) m12)⟩
/-- a frame of an if becomes another -/
theorem A_turn {b : Nat → Nat} {nb r0 : Nat} {τ0 τ : gx_R} {t x y j : Nat} {f : Nat × Nat} {fr ws : List (Nat × Nat)} {st n : Nat} {ck ca : Nat → Nat} (h : MR b nb r0 τ0 τ t (f :: fr) ws st n ck ca) (hf : ¬ (f.1 = 1 ∨ f.1 = 4 ∨ f.1 = 5)) (hy : y = 8 ∨ y = 9) (h125 : τ 125 (fr.length + 1) = nI (r0 + j)) : MR b nb r0 τ0 (gx_up τ 121 fr.length (nI y)) t ((y, j) :: fr) ws st n ck ca := by
  obtain ⟨m1, m2, m3, ⟨m4, m5⟩, m6, m7, m8, m9, m10, m11, m12⟩ := h
  have k1 : ∀ c, c ≠ 121 → gx_up τ 121 fr.length (nI y) c = τ c := fun c c1 => by rw [gx_up_ne c1]
  rw [opN, if_neg hf] at m4
  exact ⟨m1, m2, LexR_c (fun i _ _ => by rw [k1 109 (by omega)]) m3, ⟨by rw [k1 109 (by omega), opN, if_neg (by show ¬ (y = 1 ∨ y = 4 ∨ y = 5); omega)]; exact m4, by rw [k1 109 (by omega)]; exact m5⟩, ⟨⟨up_e _ _ _ _, by show y < 100; omega, fun z => by have z : y = 5 := z; omega, fun _ => by rw [up_c _ _ _ _ (by omega)]; exact h125⟩, FrR_c fr (fun i hi => ⟨by rw [up_p _ _ _ (by omega)], by rw [up_c _ _ _ _ (by omega)], by rw [up_c _ _ _ _ (by omega)]⟩) m6.2⟩, by rw [k1 109 (by omega)]; exact m7, WsR_c ws (fun i _ => by rw [k1 123 (by omega), k1 124 (by omega)]; exact ⟨rfl, rfl⟩) m8, by rw [k1 109 (by omega)]; exact m9, by rw [k1 109 (by omega)]; exact m10, fun i hi => by rw [k1 131 (by omega), k1 132 (by omega)]; exact m11 i hi, RdF_u (Or.inr (Or.inl ⟨by omega, by omega⟩)) m12⟩
/-- openAt of the top frame is free while it is none of THEN, ELSE -/
theorem A_mark {b : Nat → Nat} {nb r0 : Nat} {τ0 τ : gx_R} {t : Nat} {f : Nat × Nat} {fr ws : List (Nat × Nat)} {st n : Nat} {ck ca : Nat → Nat} {x : Int32} (h : MR b nb r0 τ0 τ t (f :: fr) ws st n ck ca) (hf : ¬ (f.1 = 8 ∨ f.1 = 9)) : MR b nb r0 τ0 (gx_up τ 125 (fr.length + 1) x) t (f :: fr) ws st n ck ca := by
  obtain ⟨m1, m2, m3, ⟨m4, m5⟩, m6, m7, m8, m9, m10, m11, m12⟩ := h
  have k1 : ∀ c, c ≠ 125 → gx_up τ 125 (fr.length + 1) x c = τ c := fun c c1 => by rw [gx_up_ne c1]
  exact ⟨m1, m2, LexR_c (fun i _ _ => by rw [k1 109 (by omega)]) m3, ⟨by rw [k1 109 (by omega)]; exact m4, by rw [k1 109 (by omega)]; exact m5⟩, ⟨⟨by rw [k1 121 (by omega)]; exact m6.1.1, m6.1.2.1, fun z => by rw [k1 122 (by omega)]; exact m6.1.2.2.1 z, fun z => absurd z hf⟩, FrR_c fr (fun i hi => ⟨by rw [k1 121 (by omega)], by rw [k1 122 (by omega)], by rw [up_p _ _ _ (by omega)]⟩) m6.2⟩, by rw [k1 109 (by omega)]; exact m7, WsR_c ws (fun i _ => by rw [k1 123 (by omega), k1 124 (by omega)]; exact ⟨rfl, rfl⟩) m8, by rw [k1 109 (by omega)]; exact m9, by rw [k1 109 (by omega)]; exact m10, fun i hi => by rw [k1 131 (by omega), k1 132 (by omega)]; exact m11 i hi, RdF_u (Or.inr (Or.inl ⟨by omega, by omega⟩)) m12⟩
