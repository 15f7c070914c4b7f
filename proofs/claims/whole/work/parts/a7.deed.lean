/-! ===== a deed ===== -/
theorem A_b2 {b : Nat → Nat} {nb r0 : Nat} {τ0 τ : gx_R} {t : Nat} {fr ws : List (Nat × Nat)} {st n : Nat} {ck ca : Nat → Nat} (h : MR b nb r0 τ0 τ t fr ws st n ck ca) {c j : Nat} (x : Int32) (hc : 126 ≤ c ∧ c ≤ 130) : MR b nb r0 (gx_up τ0 c j x) (gx_up τ c j x) t fr ws st n ck ca := by
  obtain ⟨m1, m2, m3, ⟨m4, m5⟩, m6, m7, m8, m9, m10, m11, m12⟩ := h
  have k : ∀ (ρ : gx_R) (y : Nat), y ≠ c → gx_up ρ c j x y = ρ y := fun ρ y hy => gx_up_ne hy
  refine ⟨TpM_c (k τ0 112 (by omega)) (by rw [k τ0 109 (by omega)]) m1, by rw [k τ0 109 (by omega)]; exact m2, LexR_c (fun i _ _ => by rw [k τ 109 (by omega)]) m3, by rw [k τ 109 (by omega)]; exact ⟨m4, m5⟩, FrR_c fr (fun i _ => by rw [k τ 121 (by omega), k τ 122 (by omega), k τ 125 (by omega)]; exact ⟨rfl, rfl, rfl⟩) m6, by rw [k τ 109 (by omega)]; exact m7, WsR_c ws (fun i _ => by rw [k τ 123 (by omega), k τ 124 (by omega)]; exact ⟨rfl, rfl⟩) m8, by rw [k τ 109 (by omega)]; exact m9, by rw [k τ 109 (by omega)]; exact m10, fun i hi => by rw [k τ 131 (by omega), k τ 132 (by omega)]; exact m11 i hi, fun y y1 y2 y3 y4 => ?_, fun i hi => by rw [k τ 131 (by omega), k τ 132 (by omega), k τ0 131 (by omega), k τ0 132 (by omega)]; exact m12.2.1 i hi, fun i i1 i2 i3 i4 i5 i6 => by rw [k τ 109 (by omega), k τ0 109 (by omega)]; exact m12.2.2 i i1 i2 i3 i4 i5 i6⟩
  by_cases z : y = c
  · subst z
    have e := m12.1 y y1 y2 y3 y4
    funext i
    by_cases w : i = j
    · rw [w, up_e, up_e]
    · rw [up_p _ _ _ w, up_p _ _ _ w, e]
  · rw [k τ y z, k τ0 y z]; exact m12.1 y y1 y2 y3 y4
theorem A_none2 {b : Nat → Nat} {nb r0 : Nat} {τ0 τ : gx_R} {t : Nat} {ws : List (Nat × Nat)} {st n : Nat} {ck ca : Nat → Nat} (h : MR b nb r0 τ0 τ t [] ws st n ck ca) : MR b nb r0 τ0 (gx_up τ 109 22 0) t [] ws st n ck ca := by
  obtain ⟨m1, m2, m3, ⟨m4, m5⟩, m6, m7, m8, m9, m10, m11, m12⟩ := h
  exact ⟨m1, m2, LexR_c (fun j _ _ => up_p _ _ _ (by omega)) m3, ⟨by rw [up_p _ _ _ (by omega)]; exact m4, up_e _ _ _ _⟩, trivial, by rw [up_p _ _ _ (by omega)]; exact m7, WsR_c ws (fun i _ => ⟨up_c _ _ _ _ (by omega), up_c _ _ _ _ (by omega)⟩) m8, by rw [up_p _ _ _ (by omega)]; exact m9, by rw [up_p _ _ _ (by omega)]; exact m10, fun i hi => by rw [up_c _ _ _ _ (by omega), up_c _ _ _ _ (by omega)]; exact m11 i hi, RdF_u (Or.inl ⟨rfl, by omega⟩) m12⟩
/-- what the reference does behind a deed's numbers -/
noncomputable def DE (σ26 : gx_R) : Option (Unit × gx_R) := if (σ26 109 19) = 0 then z_bd (Md_isSign (59 : Int32) σ26) (fun r29 σ30 => if r29 = 0 then z_bd (Md_errs (1 : Int32) σ30) (fun _ σ34 => Md_clause_79 σ34) else Md_clause_79 σ30) else Md_clause_79 σ26
theorem EM_DE {b : Nat → Nat} {nb : Nat} {τ0 τ : gx_R} {f t : Nat} (h : EM b nb τ0 τ f t) : DE τ = some ((), τ) := by
  rw [DE, if_neg (EM_n h).1, Md_clause_79, if_neg (EM_n h).1]
theorem end_v {b : Nat → Nat} {nb T c0 r0 : Nat} {σ0 σ τ0 τ : gx_R} {t n n' : Nat} {ck ca ck' ca' : Nat → Nat} (hC : CR b nb T c0 σ0 σ t n ck ca) (hM : MR b nb r0 τ0 τ t [] [] 4 n' ck' ca') (hn : r0 + n' < 400) : (∃ σ' τ', Re_clause_60 1 σ = some (1, σ') ∧ DE τ = some ((), τ') ∧ CR b nb T c0 σ0 σ' (t + 1) n ck ca ∧ MR b nb r0 (gx_up τ0 109 30 (τ0 109 30 + 1)) τ' (t + 1) [] [] 4 (n' + 1) (fset ck' n' 43) (fset ca' n' 0)) ∨ ∃ τ', FC b nb σ0 (Re_clause_60 1 σ) 1 t ∧ DE τ = some ((), τ') ∧ EM b nb τ0 τ' 1 t := by
  have h100 := @kd_100 b nb t
  have e19 : τ 109 19 = 0 := by rw [hM.2.2.2.2.2.2.2.2.2.2.2.2 19 (by omega) (by omega) (by omega) (by omega) (by omega) (by omega)]; exact hM.2.1.1
  have s := isS_v (s := 43) hM.2.2.1 (by omega)
  have e60 : Re_clause_60 1 σ = z_bd (Re_take (43 : Int32) σ) (fun r30 σ31 => if r30 = 0 then some ((0 : Int32), σ31) else some ((1 : Int32), σ31)) := by rw [Re_clause_60, if_neg (show ¬ (1 : Int32) = 0 by decide)]
  by_cases c : kd b nb t = 43
  · rw [decide_eq_true c] at s
    have s : Md_isSign 59 τ = some (1, τ) := s
    obtain ⟨σ1, p1, p2⟩ := take_v hC c (by omega)
    have p1 : Re_take 43 σ = some (1, σ1) := p1
    obtain ⟨τ1, w1, w2⟩ := A_works (r := 1) (by omega) (show ([] : List (Nat × Nat)).length < 100 by show 0 < 100; omega) [] z_FU n' ck' ca' τ (by have := z_FU_ge; show 0 < z_FU; omega) (by show r0 + n' + 0 ≤ 400; omega) (by show 0 ≤ 80; omega) hM
    have w1 : Md_works 1 τ = some ((), τ1) := w1
    have w2 : MR b nb r0 τ0 τ1 t [] [] 4 n' ck' ca' := w2
    obtain ⟨τ2, e1, e2⟩ := A_emit (k := 43) (a := 0) (o := 408) (v := 0) (A_none2 w2) hn rfl rfl
    have h30 : τ2 109 30 = τ0 109 30 := e2.2.2.2.2.2.2.2.2.2.2.2.2 30 (by omega) (by omega) (by omega) (by omega) (by omega) (by omega)
    obtain ⟨τ3, n1, n2⟩ := A_next (A_base e2 (τ0 109 30 + 1)) (kd_lt hM.2.2.1.1 (by omega))
    have go : Md_clauseIsOver τ = some ((), gx_up τ3 109 28 (nI 4)) := by
      rw [Md_clauseIsOver, w1, w_bd, e1, w_bd, h30, n1, w_bd]; rfl
    refine Or.inl ⟨σ1, _, ?_, ?_, p2, A_state n2 4⟩
    · rw [e60, p1, w_bd, if_neg (show ¬ (1 : Int32) = 0 by decide)]
    · rw [DE, if_pos e19, s, w_bd, if_neg (by decide), Md_clause_79, if_pos e19, go, w_bd]
  · rw [decide_eq_false c] at s
    have s : Md_isSign 59 τ = some (0, τ) := s
    obtain ⟨σ1, p1, p2⟩ := take_F hC (k := 43) c ⟨h100, by omega⟩
    have p1 : Re_take 43 σ = some (0, σ1) := p1
    obtain ⟨τ1, x1, x2⟩ := errs_M hM 1 (by omega)
    have x1 : Md_errs 1 τ = some ((), τ1) := x1
    refine Or.inr ⟨τ1, ⟨σ1, ?_, p2⟩, ?_, x2⟩
    · rw [e60, p1, w_bd, if_pos rfl]
    · rw [DE, if_pos e19, s, w_bd, if_pos rfl, x1, w_bd, Md_clause_79, if_neg (EM_n x2).1]
theorem d62_v {τ : gx_R} {q : Nat} (h : τ 109 30 = nI q) (hq : q < 24) (x y z : Int32) : Md_doing_62 x y z τ = some ((), gx_up (gx_up (gx_up τ 128 q x) 129 q y) 130 q z) := by
  rw [Md_doing_62, h, ix_n (by omega), decide_eq_true hq, w_ck, cl_n (by omega), up_c _ _ _ _ (show (109 : Nat) ≠ 128 by omega), h, ix_n (by omega), decide_eq_true hq, w_ck, cl_n (by omega), up_c _ _ _ _ (show (109 : Nat) ≠ 129 by omega), up_c _ _ _ _ (show (109 : Nat) ≠ 128 by omega), h, ix_n (by omega), decide_eq_true hq, w_ck, cl_n (by omega)]
theorem d62_E {b : Nat → Nat} {nb : Nat} {τ0 τ : gx_R} {f t q : Nat} (h : EM b nb τ0 τ f t) (hq : τ0 109 30 = nI q) (hq2 : q < 24) (x y z : Int32) : ∃ τ', z_bd (Md_doing_62 x y z τ) (fun _ σ26 => DE σ26) = some ((), τ') ∧ EM b nb τ0 τ' f t := by
  have hE : EM b nb τ0 (gx_up (gx_up (gx_up τ 128 q x) 129 q y) 130 q z) f t := by
    obtain ⟨⟨h1, h2⟩, h3, ⟨h4, h5⟩, h6, h7⟩ := h
    exact ⟨⟨by rw [up_c _ _ _ _ (by omega), up_c _ _ _ _ (by omega), up_c _ _ _ _ (by omega)]; exact h1, h2⟩, by rw [up_c _ _ _ _ (by omega), up_c _ _ _ _ (by omega), up_c _ _ _ _ (by omega)]; exact h3, ⟨fun c c1 c2 => by rw [gx_up_ne (by omega), gx_up_ne (by omega), gx_up_ne (by omega)]; exact h4 c c1 c2, fun j hj => by rw [up_c _ _ _ _ (by omega), up_c _ _ _ _ (by omega), up_c _ _ _ _ (by omega)]; exact h5 j hj⟩, by rw [up_c _ _ _ _ (by omega), up_c _ _ _ _ (by omega), up_c _ _ _ _ (by omega)]; exact h6, by rw [up_c _ _ _ _ (by omega), up_c _ _ _ _ (by omega), up_c _ _ _ _ (by omega)]; exact h7⟩
  exact ⟨_, by rw [d62_v (by rw [h.2.2.2.1]; exact hq) hq2, w_bd, EM_DE hE], hE⟩
