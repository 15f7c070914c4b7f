/-! ===== a deed, read alike ===== -/
theorem bd_a {α β γ : Type} (A : Option (α × gx_R)) (F : α → gx_R → Option (β × gx_R)) (G : β → gx_R → Option (γ × gx_R)) : z_bd (z_bd A F) G = z_bd A (fun r σ => z_bd (F r σ) G) := by
  cases A with
  | none => rfl
  | some r => rfl
theorem x_ne {x y : Nat} (hx : x < 100) (hy : y < 100) (h : x ≠ y) : ¬ nI x = nI y := fun z => h ((kI hx y hy).mp z)
theorem DD_1 {τ : gx_R} {x lo hi : Nat} (h31 : τ 109 31 = nI x) (hx : (x = 6 ∨ x = 7) ∧ lo = 0 ∧ hi = 7 ∨ x = 9 ∧ lo = 1 ∧ hi = 60) : DD τ = z_bd (Md_number (nI lo) (nI hi) τ) (fun r σ => z_bd (Md_doing_62 r (-1) (-1) σ) (fun _ σ26 => DE σ26)) := by
  rw [DD, Md_doing, h31]
  rcases hx with ⟨h | h, rfl, rfl⟩ | ⟨h, rfl, rfl⟩ <;> subst h
  · rw [if_neg (show ¬ nI 6 = 4 by decide), if_neg (show ¬ nI 6 = 5 by decide), if_neg (show ¬ nI 6 = 8 by decide), if_neg (show ¬ nI 6 = 9 by decide), bd_a]; rfl
  · rw [if_neg (show ¬ nI 7 = 4 by decide), if_neg (show ¬ nI 7 = 5 by decide), if_neg (show ¬ nI 7 = 8 by decide), if_neg (show ¬ nI 7 = 9 by decide), bd_a]; rfl
  · rw [if_neg (show ¬ nI 9 = 4 by decide), if_neg (show ¬ nI 9 = 5 by decide), if_neg (show ¬ nI 9 = 8 by decide), if_pos (show nI 9 = 9 from rfl), bd_a]; rfl
theorem DD_2 {τ : gx_R} {x k hi : Nat} (h31 : τ 109 31 = nI x) (hx : x = 4 ∧ k = 10 ∧ hi = 5 ∨ x = 5 ∧ k = 11 ∧ hi = 7) : DD τ = z_bd (Md_number (nI 0) (nI 7) τ) (fun r σ => z_bd (Md_numberBehind (nI k) (nI 0) (nI hi) σ) (fun r5 σ6 => z_bd (Md_doing_62 r r5 (-1) σ6) (fun _ σ26 => DE σ26))) := by
  rw [DD, Md_doing, h31]
  rcases hx with ⟨h, rfl, rfl⟩ | ⟨h, rfl, rfl⟩ <;> subst h
  · rw [if_pos (show nI 4 = 4 from rfl), bd_a]; simp only [bd_a]; rfl
  · rw [if_neg (show ¬ nI 5 = 4 by decide), if_pos (show nI 5 = 5 from rfl), bd_a]; simp only [bd_a]; rfl
theorem DD_3 {τ : gx_R} (h31 : τ 109 31 = nI 8) : DD τ = z_bd (Md_number (nI 0) (nI 7) τ) (fun r σ => z_bd (Md_numberBehind (nI 12) (nI 0) (nI 7) σ) (fun r5 σ6 => z_bd (Md_numberBehind (nI 13) (nI 1) (nI 99) σ6) (fun r7 σ8 => z_bd (Md_doing_62 r r5 r7 σ8) (fun _ σ26 => DE σ26)))) := by
  rw [DD, Md_doing, h31, if_neg (show ¬ nI 8 = 4 by decide), if_neg (show ¬ nI 8 = 5 by decide), if_pos (show nI 8 = 8 from rfl), bd_a]; simp only [bd_a]; rfl
theorem c60_0 (σ : gx_R) : Re_clause_60 0 σ = some (0, σ) := by rw [Re_clause_60, if_pos rfl]
theorem m31 {b : Nat → Nat} {nb r0 : Nat} {τ0 τ : gx_R} {t : Nat} {fr ws : List (Nat × Nat)} {st n : Nat} {ck ca : Nat → Nat} (h : MR b nb r0 τ0 τ t fr ws st n ck ca) : τ 109 31 = τ0 109 31 := h.2.2.2.2.2.2.2.2.2.2.2.2 31 (by omega) (by omega) (by omega) (by omega) (by omega) (by omega)
theorem deed_a {b : Nat → Nat} {nb T c0 r0 : Nat} {σ0 σ τ0 τ : gx_R} {t n n' q : Nat} {ck ca ck' ca' : Nat → Nat} (hC : CR b nb T c0 σ0 σ t n ck ca) (hM : MR b nb r0 τ0 τ t [] [] 4 n' ck' ca') (hn : r0 + n' < 400) (hq : τ0 109 30 = nI q) (hq2 : q < 24) {x lo hi : Nat} (h31 : τ0 109 31 = nI x) (hx : (x = 6 ∨ x = 7) ∧ lo = 0 ∧ hi = 7 ∨ x = 9 ∧ lo = 1 ∧ hi = 60) : DOut b nb T c0 r0 x q σ0 τ0 t n n' ck ca ck' ca' (DW (nI x) (nI q) σ) (DD τ) := by
  rw [DW, deed_1 hx, DD_1 ((m31 hM).trans h31) hx]
  have htT : t ≤ T := hC.2.1
  rcases num_v hC hM hq2 (b1 := 45) (lo := lo) (hi := hi) (by omega) (by omega) with ⟨v, σ1, τ1, h1, h2, h3, h4, h5⟩ | ⟨f, y, τ1, ⟨σ1, h1, h1'⟩, h2, h3⟩
  · rw [h2, w_bd, show yes 1 σ1 = some (1, σ1) from rfl, w_bd, h3, w_bd]
    have ht1 : t + 1 ≤ T := h4.2.1
    rcases fin_v h4 h5 hn hq hq2 (nI v) (-1) (-1) with ⟨σ2, τ2, e1, e2, e3, e4⟩ | ⟨τ2, e1, e2, e3⟩
    · exact Or.inl ⟨_, σ2, τ2, t + 1 + 1, nI v, -1, -1, BC_u (BC_r q σ0) _ (by omega), e1, e2, by omega, e3, e4, up_e _ _ _ _, fun z => ⟨v, by omega, by omega, rfl⟩, fun z => by omega, fun z => by omega⟩
    · exact Or.inr ⟨_, 1, t + 1, τ2, BC_u (BC_r q σ0) _ (by omega), ⟨by omega, ht1⟩, e1, e2, e3⟩
  · obtain ⟨τ2, e1, e2⟩ := d62_E h3 hq hq2 y (-1) (-1)
    exact Or.inr ⟨σ0, f, t, τ2, BC_r q σ0, ⟨Nat.le_refl _, htT⟩, ⟨σ1, by rw [h1, w_bd, yes_0, w_bd, c60_0], h1'⟩, by rw [h2, w_bd]; exact e1, e2⟩
theorem deed_b {b : Nat → Nat} {nb T c0 r0 : Nat} {σ0 σ τ0 τ : gx_R} {t n n' q : Nat} {ck ca ck' ca' : Nat → Nat} (hC : CR b nb T c0 σ0 σ t n ck ca) (hM : MR b nb r0 τ0 τ t [] [] 4 n' ck' ca') (hn : r0 + n' < 400) (hq : τ0 109 30 = nI q) (hq2 : q < 24) {x k hi : Nat} (h31 : τ0 109 31 = nI x) (hx : x = 4 ∧ k = 10 ∧ hi = 5 ∨ x = 5 ∧ k = 11 ∧ hi = 7) : DOut b nb T c0 r0 x q σ0 τ0 t n n' ck ca ck' ca' (DW (nI x) (nI q) σ) (DD τ) := by
  rw [DW, deed_2 hx, DD_2 ((m31 hM).trans h31) hx]
  have htT : t ≤ T := hC.2.1
  rcases num_v hC hM hq2 (b1 := 45) (lo := 0) (hi := 7) (by omega) (by omega) with ⟨v, σ1, τ1, h1, h2, h3, h4, h5⟩ | ⟨f, y, τ1, ⟨σ1, h1, h1'⟩, h2, h3⟩
  · rw [h2, w_bd, if_neg (show ¬ (1 : Int32) = 0 by decide), h3, w_bd]
    have ht1 : t + 1 ≤ T := h4.2.1
    have hb1 : BC q σ0 (gx_up σ0 45 q (nI v)) := BC_u (BC_r q σ0) _ (by omega)
    rcases beh_v h4 h5 hq2 (b1 := 46) (lo := 0) (hi := hi) (k := k) (by omega) (by omega) (by omega) with ⟨w, σ2, τ2, g1, g2, g3, g4, g5⟩ | ⟨f, y, τ2, t2, ⟨g0, g0', g0''⟩, ⟨σ2, g1, g1'⟩, g2, g3⟩
    · rw [g2, w_bd, show yes 1 σ2 = some (1, σ2) from rfl, w_bd, g3, w_bd]
      have ht2 : t + 1 + 2 ≤ T := g4.2.1
      have hb2 := BC_u hb1 (c := 46) (nI w) (by omega)
      rcases fin_v g4 g5 hn hq hq2 (nI v) (nI w) (-1) with ⟨σ3, τ3, e1, e2, e3, e4⟩ | ⟨τ3, e1, e2, e3⟩
      · exact Or.inl ⟨_, σ3, τ3, t + 1 + 2 + 1, nI v, nI w, -1, hb2, e1, e2, by omega, e3, e4, by rw [up_c _ _ _ _ (by omega), up_e], fun z => by omega, fun z => (up_e _ _ _ _).symm, fun z => by omega⟩
      · exact Or.inr ⟨_, 1, t + 1 + 2, τ3, hb2, ⟨by omega, ht2⟩, e1, e2, e3⟩
    · obtain ⟨τ3, e1, e2⟩ := d62_E g3 hq hq2 (nI v) y (-1)
      exact Or.inr ⟨_, f, t2, τ3, hb1, ⟨by omega, g0''⟩, ⟨σ2, by rw [g1, w_bd, yes_0, w_bd, c60_0], g1'⟩, by rw [g2, w_bd]; exact e1, e2⟩
  · obtain ⟨τ2, e1, e2⟩ := d62_E h3 hq hq2 y (nI 0) (-1)
    exact Or.inr ⟨σ0, f, t, τ2, BC_r q σ0, ⟨Nat.le_refl _, htT⟩, ⟨σ1, by rw [h1, w_bd, if_pos rfl, w_bd, c60_0], h1'⟩, by rw [h2, w_bd, EM_beh h3, w_bd]; exact e1, e2⟩
theorem deed_c {b : Nat → Nat} {nb T c0 r0 : Nat} {σ0 σ τ0 τ : gx_R} {t n n' q : Nat} {ck ca ck' ca' : Nat → Nat} (hC : CR b nb T c0 σ0 σ t n ck ca) (hM : MR b nb r0 τ0 τ t [] [] 4 n' ck' ca') (hn : r0 + n' < 400) (hq : τ0 109 30 = nI q) (hq2 : q < 24) (h31 : τ0 109 31 = nI 8) : DOut b nb T c0 r0 8 q σ0 τ0 t n n' ck ca ck' ca' (DW (nI 8) (nI q) σ) (DD τ) := by
  rw [DW, deed_3, DD_3 ((m31 hM).trans h31)]
  have htT : t ≤ T := hC.2.1
  rcases num_v hC hM hq2 (b1 := 45) (lo := 0) (hi := 7) (by omega) (by omega) with ⟨v, σ1, τ1, h1, h2, h3, h4, h5⟩ | ⟨f, y, τ1, ⟨σ1, h1, h1'⟩, h2, h3⟩
  · rw [h2, w_bd, if_neg (show ¬ (1 : Int32) = 0 by decide), h3, w_bd]
    have hb1 : BC q σ0 (gx_up σ0 45 q (nI v)) := BC_u (BC_r q σ0) _ (by omega)
    rcases beh_v h4 h5 hq2 (b1 := 46) (lo := 0) (hi := 7) (k := 12) (by omega) (by omega) (by omega) with ⟨w, σ2, τ2, g1, g2, g3, g4, g5⟩ | ⟨f, y, τ2, t2, ⟨g0, g0', g0''⟩, ⟨σ2, g1, g1'⟩, g2, g3⟩
    · rw [g2, w_bd, if_neg (show ¬ (1 : Int32) = 0 by decide), g3, w_bd]
      have hb2 := BC_u hb1 (c := 46) (nI w) (by omega)
      rcases beh_v g4 g5 hq2 (b1 := 47) (lo := 1) (hi := 99) (k := 13) (by omega) (by omega) (by omega) with ⟨u, σ3, τ3, k1, k2, k3, k4, k5⟩ | ⟨f, y, τ3, t3, ⟨k0, k0', k0''⟩, ⟨σ3, k1, k1'⟩, k2, k3⟩
      · rw [k2, w_bd, show yes 1 σ3 = some (1, σ3) from rfl, w_bd, k3, w_bd]
        have ht3 : t + 1 + 2 + 2 ≤ T := k4.2.1
        have hb3 := BC_u hb2 (c := 47) (nI u) (by omega)
        rcases fin_v k4 k5 hn hq hq2 (nI v) (nI w) (nI u) with ⟨σ4, τ4, e1, e2, e3, e4⟩ | ⟨τ4, e1, e2, e3⟩
        · exact Or.inl ⟨_, σ4, τ4, t + 1 + 2 + 2 + 1, nI v, nI w, nI u, hb3, e1, e2, by omega, e3, e4, by rw [up_c _ _ _ _ (by omega), up_c _ _ _ _ (by omega), up_e], fun z => by omega, fun z => by rw [up_c _ _ _ _ (by omega), up_e], fun z => (up_e _ _ _ _).symm⟩
        · exact Or.inr ⟨_, 1, t + 1 + 2 + 2, τ4, hb3, ⟨by omega, ht3⟩, e1, e2, e3⟩
      · obtain ⟨τ4, e1, e2⟩ := d62_E k3 hq hq2 (nI v) (nI w) y
        exact Or.inr ⟨_, f, t3, τ4, hb2, ⟨by omega, k0''⟩, ⟨σ3, by rw [k1, w_bd, yes_0, w_bd, c60_0], k1'⟩, by rw [k2, w_bd]; exact e1, e2⟩
    · obtain ⟨τ3, e1, e2⟩ := d62_E g3 hq hq2 (nI v) y (nI 1)
      exact Or.inr ⟨_, f, t2, τ3, hb1, ⟨by omega, g0''⟩, ⟨σ2, by rw [g1, w_bd, if_pos rfl, w_bd, c60_0], g1'⟩, by rw [g2, w_bd, EM_beh g3, w_bd]; exact e1, e2⟩
  · obtain ⟨τ2, e1, e2⟩ := d62_E h3 hq hq2 y (nI 0) (nI 1)
    exact Or.inr ⟨σ0, f, t, τ2, BC_r q σ0, ⟨Nat.le_refl _, htT⟩, ⟨σ1, by rw [h1, w_bd, if_pos rfl, w_bd, c60_0], h1'⟩, by rw [h2, w_bd, EM_beh h3, w_bd, EM_beh h3, w_bd]; exact e1, e2⟩
theorem deed_v {b : Nat → Nat} {nb T c0 r0 : Nat} {σ0 σ τ0 τ : gx_R} {t n n' q : Nat} {ck ca ck' ca' : Nat → Nat} (hC : CR b nb T c0 σ0 σ t n ck ca) (hM : MR b nb r0 τ0 τ t [] [] 4 n' ck' ca') (hn : r0 + n' < 400) (hq : τ0 109 30 = nI q) (hq2 : q < 24) {x : Nat} (h31 : τ0 109 31 = nI x) (hx : 4 ≤ x ∧ x ≤ 9) : DOut b nb T c0 r0 x q σ0 τ0 t n n' ck ca ck' ca' (DW (nI x) (nI q) σ) (DD τ) := by
  rcases (show x = 4 ∨ x = 5 ∨ x = 6 ∨ x = 7 ∨ x = 8 ∨ x = 9 by omega) with h | h | h | h | h | h <;> subst h
  · exact deed_b hC hM hn hq hq2 h31 (Or.inl ⟨rfl, rfl, rfl⟩)
  · exact deed_b hC hM hn hq hq2 h31 (Or.inr ⟨rfl, rfl, rfl⟩)
  · exact deed_a hC hM hn hq hq2 h31 (Or.inl ⟨Or.inl rfl, rfl, rfl⟩)
  · exact deed_a hC hM hn hq hq2 h31 (Or.inl ⟨Or.inr rfl, rfl, rfl⟩)
  · exact deed_c hC hM hn hq hq2 h31
  · exact deed_a hC hM hn hq hq2 h31 (Or.inr ⟨rfl, rfl, rfl⟩)
