/-! ===== who sleeps for whom: the reference makes ready ===== -/
def mQ (τ0 τ : gx_R) : Prop := (∀ c, c ≠ 109 → c ≠ 133 → c ≠ 134 → ¬ (141 ≤ c ∧ c ≤ 147) → τ c = τ0 c) ∧ ∀ j, j ≠ 58 → j ≠ 59 → τ 109 j = τ0 109 j
theorem mQ_e {τ0 τ : gx_R} (h : mQ τ0 τ) : eM τ0 τ := ⟨fun i _ => by rw [h.1 110 (by omega) (by omega) (by omega) (by omega)], fun k k1 k2 => h.1 k (by omega) (by omega) (by omega) (by omega)⟩
def PairVM (nw ns : Nat) (wk sl : Nat → Nat) (al : Nat → Nat → Bool) (B : Nat → Nat) (Wt Pr : Nat → Nat → Nat) (wrk : Int32) (τ0 : gx_R) : Prop :=
  (∀ w, w < nw → wk w < 8 ∧ ∀ τ1, eM τ0 τ1 → τ1 109 42 = τ0 109 42 → ∃ τ2, Md_burnBy (nI (wk w)) 0 wrk τ1 = some (nI (B w), τ2) ∧ lM τ1 τ2) ∧
  (∀ s, s < ns → sl s < 8) ∧
  (∀ s w, s < ns → w < nw → al s w = bt (τ0 110 (26 + sl s)) (wk w)) ∧
  ∀ s w, s < ns → w < nw → (∀ τ1, eM τ0 τ1 → τ1 109 42 = τ0 109 42 → ∃ τ2, Md_worthBy (nI (sl s)) 0 0 (nI (wk w)) τ1 = some (nI (Wt s w), τ2) ∧ lM τ1 τ2) ∧ ∀ τ1, eM τ0 τ1 → τ1 109 42 = τ0 109 42 → τ1 110 = τ0 110 → ∃ τ2, Md_priceOf (nI (sl s)) (nI (wk w)) τ1 = some (nI (Pr s w), τ2) ∧ lM τ1 τ2
theorem lays36 {τ0 : gx_R} {g1 g2 wrk : Int32} {P nw ns : Nat} {al : Nat → Nat → Bool} {B : Nat → Nat} {Wt Pr : Nat → Nat → Nat} (hP : P ≤ 8) (h0 : τ0 110 0 = nI P) (h1 : nw = cB (bt g1) P) (hV : PairVM nw ns (nth (bt g1)) (nth (bt g2)) al B Wt Pr wrk τ0) : ∀ m p f τ, p + m = P → m < f → mQ τ0 τ → (τ 109 58 = nI (cB (bt g1) p) ∧ τ 109 59 = nI (cB (bt g2) p)) → (∀ j, j < cB (bt g1) p → τ 141 j = nI (nth (bt g1) j) ∧ τ 145 j = nI (B j)) → (∀ j, j < cB (bt g2) p → τ 142 j = nI (nth (bt g2) j)) → ∃ τ', Md_laysMatch_36 f g1 wrk g2 (nI p) τ = Md_laysMatch_86 τ' ∧ mQ τ0 τ' ∧ (τ' 109 58 = nI (cB (bt g1) P) ∧ τ' 109 59 = nI (cB (bt g2) P)) ∧ (∀ j, j < cB (bt g1) P → τ' 141 j = nI (nth (bt g1) j) ∧ τ' 145 j = nI (B j)) ∧ ∀ j, j < cB (bt g2) P → τ' 142 j = nI (nth (bt g2) j) := by
  intro m
  induction m with
  | zero =>
    intro p f τ k1 k2 h3 h4 h5 h6
    obtain ⟨f, rfl⟩ : ∃ q, f = q + 1 := ⟨f - 1, by omega⟩
    obtain rfl : p = P := by omega
    refine ⟨τ, ?_, h3, h4, h5, h6⟩
    rw [Md_laysMatch_36, Md_laysMatch_36_B, show (0 : Int32).toNatClampNeg = 0 from rfl, h3.1 110 (by omega) (by omega) (by omega) (by omega), h0, if_pos ((nI_leI (by omega) (by omega)).mpr (Nat.le_refl _))]
  | succ m ih =>
    intro p f τ k1 k2 h3 h4 h5 h6
    obtain ⟨f, rfl⟩ : ∃ q, f = q + 1 := ⟨f - 1, by omega⟩
    have e1 : nI p + 1 = nI (p + 1) := nI_add p 1
    have c1 := cB_le (bt g1) p
    have c2 := cB_le (bt g2) p
    have hB1 : cB (bt g1) (p + 1) = cB (bt g1) p + (bt g1 p).toNat := rfl
    have hB2 : cB (bt g2) (p + 1) = cB (bt g2) p + (bt g2 p).toNat := rfl
    have st2 : ∀ τ1, mQ τ0 τ1 → (τ1 109 58 = nI (cB (bt g1) (p + 1)) ∧ τ1 109 59 = nI (cB (bt g2) p)) → (∀ j, j < cB (bt g1) (p + 1) → τ1 141 j = nI (nth (bt g1) j) ∧ τ1 145 j = nI (B j)) → (∀ j, j < cB (bt g2) p → τ1 142 j = nI (nth (bt g2) j)) → ∃ τ', Md_laysMatch_68 (Md_laysMatch_36 f) g1 wrk g2 (nI p) τ1 = Md_laysMatch_86 τ' ∧ mQ τ0 τ' ∧ (τ' 109 58 = nI (cB (bt g1) P) ∧ τ' 109 59 = nI (cB (bt g2) P)) ∧ (∀ j, j < cB (bt g1) P → τ' 141 j = nI (nth (bt g1) j) ∧ τ' 145 j = nI (B j)) ∧ ∀ j, j < cB (bt g2) P → τ' 142 j = nI (nth (bt g2) j) := by
      intro τ1 q3 q4 q5 q6
      rw [Md_laysMatch_68, Md_has_v _ (by omega), w_bd]
      cases hg : bt g2 p with
      | false =>
        have hB3 : cB (bt g2) (p + 1) = cB (bt g2) p := by rw [hB2, hg]; rfl
        rw [bI_f, if_pos rfl, Md_laysMatch_84, e1]
        exact ih (p + 1) f τ1 (by omega) (by omega) q3 ⟨q4.1, by rw [hB3]; exact q4.2⟩ q5 (fun j hj => q6 j (by omega))
      | true =>
        have hB3 : cB (bt g2) (p + 1) = cB (bt g2) p + 1 := by rw [hB2, hg]; rfl
        have hnp := nth_v (f := bt g2) (p := p) (by omega) hg
        rw [bI_t, if_neg (by decide), q4.2, ix_n (by omega), decide_eq_true (show cB (bt g2) p < 8 by omega), w_ck, cl_n (by omega), up_c _ _ _ _ (show (109 : Nat) ≠ 142 by omega), q4.2, show nI (cB (bt g2) p) + 1 = nI (cB (bt g2) p + 1) from nI_add _ 1, ← hB3, Md_laysMatch_84, e1]
        refine ih (p + 1) f _ (by omega) (by omega) ⟨fun c y1 y2 y3 y4 => by rw [gx_up_ne (by omega), gx_up_ne (by omega)]; exact q3.1 c y1 y2 y3 y4, fun j y1 y2 => by rw [up_p _ _ _ y2, up_c _ _ _ _ (by omega)]; exact q3.2 j y1 y2⟩ ⟨by rw [up_p _ _ _ (by omega), up_c _ _ _ _ (by omega)]; exact q4.1, up_e _ _ _ _⟩ (fun j hj => by rw [up_c _ _ _ _ (show (141 : Nat) ≠ 109 by omega), up_c _ _ _ _ (show (141 : Nat) ≠ 142 by omega), up_c _ _ _ _ (show (145 : Nat) ≠ 109 by omega), up_c _ _ _ _ (show (145 : Nat) ≠ 142 by omega)]; exact q5 j hj) (fun j hj => by
          rw [up_c _ _ _ _ (show (142 : Nat) ≠ 109 by omega)]
          by_cases z : j = cB (bt g2) p
          · rw [z, up_e, hnp]
          · rw [up_p _ _ _ z]; exact q6 j (by omega))
    rw [Md_laysMatch_36, Md_laysMatch_36_B, show (0 : Int32).toNatClampNeg = 0 from rfl, h3.1 110 (by omega) (by omega) (by omega) (by omega), h0, if_neg (fun z => by have := (nI_leI (by omega) (by omega)).mp z; omega), Md_has_v _ (by omega), w_bd]
    cases hg : bt g1 p with
    | false =>
      have hB3 : cB (bt g1) (p + 1) = cB (bt g1) p := by rw [hB1, hg]; rfl
      rw [bI_f, if_pos rfl]
      exact st2 τ h3 ⟨by rw [hB3]; exact h4.1, h4.2⟩ (fun j hj => h5 j (by omega)) h6
    | true =>
      have hB3 : cB (bt g1) (p + 1) = cB (bt g1) p + 1 := by rw [hB1, hg]; rfl
      have hnp := nth_v (f := bt g1) (p := p) (by omega) hg
      have hlt : cB (bt g1) p < nw := by rw [h1]; exact cB_lt (by omega) hg
      have hQ1 : mQ τ0 (gx_up τ 141 (cB (bt g1) p) (nI p)) := ⟨fun c y1 y2 y3 y4 => by rw [gx_up_ne (by omega)]; exact h3.1 c y1 y2 y3 y4, fun j y1 y2 => by rw [up_c _ _ _ _ (by omega)]; exact h3.2 j y1 y2⟩
      obtain ⟨τ2, b1, b2⟩ := (hV.1 _ hlt).2 _ (mQ_e hQ1) (hQ1.2 42 (by omega) (by omega))
      rw [hnp] at b1
      have k109 : τ2 109 = τ 109 := by rw [b2 109 (by omega) (by omega), gx_up_ne (by omega)]
      rw [bI_t, if_neg (by decide), h4.1, ix_n (by omega), decide_eq_true (show cB (bt g1) p < 8 by omega), w_ck, cl_n (by omega), b1, w_bd, up_c _ _ _ _ (show (109 : Nat) ≠ 141 by omega), h4.1, ix_n (by omega), decide_eq_true (show cB (bt g1) p < 8 by omega), w_ck, cl_n (by omega), up_c _ _ _ _ (show (109 : Nat) ≠ 145 by omega), k109, h4.1, show nI (cB (bt g1) p) + 1 = nI (cB (bt g1) p + 1) from nI_add _ 1, ← hB3]
      refine st2 _ ⟨fun c y1 y2 y3 y4 => by rw [gx_up_ne (by omega), gx_up_ne (by omega), b2 c y2 y3]; exact hQ1.1 c y1 y2 y3 y4, fun j y1 y2 => by rw [up_p _ _ _ y1, up_c _ _ _ _ (by omega), k109]; exact h3.2 j y1 y2⟩ ⟨up_e _ _ _ _, by rw [up_p _ _ _ (by omega), up_c _ _ _ _ (by omega), k109]; exact h4.2⟩ (fun j hj => ?_) (fun j hj => by rw [up_c _ _ _ _ (by omega), up_c _ _ _ _ (by omega), b2 142 (by omega) (by omega), up_c _ _ _ _ (by omega)]; exact h6 j hj)
      rw [up_c _ _ _ _ (show (141 : Nat) ≠ 109 by omega), up_c _ _ _ _ (show (141 : Nat) ≠ 145 by omega), up_c _ _ _ _ (show (145 : Nat) ≠ 109 by omega), b2 141 (by omega) (by omega)]
      by_cases z : j = cB (bt g1) p
      · rw [z, up_e, up_e, hnp]; exact ⟨rfl, rfl⟩
      · rw [up_p _ _ _ z, up_p _ _ _ z, b2 145 (by omega) (by omega), up_c _ _ _ _ (show (145 : Nat) ≠ 141 by omega)]; exact h5 j (by omega)
/-- what the reference reads -/
def PairM (nw ns : Nat) (wk sl : Nat → Nat) (al : Nat → Nat → Bool) (B : Nat → Nat) (Wt Pr : Nat → Nat → Nat) (τ : gx_R) (D : Nat → Nat → Prop) : Prop :=
  (τ 109 58 = nI nw ∧ τ 109 59 = nI ns) ∧ (∀ w, w < nw → τ 141 w = nI (wk w) ∧ τ 145 w = nI (B w)) ∧ (∀ s, s < ns → τ 142 s = nI (sl s)) ∧
  ∀ s w, s < ns → w < nw → D s w → τ 143 (8 * s + w) = wtI al Wt s w ∧ (al s w = true → τ 144 (8 * s + w) = nI (Pr s w))
theorem ix8r (s w : Nat) : (8 : Int32) * nI s + nI w = nI (8 * s + w) := by
  rw [show (8 : Int32) = nI 8 from rfl, pk_mul, nI_add]
theorem lays94 {τ0 : gx_R} {wk sl : Nat → Nat} {wrk : Int32} {nw ns s : Nat} {al : Nat → Nat → Bool} {B : Nat → Nat} {Wt Pr : Nat → Nat → Nat} {K88 : Int32 → gx_R → Option (Int32 × gx_R)} (hnw : nw ≤ 4) (hns : ns ≤ 6) (hs : s < ns) (hV : PairVM nw ns wk sl al B Wt Pr wrk τ0) : ∀ m w f τ, w + m = nw → m < f → mQ τ0 τ → PairM nw ns wk sl al B Wt Pr τ (fun s' w' => s' < s ∨ (s' = s ∧ w' < w)) → ∃ τ', Md_laysMatch_94 K88 f (nI s) (nI w) τ = K88 (nI (s + 1)) τ' ∧ mQ τ0 τ' ∧ PairM nw ns wk sl al B Wt Pr τ' (fun s' _ => s' < s + 1) := by
  intro m
  induction m with
  | zero =>
    intro w f τ k1 k2 h3 h4
    obtain ⟨f, rfl⟩ : ∃ q, f = q + 1 := ⟨f - 1, by omega⟩
    obtain rfl : w = nw := by omega
    refine ⟨τ, ?_, h3, h4.1, h4.2.1, h4.2.2.1, fun s' w' hs' hw' hD => h4.2.2.2 s' w' hs' hw' (by omega)⟩
    rw [Md_laysMatch_94, Md_laysMatch_94_B, h4.1.1, if_pos ((nI_leI (by omega) (by omega)).mpr (Nat.le_refl _)), Md_laysMatch_161, show nI s + 1 = nI (s + 1) from nI_add s 1]
  | succ m ih =>
    intro w f τ k1 k2 h3 h4
    obtain ⟨f, rfl⟩ : ∃ q, f = q + 1 := ⟨f - 1, by omega⟩
    obtain ⟨⟨p1, p2⟩, p3, p4, p5⟩ := h4
    obtain ⟨v1, v2, v3, v4⟩ := hV
    have hwk := (v1 w (by omega)).1
    have hsl := v2 s hs
    obtain ⟨vW, vP⟩ := v4 s w hs (by omega)
    have e1 : nI w + 1 = nI (w + 1) := nI_add w 1
    have k110 : τ 110 = τ0 110 := h3.1 110 (by omega) (by omega) (by omega) (by omega)
    have c64 : 8 * s + w < 64 := by omega
    -- behind worth
    have fin : ∀ τa, lM τ τa → ∃ τ', Md_laysMatch_136 (Md_laysMatch_94 K88 f) (nI s) (nI w) (bI (al s w)) (nI (8 * s + w)) (wtI al Wt s w) τa = K88 (nI (s + 1)) τ' ∧ mQ τ0 τ' ∧ PairM nw ns wk sl al B Wt Pr τ' (fun s' _ => s' < s + 1) := by
      intro τa ha
      have last : ∀ τb (y : Int32), lM (gx_up τa 143 (8 * s + w) (wtI al Wt s w)) τb → (al s w = true → y = nI (Pr s w)) → ∃ τ', Md_laysMatch_158 (Md_laysMatch_94 K88 f) (nI s) (nI w) (nI (8 * s + w)) y τb = K88 (nI (s + 1)) τ' ∧ mQ τ0 τ' ∧ PairM nw ns wk sl al B Wt Pr τ' (fun s' _ => s' < s + 1) := by
        intro τb y hb hy
        rw [Md_laysMatch_158, ix_n (by omega), decide_eq_true c64, w_ck, cl_n (by omega), e1]
        have q1 : ∀ c, c ≠ 133 → c ≠ 134 → c ≠ 143 → c ≠ 144 → gx_up τb 144 (8 * s + w) y c = τ c := fun c y1 y2 y3 y4 => by rw [gx_up_ne y4, hb c y1 y2, gx_up_ne y3, ha c y1 y2]
        refine ih (w + 1) f _ (by omega) (by omega) ⟨fun c y1 y2 y3 y4 => by rw [q1 c y2 y3 (by omega) (by omega)]; exact h3.1 c y1 y2 y3 y4, fun j y1 y2 => by rw [q1 109 (by omega) (by omega) (by omega) (by omega)]; exact h3.2 j y1 y2⟩ ⟨by rw [q1 109 (by omega) (by omega) (by omega) (by omega)]; exact ⟨p1, p2⟩, fun i hi => by rw [q1 141 (by omega) (by omega) (by omega) (by omega), q1 145 (by omega) (by omega) (by omega) (by omega)]; exact p3 i hi, fun i hi => by rw [q1 142 (by omega) (by omega) (by omega) (by omega)]; exact p4 i hi, fun s' w' hs' hw' hD => ?_⟩
        rw [up_c _ _ _ _ (show (143 : Nat) ≠ 144 by omega), hb 143 (by omega) (by omega)]
        by_cases z : s' = s ∧ w' = w
        · obtain ⟨rfl, rfl⟩ := z
          rw [up_e, up_e]
          exact ⟨rfl, hy⟩
        · have z2 : ¬ 8 * s' + w' = 8 * s + w := by omega
          rw [up_p _ _ _ z2, up_p _ _ _ z2, hb 144 (by omega) (by omega), ha 143 (by omega) (by omega), up_c _ _ _ _ (show (144 : Nat) ≠ 143 by omega), ha 144 (by omega) (by omega)]
          exact p5 s' w' hs' hw' (by omega)
      rw [Md_laysMatch_136, ix_n (by omega), decide_eq_true c64, w_ck, cl_n (by omega)]
      cases hal : al s w with
      | false =>
        rw [bI_f, if_pos rfl, ix8r]
        exact last _ 0 (fun _ _ _ => rfl) (fun z => by rw [hal] at z; cases z)
      | true =>
        have k142 : gx_up τa 143 (8 * s + w) (wtI al Wt s w) 142 s = nI (sl s) := by rw [up_c _ _ _ _ (by omega), ha 142 (by omega) (by omega)]; exact p4 s hs
        have k141 : gx_up τa 143 (8 * s + w) (wtI al Wt s w) 141 w = nI (wk w) := by rw [up_c _ _ _ _ (by omega), ha 141 (by omega) (by omega)]; exact (p3 w (by omega)).1
        have hQb : mQ τ0 (gx_up τa 143 (8 * s + w) (wtI al Wt s w)) := ⟨fun c y1 y2 y3 y4 => by rw [gx_up_ne (by omega), ha c y2 y3]; exact h3.1 c y1 y2 y3 y4, fun j y1 y2 => by rw [up_c _ _ _ _ (by omega), ha 109 (by omega) (by omega)]; exact h3.2 j y1 y2⟩
        obtain ⟨τb, r1, r2⟩ := vP _ (mQ_e hQb) (hQb.2 42 (by omega) (by omega)) (hQb.1 110 (by omega) (by omega) (by omega) (by omega))
        rw [bI_t, if_neg (by decide), ix_n (by omega), decide_eq_true (show s < 8 by omega), w_ck, ix_n (by omega), decide_eq_true (show w < 8 by omega), w_ck, cl_n (show s < 2 ^ 31 by omega), cl_n (show w < 2 ^ 31 by omega), k142, k141, r1, w_bd, ix8r]
        exact last τb _ r2 (fun _ => rfl)
    rw [Md_laysMatch_94, Md_laysMatch_94_B, p1, if_neg (fun z => by have := (nI_leI (by omega) (by omega)).mp z; omega), ix_n (by omega), decide_eq_true (show s < 8 by omega), w_ck, cl_n (show s < 2 ^ 31 by omega), p4 s hs, show (26 : Int32) + nI (sl s) = nI (26 + sl s) from nI_add 26 _, ix_n (by omega), decide_eq_true (show 26 + sl s < 8880 by omega), w_ck, ix_n (by omega), decide_eq_true (show w < 8 by omega), w_ck, cl_n (show w < 2 ^ 31 by omega), cl_n (show 26 + sl s < 2 ^ 31 by omega), (p3 w (by omega)).1, k110, Md_has_v _ (by omega), ← v3 s w hs (by omega), w_bd, ix8r]
    cases hal : al s w with
    | false =>
      have := fin τ (fun _ _ _ => rfl)
      rw [hal] at this
      have ew : wtI al Wt s w = -1 := by unfold wtI; rw [hal]; rfl
      rw [ew, bI_f] at this
      rw [bI_f, if_pos rfl]
      exact this
    | true =>
      obtain ⟨τa, r1, r2⟩ := vW τ (mQ_e h3) (h3.2 42 (by omega) (by omega))
      have := fin τa r2
      rw [hal] at this
      have ew : wtI al Wt s w = nI (Wt s w) := by unfold wtI; rw [hal]; rfl
      rw [ew, bI_t] at this
      rw [bI_t, if_neg (by decide), p4 s hs, (p3 w (by omega)).1, r1, w_bd, w_ck, w_ck]
      exact this
theorem lays88 {τ0 : gx_R} {wk sl : Nat → Nat} {wrk : Int32} {nw ns : Nat} {al : Nat → Nat → Bool} {B : Nat → Nat} {Wt Pr : Nat → Nat → Nat} (hnw : nw ≤ 4) (hns : ns ≤ 6) (hV : PairVM nw ns wk sl al B Wt Pr wrk τ0) : ∀ m s f τ, s + m = ns → m < f → mQ τ0 τ → PairM nw ns wk sl al B Wt Pr τ (fun s' _ => s' < s) → ∃ τ', Md_laysMatch_88 f (nI s) τ = some (1, τ') ∧ mQ τ0 τ' ∧ PairM nw ns wk sl al B Wt Pr τ' (fun _ _ => True) := by
  intro m
  induction m with
  | zero =>
    intro s f τ k1 k2 h3 h4
    obtain ⟨f, rfl⟩ : ∃ q, f = q + 1 := ⟨f - 1, by omega⟩
    obtain rfl : s = ns := by omega
    refine ⟨τ, ?_, h3, h4.1, h4.2.1, h4.2.2.1, fun s' w' hs' hw' _ => h4.2.2.2 s' w' hs' hw' hs'⟩
    rw [Md_laysMatch_88, Md_laysMatch_88_B, h4.1.2, if_pos ((nI_leI (by omega) (by omega)).mpr (Nat.le_refl _))]
  | succ m ih =>
    intro s f τ k1 k2 h3 h4
    obtain ⟨f, rfl⟩ : ∃ q, f = q + 1 := ⟨f - 1, by omega⟩
    obtain ⟨τ1, g1, g2, g3⟩ := lays94 (K88 := Md_laysMatch_88 f) hnw hns (show s < ns by omega) hV nw 0 z_FU τ (by omega) (by have := z_FU_ge; omega) h3 ⟨h4.1, h4.2.1, h4.2.2.1, fun s' w' hs' hw' hD => h4.2.2.2 s' w' hs' hw' (by omega)⟩
    have g1 : Md_laysMatch_94 (Md_laysMatch_88 f) z_FU (nI s) 0 τ = _ := g1
    rw [Md_laysMatch_88, Md_laysMatch_88_B, h4.1.2, if_neg (fun z => by have := (nI_leI (by omega) (by omega)).mp z; omega), g1]
    exact ih (s + 1) f τ1 (by omega) (by omega) g2 g3
/-! numbers as rows of digits -/
def dg (b n x s : Nat) : Nat := (x / b ^ (n - 1 - s)) % b
theorem dg_s {b n x s : Nat} (h : s < n) : dg b (n + 1) x s = dg b n (x / b) s := by
  unfold dg
  rw [show n + 1 - 1 - s = n - 1 - s + 1 by omega, Nat.pow_succ, Nat.mul_comm, ← Nat.div_div_eq_div_mul]
theorem dg_l {b n x : Nat} : dg b (n + 1) x n = x % b := by
  unfold dg
  rw [show n + 1 - 1 - n = 0 by omega, Nat.pow_zero, Nat.div_one]
theorem dg_lex {b : Nat} (hb : 0 < b) : ∀ n x y, x < y → y < b ^ n → ∃ i, i < n ∧ (∀ j, j < i → dg b n x j = dg b n y j) ∧ dg b n x i < dg b n y i := by
  intro n
  induction n with
  | zero => intro x y h1 h2; rw [Nat.pow_zero] at h2; omega
  | succ n ih =>
    intro x y h1 h2
    have h3 : x / b ≤ y / b := Nat.div_le_div_right (Nat.le_of_lt h1)
    by_cases c : x / b < y / b
    · obtain ⟨i, i1, i2, i3⟩ := ih (x / b) (y / b) c (by rw [Nat.pow_succ, Nat.mul_comm] at h2; exact Nat.div_lt_of_lt_mul h2)
      refine ⟨i, by omega, fun j hj => ?_, ?_⟩
      · rw [dg_s (by omega), dg_s (by omega)]; exact i2 j hj
      · rw [dg_s i1, dg_s i1]; exact i3
    · have e : x / b = y / b := by omega
      refine ⟨n, by omega, fun j hj => by rw [dg_s hj, dg_s hj, e], ?_⟩
      rw [dg_l, dg_l]
      have q1 := Nat.div_add_mod x b
      have q2 := Nat.div_add_mod y b
      rw [e] at q1
      omega
theorem dg_all {b : Nat} (hb : 0 < b) : ∀ n (c : Nat → Nat), (∀ s, s < n → c s < b) → ∃ x, x < b ^ n ∧ ∀ s, s < n → dg b n x s = c s := by
  intro n
  induction n with
  | zero => intro c _; exact ⟨0, by rw [Nat.pow_zero]; omega, fun s hs => absurd hs (Nat.not_lt_zero s)⟩
  | succ n ih =>
    intro c h
    obtain ⟨x, x1, x2⟩ := ih c (fun s hs => h s (by omega))
    have hc := h n (by omega)
    have d1 : (x * b + c n) / b = x := by
      rw [Nat.mul_comm, Nat.mul_add_div hb, Nat.div_eq_of_lt hc, Nat.add_zero]
    have d2 : (x * b + c n) % b = c n := by
      rw [Nat.mul_comm, Nat.mul_add_mod, Nat.mod_eq_of_lt hc]
    refine ⟨x * b + c n, ?_, fun s hs => ?_⟩
    · rw [Nat.pow_succ]
      have : (x + 1) * b ≤ b ^ n * b := Nat.mul_le_mul_right _ x1
      rw [Nat.succ_mul] at this
      omega
    · by_cases z : s = n
      · rw [z, dg_l, d2]
      · rw [dg_s (by omega), d1]; exact x2 s (by omega)
