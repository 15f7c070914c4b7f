/-! ===== who sleeps for whom: both alike ===== -/
def KM : Nat := 10000001000000
def dPc (dear : Int32) (Pr : Nat → Nat → Nat) : Nat → Nat → Nat := fun s w => if dear = 0 then 1 else Pr s w
theorem pCo_1 {nw : Nat} {c : Nat → Nat} : ∀ k, pCo nw (fun _ _ => 1) c k = pCn nw c k := by
  intro k
  induction k with
  | zero => rfl
  | succ k ih => rw [pCo, pCn, ih]
def encB (b : Nat) (a7 a8 : Int32) : Prop := (b = KM ∧ a7 = -1) ∨ (b < KM ∧ a7 = nI (b / 10000000) ∧ a8 = nI (b % 10000000))
def sW (nw ns : Nat) (al : Nat → Nat → Bool) (Wt : Nat → Nat → Nat) (B : Nat → Nat) (a : Nat) : (Nat → Nat) → Prop := fun u => ∃ x, a ≤ x ∧ x < (nw + 1) ^ ns ∧ (∀ s, s < ns → u s = dg (nw + 1) ns x s) ∧ pVal nw ns al Wt B u
theorem pVal_c {nw ns : Nat} {al : Nat → Nat → Bool} {Wt : Nat → Nat → Nat} {B : Nat → Nat} {u c : Nat → Nat} (h : ∀ s, s < ns → u s = c s) (hv : pVal nw ns al Wt B u) : pVal nw ns al Wt B c := by
  refine ⟨fun s hs => ?_, fun w hw => by rw [← pFu_c w ns h]; exact hv.2 w hw⟩
  have := hv.1 s hs
  unfold pOk at this ⊢
  rw [← h s hs]
  exact this
theorem PairM_f {nw ns : Nat} {wk sl : Nat → Nat} {al : Nat → Nat → Bool} {B : Nat → Nat} {Wt Pr : Nat → Nat → Nat} {τ τ' : gx_R} {D : Nat → Nat → Prop} (h : ∀ c, c ≠ 146 → c ≠ 147 → τ' c = τ c) (hM : PairM nw ns wk sl al B Wt Pr τ D) : PairM nw ns wk sl al B Wt Pr τ' D := by
  unfold PairM at hM ⊢
  rw [h 109 (by omega) (by omega), h 141 (by omega) (by omega), h 142 (by omega) (by omega), h 143 (by omega) (by omega), h 144 (by omega) (by omega), h 145 (by omega) (by omega)]
  exact hM
theorem ways_L {τ0 : gx_R} {wk sl : Nat → Nat} {nw ns : Nat} {al : Nat → Nat → Bool} {B : Nat → Nat} {Wt Pr : Nat → Nat → Nat} {dear a5 : Int32} (hnw : nw ≤ 4) (hns : ns ≤ 6) (hWt : ∀ s w, s < ns → w < nw → Wt s w ≤ 99) (hPr : ∀ s w, s < ns → w < nw → Pr s w ≤ 999) (hB : ∀ w, w < nw → B w ≤ 99) (hM : PairM nw ns wk sl al B Wt Pr τ0 (fun _ _ => True)) (hN : (nw + 1) ^ ns < 100000) : ∀ m a f τ b a7 a8, a + m = (nw + 1) ^ ns → m < f → (∀ c, c ≠ 146 → c ≠ 147 → τ c = τ0 c) → encB b a7 a8 → ∃ b' a7' a8' τ', Md_match_42 f dear a5 (nI ((nw + 1) ^ ns)) a7 a8 (nI a) τ = Md_match_96 a5 a7' τ' ∧ (∀ c, c ≠ 146 → c ≠ 147 → τ' c = τ0 c) ∧ encB b' a7' a8' ∧ gP (pKey nw ns (dPc dear Pr)) ns nI (sW nw ns al Wt B a) b (τ 147) b' (τ' 147) := by
  intro m
  induction m with
  | zero =>
    intro a f τ b a7 a8 h1 h2 h3 h4
    obtain ⟨f, rfl⟩ : ∃ q, f = q + 1 := ⟨f - 1, by omega⟩
    refine ⟨b, a7, a8, τ, ?_, h3, h4, gP_no (fun u hu => ?_)⟩
    · rw [Md_match_42, Md_match_42_B, if_pos ((nI_leI (by omega) (by omega)).mpr (by omega))]
    · obtain ⟨x, x1, x2, -⟩ := hu
      omega
  | succ m ih =>
    intro a f τ b a7 a8 h1 h2 h3 h4
    obtain ⟨f, rfl⟩ : ∃ q, f = q + 1 := ⟨f - 1, by omega⟩
    have hMt := PairM_f h3 hM
    obtain ⟨τ1, w1, w2, w3⟩ := way_v (x := a) hnw hns (by omega) hWt hMt (fun _ _ => rfl : wFr τ τ)
    obtain ⟨c, hc⟩ : ∃ c, c = dg (nw + 1) ns a := ⟨_, rfl⟩
    rw [← hc] at w1 w3
    have hM1 := PairM_f (τ' := τ1) (fun k k1 k2 => w2 k k1) hMt
    have f1 : ∀ k, k ≠ 146 → k ≠ 147 → τ1 k = τ0 k := fun k k1 k2 => by rw [w2 k k1]; exact h3 k k1 k2
    have p1 : τ1 147 = τ 147 := w2 147 (by omega)
    have hc5 : ∀ i, c i < nw + 1 := fun i => by rw [hc]; exact Nat.mod_lt _ (by omega)
    have e1 : nI a + 1 = nI (a + 1) := nI_add a 1
    have lexs : ∀ u w : Nat → Nat, (∀ s, s < ns → u s = c s) → sW nw ns al Wt B (a + 1) w → roE ns u w := by
      rintro u w hu ⟨x, x1, x2, x3, -⟩
      obtain ⟨i, i1, i2, i3⟩ := dg_lex (b := nw + 1) (by omega) ns a x (by omega) x2
      refine Or.inr ⟨i, i1, fun j hj => ?_, ?_⟩
      · rw [hu j (by omega), hc, i2 j hj, x3 j (by omega)]
      · rw [hu i i1, hc, x3 i i1]; exact i3
    have split : ∀ u, sW nw ns al Wt B a u ↔ ((∀ s, s < ns → u s = c s) ∧ pVal nw ns al Wt B u) ∨ sW nw ns al Wt B (a + 1) u := by
      intro u
      constructor
      · rintro ⟨x, x1, x2, x3, x4⟩
        by_cases z : x = a
        · exact Or.inl ⟨fun s hs => by rw [x3 s hs, hc, z], x4⟩
        · exact Or.inr ⟨x, by omega, x2, x3, x4⟩
      · rintro (⟨x3, x4⟩ | ⟨x, x1, x2, x3, x4⟩)
        · exact ⟨a, Nat.le_refl _, by omega, fun s hs => by rw [x3 s hs, hc], x4⟩
        · exact ⟨x, by omega, x2, x3, x4⟩
    -- nothing new
    have sk : ∀ τ2, (∀ k, k ≠ 146 → k ≠ 147 → τ2 k = τ0 k) → τ2 147 = τ 147 → (∀ u, (∀ s, s < ns → u s = c s) → pVal nw ns al Wt B u → b ≤ pKey nw ns (dPc dear Pr) u) → ∃ b' a7' a8' τ', Md_match_94 (Md_match_42 f) dear a5 (nI ((nw + 1) ^ ns)) a7 a8 (nI a) τ2 = Md_match_96 a5 a7' τ' ∧ (∀ c, c ≠ 146 → c ≠ 147 → τ' c = τ0 c) ∧ encB b' a7' a8' ∧ gP (pKey nw ns (dPc dear Pr)) ns nI (sW nw ns al Wt B a) b (τ 147) b' (τ' 147) := by
      intro τ2 g1 g2 g3
      obtain ⟨b', a7', a8', τ', i1, i2, i3, i4⟩ := ih (a + 1) f τ2 b a7 a8 (by omega) (by omega) g1 h4
      refine ⟨b', a7', a8', τ', ?_, i2, i3, ?_⟩
      · rw [Md_match_94, e1]; exact i1
      · rw [g2] at i4
        exact gP_tr (gP_no (S := fun u => (∀ s, s < ns → u s = c s) ∧ pVal nw ns al Wt B u) (fun u hu => g3 u hu.1 hu.2)) i4 split (fun u w hu hw => lexs u w hu.1 hw)
    rw [Md_match_42, Md_match_42_B, if_neg (fun z => by have := (nI_leI (by omega) (by omega)).mp z; omega), w1, w_bd]
    cases hok : okA nw al c 0 ns with
    | false =>
      rw [bI_f, if_pos rfl]
      refine sk τ1 f1 p1 (fun u hu hv => ?_)
      exfalso
      have : okA nw al c 0 ns = true := (okA_t ns 0).mpr (fun i _ hi => (okW_p (hc5 i)).mpr (by
        have := hv.1 i (by omega)
        unfold pOk at this ⊢
        rw [← hu i (by omega)]; exact this))
      rw [hok] at this; cases this
    | true =>
      have hpo : ∀ i, i < ns → c i < nw + 1 ∧ pOk nw al c i ∧ τ1 146 i = nI (c i) := fun i hi => ⟨hc5 i, (okW_p (hc5 i)).mp ((okA_t ns 0).mp hok i (Nat.zero_le _) (by omega)), w3 i hi⟩
      obtain ⟨be, n1, n2⟩ := enough_v hnw hns hWt hB hM1 hpo nw 0 z_FU (by omega) (by have := z_FU_ge; omega) (fun i hi => absurd hi (Nat.not_lt_zero i))
      have n1 : Md_isEnough τ1 = some (bI be, τ1) := n1
      rw [bI_t, if_neg (by decide), n1, w_bd]
      cases be with
      | false =>
        rw [bI_f, if_pos rfl]
        refine sk τ1 f1 p1 (fun u hu hv => ?_)
        exfalso
        have : false = true := n2.mpr (fun i hi => by rw [← pFu_c (c := u) i ns hu]; exact hv.2 i hi)
        cases this
      | true =>
        have hval : pVal nw ns al Wt B c := ⟨fun i hi => (hpo i hi).2.1, n2.mp rfl⟩
        have c1 := count_L hnw hns hM1 hpo ns 0 z_FU (by omega) (by have := z_FU_ge; omega)
        have c1 : Md_sleepNow τ1 = some (nI (pCn nw c ns), τ1) := c1
        have hcn := pCn_b (nw := nw) (c := c) ns
        have hco : pCo nw (dPc dear Pr) c ns ≤ 999 * ns := pCo_b ns (fun i hi hi2 => by
          unfold dPc
          split
          · omega
          · exact hPr i (c i) hi hi2)
        have key_u : ∀ u : Nat → Nat, (∀ s, s < ns → u s = c s) → pKey nw ns (dPc dear Pr) u = pCo nw (dPc dear Pr) c ns * 10000000 + pCn nw c ns := fun u hu => by
          unfold pKey
          rw [pCo_c ns hu, pCn_c ns hu]
        have dv : ∀ q r : Nat, r < 10000000 → (q * 10000000 + r) / 10000000 = q ∧ (q * 10000000 + r) % 10000000 = r := fun q r h => ⟨by omega, by omega⟩
        -- with the cost known
        have fin : ∃ b' a7' a8' τ', Md_match_61 (Md_match_94 (Md_match_42 f)) dear a5 (nI ((nw + 1) ^ ns)) a7 a8 (nI a) (nI (pCn nw c ns)) (nI (pCo nw (dPc dear Pr) c ns)) τ1 = Md_match_96 a5 a7' τ' ∧ (∀ c, c ≠ 146 → c ≠ 147 → τ' c = τ0 c) ∧ encB b' a7' a8' ∧ gP (pKey nw ns (dPc dear Pr)) ns nI (sW nw ns al Wt B a) b (τ 147) b' (τ' 147) := by
          have new : pCo nw (dPc dear Pr) c ns * 10000000 + pCn nw c ns < b → ∃ b' a7' a8' τ', Md_match_74 (Md_match_94 (Md_match_42 f)) dear a5 (nI ((nw + 1) ^ ns)) (nI a) (nI (pCn nw c ns)) (nI (pCo nw (dPc dear Pr) c ns)) τ1 = Md_match_96 a5 a7' τ' ∧ (∀ c, c ≠ 146 → c ≠ 147 → τ' c = τ0 c) ∧ encB b' a7' a8' ∧ gP (pKey nw ns (dPc dear Pr)) ns nI (sW nw ns al Wt B a) b (τ 147) b' (τ' 147) := by
            intro hlt
            obtain ⟨τ2, k1, k2, k3⟩ := keep_L (τ0 := τ1) (c := c) (a4 := dear) (a5 := a5) (a6 := nI ((nw + 1) ^ ns)) (a7 := nI (pCo nw (dPc dear Pr) c ns)) (a8 := nI (pCn nw c ns)) (a9 := nI a) (K94 := Md_match_94 (Md_match_42 f)) hns hM1.1.2 w3 ns 0 z_FU τ1 (by omega) (by have := z_FU_ge; omega) (fun _ _ => rfl) (fun i hi => absurd hi (Nat.not_lt_zero i))
            obtain ⟨d1, d2⟩ := dv (pCo nw (dPc dear Pr) c ns) (pCn nw c ns) (by omega)
            obtain ⟨b', a7', a8', τ', i1, i2, i3, i4⟩ := ih (a + 1) f τ2 (pCo nw (dPc dear Pr) c ns * 10000000 + pCn nw c ns) (nI (pCo nw (dPc dear Pr) c ns)) (nI (pCn nw c ns)) (by omega) (by omega) (fun k q1 q2 => by rw [k2 k q2]; exact f1 k q1 q2) (Or.inr ⟨by unfold KM; omega, by rw [d1], by rw [d2]⟩)
            refine ⟨b', a7', a8', τ', ?_, i2, i3, ?_⟩
            · rw [Md_match_74]
              refine (show _ = _ from k1).trans ?_
              rw [Md_match_94, e1]; exact i1
            · refine gP_tr (Or.inr ⟨hlt, c, ⟨fun _ _ => rfl, hval⟩, key_u c (fun _ _ => rfl), k3, fun u hu => ?_⟩) i4 split (fun u w hu hw => lexs u w hu.1 hw)
              rw [key_u u hu.1]
              exact ⟨Nat.le_refl _, fun _ => Or.inl (fun i hi => (hu.1 i hi).symm)⟩
          have old : b ≤ pCo nw (dPc dear Pr) c ns * 10000000 + pCn nw c ns → _ := fun hle => sk τ1 f1 p1 (fun u hu _ => by rw [key_u u hu]; exact hle)
          rw [Md_match_61]
          rcases h4 with ⟨q1, q2⟩ | ⟨q1, q2, q3⟩
          · rw [if_pos q2]
            exact new (by rw [q1]; unfold KM; omega)
          · have qb : b / 10000000 < 2 ^ 31 := by unfold KM at q1; omega
            have qm : b % 10000000 < 10000000 := Nat.mod_lt _ (by omega)
            have qd := Nat.div_add_mod b 10000000
            rw [if_neg (by rw [q2]; exact fun z => (n_m1 qb).mp z), q2, q3]
            by_cases z1 : pCo nw (dPc dear Pr) c ns < b / 10000000
            · rw [if_pos ((nI_ltI (by omega) qb).mpr z1)]
              exact new (by omega)
            · rw [if_neg (fun z => z1 ((nI_ltI (by omega) qb).mp z))]
              by_cases z2 : pCo nw (dPc dear Pr) c ns = b / 10000000
              · rw [if_pos (by rw [z2])]
                by_cases z3 : b % 10000000 ≤ pCn nw c ns
                · rw [if_pos ((nI_leI (by omega) (by omega)).mpr z3), ← q2, ← q3]
                  exact old (by omega)
                · rw [if_neg (fun z => z3 ((nI_leI (by omega) (by omega)).mp z))]
                  exact new (by omega)
              · rw [if_neg (fun z => z2 ((nI_eq (by omega) qb).mp z)), ← q2, ← q3]
                exact old (by omega)
        rw [bI_t, if_neg (by decide), c1, w_bd]
        by_cases hd : dear = 0
        · rw [if_pos hd]
          have e : pCo nw (dPc dear Pr) c ns = pCn nw c ns := by
            rw [show dPc dear Pr = fun _ _ => 1 from by funext s w; exact if_pos hd]
            exact pCo_1 ns
          rw [e] at fin
          exact fin
        · rw [if_neg hd]
          have c2 := price_L hnw hns hM1 hpo ns 0 z_FU (by omega) (by have := z_FU_ge; omega)
          have c2 : Md_priceNow τ1 = some (nI (pCo nw Pr c ns), τ1) := c2
          have e : dPc dear Pr = Pr := by funext s w; exact if_neg hd
          rw [e] at fin
          rw [c2, w_bd, e]
          exact fin
theorem pow_L {τ : gx_R} {nw ns : Nat} {a4 a5 : Int32} (hns : ns ≤ 6) (hnw : nw ≤ 4) (h58 : τ 109 58 = nI nw) (h59 : τ 109 59 = nI ns) : ∀ m s f, s + m = ns → m < f → Md_match_23 f a4 a5 (nI ((nw + 1) ^ s)) (nI s) τ = Md_match_36 a4 a5 (nI ((nw + 1) ^ ns)) τ := by
  intro m
  induction m with
  | zero =>
    intro s f h1 h2
    obtain ⟨f, rfl⟩ : ∃ q, f = q + 1 := ⟨f - 1, by omega⟩
    obtain rfl : s = ns := by omega
    rw [Md_match_23, Md_match_23_B, h59, if_pos ((nI_leI (by omega) (by omega)).mpr (Nat.le_refl _))]
  | succ m ih =>
    intro s f h1 h2
    obtain ⟨f, rfl⟩ : ∃ q, f = q + 1 := ⟨f - 1, by omega⟩
    rw [Md_match_23, Md_match_23_B, h59, if_neg (fun z => by have := (nI_leI (by omega) (by omega)).mp z; omega), h58, show nI nw + 1 = nI (nw + 1) from nI_add nw 1, pk_mul, ← Nat.pow_succ, show nI s + 1 = nI (s + 1) from nI_add s 1]
    exact ih (s + 1) f (by omega) (by omega)
/-- the reference's answer -/
theorem matchM {τ : gx_R} {wk sl : Nat → Nat} {nw ns : Nat} {al : Nat → Nat → Bool} {B : Nat → Nat} {Wt Pr : Nat → Nat → Nat} {dear a5 : Int32} (hnw : nw ≤ 4) (hns : ns ≤ 6) (hWt : ∀ s w, s < ns → w < nw → Wt s w ≤ 99) (hPr : ∀ s w, s < ns → w < nw → Pr s w ≤ 999) (hB : ∀ w, w < nw → B w ≤ 99) (hM : PairM nw ns wk sl al B Wt Pr τ (fun _ _ => True)) : ∃ b' a7' a8' τ', Md_match_19 dear a5 τ = Md_match_96 a5 a7' τ' ∧ (∀ c, c ≠ 146 → c ≠ 147 → τ' c = τ c) ∧ encB b' a7' a8' ∧ gP (pKey nw ns (dPc dear Pr)) ns nI (sW nw ns al Wt B 0) KM (τ 147) b' (τ' 147) := by
  have hN : (nw + 1) ^ ns < 100000 := by
    have : (nw + 1) ^ ns ≤ 5 ^ 6 := Nat.le_trans (Nat.pow_le_pow_left (by omega) ns) (Nat.pow_le_pow_right (by omega) hns)
    omega
  obtain ⟨b', a7', a8', τ', i1, i2, i3, i4⟩ := ways_L (dear := dear) (a5 := a5) hnw hns hWt hPr hB hM hN ((nw + 1) ^ ns) 0 z_FU τ KM (-1) 0 (by omega) (by have := z_FU_ge; omega) (fun _ _ _ => rfl) (Or.inl ⟨rfl, rfl⟩)
  refine ⟨b', a7', a8', τ', ?_, i2, i3, i4⟩
  have := pow_L (a4 := dear) (a5 := a5) hns hnw hM.1.1 hM.1.2 ns 0 z_FU (by omega) (by have := z_FU_ge; omega)
  rw [Md_match_19]
  refine (show Md_match_23 z_FU dear a5 1 0 τ = _ from this).trans ?_
  rw [Md_match_36]
  exact i1
theorem sW_all {nw ns : Nat} {al : Nat → Nat → Bool} {Wt : Nat → Nat → Nat} {B : Nat → Nat} {u : Nat → Nat} : sW nw ns al Wt B 0 u ↔ pVal nw ns al Wt B u := by
  constructor
  · rintro ⟨x, -, -, -, h⟩; exact h
  · intro h
    obtain ⟨x, x1, x2⟩ := dg_all (b := nw + 1) (by omega) ns u (fun s hs => by
      rcases h.1 s hs with z | ⟨z, -⟩ <;> omega)
    exact ⟨x, Nat.zero_le _, x1, fun s hs => (x2 s hs).symm, h⟩
/-- the class's answer -/
theorem zero_L {σ0 : gx_R} {nw : Nat} (hnw : nw ≤ 4) (h0 : σ0 63 4 = nI nw) : ∀ m w f σ, w + m = nw → m < f → (∀ c, c ≠ 70 → σ c = σ0 c) → (∀ i, i < w → σ 70 i = 0) → ∃ σ', Pa_solve_8 f (nI w) σ = Pa_solve_19 σ' ∧ (∀ c, c ≠ 70 → σ' c = σ0 c) ∧ ∀ i, i < nw → σ' 70 i = 0 := by
  intro m
  induction m with
  | zero =>
    intro w f σ h1 h2 h3 h4
    obtain ⟨f, rfl⟩ : ∃ q, f = q + 1 := ⟨f - 1, by omega⟩
    obtain rfl : w = nw := by omega
    refine ⟨σ, ?_, h3, h4⟩
    rw [Pa_solve_8, Pa_solve_8_B, h3 63 (by omega), h0, if_pos ((nI_leI (by omega) (by omega)).mpr (Nat.le_refl _))]
  | succ m ih =>
    intro w f σ h1 h2 h3 h4
    obtain ⟨f, rfl⟩ : ∃ q, f = q + 1 := ⟨f - 1, by omega⟩
    rw [Pa_solve_8, Pa_solve_8_B, h3 63 (by omega), h0, if_neg (fun z => by have := (nI_leI (by omega) (by omega)).mp z; omega), ix_n (by omega), decide_eq_true (show w < 4 by omega), w_ck, cl_n (by omega), show nI w + 1 = nI (w + 1) from nI_add w 1]
    exact ih (w + 1) f _ (by omega) (by omega) (fun c hc => by rw [gx_up_ne hc]; exact h3 c hc) (fun i hi => by
      by_cases z : i = w
      · rw [z, up_e]
      · rw [up_p _ _ _ z]; exact h4 i (by omega))
theorem matchC {σ : gx_R} {nw ns lp : Nat} {wk : Nat → Nat} {al : Nat → Nat → Bool} {B : Nat → Nat} {Wt Pc : Nat → Nat → Nat} (hD : PairD nw ns wk al B Wt Pc lp σ) : ∃ b1 b2 σ', (∀ c, ¬ (63 ≤ c ∧ c ≤ 72) → σ' c = σ c) ∧ σ' 65 = σ 65 ∧ σ' 63 5 = nI ns ∧ σ' 63 15 = nI b1 ∧ b1 ≤ 1000000 ∧ b2 ≤ 1000000 ∧ Pa_solve σ = some (if 1000000 ≤ b2 then 0 else 1, σ') ∧ gP (pKey nw ns Pc) ns (pEn nw wk) (pVal nw ns al Wt B) KM (σ 72) (b1 * 10000000 + b2) (σ' 72) := by
  have hDD := hD
  obtain ⟨⟨d1, d2, d3⟩, ⟨d4, d5, d6⟩, -⟩ := hD
  obtain ⟨σ1, z1, z2, z3⟩ := zero_L (σ0 := gx_up (gx_up σ 63 15 1000000) 63 14 1000000) d1 (by rw [up_p _ _ _ (by omega), up_p _ _ _ (by omega)]; exact d4) nw 0 z_FU _ (by omega) (by have := z_FU_ge; omega) (fun _ _ => rfl) (fun i hi => absurd hi (Nat.not_lt_zero i))
  have hF : pF σ σ1 := ⟨fun c hc hc2 => by rw [z2 c (by omega), gx_up_ne hc, gx_up_ne hc], fun j j1 j2 => by rw [z2 63 (by omega), up_p _ _ _ j1, up_p _ _ _ j2]⟩
  obtain ⟨b1, b2, σ', s1, s2, s3, s4, ⟨s5, s6, s7, s8⟩, s9⟩ := search_v hDD ns 0 10 (fun _ => 0) σ1 1000000 1000000 (by omega) (by omega) hF (fun i hi => absurd hi (Nat.not_lt_zero i)) (fun w hw => by rw [z3 w hw]; rfl) (fun i hi => absurd hi (Nat.not_lt_zero i)) (by rw [z2 63 (by omega), up_p _ _ _ (by omega), up_e]; rfl) (by rw [z2 63 (by omega), up_e]; rfl) (Nat.le_refl _) (Nat.le_refl _)
  have s1 : Pa_search 0 0 0 σ1 = some ((), σ') := s1
  refine ⟨b1, b2, σ', fun c hc => s2.1 c (by omega) (by omega), s2.1 65 (by omega) (by omega), by rw [s2.2 5 (by omega) (by omega)]; exact d5, s5, s7, s8, ?_, ?_⟩
  · rw [Pa_solve]
    refine (show Pa_solve_8 z_FU 0 _ = _ from z1).trans ?_
    rw [Pa_solve_19, s1, w_bd, s6]
    by_cases c : 1000000 ≤ b2
    · rw [if_pos c, if_pos (show (1000000 : Int32) ≤ nI b2 from (nI_leI (a := 1000000) (by omega) (by omega)).mpr c)]
    · rw [if_neg c, if_neg (show ¬ (1000000 : Int32) ≤ nI b2 from fun z => c ((nI_leI (a := 1000000) (by omega) (by omega)).mp z))]
  · rw [z2 72 (by omega), gx_up_ne (show (72 : Nat) ≠ 63 by omega), gx_up_ne (show (72 : Nat) ≠ 63 by omega)] at s9
    exact gP_eq (fun u => ⟨fun z => z.2, fun z => ⟨fun i hi => absurd hi (Nat.not_lt_zero i), z⟩⟩) s9
/-- one best way: the same for both -/
theorem best_same {nw ns : Nat} {Pc : Nat → Nat → Nat} {S1 S2 : (Nat → Nat) → Prop} {en1 en2 : Nat → Int32} {b1 b2 : Nat} {p1 p2 q1 q2 : Nat → Int32} (hS : ∀ u, S1 u ↔ S2 u) (h1 : gP (pKey nw ns Pc) ns en1 S1 KM p1 b1 q1) (h2 : gP (pKey nw ns Pc) ns en2 S2 KM p2 b2 q2) : b1 = b2 ∧ ((b1 = KM) ∨ (b1 < KM ∧ ∃ u, S1 u ∧ pKey nw ns Pc u = b1 ∧ (∀ i, i < ns → q1 i = en1 (u i)) ∧ ∀ i, i < ns → q2 i = en2 (u i))) := by
  rcases h1 with ⟨a1, a2, a3⟩ | ⟨a1, u, a2, a3, a4, a5⟩
  · rcases h2 with ⟨c1, c2, c3⟩ | ⟨c1, w, c2, c3, c4, c5⟩
    · exact ⟨by omega, Or.inl a1⟩
    · have := a3 w ((hS w).mpr c2)
      omega
  · rcases h2 with ⟨c1, c2, c3⟩ | ⟨c1, w, c2, c3, c4, c5⟩
    · have := c3 u ((hS u).mp a2)
      omega
    · obtain ⟨x1, x2⟩ := a5 w ((hS w).mpr c2)
      obtain ⟨y1, y2⟩ := c5 u ((hS u).mp a2)
      have e : b1 = b2 := by omega
      have hh := roE_as (x2 (by omega)) (y2 (by omega))
      exact ⟨e, Or.inr ⟨a1, u, a2, a3, a4, fun i hi => by rw [c4 i hi, hh i hi]⟩⟩
