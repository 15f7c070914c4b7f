/-! ===== match and whoCannot ===== -/
theorem chs {n : Nat} {Q : Nat → Nat → Prop} (h : ∀ i, i < n → ∃ v, Q i v) : ∃ f : Nat → Nat, ∀ i, i < n → Q i (f i) := by
  have : ∀ i, ∃ v, i < n → Q i v := fun i => by
    by_cases z : i < n
    · obtain ⟨v, hv⟩ := h i z; exact ⟨v, fun _ => hv⟩
    · exact ⟨0, fun y => absurd y z⟩
  exact ⟨fun i => Classical.choose (this i), fun i hi => Classical.choose_spec (this i) hi⟩
theorem chs2 {n m : Nat} {Q : Nat → Nat → Nat → Prop} (h : ∀ i j, i < n → j < m → ∃ v, Q i j v) : ∃ f : Nat → Nat → Nat, ∀ i j, i < n → j < m → Q i j (f i j) := by
  have : ∀ i j, ∃ v, i < n → j < m → Q i j v := fun i j => by
    by_cases z : i < n ∧ j < m
    · obtain ⟨v, hv⟩ := h i j z.1 z.2; exact ⟨v, fun _ _ => hv⟩
    · exact ⟨0, fun y y2 => absurd ⟨y, y2⟩ z⟩
  exact ⟨fun i j => Classical.choose (this i j), fun i j hi hj => Classical.choose_spec (this i j) hi hj⟩
def canB (P W : Nat) (a1 a2 a3 : Int32) : Bool := (gpB P a1 && decide (pcN 8 a1.toNatClampNeg ≤ 4)) && ((gpB P a3 && decide (pcN 8 a3.toNatClampNeg ≤ 6)) && (decide (a1 &&& a3 = 0) && z_ix a2 W))
theorem canPair_v {σ : gx_R} {P W : Nat} (hP : P ≤ 8) (hW : W ≤ 6) (h0 : σ 2 0 = nI P) (h1 : σ 2 1 = nI W) (a1 a2 a3 : Int32) : Sf_canPair a1 a2 a3 σ = some (bI (canB P W a1 a2 a3), σ) := by
  have g1 : Fo_isGroup a1 1 4 σ = _ := isGroup_u (u := 4) hP (by omega) h0 a1
  have g2 : Fo_isGroup a3 1 6 σ = _ := isGroup_u (u := 6) hP (by omega) h0 a3
  rw [Sf_canPair, g1, w_bd]
  unfold canB
  cases (gpB P a1 && decide (pcN 8 a1.toNatClampNeg ≤ 4)) with
  | false => rw [bI_f, if_pos rfl]; rfl
  | true =>
    rw [bI_t, if_neg (by decide), g2, w_bd]
    cases (gpB P a3 && decide (pcN 8 a3.toNatClampNeg ≤ 6)) with
    | false => rw [bI_f, if_pos rfl]; rfl
    | true =>
      rw [bI_t, if_neg (by decide)]
      by_cases c : a1 &&& a3 = 0
      · rw [if_pos c, Fo_isWork_v h1 hW, w_bd, decide_eq_true c]
        cases z_ix a2 W with
        | false => rw [bI_f, if_pos rfl]; rfl
        | true => rw [bI_t, if_neg (by decide)]; rfl
      · rw [if_neg c, decide_eq_false c]; rfl
theorem laysMatch_n {τ : gx_R} {P W : Nat} (hP : P ≤ 8) (hW : W ≤ 6) (h0 : τ 110 0 = nI P) (h1 : τ 110 1 = nI W) (a1 a2 a3 : Int32) : Md_laysMatch a1 a2 a3 τ = if canB P W a1 a2 a3 = true then z_bd (Md_laysNow τ) (fun _ σ23 => Md_laysMatch_36 z_FU a1 a2 a3 0 (gx_up (gx_up σ23 109 58 0) 109 59 0)) else some (0, τ) := by
  rw [Md_laysMatch, isSet_v hP h0, w_bd]
  unfold canB
  cases hg1 : gpB P a1 with
  | false => rw [bI_f, if_pos rfl, if_neg (by simp)]
  | true =>
    obtain ⟨g, k1, k2, rfl⟩ := gp_n hP hg1
    have g256 : g < 256 := by have := pow_8 hP; omega
    have p8 := pcN_8 g
    rw [bI_t, if_neg (by decide), isSet_v hP h0, w_bd]
    cases hg2 : gpB P a3 with
    | false => rw [bI_f, if_pos rfl, if_neg (by simp)]
    | true =>
      obtain ⟨g', k1', k2', rfl⟩ := gp_n hP hg2
      have g256' : g' < 256 := by have := pow_8 hP; omega
      have p8' := pcN_8 g'
      rw [bI_t, if_neg (by decide), Md_isWork_v h1 hW, w_bd, cl_n (by omega), cl_n (by omega)]
      cases hw : z_ix a2 W with
      | false => rw [bI_f, if_pos rfl, if_neg (by simp)]
      | true =>
        rw [bI_t, if_neg (by decide), many_v g256, w_bd]
        by_cases c1 : pcN 8 g ≤ 4
        · rw [if_neg (show ¬ (4 : Int32) < nI (pcN 8 g) from fun z => by have := (nI_ltI (a := 4) (by omega) (by omega)).mp z; omega), many_v g256', w_bd]
          by_cases c2 : pcN 8 g' ≤ 6
          · rw [if_neg (show ¬ (6 : Int32) < nI (pcN 8 g') from fun z => by have := (nI_ltI (a := 6) (by omega) (by omega)).mp z; omega)]
            by_cases c3 : nI g &&& nI g' = 0
            · rw [if_pos c3, if_pos (by simp [c1, c2, c3])]
            · rw [if_neg c3, if_neg (by simp [c3])]
          · rw [if_pos (show (6 : Int32) < nI (pcN 8 g') from (nI_ltI (a := 6) (by omega) (by omega)).mpr (by omega)), if_neg (by simp [c2])]
        · rw [if_pos (show (4 : Int32) < nI (pcN 8 g) from (nI_ltI (a := 4) (by omega) (by omega)).mpr (by omega)), if_neg (by simp [c1])]
theorem cB_P {g P : Nat} (hP : P ≤ 8) (hg : g < 2 ^ P) : cB (bt (nI g)) P = cB (bt (nI g)) 8 := by
  have : ∀ d, P + d ≤ 8 → cB (bt (nI g)) (P + d) = cB (bt (nI g)) P := by
    intro d
    induction d with
    | zero => intro _; rfl
    | succ d ih =>
      intro h
      rw [show P + (d + 1) = P + d + 1 by omega, cB, ih (by omega), bt_n _ (by omega), Nat.testBit_lt_two_pow (Nat.lt_of_lt_of_le hg (Nat.pow_le_pow_right (by omega) (show P ≤ P + d by omega)))]
      rfl
  have := this (8 - P) (by omega)
  rw [show P + (8 - P) = 8 by omega] at this
  exact this.symm
theorem bt_P {g P p : Nat} (hg : g < 2 ^ P) (hp : p < 8) (h : bt (nI g) p = true) : p < P := by
  rcases Nat.lt_or_ge p P with y | y
  · exact y
  · rw [bt_n _ (by omega), Nat.testBit_lt_two_pow (Nat.lt_of_lt_of_le hg (Nat.pow_le_pow_right (by omega) y))] at h
    cases h
/-- both have made ready -/
theorem ready {σ τ : gx_R} {P W H K T g1 g2 w : Nat} (r1 : ValleyR σ 1 (τ 110) P W H K T) (ht : ∀ t, t < T → TextR σ τ t) (hg1 : g1 < 2 ^ P) (hg2 : g2 < 2 ^ P) (h4 : pcN 8 g1 ≤ 4) (h6 : pcN 8 g2 ≤ 6) (hw : w < W) : ∃ nw ns al B Wt Pr, nw = cB (bt (nI g1)) 8 ∧ ns = cB (bt (nI g2)) 8 ∧ nw ≤ 4 ∧ ns ≤ 6 ∧ (∀ s w, s < ns → w < nw → Wt s w ≤ 99) ∧ (∀ s w, s < ns → w < nw → Pr s w ≤ 999) ∧ (∀ w, w < nw → B w ≤ 99) ∧
    (∀ dear, ∃ σ1 lp, Pa_prepare (nI g1) (nI w) (nI g2) dear σ = some ((), σ1) ∧ pQ σ σ1 ∧ PairD nw ns (nth (bt (nI g1))) al B Wt (dPc dear Pr) lp σ1 ∧ ∀ s, s < ns → σ1 65 s = nI (nth (bt (nI g2)) s)) ∧
    ∃ τ1, z_bd (Md_laysNow τ) (fun _ σ23 => Md_laysMatch_36 z_FU (nI g1) (nI w) (nI g2) 0 (gx_up (gx_up σ23 109 58 0) 109 59 0)) = some (1, τ1) ∧ (∀ k, ¬ (k = 109 ∨ 121 ≤ k) → τ1 k = τ k) ∧ (∀ j, j < 14 → τ1 109 j = τ 109 j) ∧ PairM nw ns (nth (bt (nI g1))) (nth (bt (nI g2))) al B Wt Pr τ1 (fun _ _ => True) := by
  have hP := r1.1.1.1
  have hH : H ≤ 999 := r1.2.2.1
  have p8 := pow_8 hP
  have p2 : τ 110 0 = nI P := r1.1.2.1.2.1
  have n1 : cB (bt (nI g1)) 8 = pcN 8 g1 := by
    rw [pc_cB g1 (by omega)]
    exact cB_cong (fun i hi => bt_n _ (by omega))
  have n2 : cB (bt (nI g2)) 8 = pcN 8 g2 := by
    rw [pc_cB g2 (by omega)]
    exact cB_cong (fun i hi => bt_n _ (by omega))
  obtain ⟨τ0, u1, hN, u3, u4⟩ := lays_R r1
  have hE : EnvR σ τ0 P W T := EnvR_fr (eC_rf σ) ⟨fun i _ => by rw [u3 110 (by omega) (by omega)], fun k z1 z2 => u3 k (by omega) (by omega)⟩ (EnvR_of r1 ht)
  obtain ⟨hn6, -, hn7⟩ := hN.2.2.2.2.2.1
  have h42 : τ0 109 42 = nI H := hn6.trans hn7
  have h9 : σ 9 6 = nI H := hn7
  have h110 : τ0 110 = τ 110 := u3 110 (by omega) (by omega)
  obtain ⟨nw, enw⟩ : ∃ nw, nw = cB (bt (nI g1)) 8 := ⟨_, rfl⟩
  obtain ⟨ns, ens⟩ : ∃ ns, ns = cB (bt (nI g2)) 8 := ⟨_, rfl⟩
  have wkP : ∀ w, w < nw → nth (bt (nI g1)) w < P := fun w hw => by
    obtain ⟨q1, q2, q3⟩ := nth_sp (f := bt (nI g1)) (j := w) (by omega)
    exact bt_P hg1 q1 q2
  have slP : ∀ s, s < ns → nth (bt (nI g2)) s < P := fun s hs => by
    obtain ⟨q1, q2, q3⟩ := nth_sp (f := bt (nI g2)) (j := s) (by omega)
    exact bt_P hg2 q1 q2
  obtain ⟨B, hB⟩ := chs (n := nw) (fun i hi => brn_ex (o := 0) hE (show H ≤ 1000000 by omega) h42 (wkP i hi) hw (by omega))
  obtain ⟨Wt, hWt⟩ := chs2 (n := ns) (m := nw) (fun i j hi hj => wrt_ex (o := 0) (d := 0) hE (show H ≤ 1000000 by omega) h42 (slP i hi) (show nth (bt (nI g1)) j ≤ 1000000 by have := wkP j hj; omega) (by omega) (by omega))
  have hO : ∀ p q, p < 8 → q < 8 → ∃ o, o ≤ 99 ∧ σ 14 (8 * p + q) = nI o ∧ τ0 110 (98 + 8 * p + q) = nI o := fun p q hp hq => by
    obtain ⟨o, o1, o2, -⟩ := r1.2.1.2.2.2.2.2.2.2.2.2.1 p q hp hq
    rw [nu_e σ _ (by omega)] at o2
    have o2 : σ 14 (8 * p + q) = nI o := o2
    exact ⟨o, o1, o2, by rw [h110, show 98 + 8 * p + q = 98 + (8 * p + q) by omega, owes_eq r1 (by omega)]; exact o2⟩
  obtain ⟨ow, how⟩ := chs2 (n := 8) (m := 8) (fun p q hp hq => hO p q hp hq)
  obtain ⟨Pr, hPr⟩ := chs2 (n := ns) (m := nw) (fun i j hi hj => prc_ex hE (show H ≤ 1000000 by omega) h42 (slP i hi) (wkP j hj) (show ow (nth (bt (nI g1)) j) (nth (bt (nI g2)) i) ≤ 1000000 by have := (how _ (nth (bt (nI g2)) i) (show nth (bt (nI g1)) j < 8 by have := wkP j hj; omega) (show nth (bt (nI g2)) i < 8 by have := slP i hi; omega)).1; omega) (how _ (nth (bt (nI g2)) i) (show nth (bt (nI g1)) j < 8 by have := wkP j hj; omega) (show nth (bt (nI g2)) i < 8 by have := slP i hi; omega)).2.2)
  have hV : PairV nw ns (nth (bt (nI g1))) (nth (bt (nI g2))) (fun s w => bt (σ 5 (nth (bt (nI g2)) s)) (nth (bt (nI g1)) w)) B Wt (nI w) (nI H) σ := ⟨fun i hi => ⟨by have := wkP i hi; omega, (hB i hi).1, (hB i hi).2.1⟩, fun s hs => by have := slP s hs; omega, fun _ _ _ _ => rfl, fun s i hs hi => ⟨(hWt s i hs hi).1, (hWt s i hs hi).2.1⟩⟩
  have hVM : PairVM nw ns (nth (bt (nI g1))) (nth (bt (nI g2))) (fun s w => bt (σ 5 (nth (bt (nI g2)) s)) (nth (bt (nI g1)) w)) B Wt Pr (nI w) τ0 := ⟨fun i hi => ⟨by have := wkP i hi; omega, (hB i hi).2.2⟩, fun s hs => by have := slP s hs; omega, fun s i hs hi => by rw [h110, (r1.1.2.2.2.1 _ (show nth (bt (nI g2)) s < 8 by have := slP s hs; omega)).1], fun s i hs hi => ⟨(hWt s i hs hi).2.2, (hPr s i hs hi).2.2⟩⟩
  refine ⟨nw, ns, fun s w => bt (σ 5 (nth (bt (nI g2)) s)) (nth (bt (nI g1)) w), B, Wt, Pr, enw, ens, by omega, by omega, fun s w hs hw => (hWt s w hs hw).1, fun s w hs hw => (hPr s w hs hw).1, fun w hw => (hB w hw).1, fun dear => ?_, ?_⟩
  · have hPP : PairP nw ns (nth (bt (nI g1))) (nth (bt (nI g2))) (dPc dear Pr) dear (nI H) σ := fun s i hs hi => by
      unfold dPc
      by_cases z : dear = 0
      · rw [if_pos z]; exact ⟨by omega, Or.inl ⟨z, rfl⟩⟩
      · rw [if_neg z]
        refine ⟨(hPr s i hs hi).1, Or.inr ⟨z, _, (how _ _ (show nth (bt (nI g1)) i < 8 by have := wkP i hi; omega) (show nth (bt (nI g2)) s < 8 by have := slP s hs; omega)).2.1, (hPr s i hs hi).2.1⟩⟩
    obtain ⟨σ1, c1, c2, c3⟩ := prep_v (σ := σ) (dear := dear) enw ens (by omega) (by omega) hV hPP h9
    obtain ⟨lp, hD⟩ := PairD_of (by omega) (by omega) (fun w hw => (hB w hw).1) (fun s w hs hw => ⟨(hWt s w hs hw).1, (hPP s w hs hw).1⟩) c3
    exact ⟨σ1, lp, c1, c2, hD, c3.2.2.1⟩
  · have q0 : mQ τ0 (gx_up (gx_up τ0 109 58 0) 109 59 0) := ⟨fun c y1 _ _ _ => by rw [gx_up_ne y1, gx_up_ne y1], fun j y1 y2 => by rw [up_p _ _ _ y2, up_p _ _ _ y1]⟩
    have cP1 := cB_P hP hg1
    have cP2 := cB_P hP hg2
    obtain ⟨τ1, b1, b2, b3, b4, b5⟩ := lays36 (τ0 := τ0) (g1 := nI g1) (g2 := nI g2) hP (by rw [h110]; exact p2) (by rw [cP1]; exact enw) hVM P 0 z_FU _ (by omega) (by have := z_FU_ge; omega) q0 ⟨by rw [up_p _ _ _ (by omega), up_e]; rfl, by rw [up_e]; rfl⟩ (fun j hj => absurd hj (Nat.not_lt_zero j)) (fun j hj => absurd hj (Nat.not_lt_zero j))
    rw [cP1] at b3 b4
    rw [cP2] at b3 b5
    obtain ⟨τ2, c1, c2, c3⟩ := lays88 (τ0 := τ0) (by omega) (by omega) hVM ns 0 z_FU τ1 (by omega) (by have := z_FU_ge; omega) b2 ⟨by rw [enw, ens]; exact b3, fun i hi => b4 i (by omega), fun i hi => b5 i (by omega), fun s' w' _ _ hD => absurd hD (Nat.not_lt_zero _)⟩
    refine ⟨τ2, ?_, fun k hk => by rw [c2.1 k (by omega) (by omega) (by omega) (by omega), u3 k (by omega) (by omega)], fun j hj => by rw [c2.2 j (by omega) (by omega), u4 j (by omega) (by omega)], c3⟩
    rw [u1, w_bd]
    have b1 : Md_laysMatch_36 z_FU (nI g1) (nI w) (nI g2) 0 (gx_up (gx_up τ0 109 58 0) 109 59 0) = _ := b1
    rw [b1, Md_laysMatch_86]
    exact c1
theorem canB_e {P W : Nat} {a1 a2 a3 : Int32} (hP : P ≤ 8) (hW : W ≤ 6) (h : canB P W a1 a2 a3 = true) : ∃ g1 g2 w, a1 = nI g1 ∧ a3 = nI g2 ∧ a2 = nI w ∧ g1 < 2 ^ P ∧ g2 < 2 ^ P ∧ w < W ∧ pcN 8 g1 ≤ 4 ∧ pcN 8 g2 ≤ 6 := by
  unfold canB at h
  obtain ⟨h1, h2⟩ := Bool.and_eq_true_iff.mp h
  obtain ⟨h3, h4⟩ := Bool.and_eq_true_iff.mp h1
  obtain ⟨h5, h6⟩ := Bool.and_eq_true_iff.mp h2
  obtain ⟨h7, h8⟩ := Bool.and_eq_true_iff.mp h5
  obtain ⟨h9, h10⟩ := Bool.and_eq_true_iff.mp h6
  obtain ⟨g1, -, k2, rfl⟩ := gp_n hP h3
  obtain ⟨g2, -, l2, rfl⟩ := gp_n hP h7
  obtain ⟨w, w1, rfl⟩ := ix_ex h10 (by omega)
  have := pow_8 hP
  have h4 := of_decide_eq_true h4
  have h8 := of_decide_eq_true h8
  rw [cl_n (by omega)] at h4 h8
  exact ⟨g1, g2, w, rfl, rfl, rfl, k2, l2, w1, h4, h8⟩
theorem whom_L {σ : gx_R} {ns : Nat} {sl : Nat → Nat} {p s : Nat} (hns : ns ≤ 6) (hs : s < ns) (h5 : σ 63 5 = nI ns) (h65 : ∀ i, i < ns → σ 65 i = nI (sl i) ∧ sl i < 8) (hp : p < 8) (hsl : sl s = p) (hu : ∀ i, i < s → sl i ≠ p) : ∀ m i f, i + m = s → m < f → Pa_whomFor_2 f (nI p) (nI i) σ = some (σ 72 s, σ) := by
  intro m
  induction m with
  | zero =>
    intro i f h1 h2
    obtain ⟨f, rfl⟩ : ∃ q, f = q + 1 := ⟨f - 1, by omega⟩
    obtain rfl : i = s := by omega
    rw [Pa_whomFor_2, Pa_whomFor_2_B, h5, if_neg (fun z => by have := (nI_leI (by omega) (by omega)).mp z; omega), ix_n (by omega), decide_eq_true (show i < 6 by omega), w_ck, cl_n (by omega), (h65 i hs).1, hsl, if_pos rfl, Pa_whomFor_12, ix_n (by omega), decide_eq_true (show i < 6 by omega), w_ck, cl_n (by omega)]
  | succ m ih =>
    intro i f h1 h2
    obtain ⟨f, rfl⟩ : ∃ q, f = q + 1 := ⟨f - 1, by omega⟩
    have := (h65 i (by omega)).2
    rw [Pa_whomFor_2, Pa_whomFor_2_B, h5, if_neg (fun z => by have := (nI_leI (by omega) (by omega)).mp z; omega), ix_n (by omega), decide_eq_true (show i < 6 by omega), w_ck, cl_n (by omega), (h65 i (by omega)).1, if_neg (fun z => hu i (by omega) ((nI_eq (by omega) (by omega)).mp z)), show nI i + 1 = nI (i + 1) from nI_add i 1]
    exact ih (i + 1) f (by omega) (by omega)
theorem find_L {τ : gx_R} {ns : Nat} {sl : Nat → Nat} {p s : Nat} (hns : ns ≤ 6) (hs : s < ns) (h142 : ∀ i, i < ns → τ 142 i = nI (sl i) ∧ sl i < 8) (hp : p < 8) (hsl : sl s = p) (hu : ∀ i, i < s → sl i ≠ p) : ∀ m i f, i + m = s → m < f → Md_match_106 f (nI p) (nI i) τ = Md_match_114 (nI s) τ := by
  intro m
  induction m with
  | zero =>
    intro i f h1 h2
    obtain ⟨f, rfl⟩ : ∃ q, f = q + 1 := ⟨f - 1, by omega⟩
    obtain rfl : i = s := by omega
    rw [Md_match_106, Md_match_106_B, ix_n (by omega), decide_eq_true (show i < 8 by omega), w_ck, cl_n (by omega), (h142 i hs).1, hsl, if_pos rfl]
  | succ m ih =>
    intro i f h1 h2
    obtain ⟨f, rfl⟩ : ∃ q, f = q + 1 := ⟨f - 1, by omega⟩
    have := (h142 i (by omega)).2
    rw [Md_match_106, Md_match_106_B, ix_n (by omega), decide_eq_true (show i < 8 by omega), w_ck, cl_n (by omega), (h142 i (by omega)).1, if_neg (fun z => hu i (by omega) ((nI_eq (by omega) (by omega)).mp z)), show nI i + 1 = nI (i + 1) from nI_add i 1]
    exact ih (i + 1) f (by omega) (by omega)
theorem S_match {σ τ : gx_R} (r : Rel σ τ) (a1 a2 a3 a4 a5 : Int32) : SimP (Sf_match a1 a2 a3 a4 a5) (Md_match a1 a2 a3 a4 a5) σ τ := by
  obtain ⟨P, W, H, K, T, P', W', H', K', T', rr⟩ := id r
  have r1 := rr.1
  have hP := r1.1.1.1
  have hW := r1.1.1.2
  have p1 : σ 2 0 = nI P := r1.1.2.1.1
  have p2 : τ 110 0 = nI P := r1.1.2.1.2.1
  have p3 : σ 2 1 = nI W := r1.1.2.1.2.2.1
  have p4 : τ 110 1 = nI W := r1.1.2.1.2.2.2
  have p8 := pow_8 hP
  cases hc : canB P W a1 a2 a3 with
  | false =>
    refine SimP_ro r (-1) ?_ ?_
    · rw [Sf_match, canPair_v hP hW p1 p3, hc, w_bd, bI_f, if_pos rfl]
    · rw [Md_match, laysMatch_n hP hW p2 p4, hc, if_neg (by decide), w_bd, if_pos rfl]
  | true =>
    obtain ⟨g1, g2, w, rfl, rfl, rfl, k1, k2, k3, k4, k5⟩ := canB_e hP hW hc
    obtain ⟨nw, ns, al, B, Wt, Pr, enw, ens, hnw, hns, hWt, hPr, hB, hcl, τ1, t1, t2, t3, hM⟩ := ready (τ := τ) r1 rr.2.2.2.2.2 k1 k2 k4 k5 k3
    obtain ⟨σ1, lp, s1, s2, hD, h65⟩ := hcl a4
    obtain ⟨b1, b2, σ2, m1, m65, m5, m15, mb1, mb2, m2, m3⟩ := matchC hD
    obtain ⟨b', a7', a8', τ2, q1, q2, q3, q4⟩ := matchM (dear := a4) (a5 := a5) hnw hns hWt hPr hB hM
    obtain ⟨e1, e2⟩ := best_same (fun u => sW_all.symm) m3 q4
    have cL : Md_laysMatch (nI g1) (nI w) (nI g2) τ = some (1, τ1) := by rw [laysMatch_n hP hW p2 p4, hc, if_pos rfl]; exact t1
    have scσ : sc σ σ2 := fun k hk => by rw [m1 k (by omega), s2 k (by omega) (by omega) (by omega)]
    have smτ1 : sm τ τ1 := ⟨t2, t3⟩
    have smτ2 : sm τ τ2 := ⟨fun k hk => by rw [q2 k (by omega) (by omega), t2 k hk], fun j hj => by rw [q2 109 (by omega) (by omega), t3 j hj]⟩
    have cS : Sf_match (nI g1) (nI w) (nI g2) a4 a5 σ = if a5 < 0 then Sf_match_22 Sf_match_23 (nI g1) (nI w) (nI g2) a4 a5 σ else if 8 ≤ a5 then Sf_match_22 Sf_match_23 (nI g1) (nI w) (nI g2) a4 a5 σ else if ((nI g2 >>> (a5 &&& 31)) &&& 1) = 1 then Sf_match_23 (nI g1) (nI w) (nI g2) a4 a5 1 σ else Sf_match_22 Sf_match_23 (nI g1) (nI w) (nI g2) a4 a5 σ := by
      rw [Sf_match, canPair_v hP hW p1 p3, hc, w_bd, bI_t, if_neg (by decide)]
    have cM : Md_match (nI g1) (nI w) (nI g2) a4 a5 τ = if a5 = -1 then Md_match_19 a4 a5 τ1 else z_bd (Md_isPerson a5 τ1) (fun r6 σ7 => if r6 = 0 then some (-1, σ7) else z_bd (Md_has (nI g2) a5 σ7) (fun r10 σ11 => if r10 = 0 then some (-1, σ11) else Md_match_19 a4 a5 σ11)) := by
      rw [Md_match, cL, w_bd, if_neg (by decide)]
    have p2' : τ1 110 0 = nI P := by rw [t2 110 (by omega)]; exact p2
    -- the searches, asked for a5
    have ans : (a5 = -1 ∨ ∃ p, p < P ∧ a5 = nI p ∧ bt (nI g2) p = true) → ∃ v, Sf_match_31 (nI g1) (nI w) (nI g2) a4 a5 (if a5 = -1 then 0 else 1) σ = some (v, σ2) ∧ Md_match_19 a4 a5 τ1 = some (v, τ2) := by
      intro ha
      rw [Sf_match_31, s1, w_bd, m2, w_bd, q1, Md_match_96]
      rcases e2 with e2 | ⟨e2, u, u1, u2, u3, u4⟩
      · have hb2 : 1000000 ≤ b2 := by unfold KM at e2; omega
        have ha7 : a7' = -1 := by
          rcases q3 with ⟨-, z⟩ | ⟨z, -⟩
          · exact z
          · omega
        rw [if_pos hb2, if_pos rfl, if_pos ha7, ha7]
        exact ⟨-1, rfl, rfl⟩
      · have hcn := pCn_b (nw := nw) (c := u) ns
        unfold pKey at u2
        have hb2 : b2 < 1000000 := by omega
        have hb1 : pCo nw (dPc a4 Pr) u ns = b1 := by omega
        have ha7 : a7' = nI b1 := by
          rcases q3 with ⟨z, -⟩ | ⟨-, z, -⟩
          · omega
          · rw [z, ← e1, show (b1 * 10000000 + b2) / 10000000 = b1 by omega]
        rw [if_neg (show ¬ 1000000 ≤ b2 by omega), if_neg (show ¬ (1 : Int32) = 0 by decide), ha7, if_neg (show ¬ nI b1 = -1 from fun z => (n_m1 (by omega)).mp z)]
        rcases ha with ha | ⟨p, hp, ha, hbp⟩
        · rw [if_pos ha, if_pos rfl, if_pos ha, m15]
          exact ⟨nI b1, rfl, rfl⟩
        · have ha1 : ¬ a5 = -1 := by rw [ha]; exact fun z => (n_m1 (by omega)).mp z
          have hs : cB (bt (nI g2)) p < ns := by rw [ens]; exact cB_lt (by omega) hbp
          have hsl := nth_v (f := bt (nI g2)) (p := p) (by omega) hbp
          have hsp : ∀ i, i < ns → nth (bt (nI g2)) i < 8 ∧ cB (bt (nI g2)) (nth (bt (nI g2)) i) = i := fun i hi => ⟨(nth_sp (f := bt (nI g2)) (j := i) (by omega)).1, (nth_sp (f := bt (nI g2)) (j := i) (by omega)).2.2⟩
          have hun : ∀ i, i < cB (bt (nI g2)) p → nth (bt (nI g2)) i ≠ p := fun i hi z => by
            have := (hsp i (by omega)).2
            rw [z] at this
            omega
          have w1 := whom_L (σ := σ2) (sl := nth (bt (nI g2))) hns hs m5 (fun i hi => ⟨by rw [m65]; exact h65 i hi, (hsp i hi).1⟩) (show p < 8 by omega) hsl hun (cB (bt (nI g2)) p) 0 z_FU (by omega) (by have := z_FU_ge; omega)
          have w1 : Pa_whomFor (nI p) σ2 = _ := w1
          have w2 := find_L (τ := τ2) (sl := nth (bt (nI g2))) hns hs (fun i hi => ⟨by rw [q2 142 (by omega) (by omega)]; exact hM.2.2.1 i hi, (hsp i hi).1⟩) (show p < 8 by omega) hsl hun (cB (bt (nI g2)) p) 0 z_FU (by omega) (by have := z_FU_ge; omega)
          have hus : u (cB (bt (nI g2)) p) < nw + 1 := by
            rcases u1.1 _ hs with z | ⟨z, -⟩ <;> omega
          rw [if_neg ha1, if_neg (show ¬ (1 : Int32) = 0 by decide), if_neg ha1, ha, w1, w_bd]
          refine ⟨_, rfl, ?_⟩
          refine (show Md_match_106 z_FU (nI p) 0 τ2 = _ from w2).trans ?_
          rw [Md_match_114, ix_n (by omega), decide_eq_true (show cB (bt (nI g2)) p < 8 by omega), w_ck, w_ck, cl_n (by omega), u4 _ hs, q2 109 (by omega) (by omega), hM.1.1, u3 _ hs, pEn]
          by_cases z : u (cB (bt (nI g2)) p) = nw
          · rw [if_pos (by rw [z]), if_pos z]
          · rw [if_neg (fun y => z ((nI_eq (by omega) (by omega)).mp y)), if_neg z, ix_n (by omega), decide_eq_true (show u (cB (bt (nI g2)) p) < 8 by omega), w_ck, cl_n (by omega), q2 141 (by omega) (by omega), (hM.2.1 _ (by omega)).1]
    by_cases c0 : a5 = -1
    · obtain ⟨v, v1, v2⟩ := ans (Or.inl c0)
      rw [if_pos c0] at v1
      refine SimP_sc r v (σ' := σ2) (τ' := τ2) ?_ ?_ scσ smτ2
      · rw [cS, if_pos (by rw [c0]; decide), Sf_match_22, Sf_match_23, if_pos c0]; exact v1
      · rw [cM, if_pos c0]; exact v2
    · by_cases c1 : ∃ p, p < P ∧ a5 = nI p ∧ bt (nI g2) p = true
      · obtain ⟨v, v1, v2⟩ := ans (Or.inr c1)
        rw [if_neg c0] at v1
        obtain ⟨p, hp, ha, hbp⟩ := c1
        refine SimP_sc r v (σ' := σ2) (τ' := τ2) ?_ ?_ scσ smτ2
        · rw [cS, if_neg (by rw [ha]; exact fun z => (n_lt0 (by omega)).mp z), if_neg (by rw [ha]; exact fun z => by have := (nI_leI (a := 8) (by omega) (by omega)).mp z; omega), if_pos (by rw [ha]; exact (h_1 (by omega)).mpr hbp), Sf_match_23, if_neg c0, if_neg (by decide)]; exact v1
        · rw [cM, if_neg c0, Md_isPerson_v p2' hP, ha, ix_n (by omega), decide_eq_true hp, w_bd, bI_t, if_neg (by decide), Md_has_v _ (by omega), hbp, w_bd, bI_t, if_neg (by decide), ← ha]; exact v2
      · refine SimP_sc r (-1) (σ' := σ) (τ' := τ1) ?_ ?_ (sc_rf σ) smτ1
        · have no : Sf_match_22 Sf_match_23 (nI g1) (nI w) (nI g2) a4 a5 σ = some (-1, σ) := by rw [Sf_match_22, Sf_match_23, if_neg c0, if_pos rfl]
          rw [cS]
          by_cases d1 : a5 < 0
          · rw [if_pos d1, no]
          · by_cases d2 : 8 ≤ a5
            · rw [if_neg d1, if_pos d2, no]
            · obtain ⟨p, hp, rfl⟩ := nI_of (x := a5) d1
              have hp8 : p < 8 := by
                rcases Nat.lt_or_ge p 8 with y | y
                · exact y
                · exact absurd ((nI_leI (a := 8) (by omega) hp).mpr y) d2
              rw [if_neg d1, if_neg d2, if_neg (fun z => c1 ⟨p, bt_P k2 hp8 ((h_1 (by omega)).mp z), rfl, (h_1 (by omega)).mp z⟩), no]
        · rw [cM, if_neg c0, Md_isPerson_v p2' hP, w_bd]
          cases hz : z_ix a5 P with
          | false => rw [bI_f, if_pos rfl]
          | true =>
            obtain ⟨p, hp, rfl⟩ := ix_ex hz (by omega)
            rw [bI_t, if_neg (by decide), Md_has_v _ (by omega), w_bd]
            cases hb : bt (nI g2) p with
            | false => rw [bI_f, if_pos rfl]
            | true => exact absurd ⟨p, hp, rfl, hb⟩ c1
