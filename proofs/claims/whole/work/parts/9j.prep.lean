/-! ===== who sleeps for whom: the class makes ready ===== -/
def pQ (σ0 σ : gx_R) : Prop := ∀ c, c ≠ 51 → c ≠ 52 → ¬ (63 ≤ c ∧ c ≤ 72) → σ c = σ0 c
theorem pQ_e {σ0 σ : gx_R} (h : pQ σ0 σ) : eC σ0 σ := fun c hc => h c (by omega) (by omega) (by omega)
/-- what the class has of it: nw wakers wk, ns sleepers sl, burns B, worths Wt, prices Pc -/
def PairV (nw ns : Nat) (wk sl : Nat → Nat) (al : Nat → Nat → Bool) (B : Nat → Nat) (Wt : Nat → Nat → Nat) (wrk H : Int32) (σ0 : gx_R) : Prop :=
  (∀ w, w < nw → wk w < 8 ∧ B w ≤ 99 ∧ ∀ σ1, eC σ0 σ1 → ∃ σ2, La_burnOf (nI (wk w)) wrk 0 H σ1 = some (nI (B w), σ2) ∧ lC σ1 σ2) ∧
  (∀ s, s < ns → sl s < 8) ∧
  (∀ s w, s < ns → w < nw → al s w = bt (σ0 5 (sl s)) (wk w)) ∧
  ∀ s w, s < ns → w < nw → Wt s w ≤ 99 ∧ ∀ σ1, eC σ0 σ1 → ∃ σ2, La_worthOf (nI (sl s)) (nI (wk w)) 0 0 H σ1 = some (nI (Wt s w), σ2) ∧ lC σ1 σ2
def PairP (nw ns : Nat) (wk sl : Nat → Nat) (Pc : Nat → Nat → Nat) (dear H : Int32) (σ0 : gx_R) : Prop :=
  ∀ s w, s < ns → w < nw → Pc s w ≤ 999 ∧ ((dear = 0 ∧ Pc s w = 1) ∨ (¬ dear = 0 ∧ ∃ o, σ0 14 (8 * wk w + sl s) = nI o ∧ ∀ σ1, eC σ0 σ1 → ∃ σ2, La_priceOf (nI (sl s)) (nI o) H σ1 = some (nI (Pc s w), σ2) ∧ lC σ1 σ2))
def wtI (al : Nat → Nat → Bool) (Wt : Nat → Nat → Nat) (s w : Nat) : Int32 := if al s w = true then nI (Wt s w) else -1
/-- the rows while sleepers from s on, and of s - 1 the wakers below w0, are weighed -/
def PairW (nw ns : Nat) (wk sl : Nat → Nat) (al : Nat → Nat → Bool) (B : Nat → Nat) (Wt Pc : Nat → Nat → Nat) (σ : gx_R) (D : Nat → Nat → Prop) : Prop :=
  (σ 63 4 = nI nw ∧ σ 63 5 = nI ns) ∧ (∀ w, w < nw → σ 64 w = nI (wk w)) ∧ (∀ s, s < ns → σ 65 s = nI (sl s)) ∧ (∀ w, w < nw → σ 66 w = nI (B w)) ∧
  (∀ s w, s < ns → w < nw → D s w → σ 67 (4 * s + w) = wtI al Wt s w ∧ (al s w = true → σ 68 (4 * s + w) = nI (Pc s w)) ∧ σ 69 (4 * s + w) = nI (pRs al Wt w s (ns - s))) ∧
  (∀ w, w < nw → σ 69 (4 * ns + w) = 0) ∧
  ∃ x, σ 63 10 = nI x ∧ x ≤ 1000000 ∧ ∀ s w, s < ns → w < nw → D s w → al s w = true → x ≤ Pc s w
theorem ix4 (s w : Nat) : nI s * (4 : Int32) + nI w = nI (4 * s + w) := by
  rw [show (4 : Int32) = nI 4 from rfl, pk_mul, nI_add, Nat.mul_comm]
theorem prs_s {al : Nat → Nat → Bool} {Wt : Nat → Nat → Nat} {ns s w : Nat} (h : s < ns) : pRs al Wt w s (ns - s) = (if al s w = true then Wt s w else 0) + pRs al Wt w (s + 1) (ns - (s + 1)) := by
  obtain ⟨d, hd⟩ : ∃ d, ns - s = d + 1 := ⟨ns - s - 1, by omega⟩
  rw [hd, pRs, show ns - (s + 1) = d by omega]
theorem weigh_v {nw ns : Nat} {wk sl : Nat → Nat} {al : Nat → Nat → Bool} {B : Nat → Nat} {Wt Pc : Nat → Nat → Nat} {wrk dear : Int32} {H : Nat} {σ0 σ : gx_R} {s w : Nat} (hnw : nw ≤ 4) (hns : ns ≤ 6) (hV : PairV nw ns wk sl al B Wt wrk (nI H) σ0) (hP : PairP nw ns wk sl Pc dear (nI H) σ0) (h9 : σ0 9 6 = nI H) (hs : s < ns) (hw : w < nw) (hQ : pQ σ0 σ) (hW : PairW nw ns wk sl al B Wt Pc σ (fun s' w' => s < s' ∨ (s' = s ∧ w' < w))) : ∃ σ', Pa_weigh (nI s) (nI w) dear σ = some ((), σ') ∧ pQ σ0 σ' ∧ PairW nw ns wk sl al B Wt Pc σ' (fun s' w' => s < s' ∨ (s' = s ∧ w' < w + 1)) := by
  obtain ⟨⟨w1, w2⟩, w3, w4, w5, w6, w7, x, w8, w9, w10⟩ := hW
  obtain ⟨v1, v2, v3, v4⟩ := hV
  have hwk := (v1 w hw).1
  have hsl := v2 s hs
  have e4 := ix4 s w
  have h64 := w3 w hw
  have h65 := w4 s hs
  have r69 : σ 69 (4 * s + w + 4) = nI (pRs al Wt w (s + 1) (ns - (s + 1))) := by
    rw [show 4 * s + w + 4 = 4 * (s + 1) + w by omega]
    by_cases z : s + 1 = ns
    · rw [z, w7 w hw, Nat.sub_self]; rfl
    · exact (w6 (s + 1) w (by omega) hw (Or.inl (by omega))).2.2
  have hRb : pRs al Wt w (s + 1) (ns - (s + 1)) ≤ 99 * (ns - (s + 1)) := pRs_b _ _ (fun i hi hal => (v4 i w (by omega) hw).1)
  have al_c : al s w = bt (σ 5 (sl s)) (wk w) := by rw [v3 s w hs hw, hQ 5 (by omega) (by omega) (by omega)]
  -- the rest, once worth is known
  have fin : ∀ σa, pQ σ0 σa → (∀ c, c ≠ 51 → c ≠ 52 → σa c = σ c) → ∃ σ', Pa_weigh_54 (nI s) (nI w) dear (nI H) (nI (4 * s + w)) (bI (al s w)) (nI (4 * s + w)) (wtI al Wt s w) σa = some ((), σ') ∧ pQ σ0 σ' ∧ PairW nw ns wk sl al B Wt Pc σ' (fun s' w' => s < s' ∨ (s' = s ∧ w' < w + 1)) := by
    intro σa hQa ha
    have hWt := (v4 s w hs hw).1
    have rest : nI (pRs al Wt w (s + 1) (ns - (s + 1))) + (if (0 : Int32) < wtI al Wt s w then wtI al Wt s w else 0) = nI (pRs al Wt w s (ns - s)) := by
      rw [prs_s hs]
      unfold wtI
      by_cases c : al s w = true
      · rw [if_pos c, if_pos c]
        by_cases c2 : Wt s w = 0
        · rw [c2, if_neg (show ¬ (0 : Int32) < nI 0 by decide), Nat.zero_add, show (0 : Int32) = nI 0 from rfl, nI_add, Nat.add_zero]
        · rw [if_pos ((n_0lt (by omega)).mpr (by omega)), nI_add, Nat.add_comm]
      · rw [if_neg c, if_neg c, if_neg (by decide), Nat.zero_add, show (0 : Int32) = nI 0 from rfl, nI_add, Nat.add_zero]
    have k69 : gx_up σa 67 (4 * s + w) (wtI al Wt s w) 69 (4 * s + w + 4) = nI (pRs al Wt w (s + 1) (ns - (s + 1))) := by rw [up_c _ _ _ _ (by omega), ha 69 (by omega) (by omega)]; exact r69
    obtain ⟨σb, hb⟩ : ∃ σb, σb = gx_up (gx_up σa 67 (4 * s + w) (wtI al Wt s w)) 69 (4 * s + w) (nI (pRs al Wt w s (ns - s))) := ⟨_, rfl⟩
    have hb1 : ∀ c, c ≠ 51 → c ≠ 52 → c ≠ 67 → c ≠ 69 → σb c = σ c := fun c c1 c2 c3 c4 => by rw [hb, gx_up_ne c4, gx_up_ne c3]; exact ha c c1 c2
    have hb67 : ∀ j, σb 67 j = if j = 4 * s + w then wtI al Wt s w else σ 67 j := fun j => by
      rw [hb, up_c _ _ _ _ (by omega)]
      by_cases z : j = 4 * s + w
      · rw [if_pos z, z, up_e]
      · rw [if_neg z, up_p _ _ _ z, ha 67 (by omega) (by omega)]
    have hb69 : ∀ j, σb 69 j = if j = 4 * s + w then nI (pRs al Wt w s (ns - s)) else σ 69 j := fun j => by
      rw [hb]
      by_cases z : j = 4 * s + w
      · rw [if_pos z, z, up_e]
      · rw [if_neg z, up_p _ _ _ z, up_c _ _ _ _ (by omega), ha 69 (by omega) (by omega)]
    have hQb : pQ σ0 σb := fun c c1 c2 c3 => by rw [hb1 c c1 c2 (by omega) (by omega)]; exact hQ c c1 c2 c3
    have pw : ∀ σc (p y : Nat), (∀ c, c ≠ 51 → c ≠ 52 → σc c = σb c) → (al s w = true → p = Pc s w) → y ≤ 1000000 → y ≤ x → (al s w = true → y ≤ Pc s w) → PairW nw ns wk sl al B Wt Pc (if al s w = true then gx_up (gx_up σc 68 (4 * s + w) (nI p)) 63 10 (nI y) else σc) (fun s' w' => s < s' ∨ (s' = s ∧ w' < w + 1)) := by
      intro σc p y hc hp hy hyx hyp
      obtain ⟨σd, hd⟩ : ∃ σd, σd = (if al s w = true then gx_up (gx_up σc 68 (4 * s + w) (nI p)) 63 10 (nI y) else σc) := ⟨_, rfl⟩
      rw [← hd]
      have d1 : ∀ c, c ≠ 51 → c ≠ 52 → c ≠ 63 → c ≠ 68 → σd c = σb c := fun c c1 c2 c3 c4 => by
        rw [hd]
        by_cases z : al s w = true
        · rw [if_pos z, gx_up_ne c3, gx_up_ne c4]; exact hc c c1 c2
        · rw [if_neg z]; exact hc c c1 c2
      have d63 : ∀ j, j ≠ 10 → σd 63 j = σ 63 j := fun j hj => by
        rw [hd]
        by_cases z : al s w = true
        · rw [if_pos z, up_p _ _ _ hj, up_c _ _ _ _ (by omega), hc 63 (by omega) (by omega), hb1 63 (by omega) (by omega) (by omega) (by omega)]
        · rw [if_neg z, hc 63 (by omega) (by omega), hb1 63 (by omega) (by omega) (by omega) (by omega)]
      have d68 : ∀ j, j ≠ 4 * s + w → σd 68 j = σ 68 j := fun j hj => by
        rw [hd]
        by_cases z : al s w = true
        · rw [if_pos z, up_c _ _ _ _ (by omega), up_p _ _ _ hj, hc 68 (by omega) (by omega), hb1 68 (by omega) (by omega) (by omega) (by omega)]
        · rw [if_neg z, hc 68 (by omega) (by omega), hb1 68 (by omega) (by omega) (by omega) (by omega)]
      refine ⟨⟨by rw [d63 4 (by omega)]; exact w1, by rw [d63 5 (by omega)]; exact w2⟩, fun i hi => by rw [d1 64 (by omega) (by omega) (by omega) (by omega), hb1 64 (by omega) (by omega) (by omega) (by omega)]; exact w3 i hi, fun i hi => by rw [d1 65 (by omega) (by omega) (by omega) (by omega), hb1 65 (by omega) (by omega) (by omega) (by omega)]; exact w4 i hi, fun i hi => by rw [d1 66 (by omega) (by omega) (by omega) (by omega), hb1 66 (by omega) (by omega) (by omega) (by omega)]; exact w5 i hi, fun s' w' hs' hw' hD => ?_, fun i hi => ?_, ?_⟩
      · rw [d1 67 (by omega) (by omega) (by omega) (by omega), d1 69 (by omega) (by omega) (by omega) (by omega), hb67, hb69]
        by_cases z : s' = s ∧ w' = w
        · obtain ⟨rfl, rfl⟩ := z
          rw [if_pos rfl, if_pos rfl]
          refine ⟨rfl, fun y1 => ?_, rfl⟩
          rw [hd, if_pos y1, up_c _ _ _ _ (by omega), up_e, hp y1]
        · have z2 : ¬ 4 * s' + w' = 4 * s + w := by omega
          rw [if_neg z2, if_neg z2, d68 _ z2]
          exact w6 s' w' hs' hw' (by omega)
      · rw [d1 69 (by omega) (by omega) (by omega) (by omega), hb69, if_neg (by omega)]
        exact w7 i hi
      · by_cases z : al s w = true
        · refine ⟨y, by rw [hd, if_pos z, up_e], hy, fun s' w' hs' hw' hD hal => ?_⟩
          by_cases z2 : s' = s ∧ w' = w
          · rw [z2.1, z2.2]; exact hyp z
          · exact Nat.le_trans hyx (w10 s' w' hs' hw' (by omega) hal)
        · refine ⟨x, by rw [hd, if_neg z, hc 63 (by omega) (by omega), hb1 63 (by omega) (by omega) (by omega) (by omega)]; exact w8, w9, fun s' w' hs' hw' hD hal => ?_⟩
          by_cases z2 : s' = s ∧ w' = w
          · rw [z2.1, z2.2] at hal; exact absurd hal z
          · exact w10 s' w' hs' hw' (by omega) hal
    have c24 : 4 * s + w < 24 := by omega
    have e5 : nI (4 * s + w) + (4 : Int32) = nI (4 * s + w + 4) := nI_add _ 4
    rw [Pa_weigh_54, ix_n (by omega), decide_eq_true c24, w_ck, e5, ix_n (by omega), decide_eq_true (show 4 * s + w + 4 < 28 by omega), w_ck, w_ck, ix_n (by omega), decide_eq_true (show 4 * s + w < 28 by omega), w_ck, cl_n (by omega), cl_n (by omega), up_e, k69, rest, ← hb]
    cases ha2 : al s w with
    | false =>
      rw [bI_f, if_pos rfl]
      have := pw σb 0 0 (fun _ _ _ => rfl) (fun z => by rw [ha2] at z; cases z) (by omega) (by omega) (fun z => by rw [ha2] at z; cases z)
      rw [if_neg (by rw [ha2]; decide)] at this
      exact ⟨σb, rfl, hQb, this⟩
    | true =>
      have k64 : σb 64 w = nI (wk w) := by rw [hb1 64 (by omega) (by omega) (by omega) (by omega)]; exact h64
      have k65 : σb 65 s = nI (sl s) := by rw [hb1 65 (by omega) (by omega) (by omega) (by omega)]; exact h65
      have k63 : σb 63 10 = nI x := by rw [hb1 63 (by omega) (by omega) (by omega) (by omega)]; exact w8
      obtain ⟨p1, p2⟩ := hP s w hs hw
      have g107 : ∀ σc, (∀ c, c ≠ 51 → c ≠ 52 → σc c = σb c) → ∃ σ', Pa_weigh_107 (nI (4 * s + w)) (nI (4 * s + w)) (nI (Pc s w)) σc = some ((), σ') ∧ pQ σ0 σ' ∧ PairW nw ns wk sl al B Wt Pc σ' (fun s' w' => s < s' ∨ (s' = s ∧ w' < w + 1)) := by
        intro σc hc
        have := pw σc (Pc s w) (if Pc s w < x then Pc s w else x) hc (fun _ => rfl) (by split <;> omega) (by split <;> omega) (fun _ => by split <;> omega)
        rw [if_pos ha2] at this
        refine ⟨_, ?_, ?_, this⟩
        · rw [Pa_weigh_107, ix_n (by omega), decide_eq_true c24, w_ck, w_ck, cl_n (by omega), up_e, up_c _ _ _ _ (show (63 : Nat) ≠ 68 by omega), hc 63 (by omega) (by omega), k63]
          by_cases z : Pc s w < x
          · rw [if_pos ((nI_ltI (by omega) (by omega)).mpr z), if_pos z]
          · rw [if_neg (fun y => z ((nI_ltI (by omega) (by omega)).mp y)), if_neg z]
        · intro c c1 c2 c3
          rw [gx_up_ne (by omega), gx_up_ne (by omega), hc c c1 c2]
          exact hQb c c1 c2 c3
      rw [bI_t, if_neg (by decide), ix_n (by omega), decide_eq_true (show w < 4 by omega), w_ck, ix_n (by omega), decide_eq_true (show s < 6 by omega), w_ck, cl_n (show w < 2 ^ 31 by omega), cl_n (show s < 2 ^ 31 by omega), k64, k65, ix8, ix_n (by omega), decide_eq_true (show 8 * wk w + sl s < 64 by omega), w_ck]
      rcases p2 with ⟨q1, q2⟩ | ⟨q1, o, q2, q3⟩
      · rw [if_pos q1]
        have := g107 σb (fun _ _ _ => rfl)
        rw [q2] at this
        exact this
      · obtain ⟨σc, r1, r2⟩ := q3 σb (pQ_e hQb)
        rw [if_neg q1, w_ck, cl_n (by omega), hQb 14 (by omega) (by omega) (by omega), q2, r1, w_bd]
        exact g107 σc (fun c c1 c2 => r2 c c1 c2)
  rw [Pa_weigh, ix_n (by omega), decide_eq_true (show s < 6 by omega), w_ck, cl_n (show s < 2 ^ 31 by omega), h65, ix_n (by omega), decide_eq_true hsl, w_ck, ix_n (by omega), decide_eq_true (show w < 4 by omega), w_ck, cl_n (show w < 2 ^ 31 by omega), h64, cl_n (show sl s < 2 ^ 31 by omega), hQ 9 (by omega) (by omega) (by omega), h9, e4]
  cases ha : al s w with
  | false =>
    have := fin σ hQ (fun _ _ _ => rfl)
    rw [ha] at this
    rw [if_neg (fun z => by have := (h_1 (by omega)).mp z; rw [← al_c, ha] at this; cases this), Pa_weigh_32, if_pos rfl]
    have e : wtI al Wt s w = -1 := by unfold wtI; rw [ha]; rfl
    rw [e] at this
    exact this
  | true =>
    rw [if_pos ((h_1 (by omega)).mpr (by rw [← al_c]; exact ha)), Pa_weigh_32, if_neg (by decide), ix_n (by omega), decide_eq_true (show s < 6 by omega), w_ck, ix_n (by omega), decide_eq_true (show w < 4 by omega), w_ck, cl_n (show s < 2 ^ 31 by omega), cl_n (show w < 2 ^ 31 by omega), h64, h65]
    obtain ⟨σa, a1, a2⟩ := (v4 s w hs hw).2 σ (pQ_e hQ)
    rw [a1, w_bd]
    have := fin σa (fun c c1 c2 c3 => by rw [a2 c c1 c2]; exact hQ c c1 c2 c3) (fun c c1 c2 => a2 c c1 c2)
    rw [ha] at this
    have e : wtI al Wt s w = nI (Wt s w) := by unfold wtI; rw [ha]; rfl
    rw [e] at this
    exact this
theorem PairW_D {nw ns : Nat} {wk sl : Nat → Nat} {al : Nat → Nat → Bool} {B : Nat → Nat} {Wt Pc : Nat → Nat → Nat} {σ : gx_R} {D D' : Nat → Nat → Prop} (h : ∀ s w, s < ns → w < nw → D' s w → D s w) (hW : PairW nw ns wk sl al B Wt Pc σ D) : PairW nw ns wk sl al B Wt Pc σ D' := by
  obtain ⟨w1, w3, w4, w5, w6, w7, x, w8, w9, w10⟩ := hW
  exact ⟨w1, w3, w4, w5, fun s w hs hw hD => w6 s w hs hw (h s w hs hw hD), w7, x, w8, w9, fun s w hs hw hD => w10 s w hs hw (h s w hs hw hD)⟩
theorem weighs_in {nw ns : Nat} {wk sl : Nat → Nat} {al : Nat → Nat → Bool} {B : Nat → Nat} {Wt Pc : Nat → Nat → Nat} {wrk dear : Int32} {H : Nat} {σ0 : gx_R} {s : Nat} {K55 : Int32 → Int32 → gx_R → Option (Unit × gx_R)} (hnw : nw ≤ 4) (hns : ns ≤ 6) (hV : PairV nw ns wk sl al B Wt wrk (nI H) σ0) (hP : PairP nw ns wk sl Pc dear (nI H) σ0) (h9 : σ0 9 6 = nI H) (hs : s < ns) : ∀ m w f σ, w + m = nw → m < f → pQ σ0 σ → PairW nw ns wk sl al B Wt Pc σ (fun s' w' => s < s' ∨ (s' = s ∧ w' < w)) → ∃ σ', Pa_prepare_59 K55 f dear (nI s) (nI w) σ = K55 dear (nI s - 1) σ' ∧ pQ σ0 σ' ∧ PairW nw ns wk sl al B Wt Pc σ' (fun s' _ => s ≤ s') := by
  intro m
  induction m with
  | zero =>
    intro w f σ h1 h2 h3 h4
    obtain ⟨f, rfl⟩ : ∃ q, f = q + 1 := ⟨f - 1, by omega⟩
    obtain rfl : w = nw := by omega
    refine ⟨σ, ?_, h3, PairW_D (fun s' w' hs' hw' hD => by omega) h4⟩
    rw [Pa_prepare_59, Pa_prepare_59_B, h4.1.1, if_pos ((nI_leI (by omega) (by omega)).mpr (Nat.le_refl _)), Pa_prepare_70, add_m1]
  | succ m ih =>
    intro w f σ h1 h2 h3 h4
    obtain ⟨f, rfl⟩ : ∃ q, f = q + 1 := ⟨f - 1, by omega⟩
    obtain ⟨σ1, g1, g2, g3⟩ := weigh_v hnw hns hV hP h9 hs (show w < nw by omega) h3 h4
    rw [Pa_prepare_59, Pa_prepare_59_B, h4.1.1, if_neg (fun z => by have := (nI_leI (by omega) (by omega)).mp z; omega), g1, w_bd, show nI w + 1 = nI (w + 1) from nI_add w 1]
    exact ih (w + 1) f σ1 (by omega) (by omega) g2 g3
theorem weighs_v {nw ns : Nat} {wk sl : Nat → Nat} {al : Nat → Nat → Bool} {B : Nat → Nat} {Wt Pc : Nat → Nat → Nat} {wrk dear : Int32} {H : Nat} {σ0 : gx_R} (hnw : nw ≤ 4) (hns : ns ≤ 6) (hV : PairV nw ns wk sl al B Wt wrk (nI H) σ0) (hP : PairP nw ns wk sl Pc dear (nI H) σ0) (h9 : σ0 9 6 = nI H) : ∀ s f σ, s ≤ ns → s < f → pQ σ0 σ → PairW nw ns wk sl al B Wt Pc σ (fun s' _ => s ≤ s') → ∃ σ', Pa_prepare_55 f dear (nI s - 1) σ = some ((), σ') ∧ pQ σ0 σ' ∧ PairW nw ns wk sl al B Wt Pc σ' (fun _ _ => True) := by
  intro s
  induction s with
  | zero =>
    intro f σ h1 h2 h3 h4
    obtain ⟨f, rfl⟩ : ∃ q, f = q + 1 := ⟨f - 1, by omega⟩
    refine ⟨σ, ?_, h3, PairW_D (fun s' w' _ _ _ => Nat.zero_le _) h4⟩
    rw [Pa_prepare_55, Pa_prepare_55_B, if_pos (show nI 0 - 1 < 0 by decide)]
  | succ s ih =>
    intro f σ h1 h2 h3 h4
    obtain ⟨f, rfl⟩ : ∃ q, f = q + 1 := ⟨f - 1, by omega⟩
    obtain ⟨σ1, g1, g2, g3⟩ := weighs_in (K55 := Pa_prepare_55 f) hnw hns hV hP h9 (show s < ns by omega) nw 0 z_FU σ (by omega) (by have := z_FU_ge; omega) h3 (PairW_D (fun s' w' _ _ hD => by omega) h4)
    have g1 : Pa_prepare_59 (Pa_prepare_55 f) z_FU dear (nI s) 0 σ = _ := g1
    rw [Pa_prepare_55, Pa_prepare_55_B, n_sub1 (by omega), show s + 1 - 1 = s by omega, if_neg (fun z => (n_lt0 (by omega)).mp z), g1]
    exact ih f σ1 (by omega) (by omega) g2 g3
theorem burns_L {nw ns : Nat} {wk sl : Nat → Nat} {al : Nat → Nat → Bool} {B : Nat → Nat} {Wt Pc : Nat → Nat → Nat} {wrk dear : Int32} {H : Nat} {σ0 : gx_R} (hnw : nw ≤ 4) (hns : ns ≤ 6) (hV : PairV nw ns wk sl al B Wt wrk (nI H) σ0) (hP : PairP nw ns wk sl Pc dear (nI H) σ0) (h9 : σ0 9 6 = nI H) : ∀ m w f σ, w + m = nw → m < f → pQ σ0 σ → (σ 63 4 = nI nw ∧ σ 63 5 = nI ns ∧ σ 63 10 = 1000000) → (∀ w, w < nw → σ 64 w = nI (wk w)) → (∀ s, s < ns → σ 65 s = nI (sl s)) → (∀ i, i < w → σ 66 i = nI (B i) ∧ σ 69 (4 * ns + i) = 0) → ∃ σ', Pa_prepare_17 f wrk dear (nI w) σ = some ((), σ') ∧ pQ σ0 σ' ∧ PairW nw ns wk sl al B Wt Pc σ' (fun _ _ => True) := by
  intro m
  induction m with
  | zero =>
    intro w f σ h1 h2 h3 h4 h5 h6 h7
    obtain ⟨f, rfl⟩ : ∃ q, f = q + 1 := ⟨f - 1, by omega⟩
    obtain rfl : w = nw := by omega
    obtain ⟨σ', g1, g2, g3⟩ := weighs_v hnw hns hV hP h9 ns z_FU σ (Nat.le_refl _) (by have := z_FU_ge; omega) h3 ⟨⟨h4.1, h4.2.1⟩, h5, h6, fun i hi => (h7 i hi).1, fun s' w' hs' _ hD => by omega, fun i hi => (h7 i hi).2, 1000000, h4.2.2, Nat.le_refl _, fun s' w' hs' _ hD => by omega⟩
    refine ⟨σ', ?_, g2, g3⟩
    rw [Pa_prepare_17, Pa_prepare_17_B, h4.1, if_pos ((nI_leI (by omega) (by omega)).mpr (Nat.le_refl _)), Pa_prepare_50, h4.2.1]
    exact g1
  | succ m ih =>
    intro w f σ h1 h2 h3 h4 h5 h6 h7
    obtain ⟨f, rfl⟩ : ∃ q, f = q + 1 := ⟨f - 1, by omega⟩
    obtain ⟨b1, b2, b3⟩ := hV.1 w (by omega)
    obtain ⟨σa, a1, a2⟩ := b3 σ (pQ_e h3)
    have k63 : σa 63 = σ 63 := a2 63 (by omega) (by omega)
    rw [Pa_prepare_17, Pa_prepare_17_B, h4.1, if_neg (fun z => by have := (nI_leI (by omega) (by omega)).mp z; omega), ix_n (by omega), decide_eq_true (show w < 4 by omega), w_ck, cl_n (by omega), h5 w (by omega), h3 9 (by omega) (by omega) (by omega), h9, a1, w_bd, w_ck, up_c _ _ _ _ (show (63 : Nat) ≠ 66 by omega), k63, h4.2.1, ix4, ix_n (by omega), decide_eq_true (show 4 * ns + w < 28 by omega), w_ck, cl_n (by omega), show nI w + 1 = nI (w + 1) from nI_add w 1]
    refine ih (w + 1) f _ (by omega) (by omega) (fun c c1 c2 c3 => by rw [gx_up_ne (by omega), gx_up_ne (by omega), a2 c c1 c2]; exact h3 c c1 c2 c3) ⟨?_, ?_, ?_⟩ (fun i hi => ?_) (fun i hi => ?_) (fun i hi => ?_)
    · rw [up_c _ _ _ _ (by omega), up_c _ _ _ _ (by omega), k63]; exact h4.1
    · rw [up_c _ _ _ _ (by omega), up_c _ _ _ _ (by omega), k63]; exact h4.2.1
    · rw [up_c _ _ _ _ (by omega), up_c _ _ _ _ (by omega), k63]; exact h4.2.2
    · rw [up_c _ _ _ _ (by omega), up_c _ _ _ _ (by omega), a2 64 (by omega) (by omega)]; exact h5 i hi
    · rw [up_c _ _ _ _ (by omega), up_c _ _ _ _ (by omega), a2 65 (by omega) (by omega)]; exact h6 i hi
    · rw [up_c _ _ _ _ (show (66 : Nat) ≠ 69 by omega)]
      by_cases z : i = w
      · subst z; rw [up_e, up_e]; exact ⟨rfl, rfl⟩
      · rw [up_p _ _ _ z, up_p _ _ _ (by omega), up_c _ _ _ _ (show (69 : Nat) ≠ 66 by omega), a2 66 (by omega) (by omega), a2 69 (by omega) (by omega)]; exact h7 i (by omega)
theorem prep_v {σ : gx_R} {g1 g2 : Int32} {nw ns : Nat} {al : Nat → Nat → Bool} {B : Nat → Nat} {Wt Pc : Nat → Nat → Nat} {wrk dear : Int32} {H : Nat} (h1 : nw = cB (bt g1) 8) (h2 : ns = cB (bt g2) 8) (hnw : nw ≤ 4) (hns : ns ≤ 6) (hV : PairV nw ns (nth (bt g1)) (nth (bt g2)) al B Wt wrk (nI H) σ) (hP : PairP nw ns (nth (bt g1)) (nth (bt g2)) Pc dear (nI H) σ) (h9 : σ 9 6 = nI H) : ∃ σ', Pa_prepare g1 wrk g2 dear σ = some ((), σ') ∧ pQ σ σ' ∧ PairW nw ns (nth (bt g1)) (nth (bt g2)) al B Wt Pc σ' (fun _ _ => True) := by
  obtain ⟨σ1, a1, a2, a3⟩ := list_v (σ := σ) (G := g1) lay64.1 (by omega) (by omega)
  obtain ⟨σ2, b1, b2, b3⟩ := list_v (σ := gx_up σ1 63 4 (nI (cB (bt g1) 8))) (G := g2) lay64.2 (by omega) (by omega)
  obtain ⟨σ', c1, c2, c3⟩ := burns_L (σ0 := σ) hnw hns hV hP h9 nw 0 z_FU (gx_up (gx_up σ2 63 5 (nI (cB (bt g2) 8))) 63 10 1000000) (by omega) (by have := z_FU_ge; omega) (fun c k1 k2 k3 => by rw [gx_up_ne (by omega), gx_up_ne (by omega), b2 c (by omega), gx_up_ne (by omega), a2 c (by omega)]) ⟨by rw [up_p _ _ _ (by omega), up_p _ _ _ (by omega), b2 63 (by omega), up_e, h1], by rw [up_p _ _ _ (by omega), up_e, h2], up_e _ _ _ _⟩ (fun w hw => by rw [up_c _ _ _ _ (by omega), up_c _ _ _ _ (by omega), b2 64 (by omega), up_c _ _ _ _ (by omega)]; exact a3 w (by omega)) (fun s hs => by rw [up_c _ _ _ _ (by omega), up_c _ _ _ _ (by omega)]; exact b3 s (by omega)) (fun i hi => absurd hi (Nat.not_lt_zero i))
  refine ⟨σ', ?_, c2, c3⟩
  rw [Pa_prepare, a1, w_bd, b1, w_bd]
  exact c1
