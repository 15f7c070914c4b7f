/-! ===== rings: the reference ===== -/
def OwM (τ : gx_R) (ow : Nat → Nat → Nat) : Prop := ∀ p q, p < 8 → q < 8 → τ 110 (98 + (8 * p + q)) = nI (ow p q) ∧ ow p q ≤ 99
theorem inRound_L {τ : gx_R} {q k : Nat} (hk : k ≤ 8) : ∀ m i n, i + m = k → m < n → (∀ j, j < i → ¬ τ 151 j = nI q) → Md_isInRound_2 n (nI q) (nI k) (nI i) τ = some (bI (orB (fun j => decide (τ 151 j = nI q)) k), τ) := by
  intro m
  induction m with
  | zero =>
    intro i n h1 h2 h3
    obtain ⟨n, rfl⟩ : ∃ q, n = q + 1 := ⟨n - 1, by omega⟩
    obtain rfl : i = k := by omega
    have : orB (fun j => decide (τ 151 j = nI q)) i = false := by
      cases ho : orB (fun j => decide (τ 151 j = nI q)) i with
      | false => rfl
      | true =>
        obtain ⟨j, y1, y2⟩ := orB_t.mp ho
        exact absurd (of_decide_eq_true y2) (h3 j y1)
    rw [Md_isInRound_2, Md_isInRound_2_B, if_pos ((nI_leI (by omega) (by omega)).mpr (Nat.le_refl _)), this]; rfl
  | succ m ih =>
    intro i n h1 h2 h3
    obtain ⟨n, rfl⟩ : ∃ q, n = q + 1 := ⟨n - 1, by omega⟩
    rw [Md_isInRound_2, Md_isInRound_2_B, if_neg (fun z => by have := (nI_leI (by omega) (by omega)).mp z; omega), ix_n (by omega), decide_eq_true (show i < 8 by omega), w_ck, cl_n (by omega)]
    by_cases c : τ 151 i = nI q
    · rw [if_pos c, orB_t.mpr ⟨i, by omega, decide_eq_true c⟩]; rfl
    · rw [if_neg c, show nI i + 1 = nI (i + 1) from nI_add i 1]
      exact ih (i + 1) n (by omega) (by omega) (fun j hj => by
        by_cases z : j = i
        · rw [z]; exact c
        · exact h3 j (by omega))
theorem inRound_v {τ : gx_R} {q k : Nat} (hk : k ≤ 8) : Md_isInRound (nI q) (nI k) τ = some (bI (orB (fun j => decide (τ 151 j = nI q)) k), τ) := inRound_L hk k 0 z_FU (by omega) (by have := z_FU_ge; omega) (fun j hj => absurd hj (Nat.not_lt_zero j))
theorem add_m1 (x : Int32) : x + (-1) = x - 1 := by grind
theorem ring_step {τ : gx_R} {ow : Nat → Nat → Nat} {P f len k p b : Nat} (n : Nat) (hk1 : 1 ≤ k) (hk : k + 1 ≤ len) (hl : len ≤ 8) (hP : P ≤ 8) (hf : f < 8) (h0 : τ 110 0 = nI P) (hO : OwM τ ow) (hp : τ 151 k = nI p) (hb : τ 151 (k - 1) = nI b) (hb8 : b < 8) (hp8 : p < 8) :
    Md_isRing_12 (n + 1) (nI f) (nI len) (nI k) τ = if P ≤ p + 1 then Md_isRing_12 n (nI f) (nI len) (nI (k - 1)) (gx_up τ 151 k (nI (p + 1)))
      else if orB (fun j => decide (τ 151 j = nI (p + 1))) k = true then Md_isRing_12 n (nI f) (nI len) (nI k) (gx_up τ 151 k (nI (p + 1)))
      else if ow b (p + 1) = 0 then Md_isRing_12 n (nI f) (nI len) (nI k) (gx_up τ 151 k (nI (p + 1)))
      else if k + 1 = len then (if ow (p + 1) f = 0 then Md_isRing_12 n (nI f) (nI len) (nI k) (gx_up τ 151 k (nI (p + 1))) else some (1, gx_up τ 151 k (nI (p + 1))))
      else Md_isRing_12 n (nI f) (nI len) (nI (k + 1)) (gx_up (gx_up τ 151 k (nI (p + 1))) 151 (k + 1) (nI f)) := by
  have e1 : nI p + 1 = nI (p + 1) := nI_add p 1
  have k8 : k < 8 := by omega
  rw [Md_isRing_12, Md_isRing_12_B, if_neg (fun z => by have := (n_le0 (by omega)).mp z; omega), ix_n (by omega), decide_eq_true k8, w_ck, w_ck, w_ck, w_ck, cl_n (by omega), hp, e1, up_e, show (0 : Int32).toNatClampNeg = 0 from rfl, up_c _ _ _ _ (show (110 : Nat) ≠ 151 by omega), h0]
  by_cases c1 : P ≤ p + 1
  · rw [if_pos c1, if_neg (fun z => by have := (nI_ltI (by omega) (by omega)).mp z; omega), add_m1, n_sub1 hk1]
  · rw [if_neg c1, if_pos ((nI_ltI (by omega) (by omega)).mpr (by omega)), inRound_v (by omega), w_bd, orB_cong (g := fun j => decide (τ 151 j = nI (p + 1))) (fun i hi => by rw [up_p _ _ _ (by omega)])]
    cases ho : orB (fun j => decide (τ 151 j = nI (p + 1))) k with
    | true => rw [bI_t, if_neg (by decide), if_pos rfl]
    | false =>
      have e3 : ((98 : Int32) + (8 : Int32) * nI b) + nI (p + 1) = nI (98 + (8 * b + (p + 1))) := by
        rw [show (98 : Int32) = nI 98 from rfl, show (8 : Int32) = nI 8 from rfl, pk_mul, nI_add, nI_add, Nat.add_assoc]
      have e4 : ((98 : Int32) + (8 : Int32) * nI (p + 1)) + nI f = nI (98 + (8 * (p + 1) + f)) := by
        rw [show (98 : Int32) = nI 98 from rfl, show (8 : Int32) = nI 8 from rfl, pk_mul, nI_add, nI_add, Nat.add_assoc]
      obtain ⟨o1, o2⟩ := hO b (p + 1) hb8 (by omega)
      obtain ⟨o3, o4⟩ := hO (p + 1) f (by omega) hf
      rw [bI_f, if_pos rfl, if_neg (show ¬ (false = true) by decide), show nI k - 1 = nI (k - 1) from n_sub1 hk1, ix_n (by omega), decide_eq_true (show k - 1 < 8 by omega), w_ck, w_ck, cl_n (by omega), up_p _ _ _ (show k - 1 ≠ k by omega), hb, up_e, e3, ix_n (by omega), decide_eq_true (show 98 + (8 * b + (p + 1)) < 8880 by omega), w_ck, cl_n (by omega), up_c _ _ _ _ (show (110 : Nat) ≠ 151 by omega), o1]
      by_cases c2 : ow b (p + 1) = 0
      · rw [if_pos c2, if_pos ((n_le0 (by omega)).mpr c2)]
      · rw [if_neg c2, if_neg (fun z => c2 ((n_le0 (by omega)).mp z)), show nI len - 1 = nI (len - 1) from n_sub1 (by omega)]
        by_cases c3 : k + 1 = len
        · rw [if_pos (show nI k = nI (len - 1) by rw [show len - 1 = k by omega]), if_pos c3, w_ck, e4, ix_n (by omega), decide_eq_true (show 98 + (8 * (p + 1) + f) < 8880 by omega), w_ck, cl_n (by omega), up_c _ _ _ _ (show (110 : Nat) ≠ 151 by omega), o3]
          by_cases c4 : ow (p + 1) f = 0
          · rw [if_pos c4, if_pos ((n_le0 (by omega)).mpr c4)]
          · rw [if_neg c4, if_neg (fun z => c4 ((n_le0 (by omega)).mp z))]
        · rw [if_neg (fun z => by have := (nI_eq (by omega) (by omega)).mp z; omega), if_neg c3, show nI k + 1 = nI (k + 1) from nI_add k 1, ix_n (by omega), decide_eq_true (show k + 1 < 8 by omega), w_ck, cl_n (by omega)]
def rcc : Nat → Nat
  | 0 => 1
  | d + 1 => 1 + 8 * rcc d
theorem rcc_1 (d : Nat) : 1 ≤ rcc d := by cases d <;> rw [rcc] <;> omega
theorem eO_f {ow : Nat → Nat → Nat} {p q : Nat} : eO ow p q = true ↔ ¬ ow p q = 0 := by
  unfold eO
  by_cases h : ow p q = 0
  · rw [decide_eq_true h]; exact ⟨fun z => (by cases z), fun z => absurd h z⟩
  · rw [decide_eq_false h]; exact ⟨fun _ => h, fun _ => rfl⟩
theorem wk_1 {E : Nat → Nat → Bool} {f p : Nat} (hf : f < 8) : wk E f 1 p = true ↔ f < p ∧ E p f = true := by
  rw [wk_s]
  constructor
  · rintro ⟨h, q, hq, h2, h3⟩
    rw [wk] at h3
    rw [of_decide_eq_true h3] at h2
    exact ⟨h, h2⟩
  · rintro ⟨h, h2⟩
    exact ⟨h, f, hf, h2, decide_eq_true rfl⟩
theorem ring_fail {τ0 : gx_R} {ow : Nat → Nat → Nat} {P f len : Nat} (hl : len ≤ 8) (hP : P ≤ 8) (hf : f < P) (h0 : τ0 110 0 = nI P) (hO : OwM τ0 ow) :
    ∀ d k, k + 1 + d + 1 = len → ∀ r : Nat → Nat, (∀ i, i ≤ k → r i < 8) → (∀ q, q < 8 → eO ow (r k) q = true → wk (eO ow) f (len - (k + 1)) q = false) → ∀ e p τ, p + e + 1 = P → f ≤ p → (∀ c, c ≠ 151 → τ c = τ0 c) → (∀ i, i ≤ k → τ 151 i = nI (r i)) → τ 151 (k + 1) = nI p → ∃ c τ', c ≤ (e + 1) * rcc d ∧ (∀ c, c ≠ 151 → τ' c = τ0 c) ∧ (∀ i, i ≤ k → τ' 151 i = nI (r i)) ∧ ∀ n, Md_isRing_12 (n + c) (nI f) (nI len) (nI (k + 1)) τ = Md_isRing_12 n (nI f) (nI len) (nI k) τ' := by
  intro d
  induction d with
  | zero =>
    intro k hk r hr hw e
    induction e with
    | zero =>
      intro p τ h1 h2 h3 h4 h5
      refine ⟨1, gx_up τ 151 (k + 1) (nI (p + 1)), by rw [rcc]; omega, fun c hc => by rw [gx_up_ne hc]; exact h3 c hc, fun i hi => by rw [up_p _ _ _ (by omega)]; exact h4 i hi, fun n => ?_⟩
      rw [ring_step n (by omega) (by omega) hl hP (by omega) (by rw [h3 110 (by omega)]; exact h0) (fun p q h h' => by rw [h3 110 (by omega)]; exact hO p q h h') h5 (h4 k (Nat.le_refl _)) (hr k (Nat.le_refl _)) (by omega), if_pos (by omega)]
      rfl
    | succ e ihe =>
      intro p τ h1 h2 h3 h4 h5
      obtain ⟨c, τ', y1, y2, y3, y4⟩ := ihe (p + 1) (gx_up τ 151 (k + 1) (nI (p + 1))) (by omega) (by omega) (fun c hc => by rw [gx_up_ne hc]; exact h3 c hc) (fun i hi => by rw [up_p _ _ _ (by omega)]; exact h4 i hi) (up_e _ _ _ _)
      refine ⟨c + 1, τ', by rw [Nat.succ_mul]; have := rcc_1 0; omega, y2, y3, fun n => ?_⟩
      rw [show n + (c + 1) = (n + c) + 1 by omega, ring_step (n + c) (by omega) (by omega) hl hP (by omega) (by rw [h3 110 (by omega)]; exact h0) (fun p q h h' => by rw [h3 110 (by omega)]; exact hO p q h h') h5 (h4 k (Nat.le_refl _)) (hr k (Nat.le_refl _)) (by omega), if_neg (by omega), y4 n]
      by_cases c1 : orB (fun j => decide (τ 151 j = nI (p + 1))) (k + 1) = true
      · rw [if_pos c1]
      · rw [if_neg c1]
        by_cases c2 : ow (r k) (p + 1) = 0
        · rw [if_pos c2]
        · rw [if_neg c2, if_pos (by omega), if_pos]
          refine Classical.byContradiction (fun z => ?_)
          have := hw (p + 1) (by omega) (eO_f.mpr c2)
          rw [show len - (k + 1) = 1 by omega, (wk_1 (by omega)).mpr ⟨by omega, eO_f.mpr z⟩] at this
          cases this
  | succ d ihd =>
    intro k hk r hr hw e
    induction e with
    | zero =>
      intro p τ h1 h2 h3 h4 h5
      refine ⟨1, gx_up τ 151 (k + 1) (nI (p + 1)), by have := rcc_1 (d + 1); omega, fun c hc => by rw [gx_up_ne hc]; exact h3 c hc, fun i hi => by rw [up_p _ _ _ (by omega)]; exact h4 i hi, fun n => ?_⟩
      rw [ring_step n (by omega) (by omega) hl hP (by omega) (by rw [h3 110 (by omega)]; exact h0) (fun p q h h' => by rw [h3 110 (by omega)]; exact hO p q h h') h5 (h4 k (Nat.le_refl _)) (hr k (Nat.le_refl _)) (by omega), if_pos (by omega)]
      rfl
    | succ e ihe =>
      intro p τ h1 h2 h3 h4 h5
      have st := fun n => ring_step (τ := τ) (ow := ow) (P := P) (f := f) (len := len) (k := k + 1) (p := p) (b := r k) n (by omega) (by omega) hl hP (by omega) (by rw [h3 110 (by omega)]; exact h0) (fun p q h h' => by rw [h3 110 (by omega)]; exact hO p q h h') h5 (h4 k (Nat.le_refl _)) (hr k (Nat.le_refl _)) (by omega)
      by_cases c1 : orB (fun j => decide (τ 151 j = nI (p + 1))) (k + 1) = true ∨ ow (r k) (p + 1) = 0
      · obtain ⟨c, τ', y1, y2, y3, y4⟩ := ihe (p + 1) (gx_up τ 151 (k + 1) (nI (p + 1))) (by omega) (by omega) (fun c hc => by rw [gx_up_ne hc]; exact h3 c hc) (fun i hi => by rw [up_p _ _ _ (by omega)]; exact h4 i hi) (up_e _ _ _ _)
        refine ⟨c + 1, τ', by rw [Nat.succ_mul]; have := rcc_1 (d + 1); omega, y2, y3, fun n => ?_⟩
        rw [show n + (c + 1) = (n + c) + 1 by omega, st, if_neg (by omega), y4 n]
        by_cases c2 : orB (fun j => decide (τ 151 j = nI (p + 1))) (k + 1) = true
        · rw [if_pos c2]
        · rcases c1 with c1 | c1
          · exact absurd c1 c2
          · rw [if_neg c2, if_pos c1]
      · have c2 : ¬ orB (fun j => decide (τ 151 j = nI (p + 1))) (k + 1) = true := fun z => c1 (Or.inl z)
        have c3 : ¬ ow (r k) (p + 1) = 0 := fun z => c1 (Or.inr z)
        obtain ⟨ca, τa, a1, a2, a3, a4⟩ := ihd (k + 1) (by omega) (fun i => if i = k + 1 then p + 1 else r i) (fun i hi => by
            show (if i = k + 1 then p + 1 else r i) < 8
            by_cases z : i = k + 1
            · rw [if_pos z]; omega
            · rw [if_neg z]; exact hr i (by omega)) (fun q hq y1 => by
            have y1 : eO ow (if k + 1 = k + 1 then p + 1 else r (k + 1)) q = true := y1
            rw [if_pos rfl] at y1
            cases hh : wk (eO ow) f (len - (k + 1 + 1)) q with
            | false => rfl
            | true =>
              have := hw (p + 1) (by omega) (eO_f.mpr c3)
              rw [show len - (k + 1) = len - (k + 1 + 1) + 1 by omega, wk_s.mpr ⟨by omega, q, hq, y1, hh⟩] at this
              cases this) (P - f - 1) f (gx_up (gx_up τ 151 (k + 1) (nI (p + 1))) 151 (k + 1 + 1) (nI f)) (by omega) (Nat.le_refl _) (fun c hc => by rw [gx_up_ne hc, gx_up_ne hc]; exact h3 c hc) (fun i hi => by
            rw [up_p _ _ _ (by omega)]
            show _ = nI (if i = k + 1 then p + 1 else r i)
            by_cases z : i = k + 1
            · rw [z, up_e, if_pos rfl]
            · rw [up_p _ _ _ z, if_neg z]; exact h4 i (by omega)) (up_e _ _ _ _)
        obtain ⟨c, τ', y1, y2, y3, y4⟩ := ihe (p + 1) τa (by omega) (by omega) a2 (fun i hi => by rw [a3 i (by omega)]; show nI (if i = k + 1 then p + 1 else r i) = _; rw [if_neg (by omega)]) (by rw [a3 (k + 1) (Nat.le_refl _)]; show nI (if k + 1 = k + 1 then p + 1 else r (k + 1)) = _; rw [if_pos rfl])
        have hc : ca ≤ 8 * rcc d := Nat.le_trans a1 (Nat.mul_le_mul_right _ (by omega))
        refine ⟨c + ca + 1, τ', by
          have : rcc (d + 1) = 1 + 8 * rcc d := rfl
          rw [Nat.succ_mul]; omega, y2, y3, fun n => ?_⟩
        rw [show n + (c + ca + 1) = (n + c + ca) + 1 by omega, st, if_neg (by omega), if_neg c2, if_neg c3, if_neg (by omega), a4 (n + c), y4 n]
theorem ring_ok {τ0 : gx_R} {ow : Nat → Nat → Nat} {P f len : Nat} (hl : len ≤ 8) (hP : P ≤ 8) (hf : f < P) (h0 : τ0 110 0 = nI P) (hO : OwM τ0 ow) (hE : ∀ p q, eO ow p q = true → p < P ∧ q < P) (hr : rg (eO ow) f (len - 1) = true) (hm : ∀ i, i < len - 1 → rg (eO ow) f i = false) :
    ∀ d k, k + 1 + d + 1 = len → ∀ e p τ, p + e + 1 = P → f ≤ p → p < pth (eO ow) f len (k + 1) → (∀ c, c ≠ 151 → τ c = τ0 c) → (∀ i, i ≤ k → τ 151 i = nI (pth (eO ow) f len i)) → τ 151 (k + 1) = nI p → ∃ c τ', c ≤ (e + 1) * rcc d ∧ (∀ c, c ≠ 151 → τ' c = τ0 c) ∧ (∀ i, i < len → τ' 151 i = nI (pth (eO ow) f len i)) ∧ ∀ n, Md_isRing_12 (n + c) (nI f) (nI len) (nI (k + 1)) τ = some (1, τ') := by
  intro d
  induction d with
  | zero =>
    intro k hk e
    obtain ⟨s1, s2, s3, s4⟩ := pth_s (k := k) hr (by omega)
    have k8 := pth_8 (show f < 8 by omega) hr (show k + 1 ≤ len by omega)
    have sP := (hE _ _ s2).2
    rw [show len - (k + 1) = 1 by omega] at s3 s4
    induction e with
    | zero => intro p τ h1 h2 h2b; omega
    | succ e ihe =>
      intro p τ h1 h2 h2b h3 h4 h5
      have st := fun n => ring_step (τ := τ) (ow := ow) (P := P) (f := f) (len := len) (k := k + 1) (p := p) (b := pth (eO ow) f len k) n (by omega) (by omega) hl hP (by omega) (by rw [h3 110 (by omega)]; exact h0) (fun p q h h' => by rw [h3 110 (by omega)]; exact hO p q h h') h5 (h4 k (Nat.le_refl _)) k8 (by omega)
      by_cases c0 : p + 1 = pth (eO ow) f len (k + 1)
      · refine ⟨1, gx_up τ 151 (k + 1) (nI (p + 1)), by rw [rcc]; omega, fun c hc => by rw [gx_up_ne hc]; exact h3 c hc, fun i hi => ?_, fun n => ?_⟩
        · by_cases z : i = k + 1
          · rw [z, up_e, c0]
          · rw [up_p _ _ _ z]; exact h4 i (by omega)
        · have c2 : ¬ orB (fun j => decide (τ 151 j = nI (p + 1))) (k + 1) = true := by
            intro z
            obtain ⟨i, y1, y2⟩ := orB_t.mp z
            have y2 : decide (τ 151 i = nI (p + 1)) = true := y2
            rw [h4 i (by omega), c0] at y2
            have i8 := pth_8 (show f < 8 by omega) hr (show i + 1 ≤ len by omega)
            exact pth_d hr hm (show 1 ≤ 1 by omega) (by omega) s3 ((nI_eq (by omega) (by omega)).mp (of_decide_eq_true y2))
          have c3 : ¬ ow (pth (eO ow) f len k) (p + 1) = 0 := by rw [c0]; exact eO_f.mp s2
          have c4 : ¬ ow (p + 1) f = 0 := by rw [c0]; exact eO_f.mp ((wk_1 (by omega)).mp s3).2
          rw [st, if_neg (by omega), if_neg c2, if_neg c3, if_pos (by omega), if_neg c4]
      · obtain ⟨c, τ', y1, y2, y3, y4⟩ := ihe (p + 1) (gx_up τ 151 (k + 1) (nI (p + 1))) (by omega) (by omega) (by omega) (fun c hc => by rw [gx_up_ne hc]; exact h3 c hc) (fun i hi => by rw [up_p _ _ _ (by omega)]; exact h4 i hi) (up_e _ _ _ _)
        refine ⟨c + 1, τ', by rw [Nat.succ_mul]; have := rcc_1 0; omega, y2, y3, fun n => ?_⟩
        rw [show n + (c + 1) = (n + c) + 1 by omega, st, if_neg (by omega), y4 n]
        by_cases c2 : orB (fun j => decide (τ 151 j = nI (p + 1))) (k + 1) = true
        · rw [if_pos c2]
        · rw [if_neg c2]
          by_cases c3 : ow (pth (eO ow) f len k) (p + 1) = 0
          · rw [if_pos c3]
          · rw [if_neg c3, if_pos (by omega), if_pos]
            refine Classical.byContradiction (fun z => ?_)
            have := s4 (p + 1) (by omega)
            rw [eO_f.mpr c3, (wk_1 (by omega)).mpr ⟨by omega, eO_f.mpr z⟩] at this
            cases this
  | succ d ihd =>
    intro k hk e
    obtain ⟨s1, s2, s3, s4⟩ := pth_s (k := k) hr (by omega)
    have k8 := pth_8 (show f < 8 by omega) hr (show k + 1 ≤ len by omega)
    have sP := (hE _ _ s2).2
    induction e with
    | zero => intro p τ h1 h2 h2b; omega
    | succ e ihe =>
      intro p τ h1 h2 h2b h3 h4 h5
      have st := fun n => ring_step (τ := τ) (ow := ow) (P := P) (f := f) (len := len) (k := k + 1) (p := p) (b := pth (eO ow) f len k) n (by omega) (by omega) hl hP (by omega) (by rw [h3 110 (by omega)]; exact h0) (fun p q h h' => by rw [h3 110 (by omega)]; exact hO p q h h') h5 (h4 k (Nat.le_refl _)) k8 (by omega)
      have fr : ∀ c, c ≠ 151 → gx_up (gx_up τ 151 (k + 1) (nI (p + 1))) 151 (k + 1 + 1) (nI f) c = τ0 c := fun c hc => by rw [gx_up_ne hc, gx_up_ne hc]; exact h3 c hc
      by_cases c0 : p + 1 = pth (eO ow) f len (k + 1)
      · have c2 : ¬ orB (fun j => decide (τ 151 j = nI (p + 1))) (k + 1) = true := by
          intro z
          obtain ⟨i, y1, y2⟩ := orB_t.mp z
          have y2 : decide (τ 151 i = nI (p + 1)) = true := y2
          rw [h4 i (by omega), c0] at y2
          have i8 := pth_8 (show f < 8 by omega) hr (show i + 1 ≤ len by omega)
          exact pth_d hr hm (show 1 ≤ len - (k + 1) by omega) (by omega) s3 ((nI_eq (by omega) (by omega)).mp (of_decide_eq_true y2))
        have c3 : ¬ ow (pth (eO ow) f len k) (p + 1) = 0 := by rw [c0]; exact eO_f.mp s2
        obtain ⟨ca, τa, a1, a2, a3, a4⟩ := ihd (k + 1) (by omega) (P - f - 1) f _ (by omega) (Nat.le_refl _) (pth_gt hr (by omega) (by omega)) fr (fun i hi => by
            rw [up_p _ _ _ (by omega)]
            by_cases z : i = k + 1
            · rw [z, up_e, c0]
            · rw [up_p _ _ _ z]; exact h4 i (by omega)) (up_e _ _ _ _)
        have hc : ca ≤ 8 * rcc d := Nat.le_trans a1 (Nat.mul_le_mul_right _ (by omega))
        refine ⟨ca + 1, τa, by
          have : rcc (d + 1) = 1 + 8 * rcc d := rfl
          rw [Nat.succ_mul]; omega, a2, a3, fun n => ?_⟩
        rw [show n + (ca + 1) = (n + ca) + 1 by omega, st, if_neg (by omega), if_neg c2, if_neg c3, if_neg (by omega), a4 n]
      · by_cases c1 : orB (fun j => decide (τ 151 j = nI (p + 1))) (k + 1) = true ∨ ow (pth (eO ow) f len k) (p + 1) = 0
        · obtain ⟨c, τ', y1, y2, y3, y4⟩ := ihe (p + 1) (gx_up τ 151 (k + 1) (nI (p + 1))) (by omega) (by omega) (by omega) (fun c hc => by rw [gx_up_ne hc]; exact h3 c hc) (fun i hi => by rw [up_p _ _ _ (by omega)]; exact h4 i hi) (up_e _ _ _ _)
          refine ⟨c + 1, τ', by rw [Nat.succ_mul]; have := rcc_1 (d + 1); omega, y2, y3, fun n => ?_⟩
          rw [show n + (c + 1) = (n + c) + 1 by omega, st, if_neg (by omega), y4 n]
          by_cases c2 : orB (fun j => decide (τ 151 j = nI (p + 1))) (k + 1) = true
          · rw [if_pos c2]
          · rcases c1 with c1 | c1
            · exact absurd c1 c2
            · rw [if_neg c2, if_pos c1]
        · have c2 : ¬ orB (fun j => decide (τ 151 j = nI (p + 1))) (k + 1) = true := fun z => c1 (Or.inl z)
          have c3 : ¬ ow (pth (eO ow) f len k) (p + 1) = 0 := fun z => c1 (Or.inr z)
          obtain ⟨ca, τa, a1, a2, a3, a4⟩ := ring_fail hl hP hf h0 hO d (k + 1) (by omega) (fun i => if i = k + 1 then p + 1 else pth (eO ow) f len i) (fun i hi => by
              show (if i = k + 1 then p + 1 else pth (eO ow) f len i) < 8
              by_cases z : i = k + 1
              · rw [if_pos z]; omega
              · rw [if_neg z]; exact pth_8 (by omega) hr (by omega)) (fun q hq y1 => by
              have y1 : eO ow (if k + 1 = k + 1 then p + 1 else pth (eO ow) f len (k + 1)) q = true := y1
              rw [if_pos rfl] at y1
              cases hh : wk (eO ow) f (len - (k + 1 + 1)) q with
              | false => rfl
              | true =>
                have := s4 (p + 1) (by omega)
                rw [eO_f.mpr c3, show len - (k + 1) = len - (k + 1 + 1) + 1 by omega, wk_s.mpr ⟨by omega, q, hq, y1, hh⟩] at this
                cases this) (P - f - 1) f _ (by omega) (Nat.le_refl _) fr (fun i hi => by
              rw [up_p _ _ _ (by omega)]
              show _ = nI (if i = k + 1 then p + 1 else pth (eO ow) f len i)
              by_cases z : i = k + 1
              · rw [z, up_e, if_pos rfl]
              · rw [up_p _ _ _ z, if_neg z]; exact h4 i (by omega)) (up_e _ _ _ _)
          obtain ⟨c, τ', y1, y2, y3, y4⟩ := ihe (p + 1) τa (by omega) (by omega) (by omega) a2 (fun i hi => by rw [a3 i (by omega)]; show nI (if i = k + 1 then p + 1 else pth (eO ow) f len i) = _; rw [if_neg (by omega)]) (by rw [a3 (k + 1) (Nat.le_refl _)]; show nI (if k + 1 = k + 1 then p + 1 else pth (eO ow) f len (k + 1)) = _; rw [if_pos rfl])
          have hc : ca ≤ 8 * rcc d := Nat.le_trans a1 (Nat.mul_le_mul_right _ (by omega))
          refine ⟨c + ca + 1, τ', by
            have : rcc (d + 1) = 1 + 8 * rcc d := rfl
            rw [Nat.succ_mul]; omega, y2, y3, fun n => ?_⟩
          rw [show n + (c + ca + 1) = (n + c + ca) + 1 by omega, st, if_neg (by omega), if_neg c2, if_neg c3, if_neg (by omega), a4 (n + c), y4 n]
