/-! ===== rings: walks back to the first ===== -/
def lw (g : Nat → Bool) : Nat → Nat
  | 0 => 0
  | n + 1 => if lw g n < n then lw g n else if g n = true then n else n + 1
theorem lw_sp (g : Nat → Bool) : ∀ n, lw g n ≤ n ∧ (lw g n < n → g (lw g n) = true) ∧ ∀ i, i < lw g n → g i = false := by
  intro n
  induction n with
  | zero => exact ⟨Nat.le_refl _, fun h => absurd h (Nat.lt_irrefl 0), fun i hi => absurd hi (Nat.not_lt_zero i)⟩
  | succ n ih =>
    obtain ⟨h1, h2, h3⟩ := ih
    rw [lw]
    by_cases c : lw g n < n
    · rw [if_pos c]; exact ⟨by omega, fun _ => h2 c, h3⟩
    · rw [if_neg c]
      have e : lw g n = n := by omega
      rw [e] at h3
      cases hg : g n with
      | true => rw [if_pos rfl]; exact ⟨by omega, fun _ => hg, h3⟩
      | false =>
        rw [if_neg (by decide)]
        refine ⟨Nat.le_refl _, fun h => absurd h (Nat.lt_irrefl _), fun i hi => ?_⟩
        by_cases z : i = n
        · rw [z]; exact hg
        · exact h3 i (by omega)
theorem lw_eq {g : Nat → Bool} {n m : Nat} (h1 : m < n) (h2 : g m = true) (h3 : ∀ i, i < m → g i = false) : lw g n = m := by
  obtain ⟨k1, k2, k3⟩ := lw_sp g n
  rcases Nat.lt_trichotomy (lw g n) m with h | h | h
  · have := k2 (by omega)
    rw [h3 _ h] at this; cases this
  · exact h
  · have := k3 m h
    rw [h2] at this; cases this
theorem lw_no {g : Nat → Bool} {n : Nat} (h : ∀ i, i < n → g i = false) : lw g n = n := by
  obtain ⟨k1, k2, k3⟩ := lw_sp g n
  rcases Nat.lt_or_ge (lw g n) n with z | z
  · have := k2 z
    rw [h _ z] at this; cases this
  · omega
def wk (E : Nat → Nat → Bool) (f : Nat) : Nat → Nat → Bool
  | 0, p => decide (p = f)
  | j + 1, p => decide (f < p) && orB (fun q => E p q && wk E f j q) 8
def rg (E : Nat → Nat → Bool) (f m : Nat) : Bool := orB (fun q => E f q && wk E f m q) 8
theorem wk_s {E : Nat → Nat → Bool} {f j p : Nat} : wk E f (j + 1) p = true ↔ f < p ∧ ∃ q, q < 8 ∧ E p q = true ∧ wk E f j q = true := by
  rw [wk, Bool.and_eq_true, orB_t]
  constructor
  · rintro ⟨h, q, hq, h2⟩
    exact ⟨of_decide_eq_true h, q, hq, (Bool.and_eq_true_iff.mp h2).1, (Bool.and_eq_true_iff.mp h2).2⟩
  · rintro ⟨h, q, hq, h2, h3⟩
    exact ⟨decide_eq_true h, q, hq, by rw [h2, h3]; rfl⟩
theorem rg_t {E : Nat → Nat → Bool} {f m : Nat} : rg E f m = true ↔ ∃ q, q < 8 ∧ E f q = true ∧ wk E f m q = true := by
  rw [rg, orB_t]
  constructor
  · rintro ⟨q, hq, h2⟩
    exact ⟨q, hq, (Bool.and_eq_true_iff.mp h2).1, (Bool.and_eq_true_iff.mp h2).2⟩
  · rintro ⟨q, hq, h2, h3⟩
    exact ⟨q, hq, by rw [h2, h3]; rfl⟩
theorem wk_gt {E : Nat → Nat → Bool} {f j p : Nat} (hj : 1 ≤ j) (h : wk E f j p = true) : f < p := by
  obtain ⟨j, rfl⟩ : ∃ i, j = i + 1 := ⟨j - 1, by omega⟩
  exact (wk_s.mp h).1
/-- how far one is known to be after s rounds -/
def tw (E : Nat → Nat → Bool) (f : Nat) : Nat → Nat → Int32
  | 0, _ => -1
  | s + 1, p => if tw E f s p = -1 ∧ wk E f (s + 1) p = true then nI (s + 1) else tw E f s p
theorem tw_a {E : Nat → Nat → Bool} {f p : Nat} : ∀ s, s < 100 → (tw E f s p = -1 ↔ ∀ i, 1 ≤ i → i ≤ s → wk E f i p = false) := by
  intro s
  induction s with
  | zero => intro _; exact ⟨fun _ i h1 h2 => by omega, fun _ => rfl⟩
  | succ s ih =>
    intro hs
    have ih := ih (by omega)
    rw [tw]
    by_cases c : tw E f s p = -1 ∧ wk E f (s + 1) p = true
    · rw [if_pos c]
      constructor
      · intro h; exact absurd h (fun z => (n_m1 (by omega)).mp z)
      · intro h; have := h (s + 1) (by omega) (Nat.le_refl _); rw [c.2] at this; cases this
    · rw [if_neg c, ih]
      constructor
      · intro h i h1 h2
        by_cases e : i = s + 1
        · subst e
          cases hw : wk E f (s + 1) p with
          | false => rfl
          | true => exact absurd ⟨ih.mpr h, hw⟩ c
        · exact h i h1 (by omega)
      · intro h i h1 h2; exact h i h1 (by omega)
theorem tw_r {E : Nat → Nat → Bool} {f p : Nat} : ∀ s, tw E f s p = -1 ∨ ∃ j, 1 ≤ j ∧ j ≤ s ∧ tw E f s p = nI j := by
  intro s
  induction s with
  | zero => exact Or.inl rfl
  | succ s ih =>
    rw [tw]
    by_cases c : tw E f s p = -1 ∧ wk E f (s + 1) p = true
    · rw [if_pos c]; exact Or.inr ⟨s + 1, by omega, Nat.le_refl _, rfl⟩
    · rw [if_neg c]
      rcases ih with h | ⟨j, h1, h2, h3⟩
      · exact Or.inl h
      · exact Or.inr ⟨j, h1, by omega, h3⟩
theorem tw_b {E : Nat → Nat → Bool} {f p : Nat} : ∀ s, s < 100 → ∀ j, 1 ≤ j → j ≤ s → (tw E f s p = nI j ↔ wk E f j p = true ∧ ∀ i, 1 ≤ i → i < j → wk E f i p = false) := by
  intro s
  induction s with
  | zero => intro _ j h1 h2; omega
  | succ s ih =>
    intro hs j h1 h2
    have ha := tw_a (E := E) (f := f) (p := p) s (by omega)
    rw [tw]
    by_cases c : tw E f s p = -1 ∧ wk E f (s + 1) p = true
    · rw [if_pos c]
      have hall := ha.mp c.1
      constructor
      · intro h
        have := (nI_eq (by omega) (by omega)).mp h
        subst this
        exact ⟨c.2, fun i y1 y2 => hall i y1 (by omega)⟩
      · rintro ⟨h3, -⟩
        by_cases e : j = s + 1
        · rw [e]
        · rw [hall j h1 (by omega)] at h3; cases h3
    · rw [if_neg c]
      by_cases e : j = s + 1
      · subst e
        constructor
        · intro h
          rcases tw_r (E := E) (f := f) (p := p) s with h5 | ⟨i, y1, y2, y3⟩
          · rw [h5] at h; exact absurd h.symm (fun z => (n_m1 (by omega)).mp z)
          · rw [y3] at h
            have := (nI_eq (by omega) (by omega)).mp h
            omega
        · rintro ⟨h3, h4⟩
          exact absurd ⟨ha.mpr (fun i y1 y2 => h4 i y1 (by omega)), h3⟩ c
      · exact ih (by omega) j h1 (by omega)
def Ls (E : Nat → Nat → Bool) (f : Nat) : Nat → Nat → Bool
  | 0, q => decide (q = f)
  | s + 1, q => decide (tw E f (s + 1) q = nI (s + 1))
theorem Ls_iff {E : Nat → Nat → Bool} {f s q : Nat} (hs : s < 100) : Ls E f s q = true ↔ wk E f s q = true ∧ ∀ i, 1 ≤ i → i < s → wk E f i q = false := by
  cases s with
  | zero => exact ⟨fun h => ⟨h, fun i h1 h2 => by omega⟩, fun h => h.1⟩
  | succ s =>
    rw [Ls]
    exact ⟨fun h => (tw_b (s + 1) hs (s + 1) (by omega) (Nat.le_refl _)).mp (of_decide_eq_true h), fun h => decide_eq_true ((tw_b (s + 1) hs (s + 1) (by omega) (Nat.le_refl _)).mpr h)⟩
/-- one more round finds those that are one farther -/
theorem ls_new {E : Nat → Nat → Bool} {f s p : Nat} (hs : s < 100) (hp : f < p) (h : tw E f s p = -1) : (∃ q, q < 8 ∧ E p q = true ∧ Ls E f s q = true) ↔ wk E f (s + 1) p = true := by
  rw [wk_s]
  have ha := (tw_a (E := E) (f := f) (p := p) s hs).mp h
  constructor
  · rintro ⟨q, hq, h1, h2⟩
    exact ⟨hp, q, hq, h1, ((Ls_iff hs).mp h2).1⟩
  · rintro ⟨-, q, hq, h1, h2⟩
    refine ⟨q, hq, h1, (Ls_iff hs).mpr ⟨h2, fun i y1 y2 => ?_⟩⟩
    cases hw : wk E f i q with
    | false => rfl
    | true =>
      have := ha (i + 1) (by omega) (by omega)
      rw [wk_s.mpr ⟨hp, q, hq, h1, hw⟩] at this
      cases this
theorem ls_ring {E : Nat → Nat → Bool} {f s : Nat} (hs : s < 100) (h : ∀ i, i < s → rg E f i = false) : (∃ q, q < 8 ∧ E f q = true ∧ Ls E f s q = true) ↔ rg E f s = true := by
  rw [rg_t]
  constructor
  · rintro ⟨q, hq, h1, h2⟩
    exact ⟨q, hq, h1, ((Ls_iff hs).mp h2).1⟩
  · rintro ⟨q, hq, h1, h2⟩
    refine ⟨q, hq, h1, (Ls_iff hs).mpr ⟨h2, fun i y1 y2 => ?_⟩⟩
    cases hw : wk E f i q with
    | false => rfl
    | true =>
      have := h i y2
      rw [rg_t.mpr ⟨q, hq, h1, hw⟩] at this
      cases this
theorem ls_down {E : Nat → Nat → Bool} {f s : Nat} : ∀ d q, s + d < 100 → q < 8 → 1 ≤ s → Ls E f (s + d) q = true → ∃ q', q' < 8 ∧ Ls E f s q' = true := by
  intro d
  induction d with
  | zero => intro q h1 h2 h3 h4; exact ⟨q, h2, h4⟩
  | succ d ih =>
    intro q h1 h2 h3 h4
    obtain ⟨k1, k2⟩ := (Ls_iff (by omega)).mp h4
    obtain ⟨hp, q', hq', h5, h6⟩ := wk_s.mp (show wk E f (s + d + 1) q = true from k1)
    refine ih q' (by omega) hq' h3 ((Ls_iff (by omega)).mpr ⟨h6, fun i y1 y2 => ?_⟩)
    cases hw : wk E f i q' with
    | false => rfl
    | true =>
      have := k2 (i + 1) (by omega) (by omega)
      rw [wk_s.mpr ⟨hp, q', hq', h5, hw⟩] at this
      cases this
theorem ls_end {E : Nat → Nat → Bool} {f s : Nat} (hf : f < 8) (h : ∀ q, q < 8 → Ls E f s q = false) (h2 : ∀ i, i < s → rg E f i = false) : ∀ j, j < 100 → rg E f j = false := by
  intro j
  induction j using Nat.strongRecOn with
  | _ j ih =>
    intro hj
    rcases Nat.lt_or_ge j s with z | z
    · exact h2 j z
    · cases hr : rg E f j with
      | false => rfl
      | true =>
        obtain ⟨q, hq, h3, h4⟩ := (ls_ring hj (fun i hi => ih i hi (by omega))).mpr hr
        rcases Nat.eq_zero_or_pos s with e | e
        · subst e
          have := h f hf
          rw [Ls, decide_eq_true rfl] at this
          cases this
        · obtain ⟨q', hq', h5⟩ := ls_down (E := E) (f := f) (s := s) (j - s) q (by omega) hq e (by rw [show s + (j - s) = j by omega]; exact h4)
          rw [h q' hq'] at h5
          cases h5
/-! the way around: always the lowest -/
def pth (E : Nat → Nat → Bool) (f n : Nat) : Nat → Nat
  | 0 => f
  | k + 1 => lw (fun q => E (pth E f n k) q && wk E f (n - (k + 1)) q) 8
theorem pth_ex {E : Nat → Nat → Bool} {f n : Nat} (hr : rg E f (n - 1) = true) : ∀ k, k + 2 ≤ n → ∃ q, q < 8 ∧ E (pth E f n k) q = true ∧ wk E f (n - (k + 1)) q = true := by
  intro k
  induction k with
  | zero => intro _; exact rg_t.mp hr
  | succ k ih =>
    intro hk
    obtain ⟨q, hq, h1, h2⟩ := ih (by omega)
    obtain ⟨k1, k2, k3⟩ := lw_sp (fun q => E (pth E f n k) q && wk E f (n - (k + 1)) q) 8
    have hl : lw (fun q => E (pth E f n k) q && wk E f (n - (k + 1)) q) 8 < 8 := by
      rcases Nat.lt_or_ge (lw (fun q => E (pth E f n k) q && wk E f (n - (k + 1)) q) 8) 8 with z | z
      · exact z
      · have := k3 q (by omega)
        rw [h1, h2] at this; cases this
    have h3 : wk E f (n - (k + 1)) (pth E f n (k + 1)) = true := by
      rw [pth]
      exact (Bool.and_eq_true_iff.mp (k2 hl)).2
    rw [show n - (k + 1) = n - (k + 2) + 1 by omega] at h3
    obtain ⟨-, q', hq', h4, h5⟩ := wk_s.mp h3
    exact ⟨q', hq', h4, h5⟩
theorem pth_s {E : Nat → Nat → Bool} {f n k : Nat} (hr : rg E f (n - 1) = true) (hk : k + 2 ≤ n) : pth E f n (k + 1) < 8 ∧ E (pth E f n k) (pth E f n (k + 1)) = true ∧ wk E f (n - (k + 1)) (pth E f n (k + 1)) = true ∧ ∀ u, u < pth E f n (k + 1) → (E (pth E f n k) u && wk E f (n - (k + 1)) u) = false := by
  obtain ⟨q, hq, h1, h2⟩ := pth_ex hr k hk
  obtain ⟨k1, k2, k3⟩ := lw_sp (fun q => E (pth E f n k) q && wk E f (n - (k + 1)) q) 8
  have hl : lw (fun q => E (pth E f n k) q && wk E f (n - (k + 1)) q) 8 < 8 := by
    rcases Nat.lt_or_ge (lw (fun q => E (pth E f n k) q && wk E f (n - (k + 1)) q) 8) 8 with z | z
    · exact z
    · have := k3 q (by omega)
      rw [h1, h2] at this; cases this
  rw [show pth E f n (k + 1) = lw (fun q => E (pth E f n k) q && wk E f (n - (k + 1)) q) 8 from rfl]
  generalize hL : lw (fun q => E (pth E f n k) q && wk E f (n - (k + 1)) q) 8 = L at hl k2 k3
  exact ⟨hl, (Bool.and_eq_true_iff.mp (k2 hl)).1, (Bool.and_eq_true_iff.mp (k2 hl)).2, k3⟩
theorem pth_8 {E : Nat → Nat → Bool} {f n k : Nat} (hf : f < 8) (hr : rg E f (n - 1) = true) (hk : k + 1 ≤ n) : pth E f n k < 8 := by
  cases k with
  | zero => exact hf
  | succ k => exact (pth_s hr hk).1
theorem pth_gt {E : Nat → Nat → Bool} {f n k : Nat} (hr : rg E f (n - 1) = true) (h1 : 1 ≤ k) (hk : k + 1 ≤ n) : f < pth E f n k := by
  obtain ⟨k, rfl⟩ : ∃ i, k = i + 1 := ⟨k - 1, by omega⟩
  exact wk_gt (show 1 ≤ n - (k + 1) by omega) (pth_s hr hk).2.2.1
theorem pth_ch {E : Nat → Nat → Bool} {f n : Nat} (hr : rg E f (n - 1) = true) : ∀ k j q, k + 1 ≤ n → q < 8 → E (pth E f n k) q = true → wk E f j q = true → rg E f (k + j) = true := by
  intro k
  induction k with
  | zero => intro j q _ hq h1 h2; rw [Nat.zero_add]; exact rg_t.mpr ⟨q, hq, h1, h2⟩
  | succ k ih =>
    intro j q hk hq h1 h2
    obtain ⟨s1, s2, s3, s4⟩ := pth_s (k := k) hr hk
    have := ih (j + 1) (pth E f n (k + 1)) (by omega) s1 s2 (wk_s.mpr ⟨wk_gt (show 1 ≤ n - (k + 1) by omega) s3, q, hq, h1, h2⟩)
    rw [show k + 1 + j = k + (j + 1) by omega]
    exact this
theorem pth_d {E : Nat → Nat → Bool} {f n i j q : Nat} (hr : rg E f (n - 1) = true) (hm : ∀ i, i < n - 1 → rg E f i = false) (hj : 1 ≤ j) (hi : i + j < n) (hw : wk E f j q = true) : pth E f n i ≠ q := by
  intro e
  cases i with
  | zero =>
    have := wk_gt hj hw
    rw [← e, pth] at this
    omega
  | succ i =>
    obtain ⟨s1, s2, s3, s4⟩ := pth_s (k := i) hr (by omega)
    rw [← e] at hw
    have := pth_ch hr i j _ (by omega) s1 s2 hw
    rw [hm _ (by omega)] at this
    cases this
theorem php : ∀ P n (g : Nat → Nat), (∀ i, i < n → g i < P) → (∀ i j, i < n → j < n → g i = g j → i = j) → n ≤ P := by
  intro P
  induction P with
  | zero =>
    intro n g h1 _
    rcases Nat.eq_zero_or_pos n with e | e
    · omega
    · exact absurd (h1 0 e) (Nat.not_lt_zero _)
  | succ P ih =>
    intro n g h1 h2
    rcases Nat.eq_zero_or_pos n with e | e
    · omega
    · obtain ⟨n, rfl⟩ : ∃ q, n = q + 1 := ⟨n - 1, by omega⟩
      have := ih n (fun i => if g i = P then g n else g i) (fun i hi => by
        show (if g i = P then g n else g i) < P
        by_cases c : g i = P
        · rw [if_pos c]
          have y1 := h1 n (by omega)
          have y2 : g n ≠ P := fun z => by have := h2 i n (by omega) (by omega) (by rw [c, z]); omega
          omega
        · rw [if_neg c]
          have := h1 i (by omega)
          omega) (fun i j hi hj hij => by
        have hij : (if g i = P then g n else g i) = (if g j = P then g n else g j) := hij
        by_cases c : g i = P
        · by_cases c2 : g j = P
          · exact h2 i j (by omega) (by omega) (by rw [c, c2])
          · rw [if_pos c, if_neg c2] at hij
            have := h2 n j (by omega) (by omega) hij
            omega
        · by_cases c2 : g j = P
          · rw [if_neg c, if_pos c2] at hij
            have := h2 i n (by omega) (by omega) hij
            omega
          · rw [if_neg c, if_neg c2] at hij
            exact h2 i j (by omega) (by omega) hij)
      omega
theorem pth_P {E : Nat → Nat → Bool} {f n P : Nat} (hE : ∀ p q, E p q = true → p < P ∧ q < P) (hn : 2 ≤ n) (hr : rg E f (n - 1) = true) (hm : ∀ i, i < n - 1 → rg E f i = false) : n ≤ P := by
  refine php P n (pth E f n) (fun i hi => ?_) (fun i j hi hj e => ?_)
  · cases i with
    | zero => exact (hE _ _ (pth_s (k := 0) hr (by omega)).2.1).1
    | succ i => exact (hE _ _ (pth_s (k := i) hr (by omega)).2.1).2
  · rcases Nat.lt_trichotomy i j with h | h | h
    · obtain ⟨j, rfl⟩ : ∃ q, j = q + 1 := ⟨j - 1, by omega⟩
      exact absurd e (pth_d hr hm (show 1 ≤ n - (j + 1) by omega) (by omega) (pth_s (k := j) hr (by omega)).2.2.1)
    · exact h
    · obtain ⟨i, rfl⟩ : ∃ q, i = q + 1 := ⟨i - 1, by omega⟩
      exact absurd e.symm (pth_d hr hm (show 1 ≤ n - (i + 1) by omega) (by omega) (pth_s (k := i) hr (by omega)).2.2.1)
