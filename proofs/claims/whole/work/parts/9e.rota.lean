/-! ===== rotas: what they are ===== -/
def roR (t : Nat → Nat) : Nat → Nat
  | 0 => 1
  | h + 1 => if t (h + 1) = t h then roR t h + 1 else 1
def roC (t : Nat → Nat) : Nat → Nat
  | 0 => 0
  | h + 1 => roC t h + (if t (h + 1) = t h then 0 else 1)
def roL (t : Nat → Nat) : Nat → Nat → Nat
  | 0, _ => 0
  | h + 1, p => if t h = p then h + 1 else roL t h p
def roO (e r : Nat) (t : Nat → Nat) (h : Nat) : Prop := (t (h + 1) = t h ∧ roR t h < e) ∨ (¬ t (h + 1) = t h ∧ (roL t (h + 1) (t (h + 1)) = 0 ∨ r + roL t (h + 1) (t (h + 1)) ≤ h + 1))
def roV (V : Nat → Prop) (e r : Nat) (t : Nat → Nat) (n : Nat) : Prop := (∀ i, i < n → V (t i)) ∧ ∀ h, h + 1 < n → roO e r t h
def roM (e n : Nat) (t : Nat → Nat) (h : Nat) : Nat := ((n - 1 - h) + roR t h - e + e - 1) / e
theorem roR_c {t u : Nat → Nat} : ∀ h, (∀ i, i ≤ h → t i = u i) → roR t h = roR u h := by
  intro h
  induction h with
  | zero => intro _; rfl
  | succ h ih => intro z; rw [roR, roR, ih (fun i hi => z i (by omega)), z (h + 1) (Nat.le_refl _), z h (by omega)]
theorem roC_c {t u : Nat → Nat} : ∀ h, (∀ i, i ≤ h → t i = u i) → roC t h = roC u h := by
  intro h
  induction h with
  | zero => intro _; rfl
  | succ h ih => intro z; rw [roC, roC, ih (fun i hi => z i (by omega)), z (h + 1) (Nat.le_refl _), z h (by omega)]
theorem roL_c {t u : Nat → Nat} : ∀ h p, (∀ i, i < h → t i = u i) → roL t h p = roL u h p := by
  intro h
  induction h with
  | zero => intro p _; rfl
  | succ h ih => intro p z; rw [roL, roL, ih p (fun i hi => z i (by omega)), z h (by omega)]
theorem roL_le {t : Nat → Nat} : ∀ h p, roL t h p ≤ h := by
  intro h
  induction h with
  | zero => intro p; exact Nat.le_refl _
  | succ h ih =>
    intro p
    rw [roL]
    by_cases z : t h = p
    · rw [if_pos z]; exact Nat.le_refl _
    · rw [if_neg z]; have := ih p; omega
theorem roO_c {t u : Nat → Nat} {e r h : Nat} (z : ∀ i, i ≤ h + 1 → t i = u i) (hh : roO e r t h) : roO e r u h := by
  unfold roO at hh ⊢
  rw [← z (h + 1) (Nat.le_refl _), ← z h (by omega), ← roR_c h (fun i hi => z i (by omega)), ← roL_c (h + 1) _ (fun i hi => z i (by omega))]
  exact hh
theorem roC_le {t : Nat → Nat} : ∀ h, roC t h ≤ h := by
  intro h
  induction h with
  | zero => exact Nat.le_refl _
  | succ h ih =>
    rw [roC]
    by_cases z : t (h + 1) = t h
    · rw [if_pos z]; omega
    · rw [if_neg z]; omega
theorem roR_1 {t : Nat → Nat} (h : Nat) : 1 ≤ roR t h := by
  cases h with
  | zero => exact Nat.le_refl _
  | succ h =>
    rw [roR]
    by_cases z : t (h + 1) = t h
    · rw [if_pos z]; omega
    · rw [if_neg z]; exact Nat.le_refl _
theorem roR_s {t : Nat → Nat} {e r h : Nat} (he : 1 ≤ e) (z : roO e r t h) : roR t (h + 1) ≤ e := by
  rw [roR]
  rcases z with ⟨z1, z2⟩ | ⟨z1, -⟩
  · rw [if_pos z1]; omega
  · rw [if_neg z1]; exact he
theorem roR_e {V : Nat → Prop} {t : Nat → Nat} {e r n h : Nat} (he : 1 ≤ e) (hv : roV V e r t n) (hh : h < n) : roR t h ≤ e := by
  cases h with
  | zero => exact he
  | succ h => exact roR_s he (hv.2 h hh)
theorem roM_s {t : Nat → Nat} {e r n h : Nat} (he : 1 ≤ e) (hh : h + 1 < n) (hr : roR t h ≤ e) (z : roO e r t h) : roC t h + roM e n t h ≤ roC t (h + 1) + roM e n t (h + 1) := by
  unfold roM
  rw [roC, roR]
  rcases z with ⟨z1, z2⟩ | ⟨z1, -⟩
  · rw [if_pos z1, if_pos z1, show n - 1 - (h + 1) + (roR t h + 1) = n - 1 - h + roR t h by omega]; omega
  · rw [if_neg z1, if_neg z1]
    have h1 : n - 1 - h + roR t h - e + e - 1 ≤ (n - 1 - (h + 1) + 1 - e + e - 1) + e := by omega
    have h2 := Nat.div_le_div_right (c := e) h1
    rw [Nat.add_div_right _ (by omega)] at h2
    omega
theorem roM_0 {t : Nat → Nat} {e n : Nat} (he : 1 ≤ e) (hr : roR t (n - 1) ≤ e) : roM e n t (n - 1) = 0 := by
  unfold roM
  exact Nat.div_eq_of_lt (by omega)
theorem roM_l {V : Nat → Prop} {t : Nat → Nat} {e r n : Nat} (he : 1 ≤ e) (hv : roV V e r t n) : ∀ m h, h + m = n - 1 → h < n → roC t h + roM e n t h ≤ roC t (n - 1) := by
  intro m
  induction m with
  | zero =>
    intro h h1 h2
    obtain rfl : h = n - 1 := by omega
    rw [roM_0 he (roR_e he hv h2)]
    exact Nat.le_refl _
  | succ m ih =>
    intro h h1 h2
    have := roM_s (n := n) he (by omega) (roR_e he hv h2) (hv.2 h (by omega))
    have := ih (h + 1) (by omega) (by omega)
    omega
def roE (n : Nat) (u w : Nat → Nat) : Prop := (∀ i, i < n → u i = w i) ∨ ∃ i, i < n ∧ (∀ j, j < i → u j = w j) ∧ u i < w i
theorem roE_rf {n : Nat} {u w : Nat → Nat} (h : ∀ i, i < n → u i = w i) : roE n u w := Or.inl h
theorem roE_as {n : Nat} {u w : Nat → Nat} (h : roE n u w) (h2 : roE n w u) : ∀ i, i < n → u i = w i := by
  rcases h with h | ⟨i, y1, y2, y3⟩
  · exact h
  · rcases h2 with h2 | ⟨j, z1, z2, z3⟩
    · exact fun i hi => (h2 i hi).symm
    · exfalso
      rcases Nat.lt_trichotomy i j with c | c | c
      · have := z2 i c; omega
      · subst c; omega
      · have := y2 j c; omega
/-- what a search has found among the rotas of S -/
def roP (n : Nat) (S : (Nat → Nat) → Prop) (b : Nat) (pl : Nat → Int32) (b' : Nat) (pl' : Nat → Int32) : Prop :=
  (b' = b ∧ (∀ i, i < n → pl' i = pl i) ∧ ∀ u, S u → b ≤ roC u (n - 1)) ∨
  (b' < b ∧ ∃ u, S u ∧ roC u (n - 1) = b' ∧ (∀ i, i < n → pl' i = nI (u i)) ∧ ∀ w, S w → b' ≤ roC w (n - 1) ∧ (roC w (n - 1) = b' → roE n u w))
theorem roP_le {n : Nat} {S : (Nat → Nat) → Prop} {b b' : Nat} {pl pl' : Nat → Int32} (h : roP n S b pl b' pl') : b' ≤ b := by
  rcases h with ⟨h, -⟩ | ⟨h, -⟩ <;> omega
theorem roP_no {n : Nat} {S : (Nat → Nat) → Prop} {b : Nat} {pl : Nat → Int32} (h : ∀ u, ¬ S u) : roP n S b pl b pl := Or.inl ⟨rfl, fun _ _ => rfl, fun u z => absurd z (h u)⟩
theorem roP_eq {n : Nat} {S S' : (Nat → Nat) → Prop} {b b' : Nat} {pl pl' : Nat → Int32} (h : ∀ u, S u ↔ S' u) (hp : roP n S b pl b' pl') : roP n S' b pl b' pl' := by
  rcases hp with ⟨h1, h2, h3⟩ | ⟨h1, u, h2, h3, h4, h5⟩
  · exact Or.inl ⟨h1, h2, fun u z => h3 u ((h u).mpr z)⟩
  · exact Or.inr ⟨h1, u, (h u).mp h2, h3, h4, fun w z => h5 w ((h w).mpr z)⟩
theorem roP_tr {n : Nat} {S1 S2 S : (Nat → Nat) → Prop} {b b1 b2 : Nat} {pl pl1 pl2 : Nat → Int32} (h1 : roP n S1 b pl b1 pl1) (h2 : roP n S2 b1 pl1 b2 pl2) (h : ∀ u, S u ↔ S1 u ∨ S2 u) (hl : ∀ u w, S1 u → S2 w → roE n u w) : roP n S b pl b2 pl2 := by
  rcases h1 with ⟨a1, a2, a3⟩ | ⟨a1, u, a2, a3, a4, a5⟩
  · rcases h2 with ⟨c1, c2, c3⟩ | ⟨c1, u2, c2, c3, c4, c5⟩
    · refine Or.inl ⟨by omega, fun i hi => by rw [c2 i hi, a2 i hi], fun w z => ?_⟩
      rcases (h w).mp z with z | z
      · exact a3 w z
      · have := c3 w z; omega
    · refine Or.inr ⟨by omega, u2, (h u2).mpr (Or.inr c2), c3, c4, fun w z => ?_⟩
      rcases (h w).mp z with z | z
      · have := a3 w z; exact ⟨by omega, fun y => by omega⟩
      · exact c5 w z
  · rcases h2 with ⟨c1, c2, c3⟩ | ⟨c1, u2, c2, c3, c4, c5⟩
    · refine Or.inr ⟨by omega, u, (h u).mpr (Or.inl a2), by omega, fun i hi => by rw [c2 i hi, a4 i hi], fun w z => ?_⟩
      rcases (h w).mp z with z | z
      · have := a5 w z; exact ⟨by omega, fun y => this.2 (by omega)⟩
      · have := c3 w z; exact ⟨by omega, fun y => hl u w a2 z⟩
    · refine Or.inr ⟨by omega, u2, (h u2).mpr (Or.inr c2), c3, c4, fun w z => ?_⟩
      rcases (h w).mp z with z | z
      · have := (a5 w z).1; exact ⟨by omega, fun y => by omega⟩
      · exact c5 w z
/-! the class's search -/
theorem nI_div {a b : Nat} (ha : a < 2 ^ 31) (hb : b < 2 ^ 31) : nI a / nI b = nI (a / b) := by
  rw [iI_n, iI_n, iI_div (by omega) (by omega) (by omega) (by omega), iI_n, ← Int.ofNat_tdiv]
theorem sub_le0 {a b : Nat} (ha : a < 2 ^ 30) (hb : b < 2 ^ 30) : nI a - nI b ≤ 0 ↔ a ≤ b := by
  rw [Int32.le_iff_toInt_le, pk_sub_toInt ha hb]
  show (a : Int) - b ≤ 0 ↔ a ≤ b
  omega
def lsI (x : Nat) : Int32 := if x = 0 then -100 else nI (x - 1)
theorem lsI_lt {h r x : Nat} (hh : h < 8) (hr : r ≤ 8) (hx : x ≤ h + 1) : nI h - lsI x < nI r ↔ ¬ (x = 0 ∨ r + x ≤ h + 1) := by
  unfold lsI
  by_cases c : x = 0
  · rw [if_pos c]
    have : nI h - (-100) = nI (h + 100) := by rw [← nI_add, show nI 100 = (100 : Int32) from rfl]; grind
    rw [this, nI_ltI (by omega) (by omega)]
    omega
  · rw [if_neg c, show nI h - nI (x - 1) = nI (h - (x - 1)) from pk_sub (by omega), nI_ltI (by omega) (by omega)]
    omega
theorem toCome_v {σ : gx_R} {t : Nat → Nat} {e n h : Nat} (he : 1 ≤ e) (he8 : e ≤ 8) (hn : n ≤ 8) (hh : h < n) (h0 : σ 73 0 = nI n) (h2 : σ 73 2 = nI e) (hr : roR t h ≤ e) : Ro_changesToCome (nI h) (nI (roR t h)) σ = some (nI (roM e n t h), σ) := by
  have e1 : nI n - 1 - nI h = nI (n - 1 - h) := by rw [n_sub1 (by omega)]; exact pk_sub (by omega)
  have e2 : nI e - nI (roR t h) = nI (e - roR t h) := pk_sub hr
  rw [Ro_changesToCome, h0, h2, e1, e2]
  unfold roM
  by_cases c : n - 1 - h ≤ e - roR t h
  · rw [if_pos ((sub_le0 (by omega) (by omega)).mpr c), Ro_changesToCome_18, Nat.div_eq_of_lt (by omega)]; rfl
  · rw [if_neg (fun z => c ((sub_le0 (by omega) (by omega)).mp z)), if_pos ((n_1le (by omega)).mpr he), show z_nzi (nI e) = true from decide_eq_true (fun z => by have := (n_eq0 (by omega)).mp z; omega), w_ck, show nI (n - 1 - h) - nI (e - roR t h) = nI (n - 1 - h - (e - roR t h)) from pk_sub (by omega), nI_add, n_sub1 (by omega), nI_div (by omega) (by omega)]
    congr 4
    omega
def roF (σ0 σ : gx_R) : Prop := (∀ c, c < 73 ∨ 76 < c → σ c = σ0 c) ∧ ∀ j, j ≠ 7 → σ 73 j = σ0 73 j
theorem roR_x {t : Nat → Nat} {h p : Nat} : roR (fun i => if i = h + 1 then p else t i) (h + 1) = if p = t h then roR t h + 1 else 1 := by
  rw [roR]
  show (if (if h + 1 = h + 1 then p else t (h + 1)) = (if h = h + 1 then p else t h) then _ else _) = _
  rw [if_pos rfl, if_neg (show ¬ h = h + 1 by omega), roR_c h (u := t) (fun i hi => if_neg (by omega))]
theorem roC_x {t : Nat → Nat} {h p : Nat} : roC (fun i => if i = h + 1 then p else t i) (h + 1) = if p = t h then roC t h else roC t h + 1 := by
  rw [roC]
  show _ + (if (if h + 1 = h + 1 then p else t (h + 1)) = (if h = h + 1 then p else t h) then 0 else 1) = _
  rw [if_pos rfl, if_neg (show ¬ h = h + 1 by omega), roC_c h (u := t) (fun i hi => if_neg (by omega))]
  by_cases z : p = t h
  · rw [if_pos z, if_pos z, Nat.add_zero]
  · rw [if_neg z, if_neg z]
theorem roV_x {V : Nat → Prop} {t : Nat → Nat} {e r h p : Nat} (hv : roV V e r t (h + 1)) (hp : V p) (ho : (p = t h ∧ roR t h < e) ∨ (¬ p = t h ∧ (roL t (h + 1) p = 0 ∨ r + roL t (h + 1) p ≤ h + 1))) : roV V e r (fun i => if i = h + 1 then p else t i) (h + 1 + 1) := by
  refine ⟨fun i hi => ?_, fun k hk => ?_⟩
  · show V (if i = h + 1 then p else t i)
    by_cases z : i = h + 1
    · rw [if_pos z]; exact hp
    · rw [if_neg z]; exact hv.1 i (by omega)
  · by_cases z : k = h
    · subst z
      unfold roO
      show ((if k + 1 = k + 1 then p else t (k + 1)) = (if k = k + 1 then p else t k) ∧ _) ∨ (¬ (if k + 1 = k + 1 then p else t (k + 1)) = (if k = k + 1 then p else t k) ∧ (roL _ (k + 1) (if k + 1 = k + 1 then p else t (k + 1)) = 0 ∨ r + roL _ (k + 1) (if k + 1 = k + 1 then p else t (k + 1)) ≤ k + 1))
      rw [if_pos rfl, if_neg (show ¬ k = k + 1 by omega), roR_c k (u := t) (fun i hi => if_neg (by omega)), roL_c (k + 1) p (u := t) (fun i hi => if_neg (by omega))]
      exact ho
    · exact roO_c (fun i hi => (if_neg (by omega)).symm) (hv.2 k (by omega))
theorem roV_y {V : Nat → Prop} {t u : Nat → Nat} {e r n h : Nat} (hu : ∀ i, i ≤ h → u i = t i) (hv : roV V e r u n) (hh : h + 1 < n) : (u (h + 1) = t h ∧ roR t h < e) ∨ (¬ u (h + 1) = t h ∧ (roL t (h + 1) (u (h + 1)) = 0 ∨ r + roL t (h + 1) (u (h + 1)) ≤ h + 1)) := by
  have := hv.2 h hh
  unfold roO at this
  rw [hu h (Nat.le_refl _), roR_c h hu, roL_c (h + 1) _ (fun i hi => hu i (by omega))] at this
  exact this
