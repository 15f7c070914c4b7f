/-! ===== the class's descent beside the machine ===== -/
theorem fl_two {r s F : Nat} (hr : r ≤ s) : ∀ ws : List (Nat × Nat), fl r F ws = ((fl r F (fl s F ws).1).1, (fl s F ws).2 ++ (fl r F (fl s F ws).1).2) := by
  intro ws
  induction ws with
  | nil => rfl
  | cons w ws ih =>
    by_cases c : w.2 = F ∧ s ≤ rk w.1
    · rw [show fl s F (w :: ws) = ((fl s F ws).1, w.1 :: (fl s F ws).2) by rw [fl, if_pos c], show fl r F (w :: ws) = ((fl r F ws).1, w.1 :: (fl r F ws).2) by rw [fl, if_pos ⟨c.1, by omega⟩]]
      rw [ih]
      show _ = ((fl r F (fl s F ws).1).1, (w.1 :: (fl s F ws).2) ++ (fl r F (fl s F ws).1).2)
      rw [← ih]
      have h2 : (fl r F ws).2 = (fl s F ws).2 ++ (fl r F (fl s F ws).1).2 := by rw [ih]
      have h1 : (fl r F ws).1 = (fl r F (fl s F ws).1).1 := by rw [ih]
      rw [List.cons_append, ← h2, h1]
    · rw [show fl s F (w :: ws) = (w :: ws, []) by rw [fl, if_neg c], List.nil_append]
theorem fl_op {r F k : Nat} {ws : List (Nat × Nat)} (hk : rk k = r) (h : fl r F ws = (ws, [])) : fl r F ((k, F) :: ws) = (ws, [k]) := by
  rw [fl, if_pos ⟨rfl, by show r ≤ rk k; omega⟩, h]
theorem fl_lo {s F k : Nat} {ws : List (Nat × Nat)} (hk : rk k < s) : fl s F ((k, F) :: ws) = ((k, F) :: ws, []) := by
  rw [fl, if_neg (fun z => by have z : F = F ∧ s ≤ rk k := z; omega)]
theorem fl_up {r s F : Nat} {ws : List (Nat × Nat)} (hr : r ≤ s) (h : fl r F ws = (ws, [])) : fl s F ws = (ws, []) := by
  cases ws with
  | nil => rfl
  | cons w ws =>
    by_cases c : w.2 = F ∧ s ≤ rk w.1
    · rw [fl, if_pos ⟨c.1, by omega⟩] at h
      injection h with _ h
      exact absurd h (by intro z; cases z)
    · rw [fl, if_neg c]
theorem fl_new {r F : Nat} {ws : List (Nat × Nat)} (h : ∀ w, w ∈ ws → w.2 < F) : fl r F ws = (ws, []) := by
  cases ws with
  | nil => rfl
  | cons w ws =>
    have := h w (List.mem_cons_self ..)
    rw [fl, if_neg (fun z => by omega)]
theorem fl_5 {F : Nat} (ws : List (Nat × Nat)) : fl 5 F ws = (ws, []) := by
  cases ws with
  | nil => rfl
  | cons w ws => rw [fl, if_neg (fun z => by have := rk_4 w.1; omega)]
theorem emK_app : ∀ (l : List Nat) n (ck : Nat → Nat) k, emK n ck (l ++ [k]) = fset (emK n ck l) (n + l.length) k := by
  intro l
  induction l with
  | nil => intro n ck k; rfl
  | cons x l ih =>
    intro n ck k
    show emK (n + 1) (fset ck n x) (l ++ [k]) = fset (emK (n + 1) (fset ck n x) l) (n + (l.length + 1)) k
    rw [ih, show n + 1 + l.length = n + (l.length + 1) by omega]
theorem emA_app : ∀ (l : List Nat) n (ca : Nat → Nat) k, emA n ca (l ++ [k]) = fset (emA n ca l) (n + l.length) 0 := by
  intro l
  induction l with
  | nil => intro n ca k; rfl
  | cons x l ih =>
    intro n ca k
    show emA (n + 1) (fset ca n 0) (l ++ [k]) = fset (emA (n + 1) (fset ca n 0) l) (n + (l.length + 1)) 0
    rw [ih, show n + 1 + l.length = n + (l.length + 1) by omega]
/-! what the words leave on the stack -/
def bn (k : Nat) (i o : Bool) : Prop := (37 ≤ k ∧ k ≤ 40 ∧ i = false ∧ o = false) ∨ (31 ≤ k ∧ k ≤ 36 ∧ i = false ∧ o = true) ∨ ((k = 18 ∨ k = 19) ∧ i = true ∧ o = true)
def TW (lw : Nat) (ck ca : Nat → Nat) (tp : Nat → List Bool) (n j : Nat) : Prop :=
  (ck j = 30 ∧ ca j ≤ 9999 ∧ tp (j + 1) = false :: tp j) ∨ (21 ≤ ck j ∧ ck j ≤ 29 ∧ ca j = 0 ∧ nmOk lw (ck j - 21) = true ∧ tp (j + 1) = false :: tp j) ∨ (∃ s, ck j = 46 ∧ ca j = 0 ∧ tp j = false :: s ∧ tp (j + 1) = tp j) ∨ (∃ s, ck j = 20 ∧ ca j = 0 ∧ tp j = true :: s ∧ tp (j + 1) = tp j) ∨ (∃ s, ck j = 15 ∧ j < ca j ∧ ca j ≤ n ∧ tp j = true :: s ∧ tp (j + 1) = s ∧ tp (ca j) = s) ∨ (ck j = 16 ∧ j < ca j ∧ ca j ≤ n ∧ tp (ca j) = tp j) ∨ (∃ i o s, bn (ck j) i o ∧ ca j = 0 ∧ tp j = i :: i :: s ∧ tp (j + 1) = o :: s)
def Sg (lw : Nat) (ck ca : Nat → Nat) (m n : Nat) (S S' : List Bool) : Prop := ∃ tp : Nat → List Bool, tp m = S ∧ tp n = S' ∧ (∀ j, m ≤ j → j ≤ n → (tp j).length ≤ 60) ∧ ∀ j, m ≤ j → j < n → TW lw ck ca tp n j
theorem TW_c {lw : Nat} {ck ca ck' ca' : Nat → Nat} {tp tp' : Nat → List Bool} {n n' j : Nat} (h : TW lw ck ca tp n j) (hk : ck' j = ck j ∧ ca' j = ca j) (hn : n ≤ n') (ht : ∀ i, j ≤ i → i ≤ n → tp' i = tp i) (hj : j < n) : TW lw ck' ca' tp' n' j := by
  unfold TW at h ⊢
  rw [hk.1, hk.2, ht j (by omega) (by omega), ht (j + 1) (by omega) (by omega)]
  rcases h with h | h | h | h | ⟨s, h1, h2, h3, h4, h5, h6⟩ | ⟨h1, h2, h3, h4⟩ | h
  · exact Or.inl h
  · exact Or.inr (Or.inl h)
  · exact Or.inr (Or.inr (Or.inl h))
  · exact Or.inr (Or.inr (Or.inr (Or.inl h)))
  · exact Or.inr (Or.inr (Or.inr (Or.inr (Or.inl ⟨s, h1, h2, by omega, h4, h5, by rw [ht _ (by omega) h3]; exact h6⟩))))
  · exact Or.inr (Or.inr (Or.inr (Or.inr (Or.inr (Or.inl ⟨h1, h2, by omega, by rw [ht _ (by omega) h3]; exact h4⟩)))))
  · exact Or.inr (Or.inr (Or.inr (Or.inr (Or.inr (Or.inr h)))))
theorem Sg_c {lw : Nat} {ck ca ck' ca' : Nat → Nat} {m n : Nat} {S S' : List Bool} (h : Sg lw ck ca m n S S') (hk : ∀ j, m ≤ j → j < n → ck' j = ck j ∧ ca' j = ca j) : Sg lw ck' ca' m n S S' := by
  obtain ⟨tp, t1, t2, t3, t4⟩ := h
  exact ⟨tp, t1, t2, t3, fun j j1 j2 => TW_c (t4 j j1 j2) (hk j j1 j2) (Nat.le_refl _) (fun _ _ _ => rfl) j2⟩
theorem Sg_glue {lw : Nat} {ck ca : Nat → Nat} {m n p : Nat} {S S' S'' : List Bool} (h1 : Sg lw ck ca m n S S') (h2 : Sg lw ck ca n p S' S'') (hm : m ≤ n) (hp : n ≤ p) : Sg lw ck ca m p S S'' := by
  obtain ⟨t, a1, a2, a3, a4⟩ := h1
  obtain ⟨u, b1, b2, b3, b4⟩ := h2
  have e : ∀ j, n ≤ j → (if j ≤ n then t j else u j) = u j := fun j hj => by
    by_cases c : j ≤ n
    · rw [if_pos c, show j = n by omega, a2, b1]
    · rw [if_neg c]
  have e0 : ∀ j, j ≤ n → (if j ≤ n then t j else u j) = t j := fun j hj => if_pos hj
  refine ⟨fun j => if j ≤ n then t j else u j, ?_, ?_, fun j j1 j2 => ?_, fun j j1 j2 => ?_⟩
  · show (if m ≤ n then t m else u m) = S
    rw [e0 m hm]; exact a1
  · show (if p ≤ n then t p else u p) = S''
    rw [e p hp]; exact b2
  · show (if j ≤ n then t j else u j).length ≤ 60
    by_cases c : j ≤ n
    · rw [if_pos c]; exact a3 j j1 c
    · rw [if_neg c]; exact b3 j (by omega) j2
  · by_cases c : j < n
    · exact TW_c (a4 j j1 c) ⟨rfl, rfl⟩ hp (fun i _ i2 => e0 i i2) c
    · exact TW_c (b4 j (by omega) j2) ⟨rfl, rfl⟩ (Nat.le_refl _) (fun i i1 _ => e i (by omega)) j2
theorem Sg_one {lw : Nat} {ck ca : Nat → Nat} {m : Nat} {S S' : List Bool} (hs : S.length ≤ 60) (hs' : S'.length ≤ 60) (h : ∀ tp : Nat → List Bool, tp m = S → tp (m + 1) = S' → TW lw ck ca tp (m + 1) m) : Sg lw ck ca m (m + 1) S S' := by
  have e0 : (if m ≤ m then S else S') = S := if_pos (Nat.le_refl _)
  have e1 : (if m + 1 ≤ m then S else S') = S' := if_neg (by omega)
  refine ⟨fun j => if j ≤ m then S else S', e0, e1, fun j _ _ => ?_, fun j j1 j2 => ?_⟩
  · show (if j ≤ m then S else S').length ≤ 60
    by_cases c : j ≤ m
    · rw [if_pos c]; exact hs
    · rw [if_neg c]; exact hs'
  · rw [show j = m by omega]
    exact h _ e0 e1
/-! the statement for one part -/
def pnd : List (Nat × Nat) → Nat
  | [] => 0
  | f :: r => pnd r + (if f.1 = 3 ∨ f.1 = 5 ∨ f.1 = 7 then 1 else 0)
def Fail (b : Nat → Nat) (nb T : Nat) (σ0 τ0 : gx_R) (c t : Nat) (τ : gx_R) (r : Option (Int32 × gx_R)) : Prop := ∃ e t' k, t ≤ t' ∧ t' ≤ T ∧ k ≤ 8 * (t' - t) + c ∧ FC b nb σ0 r e t' ∧ ∀ f, EndF b nb τ0 (Md_text_44 (f + k) τ) e t'
def OK (b : Nat → Nat) (nb T c0 r0 lw : Nat) (σ0 τ0 : gx_R) (e rb r : Nat) (bo : Bool) (fr ws : List (Nat × Nat)) (t n : Nat) (ck ca : Nat → Nat) (S : List Bool) (σ' τ' : gx_R) (t' : Nat) : Prop := ∃ n' ck' ca' ws' ls N K A, MR b nb r0 τ0 τ' t' fr ws' e n' ck' ca' ∧ fl r fr.length ws' = (ws, ls) ∧ ls.length + r ≤ rb + 2 ∧ (N = n' + ls.length ∧ K = emK n' ck' ls ∧ A = emA n' ca' ls) ∧ CR b nb T c0 σ0 σ' t' N K A ∧ r0 + n' + ws'.length + pnd fr ≤ t' ∧ t < t' ∧ n < n' ∧ (∀ j, j < n → K j = ck j ∧ A j = ca j) ∧ Sg lw K A n N S (bo :: S)
def Pre (b : Nat → Nat) (nb T c0 r0 : Nat) (σ0 τ0 : gx_R) (st rb r o : Nat) (fr ws : List (Nat × Nat)) (t n : Nat) (ck ca : Nat → Nat) (S : List Bool) (σ τ : gx_R) : Prop := (opN fr = o ∧ o ≤ 8 ∧ fr.length ≤ 2 * o + st ∧ 1 ≤ fr.length) ∧ fl r fr.length ws = (ws, []) ∧ (∀ w, w ∈ ws → w.2 ≤ fr.length) ∧ ws.length + 2 + rb ≤ 2 * fr.length + r ∧ (c0 ≤ r0 ∧ r0 + n + ws.length + pnd fr ≤ t) ∧ S.length ≤ ws.length + fr.length ∧ MR b nb r0 τ0 τ t fr ws st n ck ca ∧ CR b nb T c0 σ0 σ t n ck ca
def Spec (b : Nat → Nat) (nb T c0 r0 lw : Nat) (σ0 τ0 : gx_R) (st e tb rb r : Nat) (bo : Bool) (nop : Nat → Bool) (rc : gx_R → Option (Int32 × gx_R)) (o : Nat) : Prop := ∀ fx fr ws t n ck ca S σ τ, fx.1 ≠ tb → Pre b nb T c0 r0 σ0 τ0 st rb r o (fx :: fr) ws t n ck ca S σ τ → Fail b nb T σ0 τ0 (10 - st) t τ (rc σ) ∨ ∃ σ' τ' t' k, rc σ = some (1, σ') ∧ (∀ f, Md_text_44 (f + k) τ = Md_text_44 f τ') ∧ k ≤ 8 * (t' - t) ∧ OK b nb T c0 r0 lw σ0 τ0 e rb r bo (fx :: fr) ws t n ck ca S σ' τ' t' ∧ nop (kd b nb t') = false
