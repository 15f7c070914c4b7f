/-! ===== the small machine over the true one: numbered cells at addresses, one lemma an instruction ===== -/
def gx_v (L : Nat → Nat) : Value → Value
  | .ref k => .ref (L k)
  | v => v
theorem gx_v_cat (L : Nat → Nat) (v : Value) : (gx_v L v).category = v.category := by cases v <;> rfl
def gx_fl (L : Nat → Nat) (r : Nat → Int32) : Nat → List (Option Nat) → List Value
  | _, [] => []
  | j, some q :: t => .ref (L q) :: gx_fl L r (j + 1) t
  | j, none :: t => .int (r j) :: gx_fl L r (j + 1) t
theorem gx_fl_at (L : Nat → Nat) (r : Nat → Int32) (fs : List (Option Nat)) : ∀ (b j : Nat), (gx_fl L r b fs)[j]? = (fs[j]?).map (fun x => match x with | some q => .ref (L q) | none => .int (r (b + j))) := by
  induction fs with
  | nil => intro b j; simp [gx_fl]
  | cons a t ih =>
    intro b j
    cases j with
    | zero => cases a <;> simp [gx_fl]
    | succ j =>
      have e : b + 1 + j = b + (j + 1) := by omega
      cases a <;> simp only [gx_fl, List.getElem?_cons_succ, ih, e]
theorem gx_fl_len (L : Nat → Nat) (r : Nat → Int32) (fs : List (Option Nat)) : ∀ b, (gx_fl L r b fs).length = fs.length := by
  induction fs with
  | nil => intro b; rfl
  | cons a t ih => intro b; cases a <;> simp [gx_fl, ih]
noncomputable def gx_E (lay : gx_Y) (G : Nat → ClassId) (L : Nat → Nat) (σ : gx_R) (k : Nat) : va_E := match lay k with
  | (0, n, _) => .inl (G 0, n, .inl (σ k))
  | (1, n, _) => .inl (G 1, n, .inl (σ k))
  | (2, n, _) => .inl (G 2, n, .inr (.inl (gx_l (σ k))))
  | (3, n, fs) => .inl (G 3, n, .inr (.inr (.inr (.inr (fun j => ((gx_nth fs j).join).map L)))))
  | (_, ci, fs) => .inr (ci, gx_fl L (σ k) 0 fs)
noncomputable def gx_ws (lay : gx_Y) (NC : Nat) (G : Nat → ClassId) (L : Nat → Nat) (σ : gx_R) : va_W := (List.range NC).map (fun k => (L k, gx_E lay G L σ k))
theorem gx_ws_at {lay : gx_Y} {NC : Nat} {G : Nat → ClassId} {L : Nat → Nat} {σ : gx_R} {k : Nat} (h : k < NC) : (gx_ws lay NC G L σ)[k]? = some (L k, gx_E lay G L σ k) := by
  simp [gx_ws, h]
theorem gx_ws_set {lay : gx_Y} {NC : Nat} {G : Nat → ClassId} {L : Nat → Nat} {σ σ' : gx_R} {k : Nat} {e : va_E} (he : e = gx_E lay G L σ' k) (ho : ∀ k', k' ≠ k → σ' k' = σ k') : (gx_ws lay NC G L σ).set k (L k, e) = gx_ws lay NC G L σ' := by
  subst he
  apply List.ext_getElem?
  intro j
  rw [List.getElem?_set]
  simp only [gx_ws, List.length_map, List.length_range, List.getElem?_map]
  by_cases hj : k = j
  · subst hj
    by_cases hk : k < NC
    · simp [hk]
    · simp [hk]
  · rw [if_neg hj]
    have : gx_E lay G L σ' j = gx_E lay G L σ j := by simp only [gx_E, ho j (fun q => hj q.symm)]
    by_cases hk : j < NC <;> simp [hk, this]
theorem gx_up_ne {σ : gx_R} {k j : Nat} {x : Int32} {k' : Nat} (h : k' ≠ k) : gx_up σ k j x k' = σ k' := by funext q; simp [gx_up, h]
theorem gx_up_row (σ : gx_R) (k j : Nat) (x : Int32) : gx_up σ k j x k = upd (σ k) j x := by funext q; simp [gx_up, upd]
theorem gx_cp_ne {σ : gx_R} {k0 k1 sp dp n : Nat} {k' : Nat} (h : k' ≠ k1) : gx_cp σ k0 k1 sp dp n k' = σ k' := by funext q; simp [gx_cp, h]
theorem gx_cp_row (σ : gx_R) (k0 k1 sp dp n : Nat) : gx_cp σ k0 k1 sp dp n k1 = va_cpy (σ k0) (σ k1) sp dp n := by funext q; simp [gx_cp, va_cpy]
theorem gx_upl_ne {σ : gx_R} {k j : Nat} {x : Int64} {k' : Nat} (h : k' ≠ k) : gx_upl σ k j x k' = σ k' := by rw [gx_upl, gx_up_ne h, gx_up_ne h]
theorem gx_app (x : Int64) : Int64.ofBitVec ((gx_hi x).toBitVec ++ (gx_lo x).toBitVec) = x := by
  have e : ((gx_hi x).toBitVec ++ (gx_lo x).toBitVec) = x.toBitVec := by
    apply BitVec.eq_of_getLsbD_eq
    intro i hi
    simp only [gx_hi, gx_lo, BitVec.getLsbD_append, BitVec.getLsbD_extractLsb', Int32.toBitVec_ofBitVec]
    by_cases h : i < 32
    · simp [h]
    · simp only [h, if_false]
      have h1 : i - 32 < 32 := by omega
      have h2 : 32 + (i - 32) = i := by omega
      simp [h1, h2]
  rw [e, Int64.ofBitVec_toBitVec]
theorem gx_l_up (σ : gx_R) (k j : Nat) (x : Int64) : gx_l (gx_upl σ k j x k) = vp_updL (gx_l (σ k)) j x := by
  funext q
  simp only [gx_l, gx_upl, vp_updL, gx_up_row, upd]
  by_cases h : q = j
  · subst h
    have h1 : ¬ 2 * q = 2 * q + 1 := by omega
    simp only [if_pos, h1, if_false]
    exact gx_app x
  · have h1 : ¬ 2 * q = 2 * j + 1 := by omega
    have h2 : ¬ 2 * q = 2 * j := by omega
    have h3 : ¬ 2 * q + 1 = 2 * j + 1 := by omega
    have h4 : ¬ 2 * q + 1 = 2 * j := by omega
    simp only [h1, h2, h3, h4, h, if_false]
/-- the locals -/
def gx_lv (L : Nat → Nat) (A : Array Slot) (nL : Nat) (ls : List Value) : Prop := A.size = nL ∧ lv_wf A ∧ ∀ (i : Nat) (v : Value), ls[i]? = some v → v ≠ Value.null → A[i]? = some (Slot.val (gx_v L v))
def gx_lp (L : Nat → Nat) (ls : List Value) : List (Nat × Value) := (List.range ls.length).filterMap (fun i : Nat => match (ls[i]? : Option Value) with
  | some Value.null => none
  | some v => some (i, gx_v L v)
  | none => none)
theorem gx_lp_mem {L : Nat → Nat} {ls : List Value} {q : Nat × Value} : q ∈ gx_lp L ls ↔ ∃ v : Value, ls[q.1]? = some v ∧ v ≠ Value.null ∧ q.2 = gx_v L v := by
  simp only [gx_lp, List.mem_filterMap, List.mem_range]
  constructor
  · rintro ⟨i, hi, h⟩
    split at h
    · cases h
    · rename_i v hv hn
      cases h
      exact ⟨v, hn, fun e => hv e, rfl⟩
    · cases h
  · rintro ⟨v, h1, h2, h3⟩
    refine ⟨q.1, (List.getElem?_eq_some_iff.mp h1).1, ?_⟩
    rw [h1]
    cases v <;> first | exact absurd rfl h2 | exact congrArg some (Prod.ext rfl h3.symm)
theorem gx_lv_has {L : Nat → Nat} {A : Array Slot} {nL : Nat} {ls : List Value} (h : gx_lv L A nL ls) : lv_has A nL (gx_lp L ls) := by
  refine ⟨h.1, h.2.1, fun q hq => ?_⟩
  obtain ⟨v, h1, h2, h3⟩ := gx_lp_mem.mp hq
  rw [h3]
  exact h.2.2 q.1 v h1 h2
theorem gx_set_at {ls : List Value} {i j : Nat} {v w : Value} (h : (ls.set i v)[j]? = some w) : (j = i ∧ w = v) ∨ (j ≠ i ∧ ls[j]? = some w) := by
  rw [List.getElem?_set] at h
  by_cases e : i = j
  · rw [if_pos e] at h
    split at h
    · cases h; exact Or.inl ⟨e.symm, rfl⟩
    · cases h
  · rw [if_neg e] at h
    exact Or.inr ⟨fun q => e q.symm, h⟩
theorem gx_sl_at {ls : List Value} {i j : Nat} {v w : Value} (h : (gx_sl ls i v)[j]? = some w) (hw : w ≠ .null) : (j = i ∧ w = v) ∨ (j ≠ i ∧ ls[j]? = some w ∧ ¬ (j + 1 = i ∧ w.category = 2)) := by
  cases i with
  | zero =>
    rcases gx_set_at h with q | ⟨q1, q2⟩
    · exact Or.inl q
    · exact Or.inr ⟨q1, q2, fun z => by omega⟩
  | succ k =>
    rw [gx_sl] at h
    split at h
    · rename_i x hx
      rcases gx_set_at h with q | ⟨q1, q2⟩
      · exact Or.inl q
      · rcases gx_set_at q2 with ⟨-, q⟩ | ⟨q3, q4⟩
        · exact absurd q hw
        · exact Or.inr ⟨q1, q4, fun z => q3 (by omega)⟩
    · rename_i x hx
      rcases gx_set_at h with q | ⟨q1, q2⟩
      · exact Or.inl q
      · rcases gx_set_at q2 with ⟨-, q⟩ | ⟨q3, q4⟩
        · exact absurd q hw
        · exact Or.inr ⟨q1, q4, fun z => q3 (by omega)⟩
    · rename_i hx1 hx2
      rcases gx_set_at h with q | ⟨q1, q2⟩
      · exact Or.inl q
      · refine Or.inr ⟨q1, q2, fun z => ?_⟩
        have e : j = k := by omega
        subst e
        rw [gx_nth_eq, q2] at hx1 hx2
        cases w <;> simp [Value.category] at z
        · exact hx1 _ rfl
        · exact hx2 _ rfl
theorem gx_lv_st {L : Nat → Nat} {A' : Array Slot} {nL : Nat} {ls : List Value} {i : Nat} {v : Value} (h : lv_has A' nL ((i, gx_v L v) :: (gx_lp L ls).filter (fun q => !(q.1 == i) && !(q.1 + 1 == i && q.2.category == 2)))) : gx_lv L A' nL (gx_sl ls i v) := by
  refine ⟨h.1, h.2.1, fun j w hj hw => ?_⟩
  rcases gx_sl_at hj hw with ⟨rfl, rfl⟩ | ⟨h1, h2, h3⟩
  · exact h.2.2 (j, gx_v L w) List.mem_cons_self
  · refine h.2.2 (j, gx_v L w) (List.mem_cons_of_mem _ (List.mem_filter.mpr ⟨gx_lp_mem.mpr ⟨w, h2, hw, rfl⟩, ?_⟩))
    simp only [gx_v_cat]
    simp only [Bool.and_eq_true, Bool.not_eq_true', beq_eq_false_iff_ne, Bool.and_eq_false_iff, ne_eq]
    refine ⟨h1, ?_⟩
    by_cases z : j + 1 = i
    · exact Or.inr (fun y => h3 ⟨z, y⟩)
    · exact Or.inl z
theorem gx_lv_st2 {L : Nat → Nat} {A' : Array Slot} {nL : Nat} {ls : List Value} {i : Nat} {v : Value} (h : lv_has A' nL ((i, gx_v L v) :: (gx_lp L ls).filter (fun q => !(q.1 == i) && (!(q.1 == i + 1) && !(q.1 + 1 == i && q.2.category == 2))))) : gx_lv L A' nL (gx_sl (ls.set (i + 1) .null) i v) := by
  refine ⟨h.1, h.2.1, fun j w hj hw => ?_⟩
  rcases gx_sl_at hj hw with ⟨rfl, rfl⟩ | ⟨h1, h2, h3⟩
  · exact h.2.2 (j, gx_v L w) List.mem_cons_self
  · rcases gx_set_at h2 with ⟨-, q⟩ | ⟨h4, h5⟩
    · exact absurd q hw
    · refine h.2.2 (j, gx_v L w) (List.mem_cons_of_mem _ (List.mem_filter.mpr ⟨gx_lp_mem.mpr ⟨w, h5, hw, rfl⟩, ?_⟩))
      simp only [gx_v_cat]
      simp only [Bool.and_eq_true, Bool.not_eq_true', beq_eq_false_iff_ne, Bool.and_eq_false_iff, ne_eq]
      refine ⟨h1, h4, ?_⟩
      by_cases z : j + 1 = i
      · exact Or.inr (fun y => h3 ⟨z, y⟩)
      · exact Or.inl z
