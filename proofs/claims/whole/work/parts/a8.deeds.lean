/-! ===== a deed, whole ===== -/
theorem fin_v {b : Nat → Nat} {nb T c0 r0 : Nat} {σ0 σ τ0 τ : gx_R} {t n n' q : Nat} {ck ca ck' ca' : Nat → Nat} (hC : CR b nb T c0 σ0 σ t n ck ca) (hM : MR b nb r0 τ0 τ t [] [] 4 n' ck' ca') (hn : r0 + n' < 400) (hq : τ0 109 30 = nI q) (hq2 : q < 24) (x y z : Int32) : (∃ σ' τ', Re_clause_60 1 σ = some (1, σ') ∧ z_bd (Md_doing_62 x y z τ) (fun _ σ26 => DE σ26) = some ((), τ') ∧ CR b nb T c0 σ0 σ' (t + 1) n ck ca ∧ MR b nb r0 (gx_up (gx_up (gx_up (gx_up τ0 128 q x) 129 q y) 130 q z) 109 30 (nI (q + 1))) τ' (t + 1) [] [] 4 (n' + 1) (fset ck' n' 43) (fset ca' n' 0)) ∨ ∃ τ', FC b nb σ0 (Re_clause_60 1 σ) 1 t ∧ z_bd (Md_doing_62 x y z τ) (fun _ σ26 => DE σ26) = some ((), τ') ∧ EM b nb τ0 τ' 1 t := by
  have h30 : τ 109 30 = nI q := by rw [hM.2.2.2.2.2.2.2.2.2.2.2.2 30 (by omega) (by omega) (by omega) (by omega) (by omega) (by omega)]; exact hq
  have hM' := A_b2 (A_b2 (A_b2 hM (c := 128) (j := q) x (by omega)) (c := 129) (j := q) y (by omega)) (c := 130) (j := q) z (by omega)
  have e30 : gx_up (gx_up (gx_up τ0 128 q x) 129 q y) 130 q z 109 30 + 1 = nI (q + 1) := by
    rw [up_c _ _ _ _ (by omega), up_c _ _ _ _ (by omega), up_c _ _ _ _ (by omega), hq]; exact nI_add _ 1
  rcases end_v hC hM' hn with ⟨σ1, τ1, e1, e2, e3, e4⟩ | ⟨τ1, e1, e2, ⟨h1, h2⟩, h3, ⟨h4, h5⟩, h6, h7⟩
  · rw [e30] at e4
    exact Or.inl ⟨σ1, τ1, e1, by rw [d62_v h30 hq2, w_bd, e2], e3, e4⟩
  · refine Or.inr ⟨τ1, e1, by rw [d62_v h30 hq2, w_bd, e2], ⟨h1, h2⟩, h3, ⟨fun c c1 c2 => ?_, fun j hj => ?_⟩, ?_, ?_⟩
    · rw [h4 c c1 c2, gx_up_ne (by omega), gx_up_ne (by omega), gx_up_ne (by omega)]
    · rw [h5 j hj, up_c _ _ _ _ (by omega), up_c _ _ _ _ (by omega), up_c _ _ _ _ (by omega)]
    · rw [h6, up_c _ _ _ _ (by omega), up_c _ _ _ _ (by omega), up_c _ _ _ _ (by omega)]
    · rw [h7, up_c _ _ _ _ (by omega), up_c _ _ _ _ (by omega), up_c _ _ _ _ (by omega)]
theorem BH_bd (k : Int32) (b1 : Nat) (q lo hi : Int32) (σ : gx_R) (F : Int32 → gx_R → Option (Int32 × gx_R)) (hF : ∀ σ, F 0 σ = some (0, σ)) : z_bd (Re_take k σ) (fun r8 σ9 => if r8 = 0 then some ((0 : Int32), σ9) else z_bd (Re_numberOf b1 q lo hi σ9) F) = z_bd (BH k b1 q lo hi σ) F := by
  rw [BH]
  cases h : Re_take k σ with
  | none => rfl
  | some r =>
    obtain ⟨v, σ1⟩ := r
    rw [w_bd, w_bd]
    by_cases c : v = 0
    · rw [if_pos c, if_pos c, w_bd, hF]
    · rw [if_neg c, if_neg c]
/-- the class's answer, made of parts -/
noncomputable def yes (r : Int32) (σ : gx_R) : Option (Int32 × gx_R) := if r = 0 then some ((0 : Int32), σ) else some ((1 : Int32), σ)
theorem yes_0 (σ : gx_R) : yes 0 σ = some (0, σ) := rfl
theorem deed_1 {x lo hi : Nat} (hx : (x = 6 ∨ x = 7) ∧ lo = 0 ∧ hi = 7 ∨ x = 9 ∧ lo = 1 ∧ hi = 60) (q : Int32) (σ : gx_R) : Re_deed (nI x) q σ = z_bd (Re_numberOf 45 q (nI lo) (nI hi) σ) yes := by
  rcases hx with ⟨h | h, rfl, rfl⟩ | ⟨h, rfl, rfl⟩ <;> subst h <;> rfl
theorem deed_2 {x k hi : Nat} (hx : x = 4 ∧ k = 10 ∧ hi = 5 ∨ x = 5 ∧ k = 11 ∧ hi = 7) (q : Int32) (σ : gx_R) : Re_deed (nI x) q σ = z_bd (Re_numberOf 45 q (nI 0) (nI 7) σ) (fun r3 σ4 => if r3 = 0 then some ((0 : Int32), σ4) else z_bd (BH (nI k) 46 q (nI 0) (nI hi) σ4) yes) := by
  have e : ∀ σ4, z_bd (BH (nI k) 46 q (nI 0) (nI hi) σ4) yes = z_bd (Re_take (nI k) σ4) (fun r8 σ9 => if r8 = 0 then some ((0 : Int32), σ9) else z_bd (Re_numberOf 46 q (nI 0) (nI hi) σ9) yes) := fun σ4 => (BH_bd _ _ _ _ _ _ yes yes_0).symm
  simp only [e]
  rcases hx with ⟨h, rfl, rfl⟩ | ⟨h, rfl, rfl⟩ <;> subst h <;> rfl
theorem deed_3 (q : Int32) (σ : gx_R) : Re_deed (nI 8) q σ = z_bd (Re_numberOf 45 q (nI 0) (nI 7) σ) (fun r3 σ4 => if r3 = 0 then some ((0 : Int32), σ4) else z_bd (BH (nI 12) 46 q (nI 0) (nI 7) σ4) (fun r5 σ6 => if r5 = 0 then some ((0 : Int32), σ6) else z_bd (BH (nI 13) 47 q (nI 1) (nI 99) σ6) yes)) := by
  have e1 : ∀ σ6, z_bd (BH (nI 13) 47 q (nI 1) (nI 99) σ6) yes = z_bd (Re_take (nI 13) σ6) (fun r8 σ9 => if r8 = 0 then some ((0 : Int32), σ9) else z_bd (Re_numberOf 47 q (nI 1) (nI 99) σ9) yes) := fun σ6 => (BH_bd _ _ _ _ _ _ yes yes_0).symm
  have e2 : ∀ σ4 (F : Int32 → gx_R → Option (Int32 × gx_R)), z_bd (BH (nI 12) 46 q (nI 0) (nI 7) σ4) (fun r5 σ6 => if r5 = 0 then some ((0 : Int32), σ6) else F r5 σ6) = z_bd (Re_take (nI 12) σ4) (fun r8 σ9 => if r8 = 0 then some ((0 : Int32), σ9) else z_bd (Re_numberOf 46 q (nI 0) (nI 7) σ9) (fun r5 σ6 => if r5 = 0 then some ((0 : Int32), σ6) else F r5 σ6)) := fun σ4 F => (BH_bd _ _ _ _ _ _ (fun r5 σ6 => if r5 = 0 then some ((0 : Int32), σ6) else F r5 σ6) (fun σ => rfl)).symm
  simp only [e1, e2]
  rfl
/-- both bases after a deed -/
def BC (q : Nat) (σ0 σ1 : gx_R) : Prop := (∀ c, ¬ (45 ≤ c ∧ c ≤ 47) → σ1 c = σ0 c) ∧ ∀ c i, i ≠ q → σ1 c i = σ0 c i
theorem BC_r (q : Nat) (σ0 : gx_R) : BC q σ0 σ0 := ⟨fun _ _ => rfl, fun _ _ _ => rfl⟩
theorem BC_u {q : Nat} {σ0 σ1 : gx_R} (h : BC q σ0 σ1) {c : Nat} (x : Int32) (hc : 45 ≤ c ∧ c ≤ 47) : BC q σ0 (gx_up σ1 c q x) := by
  refine ⟨fun k hk => by rw [gx_up_ne (by omega)]; exact h.1 k hk, fun k i hi => ?_⟩
  by_cases z : k = c
  · rw [z, up_p _ _ _ hi]; exact h.2 c i hi
  · rw [up_c _ _ _ _ z]; exact h.2 k i hi
noncomputable def DW (x q : Int32) (σ : gx_R) : Option (Int32 × gx_R) := z_bd (Re_deed x q σ) (fun r19 σ20 => Re_clause_60 r19 σ20)
noncomputable def DD (τ : gx_R) : Option (Unit × gx_R) := z_bd (Md_doing τ) (fun _ σ26 => DE σ26)
def DOut (b : Nat → Nat) (nb T c0 r0 x q : Nat) (σ0 τ0 : gx_R) (t n n' : Nat) (ck ca ck' ca' : Nat → Nat) (rc : Option (Int32 × gx_R)) (rm : Option (Unit × gx_R)) : Prop := (∃ σ1 σ' τ' t' y z w, BC q σ0 σ1 ∧ rc = some (1, σ') ∧ rm = some ((), τ') ∧ t < t' ∧ CR b nb T c0 σ1 σ' t' n ck ca ∧ MR b nb r0 (gx_up (gx_up (gx_up (gx_up τ0 128 q y) 129 q z) 130 q w) 109 30 (nI (q + 1))) τ' t' [] [] 4 (n' + 1) (fset ck' n' 43) (fset ca' n' 0) ∧ σ1 45 q = y ∧ (x = 9 → ∃ h, 1 ≤ h ∧ h ≤ 60 ∧ y = nI h) ∧ (x = 4 ∨ x = 5 ∨ x = 8 → z = σ1 46 q) ∧ (x = 8 → w = σ1 47 q)) ∨ ∃ σ1 f t' τ', BC q σ0 σ1 ∧ (t ≤ t' ∧ t' ≤ T) ∧ FC b nb σ1 rc f t' ∧ rm = some ((), τ') ∧ EM b nb τ0 τ' f t'
