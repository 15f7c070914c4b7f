/-! ===== ONE ===== -/
def OKO (b : Nat → Nat) (nb T c0 r0 lw : Nat) (σ0 τ0 : gx_R) (fr ws : List (Nat × Nat)) (t n : Nat) (ck ca : Nat → Nat) (S : List Bool) (σ' τ' : gx_R) (t' : Nat) : Prop := ∃ st' N K A, MR b nb r0 τ0 τ' t' fr ws st' N K A ∧ CR b nb T c0 σ0 σ' t' N K A ∧ r0 + N + ws.length + pnd fr ≤ t' ∧ t < t' ∧ n < N ∧ (∀ j, j < n → K j = ck j ∧ A j = ca j) ∧ Sg lw K A n N S (false :: S)
def SpO (b : Nat → Nat) (nb T c0 r0 lw : Nat) (σ0 τ0 : gx_R) (rc : gx_R → Option (Int32 × gx_R)) (o : Nat) (p : Nat → Bool) : Prop := ∀ fx fr ws t n ck ca S σ τ, p (kd b nb t) = true → Pre b nb T c0 r0 σ0 τ0 1 3 5 o (fx :: fr) ws t n ck ca S σ τ → Fail b nb T σ0 τ0 9 t τ (rc σ) ∨ ∃ σ' τ' t' k g, rc σ = some (1, σ') ∧ (∀ f, Md_text_44 (f + k) τ = z_bd (Md_oneIsOver_0 g τ') (fun _ σ => Md_text_44 f σ)) ∧ z_FU ≤ g + (t' - t) ∧ k ≤ 8 * (t' - t) ∧ OKO b nb T c0 r0 lw σ0 τ0 (fx :: fr) ws t n ck ca S σ' τ' t'
theorem one_5 {b : Nat → Nat} {nb T c0 r0 lw : Nat} {σ0 τ0 : gx_R} {rc : gx_R → Option (Int32 × gx_R)} {o : Nat} (h : SpO b nb T c0 r0 lw σ0 τ0 rc o (fun _ => true)) : Spec b nb T c0 r0 lw σ0 τ0 1 2 7 3 5 false nop0 rc o := by
  intro fx fr ws t n ck ca S σ τ htb hpre
  have hFU := z_FU_ge
  obtain ⟨b1, b2, b3, b4⟩ := hpre.1
  rcases h fx fr ws t n ck ca S σ τ rfl hpre with hf | ⟨σ', τ', t', k, g, s1, s2, s3, s4, st', N, K, A, u1, u2, u3, u4, u5, u6, u7⟩
  · exact Or.inl hf
  · have hT := u2.1.1
    have htT : t' ≤ T := u2.2.1
    rw [List.length_cons] at b3
    obtain ⟨g, rfl⟩ : ∃ x, g = x + 1 := ⟨g - 1, by omega⟩
    obtain ⟨v1, v2⟩ := over_0 u1 (by omega) htb
    refine Or.inr ⟨σ', _, t', k, s1, fun f => ?_, s4, ⟨N, K, A, ws, [], N, K, A, v2, fl_5 ws, Nat.le_refl _, ⟨rfl, rfl, rfl⟩, u2, u3, u4, u5, u6, u7⟩, rfl⟩
    rw [s2, v1 g, w_bd]
theorem nmE_10 {b : Nat → Nat} : ∀ d v p, v ≤ 10000 → nmE b v p d ≤ 10000 := by
  intro d
  induction d with
  | zero => intro v p h; rw [nmE]; exact h
  | succ d ih =>
    intro v p h
    rw [nmE]
    split
    · exact ih _ _ (by omega)
    · exact h
theorem nm_10 {b : Nat → Nat} {nb t : Nat} : nm b nb t ≤ 10000 := nmE_10 _ _ _ (by omega)
theorem nmA : ∀ l, l < 4 → ∀ q, q < 9 → (((z_nmAt (nI l) >>> ((nI (21 + q) - 21) &&& 31)) &&& 1 = 0) ↔ nmOk l q = false) := by decide +kernel
theorem kI {k : Nat} (hk : k < 100) (y : Nat) (hy : y < 100) : nI k = nI y ↔ k = y := nI_eq (by omega) (by omega)
/-- one word more, typed -/
theorem OKO_1 {b : Nat → Nat} {nb T c0 r0 lw : Nat} {σ0 τ0 : gx_R} {fr ws : List (Nat × Nat)} {t n k a : Nat} {ck ca : Nat → Nat} {S : List Bool} {σ' τ' : gx_R} (h1 : MR b nb r0 τ0 τ' (t + 1) fr ws 1 (n + 1) (fset ck n k) (fset ca n a)) (h2 : CR b nb T c0 σ0 σ' (t + 1) (n + 1) (fset ck n k) (fset ca n a)) (h3 : r0 + n + ws.length + pnd fr ≤ t) (hS : S.length ≤ 58) (hk : (k = 30 ∧ a ≤ 9999) ∨ (21 ≤ k ∧ k ≤ 29 ∧ a = 0 ∧ nmOk lw (k - 21) = true)) : OKO b nb T c0 r0 lw σ0 τ0 fr ws t n ck ca S σ' τ' (t + 1) := by
  refine ⟨1, n + 1, fset ck n k, fset ca n a, h1, h2, by omega, by omega, by omega, fun j hj => by rw [fset_n _ _ (by omega), fset_n _ _ (by omega)]; exact ⟨rfl, rfl⟩, Sg_one (by omega) (by rw [List.length_cons]; omega) (fun tp t1 t2 => ?_)⟩
  have e1 := fset_e ck n k
  have e2 := fset_e ca n a
  rcases hk with ⟨z1, z2⟩ | ⟨z1, z2, z3, z4⟩
  · exact Or.inl ⟨by rw [e1]; exact z1, by rw [e2]; exact z2, by rw [t1, t2]⟩
  · exact Or.inr (Or.inl ⟨by rw [e1]; exact z1, by rw [e1]; exact z2, by rw [e2]; exact z3, by rw [e1]; exact z4, by rw [t1, t2]⟩)
theorem one_num {b : Nat → Nat} {nb T c0 r0 lw : Nat} {σ0 τ0 : gx_R} (rc : Nat → Int32 → gx_R → Option (Int32 × gx_R)) (o : Nat) (x : Int32) : SpO b nb T c0 r0 lw σ0 τ0 (Re_one_E rc x) o (fun k => decide (k = 30)) := by
  intro fx fr ws t n ck ca S σ τ hp hpre
  have hk := of_decide_eq_true hp
  obtain ⟨⟨b1, b2, b3, b4⟩, b5, b6, b7, ⟨b8, b9⟩, b10, hM, hC⟩ := hpre
  have hT := hC.1.1
  have htT : t ≤ T := hC.2.1
  have ht := (TkC_at hC.1 htT).2.2 (by omega)
  have h42 : σ 42 t = nI (nm b nb t) := by rw [hC.2.2.2.2.2.2.1.1 42 (by omega) (by omega) (by omega)]; exact ht.2 hk
  have h7 : σ 39 7 = nI t := hC.2.2.1
  have h8 : σ 39 8 = nI 30 := by rw [hC.2.2.2.1, hk]
  have hnm := @nm_10 b nb t
  have e0 : Re_one_E rc x σ = z_bd (Re_plainNumber σ) (fun r2 σ3 => z_ck (z_bo r2) (some (r2, σ3))) := by rw [Re_one_E, if_pos (show σ 39 8 = 30 from h8)]
  have hSl : S.length ≤ 58 := by omega
  by_cases c : nm b nb t ≤ 9999
  · obtain ⟨σ1, p1, p2⟩ := wput_v (k := 30) (a := nm b nb t) (w := nI (nm b nb t) * 64 + 30) hC (by omega) (by unfold aI; rw [if_neg (by omega), show (64 : Int32) = nI 64 from rfl, pk_mul, show (30 : Int32) = nI 30 from rfl, nI_add, Nat.mul_comm])
    obtain ⟨σ2, a1, a2⟩ := adv_v p2 (by omega)
    obtain ⟨τ1, m1, m2⟩ := O_num hM hk c (by omega)
    refine Or.inr ⟨σ2, τ1, t + 1, 1, z_FU, ?_, fun f => m1 f, by omega, by omega, OKO_1 m2 a2 b9 hSl (Or.inl ⟨rfl, c⟩)⟩
    rw [e0, Re_plainNumber, h7, ix_n (by omega), decide_eq_true (show t < 301 by omega), w_ck, cl_n (by omega), h42, if_pos (show nI (nm b nb t) ≤ (9999 : Int32) from (nI_leI (b := 9999) (by omega) (by omega)).mpr c), w_ck, p1, w_bd, a1, w_bd, w_bd, bo_1, w_ck]
  · obtain ⟨σ1, p1, p2⟩ := ref_v hC 2
    have p1 : Re_refuse 2 σ = some (0, σ1) := p1
    refine Or.inl ⟨2, t, 2, Nat.le_refl _, htT, by omega, ⟨σ1, ?_, p2⟩, fun f => O_num2 hM hk (by omega) f⟩
    rw [e0, Re_plainNumber, h7, ix_n (by omega), decide_eq_true (show t < 301 by omega), w_ck, cl_n (by omega), h42, if_neg (show ¬ nI (nm b nb t) ≤ (9999 : Int32) from fun z => by have := (nI_leI (b := 9999) (by omega) (by omega)).mp z; omega), p1, w_bd, bo_0, w_ck, w_bd, bo_0, w_ck]
theorem one_name {b : Nat → Nat} {nb T c0 r0 lw : Nat} {σ0 τ0 : gx_R} (rc : Nat → Int32 → gx_R → Option (Int32 × gx_R)) (o : Nat) (x : Int32) (hl : lw < 4) (h9 : σ0 39 9 = nI lw) (h31 : τ0 109 31 = nI lw) : SpO b nb T c0 r0 lw σ0 τ0 (Re_one_E rc x) o (fun k => decide (21 ≤ k ∧ k ≤ 29)) := by
  intro fx fr ws t n ck ca S σ τ hp hpre
  have hk := of_decide_eq_true hp
  obtain ⟨⟨b1, b2, b3, b4⟩, b5, b6, b7, ⟨b8, b9⟩, b10, hM, hC⟩ := hpre
  have hT := hC.1.1
  have htT : t ≤ T := hC.2.1
  have ht := (TkC_at hC.1 htT).2.2 (by omega)
  have e9 : σ 39 9 = nI lw := by rw [hC.2.2.2.2.2.2.1.2.1 9 (by omega) (by omega) (by omega) (by omega)]; exact h9
  have h8 : σ 39 8 = nI (kd b nb t) := hC.2.2.2.1
  have hSl : S.length ≤ 58 := by omega
  have hq := nmA lw hl (kd b nb t - 21) (by omega)
  rw [show 21 + (kd b nb t - 21) = kd b nb t by omega] at hq
  have e0 : Re_one_E rc x σ = z_bd (Re_name σ) (fun r8 σ9 => z_ck (z_bo r8) (some (r8, σ9))) := by
    rw [Re_one_E, h8, if_neg (show ¬ nI (kd b nb t) = 30 from fun z => by have := (kI (k := kd b nb t) (by omega) 30 (by omega)).mp z; omega), if_neg (show ¬ nI (kd b nb t) < 21 from fun z => by have := (nI_ltI (b := 21) (by omega) (by omega)).mp z; omega), if_neg (show ¬ (30 : Int32) ≤ nI (kd b nb t) from fun z => by have := (nI_leI (a := 30) (by omega) (by omega)).mp z; omega)]
  have e1 : Re_name σ = if (((z_nmAt (nI lw)) >>> ((nI (kd b nb t) - (21 : Int32)) &&& 31)) &&& (1 : Int32)) = 0 then Re_name_19 σ else z_bd (Te_put (nI (kd b nb t)) σ) (fun _ σ6 => z_bd (Re_advance σ6) (fun _ σ9 => some ((1 : Int32), σ9))) := by
    rw [Re_name, e9, h8, if_neg (fun z => (n_lt0 (k := lw) (by omega)).mp z), if_neg (show ¬ (4 : Int32) ≤ nI lw from fun z => by have := (nI_leI (a := 4) (by omega) (by omega)).mp z; omega), ix_n (by omega), decide_eq_true hl, w_ck]
  by_cases c : nmOk lw (kd b nb t - 21) = false
  · obtain ⟨σ1, p1, p2⟩ := ref_v hC 5
    have p1 : Re_refuse 5 σ = some (0, σ1) := p1
    refine Or.inl ⟨5, t, 2, Nat.le_refl _, htT, by omega, ⟨σ1, ?_, p2⟩, fun f => O_name5 hM hl h31 hk c f⟩
    rw [e0, e1, if_pos (hq.mpr c), Re_name_19, p1, w_bd, bo_0, w_ck, w_bd, bo_0, w_ck]
  · have c' : nmOk lw (kd b nb t - 21) = true := by
      cases hb : nmOk lw (kd b nb t - 21) with
      | true => rfl
      | false => exact absurd hb c
    obtain ⟨σ1, p1, p2⟩ := wput_v (k := kd b nb t) (a := 0) (w := nI (kd b nb t)) hC (by omega) (by unfold aI; rw [if_neg (by omega), Nat.mul_zero, Nat.zero_add])
    obtain ⟨σ2, a1, a2⟩ := adv_v p2 (by omega)
    obtain ⟨τ1, m1, m2⟩ := O_name hM hl h31 hk c' (by omega)
    refine Or.inr ⟨σ2, τ1, t + 1, 1, z_FU, ?_, fun f => m1 f, by omega, by omega, OKO_1 m2 a2 b9 hSl (Or.inr ⟨hk.1, hk.2, rfl, c'⟩)⟩
    rw [e0, e1, if_neg (fun z => c (hq.mp z)), p1, w_bd, a1, w_bd, w_bd, bo_1, w_ck]
theorem one_18 (rc : Nat → Int32 → gx_R → Option (Int32 × gx_R)) (x : Int32) {σ : gx_R} {k : Nat} (h8 : σ 39 8 = nI k) (hk : k < 100) (h : k ≠ 30 ∧ ¬ (21 ≤ k ∧ k ≤ 29)) : Re_one_E rc x σ = Re_one_18 rc x σ := by
  rw [Re_one_E, h8, if_neg (show ¬ nI k = 30 from fun z => h.1 ((kI hk 30 (by omega)).mp z))]
  by_cases c : k < 21
  · rw [if_pos (show nI k < 21 from (nI_ltI (b := 21) (by omega) (by omega)).mpr c)]
  · rw [if_neg (show ¬ nI k < 21 from fun z => c ((nI_ltI (b := 21) (by omega) (by omega)).mp z)), if_pos (show (30 : Int32) ≤ nI k from (nI_leI (a := 30) (by omega) (by omega)).mpr (by omega))]
theorem one_34 (rc : Nat → Int32 → gx_R → Option (Int32 × gx_R)) (x : Int32) {σ : gx_R} {k : Nat} (h8 : σ 39 8 = nI k) (h : k = 41 ∨ k = 38 ∨ k = 14) : Re_one_18 rc x σ = Re_one_34 rc x σ := by
  rw [Re_one_18, h8]
  rcases h with h | h | h <;> subst h
  · rw [if_pos (show nI 41 = 41 from rfl)]
  · rw [if_neg (show ¬ nI 38 = 41 by decide), if_pos (show nI 38 = 38 from rfl)]
  · rw [if_neg (show ¬ nI 14 = 41 by decide), if_neg (show ¬ nI 14 = 38 by decide), if_pos (show nI 14 = 14 from rfl)]
theorem one_bad {b : Nat → Nat} {nb T c0 r0 lw : Nat} {σ0 τ0 : gx_R} (rc : Nat → Int32 → gx_R → Option (Int32 × gx_R)) (o : Nat) (x : Int32) : SpO b nb T c0 r0 lw σ0 τ0 (Re_one_E rc x) o (fun k => decide (k ≠ 30 ∧ ¬ (21 ≤ k ∧ k ≤ 29) ∧ k ≠ 14 ∧ k ≠ 41 ∧ k ≠ 38)) := by
  intro fx fr ws t n ck ca S σ τ hp hpre
  have hk := of_decide_eq_true hp
  obtain ⟨-, b5, b6, b7, ⟨b8, b9⟩, b10, hM, hC⟩ := hpre
  have h100 := @kd_100 b nb t
  have h8 : σ 39 8 = nI (kd b nb t) := hC.2.2.2.1
  obtain ⟨σ1, p1, p2⟩ := ref_v hC 1
  have p1 : Re_refuse 1 σ = some (0, σ1) := p1
  refine Or.inl ⟨1, t, 2, Nat.le_refl _, hC.2.1, by omega, ⟨σ1, ?_, p2⟩, fun f => O_err hM hk f⟩
  rw [one_18 rc x h8 h100 ⟨hk.1, hk.2.1⟩, Re_one_18, h8, if_neg (show ¬ nI (kd b nb t) = 41 from fun z => by have := (kI h100 41 (by omega)).mp z; omega), if_neg (show ¬ nI (kd b nb t) = 38 from fun z => by have := (kI h100 38 (by omega)).mp z; omega), if_neg (show ¬ nI (kd b nb t) = 14 from fun z => by have := (kI h100 14 (by omega)).mp z; omega), p1, w_bd, bo_0, w_ck]
theorem one_deep {b : Nat → Nat} {nb T c0 r0 lw : Nat} {σ0 τ0 : gx_R} (rc : Nat → Int32 → gx_R → Option (Int32 × gx_R)) : SpO b nb T c0 r0 lw σ0 τ0 (Re_one_E rc (nI 8)) 8 (fun k => decide (k = 14 ∨ k = 41 ∨ k = 38)) := by
  intro fx fr ws t n ck ca S σ τ hp hpre
  have hk := of_decide_eq_true hp
  obtain ⟨⟨b1, -⟩, b5, b6, b7, ⟨b8, b9⟩, b10, hM, hC⟩ := hpre
  have h100 := @kd_100 b nb t
  have h8 : σ 39 8 = nI (kd b nb t) := hC.2.2.2.1
  obtain ⟨σ1, p1, p2⟩ := ref_v hC 3
  have p1 : Re_refuse 3 σ = some (0, σ1) := p1
  refine Or.inl ⟨3, t, 2, Nat.le_refl _, hC.2.1, by omega, ⟨σ1, ?_, p2⟩, fun f => O_open8 hM hk b1 f⟩
  rw [one_18 rc _ h8 h100 (by omega), one_34 rc _ h8 (by omega), Re_one_34, if_neg (show ¬ nI 8 < 8 by decide), p1, w_bd, bo_0, w_ck]
