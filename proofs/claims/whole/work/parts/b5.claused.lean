/-! ===== a clause, a deed ===== -/
def CFail (b : Nat → Nat) (nb T : Nat) (σb τb : gx_R) (t : Nat) (τ : gx_R) (r : Option (Int32 × gx_R)) : Prop := ∃ e t' k σB, t ≤ t' ∧ t' ≤ T ∧ k ≤ 8 * (t' - t) + 10 ∧ RcT σb σB ∧ FC b nb σB r e t' ∧ ∀ f, EndF b nb τb (Md_text_44 (f + k) τ) e t'
def CNext (b : Nat → Nat) (nb T : Nat) (σb τb : gx_R) (t : Nat) (τ : gx_R) (r : Option (Int32 × gx_R)) : Prop := ∃ σ' τ' t' k q' cn' rn', r = some (1, σ') ∧ (∀ f, Md_text_44 (f + k) τ = Md_text_44 f τ') ∧ k ≤ 8 * (t' - t) ∧ t < t' ∧ TI b nb T σb τb σ' τ' t' q' cn' rn'
theorem EndF_t {b : Nat → Nat} {nb : Nat} {τb τ0 : gx_R} {r : Option (Int32 × gx_R)} {f t : Nat} (h0 : RdG τb τ0) (h : EndF b nb τ0 r f t) : EndF b nb τb r f t := by
  obtain ⟨τ', e1, e2, e3, e4⟩ := h
  exact ⟨τ', e1, e2, e3, RdG_t h0 e4⟩
theorem clause_d {b : Nat → Nat} {nb T : Nat} {σb τb σ τ : gx_R} {t q cn rn : Nat} (h : TI b nb T σb τb σ τ t q cn rn) (hq2 : q < 24) (hx : 4 ≤ kd b nb t ∧ kd b nb t ≤ 9) : CFail b nb T σb τb t τ (Re_clause σ) ∨ CNext b nb T σb τb t τ (Re_clause σ) := by
  obtain ⟨⟨ck, ca, hC⟩, ⟨ck', ca', hM⟩, ⟨hq, hq43, hq30⟩, ⟨hcr, hrt⟩, hRc, hRd, hCl, hLw⟩ := h
  have hT := hC.1.1
  have htT : t ≤ T := hC.2.1
  obtain ⟨σ1, τ1, a2, x1, eC, eM⟩ := name_d hC hM ⟨hq43, hq30⟩ hq2 hx
  obtain ⟨σB, hσB⟩ : ∃ σB, σB = gx_up (gx_up σ 43 4 (nI (q + 1))) 44 q (nI (kd b nb t)) := ⟨_, rfl⟩
  obtain ⟨τB, hτB⟩ : ∃ τB, τB = gx_up (gx_up (gx_up τ 109 31 (nI (kd b nb t))) 126 q (nI (kd b nb t))) 127 q (nI rn) := ⟨_, rfl⟩
  rw [← hσB] at a2
  rw [← hτB] at x1
  have tB : τB 109 30 = nI q ∧ τB 109 31 = nI (kd b nb t) := by
    rw [hτB]
    exact ⟨by rw [up_c _ _ _ _ (by omega), up_c _ _ _ _ (by omega), up_p _ _ _ (by omega)]; exact hq30, by rw [up_c _ _ _ _ (by omega), up_c _ _ _ _ (by omega), up_e]⟩
  have sB1 : ∀ c, c ≠ 43 → c ≠ 44 → σB c = σ c := fun c c1 c2 => by rw [hσB, gx_up_ne c2, gx_up_ne c1]
  have gB : RdG τb τB := RdG_t hRd (by
    rw [hτB]
    exact ⟨fun c c1 c2 => by rw [gx_up_ne (by omega), gx_up_ne (by omega), gx_up_ne c1], fun j hj => by rw [up_c _ _ _ _ (by omega), up_c _ _ _ _ (by omega), up_p _ _ _ (by omega)]⟩)
  have rB : ∀ σ2, BC q σB σ2 → RcT σb σ2 := fun σ2 hb => by
    refine ⟨fun c c1 c2 => ?_, fun j j1 j2 j3 => ?_, fun j j1 j2 => ?_⟩
    · rw [hb.1 c (by omega), sB1 c (by omega) (by omega)]; exact hRc.1 c c1 c2
    · rw [hb.1 39 (by omega), sB1 39 (by omega) (by omega)]; exact hRc.2.1 j j1 j2 j3
    · rw [hb.1 43 (by omega), hσB, up_c _ _ _ _ (by omega), up_p _ _ _ j1]; exact hRc.2.2 j j1 j2
  have go : ∀ f τ2, DD τ1 = some ((), τ2) → Md_text_44 (f + 1) τ = Md_text_44 f τ2 := fun f τ2 e => by rw [C_go hM (by omega), eM, e, w_bd]
  rcases deed_v a2 x1 (by omega) tB.1 hq2 tB.2 hx with ⟨σ2, σ', τ', t', y, z, w, hb, e1, e2, e3, e4, e5, e6, e7, e8, e9⟩ | ⟨σ2, f, t', τ2, hb, ⟨e1, e1'⟩, e2, e3, e4⟩
  · refine Or.inr ⟨σ', τ', t', 1, q + 1, cn, rn + (0 + 1), by rw [eC]; exact e1, fun f => go f τ' e2, by omega, by omega, ⟨ck, ca, CR_re e4 ck ca⟩, ⟨ck', ca', MR_re e5 ck' ca'⟩, ⟨by omega, ?_, ?_⟩, ⟨by omega, by omega⟩, RcT_E (rB σ2 hb) e4.2.2.2.2.2.2, ?_, fun k hk => ?_, fun l hl => ?_⟩
    · rw [e4.2.2.2.2.2.2.1.2.2 4 (by omega), hb.1 43 (by omega), hσB, up_c _ _ _ _ (by omega), up_e]
    · rw [e5.2.2.2.2.2.2.2.2.2.2.2.2 30 (by omega) (by omega) (by omega) (by omega) (by omega) (by omega), up_e]
    · refine RdG_t gB (RdG_t ?_ (RdF_G e5.2.2.2.2.2.2.2.2.2.2))
      exact ⟨fun c c1 c2 => by rw [gx_up_ne c1, gx_up_ne (by omega), gx_up_ne (by omega), gx_up_ne (by omega)], fun j hj => by rw [up_p _ _ _ (by omega), up_c _ _ _ _ (by omega), up_c _ _ _ _ (by omega), up_c _ _ _ _ (by omega)]⟩
    · have s44 : σ' 44 = σB 44 := by rw [e4.2.2.2.2.2.2.1.1 44 (by omega) (by omega) (by omega)]; exact hb.1 44 (by omega)
      have s4x : ∀ c, 45 ≤ c ∧ c ≤ 47 → σ' c = σ2 c := fun c hc => e4.2.2.2.2.2.2.1.1 c (by omega) (by omega) (by omega)
      have t1x : ∀ c, 126 ≤ c ∧ c ≤ 130 → τ' c = gx_up (gx_up (gx_up (gx_up τB 128 q y) 129 q z) 130 q w) 109 30 (nI (q + 1)) c := fun c hc => e5.2.2.2.2.2.2.2.2.2.2.1 c (by omega) (by omega) (by omega) (by omega)
      unfold ClR
      rw [s44, s4x 45 (by omega), s4x 46 (by omega), s4x 47 (by omega), t1x 126 (by omega), t1x 128 (by omega), t1x 129 (by omega), t1x 130 (by omega)]
      by_cases c : k = q
      · subst c
        refine ⟨kd b nb t, by omega, by rw [hσB, up_e], ?_, fun _ => ?_, fun hz => ?_, fun hz => ?_, fun hz => ?_⟩
        · rw [up_c _ _ _ _ (by omega), up_c _ _ _ _ (by omega), up_c _ _ _ _ (by omega), up_c _ _ _ _ (by omega), hτB, up_c _ _ _ _ (by omega), up_e]
        · rw [up_c _ _ _ _ (by omega), up_c _ _ _ _ (by omega), up_c _ _ _ _ (by omega), up_e, e6]
        · rw [e6]; exact e7 hz
        · rw [up_c _ _ _ _ (by omega), up_c _ _ _ _ (by omega), up_e]; exact e8 hz
        · rw [up_c _ _ _ _ (by omega), up_e]; exact e9 hz
      · obtain ⟨x, r1, r2, r3, r4, r5, r6, r7⟩ := hCl k (by omega)
        have k45 : ∀ cc, 45 ≤ cc ∧ cc ≤ 47 → σ2 cc k = σ cc k := fun cc hc => by rw [hb.2 cc k c, sB1 cc (by omega) (by omega)]
        refine ⟨x, r1, ?_, ?_, fun hz => ?_, fun hz => ?_, fun hz => ?_, fun hz => ?_⟩
        · rw [hσB, up_p _ _ _ c, up_c _ _ _ _ (by omega)]; exact r2
        · rw [up_c _ _ _ _ (by omega), up_c _ _ _ _ (by omega), up_c _ _ _ _ (by omega), up_c _ _ _ _ (by omega), hτB, up_c _ _ _ _ (by omega), up_p _ _ _ c, up_c _ _ _ _ (by omega)]; exact r3
        · rw [k45 45 (by omega), up_c _ _ _ _ (by omega), up_c _ _ _ _ (by omega), up_c _ _ _ _ (by omega), up_p _ _ _ c, hτB, up_c _ _ _ _ (by omega), up_c _ _ _ _ (by omega), up_c _ _ _ _ (by omega)]; exact r4 hz
        · rw [k45 45 (by omega)]; exact r5 hz
        · rw [k45 46 (by omega), up_c _ _ _ _ (by omega), up_c _ _ _ _ (by omega), up_p _ _ _ c, up_c _ _ _ _ (by omega), hτB, up_c _ _ _ _ (by omega), up_c _ _ _ _ (by omega), up_c _ _ _ _ (by omega)]; exact r6 hz
        · rw [k45 47 (by omega), up_c _ _ _ _ (by omega), up_p _ _ _ c, up_c _ _ _ _ (by omega), up_c _ _ _ _ (by omega), hτB, up_c _ _ _ _ (by omega), up_c _ _ _ _ (by omega), up_c _ _ _ _ (by omega)]; exact r7 hz
    · have s48 : σ' 48 l = σ 48 l := by rw [e4.2.2.2.2.2.2.1.1 48 (by omega) (by omega) (by omega), hb.1 48 (by omega), sB1 48 (by omega) (by omega)]
      have t126 : ∀ k, τ' 126 k = if k = q then nI (kd b nb t) else τ 126 k := fun k => by
        rw [e5.2.2.2.2.2.2.2.2.2.2.1 126 (by omega) (by omega) (by omega) (by omega), up_c _ _ _ _ (by omega), up_c _ _ _ _ (by omega), up_c _ _ _ _ (by omega), up_c _ _ _ _ (by omega), hτB, up_c _ _ _ _ (by omega)]
        by_cases c : k = q
        · rw [if_pos c, c, up_e]
        · rw [if_neg c, up_p _ _ _ c, up_c _ _ _ _ (by omega)]
      have t127 : ∀ k, k ≠ q → τ' 127 k = τ 127 k := fun k c => by
        rw [e5.2.2.2.2.2.2.2.2.2.2.1 127 (by omega) (by omega) (by omega) (by omega), up_c _ _ _ _ (by omega), up_c _ _ _ _ (by omega), up_c _ _ _ _ (by omega), up_c _ _ _ _ (by omega), hτB, up_p _ _ _ c, up_c _ _ _ _ (by omega), up_c _ _ _ _ (by omega)]
      have nx : nI (kd b nb t) ≠ nI l := fun z => by have := (nI_eq (by omega) (by omega)).mp z; omega
      rcases hLw l hl with ⟨r1, r2⟩ | ⟨c0, r0, k, r1, r2, r3, r4, r5, r6⟩
      · refine Or.inl ⟨by rw [s48]; exact r1, fun k hk => ?_⟩
        rw [t126]
        by_cases c : k = q
        · rw [if_pos c]; exact nx
        · rw [if_neg c]; exact r2 k (by omega)
      · refine Or.inr ⟨c0, r0, k, by omega, by rw [t126, if_neg (by omega)]; exact r2, fun k' h1 h2 => ?_, by rw [s48]; exact r4, by rw [t127 k (by omega)]; exact r5, CodeZ_c r6 (fun i hi => ?_) (fun i hi => ?_) ⟨Nat.le_refl _, e4.2.2.2.2.1.2, by omega, by have := e4.2.1; omega⟩⟩
        · rw [t126] at h2
          by_cases c : k' = q
          · rw [if_pos c] at h2; exact absurd h2 nx
          · rw [if_neg c] at h2; exact r3 k' (by omega) h2
        · rw [e4.2.2.2.2.2.2.2.2 i hi, hb.1 49 (by omega), sB1 49 (by omega) (by omega)]
        · have := e5.2.2.2.2.2.2.2.2.2.2.2.1 i hi
          rw [this.1, this.2, up_c _ _ _ _ (by omega), up_c _ _ _ _ (by omega), up_c _ _ _ _ (by omega), up_c _ _ _ _ (by omega), up_c _ _ _ _ (by omega), up_c _ _ _ _ (by omega), up_c _ _ _ _ (by omega), up_c _ _ _ _ (by omega), hτB, up_c _ _ _ _ (by omega), up_c _ _ _ _ (by omega), up_c _ _ _ _ (by omega), up_c _ _ _ _ (by omega), up_c _ _ _ _ (by omega), up_c _ _ _ _ (by omega)]
          exact ⟨rfl, rfl⟩
  · exact Or.inl ⟨f, t', 2, σ2, by omega, e1', by omega, rB σ2 hb, by rw [eC]; exact e2, fun g => by
      rw [show g + 2 = g + 1 + 1 from rfl, go (g + 1) τ2 e3]
      exact EndF_t gB (EM_end e4 g)⟩
