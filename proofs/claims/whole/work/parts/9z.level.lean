/-! ===== one level of the descent: operands and what stands between them ===== -/
def Mst (b : Nat → Nat) (nb r0 : Nat) (τ0 : gx_R) (st e r : Nat) (isop : Nat → Bool) : Prop := ∀ (fx : Nat × Nat) fr ws t n ck ca τ, MR b nb r0 τ0 τ t (fx :: fr) ws e n ck ca → fr.length < 39 → isop (kd b nb t) = true → ws.length < 80 → r0 + n + ws.length ≤ 400 → ∃ τ', (∀ f, Md_text_44 (f + 1) τ = Md_text_44 f τ') ∧ MR b nb r0 τ0 τ' (t + 1) (fx :: fr) ((kd b nb t, fr.length + 1) :: (fl r (fr.length + 1) ws).1) st (n + (fl r (fr.length + 1) ws).2.length) (emK n ck (fl r (fr.length + 1) ws).2) (emA n ca (fl r (fr.length + 1) ws).2)
def Lop (L : Nat → Int32 → Int32 → gx_R → Option (Int32 × gx_R)) (rc : gx_R → Option (Int32 × gx_R)) (isop : Nat → Bool) : Prop := (∀ n i σ, L (n + 1) 0 i σ = some (0, σ)) ∧ (∀ n i σ k, i < 300 → k < 100 → σ 39 8 = nI k → isop k = false → L (n + 1) 1 (nI i) σ = some (1, σ)) ∧ ∀ n i σ k, i < 300 → k < 100 → σ 39 8 = nI k → isop k = true → L (n + 1) 1 (nI i) σ = z_bd (Re_advance σ) (fun _ σ1 => z_bd (rc σ1) (fun r σ2 => z_bd (Te_put (nI k) σ2) (fun _ σ3 => L n r (nI (i + 1)) σ3)))
theorem loop_v {b : Nat → Nat} {nb T c0 r0 lw : Nat} {σ0 τ0 : gx_R} {st e tb rb r o : Nat} {bo : Bool} {rc : gx_R → Option (Int32 × gx_R)} {isop nop : Nat → Bool} {L : Nat → Int32 → Int32 → gx_R → Option (Int32 × gx_R)} (hk : ∀ t, kd b nb t < 100) (hop : ∀ k, isop k = true → rk k = r ∧ bn k bo bo ∧ k ≠ 44 ∧ k < 64) (hM : Mst b nb r0 τ0 st e r isop) (hL : Lop L rc isop) (hS : Spec b nb T c0 r0 lw σ0 τ0 st e tb rb (r + 1) bo nop rc o) (hrb : r + 1 ≤ rb + 2) (hst : st ≤ 1)
    {fx : Nat × Nat} {fr ws : List (Nat × Nat)} {t0 n0 : Nat} {ck0 ca0 : Nat → Nat} {S : List Bool} (htb : fx.1 ≠ tb) (ho : opN (fx :: fr) = o) (ho8 : o ≤ 8) (hlen : (fx :: fr).length ≤ 2 * o + st) (hfl : fl r (fx :: fr).length ws = (ws, [])) (hwd : ∀ w, w ∈ ws → w.2 ≤ (fx :: fr).length) (hws : ws.length + 2 + rb ≤ 2 * (fx :: fr).length + r) (hc0 : c0 ≤ r0) (hSl : S.length ≤ ws.length + (fx :: fr).length) :
    ∀ m t fu i σ τ, T - t ≤ m → m < fu → i + t0 < t → OK b nb T c0 r0 lw σ0 τ0 e rb r bo (fx :: fr) ws t0 n0 ck0 ca0 S σ τ t → nop (kd b nb t) = false → Fail b nb T σ0 τ0 (10 - st) t τ (L fu 1 (nI i) σ) ∨ ∃ σ' τ' t' k, L fu 1 (nI i) σ = some (1, σ') ∧ (∀ f, Md_text_44 (f + k) τ = Md_text_44 f τ') ∧ k ≤ 8 * (t' - t) ∧ t ≤ t' ∧ OK b nb T c0 r0 lw σ0 τ0 e rb r bo (fx :: fr) ws t0 n0 ck0 ca0 S σ' τ' t' ∧ (nop (kd b nb t') || isop (kd b nb t')) = false := by
  intro m
  induction m with
  | zero =>
    intro t fu i σ τ hm hfu hi hok hno0
    obtain ⟨fu, rfl⟩ : ∃ g, fu = g + 1 := ⟨fu - 1, by omega⟩
    obtain ⟨n, ck, ca, ws', ls, N, K, A, q1, q2, q3, ⟨q4, q5, q6⟩, q7, q8, q9, q10, q11, q12⟩ := hok
    have hT := q7.1.1
    have htT : t ≤ T := q7.2.1
    have e44 : kd b nb t = 44 := by
      rw [show t = T by omega]; unfold kd; exact if_pos q7.1.2.2.1
    have hno : isop (kd b nb t) = false := by
      cases hb : isop (kd b nb t) with
      | false => rfl
      | true => exact absurd e44 (hop _ hb).2.2.1
    refine Or.inr ⟨σ, τ, t, 0, hL.2.1 fu i σ _ (by omega) (hk t) q7.2.2.2.1 hno, fun f => rfl, by omega, Nat.le_refl _, ⟨n, ck, ca, ws', ls, N, K, A, q1, q2, q3, ⟨q4, q5, q6⟩, q7, q8, q9, q10, q11, q12⟩, by rw [hno0, hno]; rfl⟩
  | succ m ih =>
    intro t fu i σ τ hm hfu hi hok hno0
    obtain ⟨fu, rfl⟩ : ∃ g, fu = g + 1 := ⟨fu - 1, by omega⟩
    obtain ⟨n, ck, ca, ws', ls, N, K, A, q1, q2, q3, ⟨q4, q5, q6⟩, q7, q8, q9, q10, q11, q12⟩ := hok
    have hT := q7.1.1
    have htT : t ≤ T := q7.2.1
    by_cases hb : isop (kd b nb t) = true
    · obtain ⟨p1, p2, p3, p4⟩ := hop _ hb
      have hfl' := fl_len r (fx :: fr).length ws'
      rw [q2] at hfl'
      have hfl' : ws.length + ls.length = ws'.length := hfl'
      rw [List.length_cons] at hlen hws hSl
      obtain ⟨τ1, m1, m2⟩ := hM fx fr ws' t n ck ca τ q1 (by omega) hb (by omega) (by omega)
      have q2' : fl r (fr.length + 1) ws' = (ws, ls) := q2
      rw [q2'] at m2
      have m2 : MR b nb r0 τ0 τ1 (t + 1) (fx :: fr) ((kd b nb t, fr.length + 1) :: ws) st (n + ls.length) (emK n ck ls) (emA n ca ls) := m2
      rw [← q4, ← q5, ← q6] at m2
      obtain ⟨σ1, a1, a2⟩ := adv_v q7 p3
      have htT1 : t + 1 ≤ T := a2.2.1
      have ew := hL.2.2 fu i σ (kd b nb t) (by omega) (hk t) q7.2.2.2.1 hb
      rw [a1, w_bd] at ew
      have hpre : Pre b nb T c0 r0 σ0 τ0 st rb (r + 1) o (fx :: fr) ((kd b nb t, fr.length + 1) :: ws) (t + 1) N K A (bo :: S) σ1 τ1 := by
        refine ⟨⟨ho, ho8, by rw [List.length_cons]; omega, by rw [List.length_cons]; omega⟩, fl_lo (by omega), fun w hw => ?_, by rw [List.length_cons, List.length_cons]; omega, ⟨hc0, by rw [List.length_cons]; omega⟩, by rw [List.length_cons, List.length_cons, List.length_cons]; omega, m2, a2⟩
        rcases List.mem_cons.mp hw with z | z
        · rw [z]; exact Nat.le_refl _
        · exact hwd w z
      rcases hS fx fr _ (t + 1) N K A (bo :: S) σ1 τ1 htb hpre with ⟨ef, tf, kf, f1, f2, f3, ⟨σ2, f4, f5⟩, f6⟩ | ⟨σ2, τ2, t2, k2, s1, s2, s3, s4, s0⟩
      · obtain ⟨σ3, g1, g2⟩ := put_F f5 (nI (kd b nb t))
        obtain ⟨fu, rfl⟩ : ∃ g, fu = g + 1 := ⟨fu - 1, by omega⟩
        refine Or.inl ⟨ef, tf, kf + 1, by omega, f2, by omega, ⟨σ3, ?_, g2⟩, fun f => ?_⟩
        · rw [ew, f4, w_bd, g1, w_bd, hL.1]
        · rw [show f + (kf + 1) = f + kf + 1 by omega, m1]; exact f6 f
      · obtain ⟨n2, ck2, ca2, ws2, ls2, N2, K2, A2, u1, u2, u3, ⟨u4, u5, u6⟩, u7, u8, u9, u10, u11, u12⟩ := s4
        have ht2T : t2 ≤ T := u7.2.1
        have hfl2 := fl_len (r + 1) (fx :: fr).length ws2
        rw [u2] at hfl2
        have hfl2 : ws.length + 1 + ls2.length = ws2.length := hfl2
        obtain ⟨σ3, g1, g2⟩ := wput_v (k := kd b nb t) (a := 0) (w := nI (kd b nb t)) u7 (by omega) (by unfold aI; rw [show (if kd b nb t = 15 ∨ kd b nb t = 16 then (if (0 : Nat) = 0 then 0 else c0 + 0) else 0) = 0 by rw [if_pos rfl, ite_self], Nat.mul_zero, Nat.zero_add])
        have e2 : fl r (fx :: fr).length ws2 = (ws, ls2 ++ [kd b nb t]) := by
          rw [fl_two (s := r + 1) (by omega), u2]
          show ((fl r (fx :: fr).length ((kd b nb t, (fx :: fr).length) :: ws)).1, ls2 ++ (fl r (fx :: fr).length ((kd b nb t, (fx :: fr).length) :: ws)).2) = _
          rw [fl_op p1 hfl]
        have hlast : bn (fset K2 N2 (kd b nb t) N2) bo bo ∧ fset A2 N2 0 N2 = 0 := by rw [fset_e, fset_e]; exact ⟨p2, rfl⟩
        have hok3 : OK b nb T c0 r0 lw σ0 τ0 e rb r bo (fx :: fr) ws t0 n0 ck0 ca0 S σ3 τ2 t2 := by
          refine ⟨n2, ck2, ca2, ws2, ls2 ++ [kd b nb t], N2 + 1, fset K2 N2 (kd b nb t), fset A2 N2 0, u1, e2, by rw [List.length_append]; show ls2.length + 1 + r ≤ rb + 2; omega, ⟨by rw [List.length_append]; show N2 + 1 = n2 + (ls2.length + 1); omega, by rw [emK_app, u5, u4], by rw [emA_app, u6, u4]⟩, g2, u8, by omega, by omega, fun j hj => ?_, ?_⟩
          · rw [fset_n _ _ (by omega), fset_n _ _ (by omega), (u11 j (by omega)).1, (u11 j (by omega)).2]
            exact q11 j hj
          · have sg1 : Sg lw (fset K2 N2 (kd b nb t)) (fset A2 N2 0) n0 N S (bo :: S) := Sg_c q12 (fun j j1 j2 => by rw [fset_n _ _ (by omega), fset_n _ _ (by omega)]; exact u11 j j2)
            have sg2 : Sg lw (fset K2 N2 (kd b nb t)) (fset A2 N2 0) N N2 (bo :: S) (bo :: bo :: S) := Sg_c u12 (fun j j1 j2 => by rw [fset_n _ _ (by omega), fset_n _ _ (by omega)]; exact ⟨rfl, rfl⟩)
            have sg3 : Sg lw (fset K2 N2 (kd b nb t)) (fset A2 N2 0) N2 (N2 + 1) (bo :: bo :: S) (bo :: S) := Sg_one (by rw [List.length_cons, List.length_cons]; omega) (by rw [List.length_cons]; omega) (fun tp h1 h2 => Or.inr (Or.inr (Or.inr (Or.inr (Or.inr (Or.inr ⟨bo, bo, S, hlast.1, hlast.2, h1, h2⟩))))))
            exact Sg_glue (Sg_glue sg1 sg2 (by omega) (by omega)) sg3 (by omega) (by omega)
        rcases ih t2 fu (i + 1) σ3 τ2 (by omega) (by omega) (by omega) hok3 s0 with ⟨ef, tf, kf, f1, f2, f3, f4, f6⟩ | ⟨σ4, τ4, t4, k4, s5, s6, s7, s8, s9⟩
        · refine Or.inl ⟨ef, tf, kf + k2 + 1, by omega, f2, by omega, ?_, fun f => ?_⟩
          · rw [ew, s1, w_bd, g1, w_bd]; exact f4
          · rw [show f + (kf + k2 + 1) = f + kf + k2 + 1 by omega, m1, s2]; exact f6 f
        · refine Or.inr ⟨σ4, τ4, t4, k4 + k2 + 1, ?_, fun f => ?_, by omega, by omega, s9⟩
          · rw [ew, s1, w_bd, g1, w_bd, s5]
          · rw [show f + (k4 + k2 + 1) = f + k4 + k2 + 1 by omega, m1, s2, s6]
    · have hno : isop (kd b nb t) = false := by
        cases hb' : isop (kd b nb t) with
        | false => rfl
        | true => exact absurd hb' hb
      refine Or.inr ⟨σ, τ, t, 0, hL.2.1 fu i σ _ (by omega) (hk t) q7.2.2.2.1 hno, fun f => rfl, by omega, Nat.le_refl _, ⟨n, ck, ca, ws', ls, N, K, A, q1, q2, q3, ⟨q4, q5, q6⟩, q7, q8, q9, q10, q11, q12⟩, by rw [hno0, hno]; rfl⟩
/-- a level over the one below it -/
theorem level_v {b : Nat → Nat} {nb T c0 r0 lw : Nat} {σ0 τ0 : gx_R} {st e tb rb r o : Nat} {bo : Bool} {rc : gx_R → Option (Int32 × gx_R)} {isop nop : Nat → Bool} {L : Nat → Int32 → Int32 → gx_R → Option (Int32 × gx_R)} (hk : ∀ t, kd b nb t < 100) (hop : ∀ k, isop k = true → rk k = r ∧ bn k bo bo ∧ k ≠ 44 ∧ k < 64) (hM : Mst b nb r0 τ0 st e r isop) (hL : Lop L rc isop) (hS : Spec b nb T c0 r0 lw σ0 τ0 st e tb rb (r + 1) bo nop rc o) (hrb : r + 1 ≤ rb + 2) (hst : st ≤ 1)   : Spec b nb T c0 r0 lw σ0 τ0 st e tb rb r bo (fun k => nop k || isop k) (fun σ => z_bd (rc σ) (fun r1 σ2 => L z_FU r1 0 σ2)) o := by
  intro fx fr ws t n ck ca S σ τ htb hpre
  obtain ⟨⟨b1, b2, b3, b4⟩, b5, b6, b7, ⟨b8, b9⟩, b10, b11, b12⟩ := hpre
  have hFU := z_FU_ge
  have hT := b12.1.1
  rcases hS fx fr ws t n ck ca S σ τ htb ⟨⟨b1, b2, b3, b4⟩, fl_up (by omega) b5, b6, by omega, ⟨b8, b9⟩, b10, b11, b12⟩ with ⟨ef, tf, kf, f1, f2, f3, ⟨σ2, f4, f5⟩, f6⟩ | ⟨σ2, τ2, t2, k2, s1, s2, s3, s4, s0⟩
  · refine Or.inl ⟨ef, tf, kf, f1, f2, f3, ⟨σ2, ?_, f5⟩, f6⟩
    obtain ⟨g, hg⟩ : ∃ g, z_FU = g + 1 := ⟨z_FU - 1, by omega⟩
    show z_bd (rc σ) (fun r1 σ2 => L z_FU r1 0 σ2) = some (0, σ2)
    rw [f4, w_bd, hg, hL.1]
  · obtain ⟨n2, ck2, ca2, ws2, ls2, N2, K2, A2, u1, u2, u3, ⟨u4, u5, u6⟩, u7, u8, u9, u10, u11, u12⟩ := s4
    have e2 : fl r (fx :: fr).length ws2 = (ws, ls2) := by
      rw [fl_two (s := r + 1) (by omega), u2]
      show ((fl r (fx :: fr).length ws).1, ls2 ++ (fl r (fx :: fr).length ws).2) = _
      rw [b5, List.append_nil]
    have ht2T : t2 ≤ T := u7.2.1
    rcases loop_v hk hop hM hL hS hrb hst htb b1 b2 b3 b5 b6 b7 b8 b10 (T - t2) t2 z_FU 0 σ2 τ2 (Nat.le_refl _) (by omega) (by omega) ⟨n2, ck2, ca2, ws2, ls2, N2, K2, A2, u1, e2, by omega, ⟨u4, u5, u6⟩, u7, u8, u9, u10, u11, u12⟩ s0 with ⟨ef, tf, kf, f1, f2, f3, f4, f6⟩ | ⟨σ4, τ4, t4, k4, s5, s6, s7, s8, s9⟩
    · refine Or.inl ⟨ef, tf, kf + k2, by omega, f2, by omega, ?_, fun f => ?_⟩
      · show FC b nb σ0 (z_bd (rc σ) (fun r1 σ2 => L z_FU r1 0 σ2)) ef tf
        rw [s1, w_bd]; exact f4
      · rw [show f + (kf + k2) = f + kf + k2 by omega, s2]; exact f6 f
    · refine Or.inr ⟨σ4, τ4, t4, k4 + k2, ?_, fun f => ?_, by omega, s9⟩
      · show z_bd (rc σ) (fun r1 σ2 => L z_FU r1 0 σ2) = some (1, σ4)
        rw [s1, w_bd]; exact s5
      · rw [show f + (k4 + k2) = f + k4 + k2 by omega, s2, s6]
