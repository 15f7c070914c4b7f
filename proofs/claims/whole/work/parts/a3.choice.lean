/-! ===== IF ===== -/
theorem Sg_if {lw : Nat} {ck ca : Nat → Nat} {m p q n : Nat} {S : List Bool} (h1 : Sg lw ck ca m p S (true :: S)) (h2 : Sg lw ck ca (p + 1) q S (false :: S)) (h3 : Sg lw ck ca (q + 1) n S (false :: S)) (hm : m ≤ p) (hp : p < q) (hq : q < n) (k1 : ck p = 15 ∧ ca p = q + 1) (k2 : ck q = 16 ∧ ca q = n) : Sg lw ck ca m n S (false :: S) := by
  obtain ⟨t, a1, a2, a3, a4⟩ := h1
  obtain ⟨u, b1, b2, b3, b4⟩ := h2
  obtain ⟨v, c1, c2, c3, c4⟩ := h3
  have et : ∀ j, j ≤ p → (if j ≤ p then t j else if j ≤ q then u j else v j) = t j := fun j hj => if_pos hj
  have eu : ∀ j, p < j → j ≤ q → (if j ≤ p then t j else if j ≤ q then u j else v j) = u j := fun j h1 h2 => by rw [if_neg (by omega), if_pos h2]
  have ev : ∀ j, q < j → (if j ≤ p then t j else if j ≤ q then u j else v j) = v j := fun j h1 => by rw [if_neg (by omega), if_neg (by omega)]
  refine ⟨fun j => if j ≤ p then t j else if j ≤ q then u j else v j, ?_, ?_, fun j j1 j2 => ?_, fun j j1 j2 => ?_⟩
  · show (if m ≤ p then t m else if m ≤ q then u m else v m) = S
    rw [et m hm]; exact a1
  · show (if n ≤ p then t n else if n ≤ q then u n else v n) = false :: S
    rw [ev n hq]; exact c2
  · show (if j ≤ p then t j else if j ≤ q then u j else v j).length ≤ 60
    by_cases x : j ≤ p
    · rw [et j x]; exact a3 j j1 x
    · by_cases y : j ≤ q
      · rw [eu j (by omega) y]; exact b3 j (by omega) y
      · rw [ev j (by omega)]; exact c3 j (by omega) j2
  · by_cases x : j < p
    · exact TW_c (a4 j j1 x) ⟨rfl, rfl⟩ (by omega) (fun i _ i2 => et i i2) x
    · by_cases x2 : j = p
      · subst x2
        refine Or.inr (Or.inr (Or.inr (Or.inr (Or.inl ⟨S, k1.1, by omega, by omega, ?_, ?_, ?_⟩))))
        · show (if j ≤ j then t j else if j ≤ q then u j else v j) = _
          rw [et j (Nat.le_refl _)]; exact a2
        · show (if j + 1 ≤ j then t (j + 1) else if j + 1 ≤ q then u (j + 1) else v (j + 1)) = _
          rw [eu (j + 1) (by omega) (by omega)]; exact b1
        · show (if ca j ≤ j then t (ca j) else if ca j ≤ q then u (ca j) else v (ca j)) = _
          rw [k1.2, ev (q + 1) (by omega)]; exact c1
      · by_cases y : j < q
        · exact TW_c (b4 j (by omega) y) ⟨rfl, rfl⟩ (by omega) (fun i i1 i2 => eu i (by omega) i2) y
        · by_cases y2 : j = q
          · subst y2
            refine Or.inr (Or.inr (Or.inr (Or.inr (Or.inr (Or.inl ⟨k2.1, by omega, by omega, ?_⟩)))))
            show (if ca j ≤ p then t (ca j) else if ca j ≤ j then u (ca j) else v (ca j)) = (if j ≤ p then t j else if j ≤ j then u j else v j)
            rw [k2.2, ev n (by omega), eu j (by omega) (Nat.le_refl _), c2, b2]
          · exact TW_c (c4 j (by omega) j2) ⟨rfl, rfl⟩ (Nat.le_refl _) (fun i i1 _ => ev i (by omega)) j2
theorem opN_c {x y : Nat} {fr : List (Nat × Nat)} (h : ¬ (x = 1 ∨ x = 4 ∨ x = 5)) : opN ((x, y) :: fr) = opN fr + 1 := by rw [opN, if_neg h]
theorem pnd_c {x y : Nat} {fr : List (Nat × Nat)} (h : ¬ (x = 3 ∨ x = 5 ∨ x = 7)) : pnd ((x, y) :: fr) = pnd fr := by rw [pnd, if_neg h]; rfl
theorem choice_v {b : Nat → Nat} {nb T c0 r0 lw : Nat} {σ0 τ0 : gx_R} {d o : Nat} (ho : o < 8) (hE : Spec b nb T c0 r0 lw σ0 τ0 0 3 3 1 1 true nopE (Re_rec d 3 (nI (o + 1))) (o + 1)) (hS : Spec b nb T c0 r0 lw σ0 τ0 1 2 7 3 3 false nopS (Re_rec d 6 (nI (o + 1))) (o + 1)) : SpO b nb T c0 r0 lw σ0 τ0 (Re_rec (d + 1) 2 (nI (o + 1))) o (fun k => decide (k = 14)) := by
  intro fx fr ws t n ck ca S σ τ hp hpre
  have hk := of_decide_eq_true hp
  obtain ⟨⟨b1, b2, b3, b4⟩, b5, b6, b7, ⟨b8, b9⟩, b10, hM, hC⟩ := hpre
  have hT := hC.1.1
  have htT : t ≤ T := hC.2.1
  have h100 := @kd_100 b nb
  rw [List.length_cons] at b3 b7 b10
  have b6 : ∀ w, w ∈ ws → w.2 ≤ fr.length + 1 := b6
  have fnew : ∀ (r : Nat) (y : Nat × Nat), fl r (y :: fx :: fr).length ws = (ws, []) := fun r y => fl_new (fun w hw => by have := b6 w hw; rw [List.length_cons, List.length_cons]; omega)
  have wd : ∀ y : Nat × Nat, ∀ w, w ∈ ws → w.2 ≤ (y :: fx :: fr).length := fun y w hw => by have := b6 w hw; rw [List.length_cons, List.length_cons]; omega
  show Fail b nb T σ0 τ0 9 t τ (Re_choice_E (Re_rec d) (nI (o + 1)) σ) ∨ _
  obtain ⟨τ1, m1, m2⟩ := O_open (x := 2) hM (Or.inl ⟨hk, rfl⟩) (by rw [List.length_cons]; omega) (by omega)
  rw [if_pos rfl] at m2
  obtain ⟨σ1, a1, a2⟩ := adv_v hC (by omega)
  have ht1 : t + 1 ≤ T := a2.2.1
  have o2 : opN ((2, 0) :: fx :: fr) = o + 1 := by rw [opN_c (by omega), b1]
  have hp1 : Pre b nb T c0 r0 σ0 τ0 0 1 1 (o + 1) ((2, 0) :: fx :: fr) ws (t + 1) n ck ca S σ1 τ1 := ⟨⟨o2, by omega, by rw [List.length_cons, List.length_cons]; omega, by rw [List.length_cons]; omega⟩, fnew 1 _, wd _, by rw [List.length_cons, List.length_cons]; omega, ⟨b8, by rw [pnd_c (by omega)]; omega⟩, by rw [List.length_cons, List.length_cons]; omega, m2, a2⟩
  rcases hE _ _ _ _ _ _ _ _ _ _ (by show (2 : Nat) ≠ 3; omega) hp1 with ⟨ef, tf, kf, f1, f2, f3, ⟨σ2, f4, f5⟩, f6⟩ | ⟨σ2, τ2, t2, k2, s1, s2, s3, ⟨n2, ck2, ca2, ws2, ls2, N2, K2, A2, u1, u2, u3, ⟨u4, u5, u6⟩, u7, u8, u9, u10, u11, u12⟩, s0⟩
  · refine Or.inl ⟨ef, tf, kf + 1, by omega, f2, by omega, ⟨σ2, ?_, f5⟩, fun f => ?_⟩
    · rw [Re_choice_E, a1, w_bd, f4, w_bd, if_pos rfl]
    · rw [show f + (kf + 1) = f + kf + 1 by omega, m1]; exact f6 f
  have ht2 : t2 ≤ T := u7.2.1
  have hno2 := nopE_v s0
  have hfl2 := fl_len 1 ((2, 0) :: fx :: fr).length ws2
  rw [u2] at hfl2
  have hfl2 : ws.length + ls2.length = ws2.length := hfl2
  rw [pnd_c (by omega)] at u8
  by_cases c15 : kd b nb t2 = 15
  rotate_left
  · obtain ⟨σ3, p1, p2⟩ := take_F u7 (k := 15) c15 ⟨h100 t2, by omega⟩
    have p1 : Re_take 15 σ2 = some (0, σ3) := p1
    refine Or.inl ⟨1, t2, 2 + k2 + 1, by omega, ht2, by omega, ⟨σ3, ?_, p2⟩, fun f => ?_⟩
    · rw [Re_choice_E, a1, w_bd, s1, w_bd, if_neg (show ¬ (1 : Int32) = 0 by decide), p1, w_bd, if_pos rfl]
    · rw [show f + (2 + k2 + 1) = f + 2 + k2 + 1 by omega, m1, s2]
      exact T_err u1 (by rw [List.length_cons]; omega) ⟨hno2.1, hno2.2, c15⟩ f
  obtain ⟨τ3, v1, v2⟩ := T_then u1 (by rw [List.length_cons]; omega) c15 (by omega) (by omega)
  have u2' : fl 1 ((fx :: fr).length + 1) ws2 = (ws, ls2) := u2
  rw [u2'] at v2
  have v2 : MR b nb r0 τ0 τ3 (t2 + 1) ((8, n2 + ls2.length) :: fx :: fr) ws 1 (n2 + ls2.length + 1) (fset (emK n2 ck2 ls2) (n2 + ls2.length) 15) (fset (emA n2 ca2 ls2) (n2 + ls2.length) 0) := v2
  rw [← u4, ← u5, ← u6] at v2
  obtain ⟨σ3, p1, p2⟩ := take_v u7 c15 (by omega)
  have p1 : Re_take 15 σ2 = some (1, σ3) := p1
  have ht3 : t2 + 1 ≤ T := p2.2.1
  have z3 : σ3 43 7 = nI (c0 + N2) := p2.2.2.2.2.1.1
  obtain ⟨σ4, q1, q2⟩ := wput_v (k := 15) (a := 0) (w := 15) p2 (by omega) (by unfold aI; rw [if_pos (Or.inl rfl), if_pos rfl]; rfl)
  have o8 : opN ((8, N2) :: fx :: fr) = o + 1 := by rw [opN_c (by omega), b1]
  have hp2 : Pre b nb T c0 r0 σ0 τ0 1 3 3 (o + 1) ((8, N2) :: fx :: fr) ws (t2 + 1) (N2 + 1) (fset K2 N2 15) (fset A2 N2 0) S σ4 τ3 := ⟨⟨o8, by omega, by rw [List.length_cons, List.length_cons]; omega, by rw [List.length_cons]; omega⟩, fnew 3 _, wd _, by rw [List.length_cons, List.length_cons]; omega, ⟨b8, by rw [pnd_c (by omega)]; omega⟩, by rw [List.length_cons, List.length_cons]; omega, v2, q2⟩
  rcases hS _ _ _ _ _ _ _ _ _ _ (by show (8 : Nat) ≠ 7; omega) hp2 with ⟨ef, tf, kf, f1, f2, f3, ⟨σ5, f4, f5⟩, f6⟩ | ⟨σ5, τ5, t5, k5, x1, x2, x3, ⟨n5, ck5, ca5, ws5, ls5, N5, K5, A5, y1, y2, y3, ⟨y4, y5, y6⟩, y7, y8, y9, y10, y11, y12⟩, x0⟩
  · refine Or.inl ⟨ef, tf, kf + 1 + k2 + 1, by omega, f2, by omega, ⟨σ5, ?_, f5⟩, fun f => ?_⟩
    · rw [Re_choice_E, a1, w_bd, s1, w_bd, if_neg (show ¬ (1 : Int32) = 0 by decide), p1, w_bd, if_neg (show ¬ (1 : Int32) = 0 by decide), q1, w_bd, f4, w_bd, if_pos rfl]
    · rw [show f + (kf + 1 + k2 + 1) = f + kf + 1 + k2 + 1 by omega, m1, s2, v1]; exact f6 f
  have ht5 : t5 ≤ T := y7.2.1
  have hno5 := nopS_v x0
  have hfl5 := fl_len 3 ((8, N2) :: fx :: fr).length ws5
  rw [y2] at hfl5
  have hfl5 : ws.length + ls5.length = ws5.length := hfl5
  rw [pnd_c (by omega)] at y8
  have k5N : K5 N2 = 15 ∧ A5 N2 = 0 := by
    rw [(y11 N2 (by omega)).1, (y11 N2 (by omega)).2, fset_e, fset_e]; exact ⟨rfl, rfl⟩
  by_cases c16 : kd b nb t5 = 16
  rotate_left
  · obtain ⟨σ6, g1, g2⟩ := take_F y7 (k := 16) c16 ⟨h100 t5, by omega⟩
    have g1 : Re_take 16 σ5 = some (0, σ6) := g1
    refine Or.inl ⟨1, t5, 2 + k5 + 1 + k2 + 1, by omega, ht5, by omega, ⟨σ6, ?_, g2⟩, fun f => ?_⟩
    · rw [Re_choice_E, a1, w_bd, s1, w_bd, if_neg (show ¬ (1 : Int32) = 0 by decide), p1, w_bd, if_neg (show ¬ (1 : Int32) = 0 by decide), q1, w_bd, x1, w_bd, if_neg (show ¬ (1 : Int32) = 0 by decide), g1, w_bd, if_pos rfl]
    · rw [show f + (2 + k5 + 1 + k2 + 1) = f + 2 + k5 + 1 + k2 + 1 by omega, m1, s2, v1, x2]
      exact G_err y1 (by rw [List.length_cons]; omega) hno5 (fun z => by have z : (8 : Nat) = 6 ∧ _ := z; omega) (fun z => c16 z.2) (fun z => by have z : (8 : Nat) = 9 ∧ _ := z; omega) (fun z => by have z : (8 : Nat) = 4 ∧ _ := z; omega) (by show (8 : Nat) ≠ 5; omega) (fun z => by have z : (8 : Nat) = 1 ∧ _ := z; omega) f
  have ck5N : ck5 N2 = 15 := by
    have := k5N.1
    rw [y5, emK_lt _ _ _ _ (by omega)] at this; exact this
  obtain ⟨τ6, g1, g2⟩ := G_else y1 (by rw [List.length_cons]; omega) c16 ⟨by omega, ck5N⟩ (by omega) (by omega)
  have y2' : fl 3 ((fx :: fr).length + 1) ws5 = (ws, ls5) := y2
  rw [y2'] at g2
  have g2 : MR b nb r0 τ0 τ6 (t5 + 1) ((9, n5 + ls5.length) :: fx :: fr) ws 1 (n5 + ls5.length + 1) (fset (emK n5 ck5 ls5) (n5 + ls5.length) 16) (fset (fset (emA n5 ca5 ls5) (n5 + ls5.length) 0) N2 (n5 + ls5.length + 1)) := g2
  rw [← y4, ← y5, ← y6] at g2
  obtain ⟨σ6, e1, e2⟩ := take_v y7 c16 (by omega)
  have e1 : Re_take 16 σ5 = some (1, σ6) := e1
  have ht6 : t5 + 1 ≤ T := e2.2.1
  have z6 : σ6 43 7 = nI (c0 + N5) := e2.2.2.2.2.1.1
  obtain ⟨σ7, i1, i2⟩ := wput_v (k := 16) (a := 0) (w := 16) e2 (by omega) (by unfold aI; rw [if_pos (Or.inr rfl), if_pos rfl]; rfl)
  obtain ⟨σ8, j1, j2⟩ := onh_v (j := N2) i2 (by omega) (by rw [fset_n _ _ (by omega)]; exact Or.inl k5N.1) (by rw [fset_n _ _ (by omega)]; exact k5N.2)
  have o9 : opN ((9, N5) :: fx :: fr) = o + 1 := by rw [opN_c (by omega), b1]
  have hp3 : Pre b nb T c0 r0 σ0 τ0 1 3 3 (o + 1) ((9, N5) :: fx :: fr) ws (t5 + 1) (N5 + 1) (fset K5 N5 16) (fset (fset A5 N5 0) N2 (N5 + 1)) S σ8 τ6 := ⟨⟨o9, by omega, by rw [List.length_cons, List.length_cons]; omega, by rw [List.length_cons]; omega⟩, fnew 3 _, wd _, by rw [List.length_cons, List.length_cons]; omega, ⟨b8, by rw [pnd_c (by omega)]; omega⟩, by rw [List.length_cons, List.length_cons]; omega, g2, j2⟩
  have eC : ∀ x, z_bd (Re_rec d 6 (nI (o + 1)) σ8) (fun r29 σ30 => if r29 = 0 then some ((0 : Int32), σ30) else z_bd (Re_take (17 : Int32) σ30) (fun r33 σ34 => if r33 = 0 then some ((0 : Int32), σ34) else z_bd (Te_goOnHere (σ6 43 7) σ34) (fun _ σ38 => some ((1 : Int32), σ38)))) = x → Re_choice_E (Re_rec d) (nI (o + 1)) σ = x := by
    intro x hx
    rw [Re_choice_E, a1, w_bd, s1, w_bd, if_neg (show ¬ (1 : Int32) = 0 by decide), p1, w_bd, if_neg (show ¬ (1 : Int32) = 0 by decide), q1, w_bd, x1, w_bd, if_neg (show ¬ (1 : Int32) = 0 by decide), e1, w_bd, if_neg (show ¬ (1 : Int32) = 0 by decide), i1, w_bd, z3, j1, w_bd]
    exact hx
  rcases hS _ _ _ _ _ _ _ _ _ _ (by show (9 : Nat) ≠ 7; omega) hp3 with ⟨ef, tf, kf, f1, f2, f3, ⟨σ9, f4, f5⟩, f6⟩ | ⟨σ9, τ9, t9, k9, l1, l2, l3, ⟨n9, ck9, ca9, ws9, ls9, N9, K9, A9, w1, w2, w3, ⟨w4, w5, w6⟩, w7, w8, w9, w10, w11, w12⟩, l0⟩
  · refine Or.inl ⟨ef, tf, kf + 1 + k5 + 1 + k2 + 1, by omega, f2, by omega, ⟨σ9, eC _ ?_, f5⟩, fun f => ?_⟩
    · rw [f4, w_bd, if_pos rfl]
    · rw [show f + (kf + 1 + k5 + 1 + k2 + 1) = f + kf + 1 + k5 + 1 + k2 + 1 by omega, m1, s2, v1, x2, g1]; exact f6 f
  have ht9 : t9 ≤ T := w7.2.1
  have hno9 := nopS_v l0
  have hfl9 := fl_len 3 ((9, N5) :: fx :: fr).length ws9
  rw [w2] at hfl9
  have hfl9 : ws.length + ls9.length = ws9.length := hfl9
  rw [pnd_c (by omega)] at w8
  have k9N : K9 N5 = 16 ∧ A9 N5 = 0 := by
    rw [(w11 N5 (by omega)).1, (w11 N5 (by omega)).2, fset_e, fset_n _ _ (by omega), fset_e]; exact ⟨rfl, rfl⟩
  by_cases c17 : kd b nb t9 = 17
  rotate_left
  · obtain ⟨σ10, h1, h2⟩ := take_F w7 (k := 17) c17 ⟨h100 t9, by omega⟩
    have h1 : Re_take 17 σ9 = some (0, σ10) := h1
    refine Or.inl ⟨1, t9, 2 + k9 + 1 + k5 + 1 + k2 + 1, by omega, ht9, by omega, ⟨σ10, eC _ ?_, h2⟩, fun f => ?_⟩
    · rw [l1, w_bd, if_neg (show ¬ (1 : Int32) = 0 by decide), h1, w_bd, if_pos rfl]
    · rw [show f + (2 + k9 + 1 + k5 + 1 + k2 + 1) = f + 2 + k9 + 1 + k5 + 1 + k2 + 1 by omega, m1, s2, v1, x2, g1, l2]
      exact G_err w1 (by rw [List.length_cons]; omega) hno9 (fun z => by have z : (9 : Nat) = 6 ∧ _ := z; omega) (fun z => by have z : (9 : Nat) = 8 ∧ _ := z; omega) (fun z => c17 z.2) (fun z => by have z : (9 : Nat) = 4 ∧ _ := z; omega) (by show (9 : Nat) ≠ 5; omega) (fun z => by have z : (9 : Nat) = 1 ∧ _ := z; omega) f
  have ck9N : ck9 N5 = 16 := by
    have := k9N.1
    rw [w5, emK_lt _ _ _ _ (by omega)] at this; exact this
  obtain ⟨τ10, h1, h2⟩ := G_end w1 (by rw [List.length_cons]; omega) c17 ⟨by omega, ck9N⟩ (by omega) (by omega) (by omega)
  have w2' : fl 3 ((fx :: fr).length + 1) ws9 = (ws, ls9) := w2
  rw [w2'] at h2
  have h2 : MR b nb r0 τ0 τ10 (t9 + 1) (fx :: fr) ws 2 (n9 + ls9.length) (emK n9 ck9 ls9) (fset (emA n9 ca9 ls9) N5 (n9 + ls9.length)) := h2
  rw [← w4, ← w5, ← w6] at h2
  obtain ⟨σ10, d1, d2⟩ := take_v w7 c17 (by omega)
  have d1 : Re_take 17 σ9 = some (1, σ10) := d1
  obtain ⟨σ11, d3, d4⟩ := onh_v (j := N5) d2 (by omega) (Or.inr k9N.1) k9N.2
  have hFU := z_FU_ge
  refine Or.inr ⟨σ11, τ10, t9 + 1, 1 + k9 + 1 + k5 + 1 + k2 + 1, z_FU, eC _ ?_, fun f => ?_, by omega, by omega, 2, N9, K9, fset A9 N5 N9, h2, d4, by omega, by omega, by omega, fun j hj => ?_, ?_⟩
  · rw [l1, w_bd, if_neg (show ¬ (1 : Int32) = 0 by decide), d1, w_bd, if_neg (show ¬ (1 : Int32) = 0 by decide), z6, d3, w_bd]
  · rw [show f + (1 + k9 + 1 + k5 + 1 + k2 + 1) = f + 1 + k9 + 1 + k5 + 1 + k2 + 1 by omega, m1, s2, v1, x2, g1, l2, h1]; rfl
  · rw [fset_n _ _ (by omega), (w11 j (by omega)).1, (w11 j (by omega)).2, fset_n _ _ (by omega), fset_n _ _ (by omega), fset_n _ _ (by omega), (y11 j (by omega)).1, (y11 j (by omega)).2, fset_n _ _ (by omega), fset_n _ _ (by omega)]
    exact u11 j hj
  · have r2 : ∀ j, j < N5 → j ≠ N2 → K9 j = K5 j ∧ fset A9 N5 N9 j = A5 j := fun j h1 h2 => by
      rw [fset_n _ _ (by omega), (w11 j (by omega)).1, (w11 j (by omega)).2, fset_n _ _ (by omega), fset_n _ _ h2, fset_n _ _ (by omega)]; exact ⟨rfl, rfl⟩
    have r1 : ∀ j, j < N2 → K9 j = K2 j ∧ fset A9 N5 N9 j = A2 j := fun j h1 => by
      rw [(r2 j (by omega) (by omega)).1, (r2 j (by omega) (by omega)).2, (y11 j (by omega)).1, (y11 j (by omega)).2, fset_n _ _ (by omega), fset_n _ _ (by omega)]; exact ⟨rfl, rfl⟩
    refine Sg_if (p := N2) (q := N5) (Sg_c u12 (fun j _ h => r1 j h)) (Sg_c y12 (fun j h1 h2 => r2 j h2 (by omega))) (Sg_c w12 (fun j h1 h2 => by rw [fset_n _ _ (by omega)]; exact ⟨rfl, rfl⟩)) (by omega) (by omega) (by omega) ⟨?_, ?_⟩ ⟨k9N.1, fset_e _ _ _⟩
    · rw [(w11 N2 (by omega)).1, fset_n _ _ (by omega)]; exact k5N.1
    · rw [fset_n _ _ (by omega), (w11 N2 (by omega)).2, fset_e]
