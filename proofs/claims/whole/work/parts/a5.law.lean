/-! ===== a law: its code, read alike ===== -/
theorem bin_R {k : Nat} {i o : Bool} (h : bn k i o) : BinR (nI k) (nI (oI k)) i o := by
  rcases h with ⟨h1, h2, rfl, rfl⟩ | ⟨h1, h2, rfl, rfl⟩ | ⟨h1, rfl, rfl⟩
  · rcases (show k = 37 ∨ k = 38 ∨ k = 39 ∨ k = 40 by omega) with h | h | h | h <;> subst h
    · exact Or.inl ⟨rfl, rfl, rfl, rfl⟩
    · exact Or.inr (Or.inl ⟨rfl, rfl, rfl, rfl⟩)
    · exact Or.inr (Or.inr (Or.inl ⟨rfl, rfl, rfl, rfl⟩))
    · exact Or.inr (Or.inr (Or.inr (Or.inl ⟨rfl, rfl, rfl, rfl⟩)))
  · rcases (show k = 31 ∨ k = 32 ∨ k = 33 ∨ k = 34 ∨ k = 35 ∨ k = 36 by omega) with h | h | h | h | h | h <;> subst h
    · exact Or.inr (Or.inr (Or.inr (Or.inr (Or.inl ⟨rfl, rfl, rfl, rfl⟩))))
    · exact Or.inr (Or.inr (Or.inr (Or.inr (Or.inr (Or.inl ⟨rfl, rfl, rfl, rfl⟩)))))
    · exact Or.inr (Or.inr (Or.inr (Or.inr (Or.inr (Or.inr (Or.inl ⟨rfl, rfl, rfl, rfl⟩))))))
    · exact Or.inr (Or.inr (Or.inr (Or.inr (Or.inr (Or.inr (Or.inr (Or.inl ⟨rfl, rfl, rfl, rfl⟩)))))))
    · exact Or.inr (Or.inr (Or.inr (Or.inr (Or.inr (Or.inr (Or.inr (Or.inr (Or.inl ⟨rfl, rfl, rfl, rfl⟩))))))))
    · exact Or.inr (Or.inr (Or.inr (Or.inr (Or.inr (Or.inr (Or.inr (Or.inr (Or.inr (Or.inl ⟨rfl, rfl, rfl, rfl⟩)))))))))
  · rcases h1 with h | h <;> subst h
    · exact Or.inr (Or.inr (Or.inr (Or.inr (Or.inr (Or.inr (Or.inr (Or.inr (Or.inr (Or.inr (Or.inl ⟨rfl, rfl, rfl, rfl⟩))))))))))
    · exact Or.inr (Or.inr (Or.inr (Or.inr (Or.inr (Or.inr (Or.inr (Or.inr (Or.inr (Or.inr (Or.inr ⟨rfl, rfl, rfl, rfl⟩))))))))))
theorem bn_k {k : Nat} {i o : Bool} (h : bn k i o) : k ≠ 15 ∧ k ≠ 16 := by
  rcases h with ⟨h1, h2, -⟩ | ⟨h1, h2, -⟩ | ⟨h1, -⟩ <;> omega
theorem word_R {σ τ : gx_R} {lw c0 r0 N : Nat} {K A : Nat → Nat} {tp : Nat → List Bool} {j : Nat} (hc : CdC c0 σ N K A) (hr : CdR r0 τ N K A) (hj : j < N) (h : TW lw K A tp N j) : WordR (σ 49) (τ 131) (τ 132) c0 r0 lw N tp j := by
  have h1 := hc j hj
  obtain ⟨h2, h3⟩ := hr j hj
  unfold TW at h
  unfold WordR
  rcases h with ⟨k1, k2, k3⟩ | ⟨k1, k2, k3, k4, k5⟩ | ⟨s, k1, k2, k3, k4⟩ | ⟨s, k1, k2, k3, k4⟩ | ⟨s, k1, k2, k3, k4, k5, k6⟩ | ⟨k1, k2, k3, k4⟩ | ⟨i, o, s, k1, k2, k3, k4⟩
  · rw [k1] at h1 h2 h3
    exact Or.inl ⟨A j, k2, h1, h2, h3, k3⟩
  · refine Or.inr (Or.inl ⟨K j - 21, by omega, k4, ?_, ?_, ?_, k5⟩)
    · rw [h1]; unfold aI; rw [if_neg (by omega), k3, Nat.mul_zero, Nat.zero_add, show 21 + (K j - 21) = K j by omega]
    · rw [h2]; unfold oI; rw [if_neg (by omega), if_pos ⟨k1, k2⟩]; rfl
    · rw [h3]; unfold vI; rw [if_pos ⟨k1, k2⟩]
  · rw [k1, k2] at h1
    rw [k1] at h2
    exact Or.inr (Or.inr (Or.inl ⟨s, h1, h2, k3, k4⟩))
  · rw [k1, k2] at h1
    rw [k1] at h2
    exact Or.inr (Or.inr (Or.inr (Or.inl ⟨s, h1, h2, k3, k4⟩)))
  · rw [k1] at h1 h2 h3
    refine Or.inr (Or.inr (Or.inr (Or.inr (Or.inl ⟨s, A j, k2, k3, ?_, h2, ?_, k4, k5, k6⟩))))
    · rw [h1]; unfold aI; rw [if_pos (Or.inl rfl), if_neg (by omega)]
    · rw [h3]; unfold vI; rw [if_neg (by omega), if_pos (Or.inl rfl), if_neg (by omega)]
  · rw [k1] at h1 h2 h3
    refine Or.inr (Or.inr (Or.inr (Or.inr (Or.inr (Or.inl ⟨A j, k2, k3, ?_, h2, ?_, k4⟩)))))
    · rw [h1]; unfold aI; rw [if_pos (Or.inr rfl), if_neg (by omega)]
    · rw [h3]; unfold vI; rw [if_neg (by omega), if_pos (Or.inr rfl), if_neg (by omega)]
  · refine Or.inr (Or.inr (Or.inr (Or.inr (Or.inr (Or.inr ⟨i, o, s, ?_, k3, k4⟩)))))
    have := bn_k k1
    rw [h1, h2, k2]
    unfold aI
    rw [if_neg (by omega), Nat.mul_zero, Nat.zero_add]
    exact bin_R k1
/-- as CodeR, with the end of the reference's code too -/
def CodeZ (cw co cv : gx_F) (c0 r0 l sz rz : Nat) : Prop := ∃ len tp, (c0 + len < sz ∧ sz ≤ 300 ∧ r0 + len < rz ∧ rz ≤ 400) ∧ cw (c0 + len) = 43 ∧ co (r0 + len) = 408 ∧ tp 0 = [] ∧ tp len = [false] ∧ (∀ j, j ≤ len → (tp j).length ≤ 60) ∧ ∀ j, j < len → WordR cw co cv c0 r0 l len tp j
theorem CodeZ_R {cw co cv : gx_F} {c0 r0 l sz rz : Nat} (h : CodeZ cw co cv c0 r0 l sz rz) : CodeR cw co cv c0 r0 l sz rz := by
  obtain ⟨len, tp, ⟨h1, h2, h3, h4⟩, h5, h6, h7, h8, h9, h10⟩ := h
  exact ⟨len, tp, h1, h2, by omega, h5, h6, h7, h8, h9, h10⟩
theorem CodeZ_c {cw co cv cw' co' cv' : gx_F} {c0 r0 l sz rz sz' rz' : Nat} (h : CodeZ cw co cv c0 r0 l sz rz) (hw : ∀ i, i < sz → cw' i = cw i) (hr : ∀ i, i < rz → co' i = co i ∧ cv' i = cv i) (hs : sz ≤ sz' ∧ sz' ≤ 300 ∧ rz ≤ rz' ∧ rz' ≤ 400) : CodeZ cw' co' cv' c0 r0 l sz' rz' := by
  obtain ⟨len, tp, ⟨h1, h2, h3, h4⟩, h5, h6, h7, h8, h9, h10⟩ := h
  refine ⟨len, tp, ⟨by omega, by omega, by omega, by omega⟩, by rw [hw _ h1]; exact h5, by rw [(hr _ h3).1]; exact h6, h7, h8, h9, fun j hj => ?_⟩
  have h := h10 j hj
  unfold WordR at h ⊢
  rw [hw (c0 + j) (by omega), (hr (r0 + j) (by omega)).1, (hr (r0 + j) (by omega)).2]
  exact h
theorem code_R {σ τ : gx_R} {lw c0 r0 N : Nat} {K A : Nat → Nat} (hc : CdC c0 σ (N + 1) (fset K N 43) A) (hr : CdR r0 τ (N + 1) (fset K N 43) A) (hS : Sg lw K A 0 N [] [false]) (hn : c0 + N + 1 ≤ 300) (hr0 : r0 + N + 1 ≤ 400) (ha : A N = 0) : CodeZ (σ 49) (τ 131) (τ 132) c0 r0 lw (c0 + N + 1) (r0 + N + 1) := by
  obtain ⟨tp, t1, t2, t3, t4⟩ := hS
  have e1 := hc N (by omega)
  have e2 := (hr N (by omega)).1
  rw [fset_e, ha] at e1
  rw [fset_e] at e2
  refine ⟨N, tp, ⟨by omega, hn, by omega, hr0⟩, e1, e2, t1, t2, fun j hj => t3 j (Nat.zero_le _) hj, fun j hj => ?_⟩
  refine word_R (fun i hi => ?_) (fun i hi => ?_) hj (t4 j (Nat.zero_le _) hj)
  · have := hc i (by omega); rw [fset_n _ _ (by omega)] at this; exact this
  · have := hr i (by omega); rw [fset_n _ _ (by omega)] at this; exact this
/-- the class's reading of a law behind its name -/
noncomputable def LW (σ : gx_R) : Option (Int32 × gx_R) := z_bd (z_bd (Re_sum (0 : Int32) σ) (fun r2 σ3 => z_bd (Te_put (43 : Int32) σ3) (fun _ σ6 => z_ck (z_bo r2) (some (r2, σ6))))) (fun r22 σ23 => Re_clause_60 r22 σ23)
theorem law_v {b : Nat → Nat} {nb T c0 r0 lw : Nat} {σ0 τ0 : gx_R} (hl : lw < 4) (h9 : σ0 39 9 = nI lw) (h31 : τ0 109 31 = nI lw) {σ τ : gx_R} {t : Nat} {ck ca : Nat → Nat} (hC : CR b nb T c0 σ0 σ t 0 ck ca) (hM : MR b nb r0 τ0 τ t [(1, 0)] [] 1 0 ck ca) (hcr : c0 ≤ r0 ∧ r0 ≤ t) : Fail b nb T σ0 τ0 9 t τ (LW σ) ∨ ∃ σ' τ' t' k N K A, LW σ = some (1, σ') ∧ (∀ f, Md_text_44 (f + k) τ = Md_text_44 f τ') ∧ k ≤ 8 * (t' - t) ∧ t < t' ∧ r0 + N + 1 ≤ t' ∧ CR b nb T c0 σ0 σ' t' (N + 1) (fset K N 43) (fset A N 0) ∧ MR b nb r0 (gx_up τ0 109 30 (τ0 109 30 + 1)) τ' t' [] [] 4 (N + 1) (fset K N 43) (fset A N 0) ∧ CodeZ (σ' 49) (τ' 131) (τ' 132) c0 r0 lw (c0 + N + 1) (r0 + N + 1) := by
  have hT := hC.1.1
  have htT : t ≤ T := hC.2.1
  have h100 := @kd_100 b nb
  have hp : Pre b nb T c0 r0 σ0 τ0 1 3 3 0 [(1, 0)] [] t 0 ck ca [] σ τ := ⟨⟨rfl, by omega, by show 1 ≤ 2 * 0 + 1; omega, by show 1 ≤ 1; omega⟩, rfl, (fun w hw => absurd hw (by intro z; cases z)), by show 0 + 2 + 3 ≤ 2 * 1 + 3; omega, ⟨hcr.1, by show r0 + 0 + 0 + 0 ≤ t; omega⟩, by show 0 ≤ 0 + 1; omega, hM, hC⟩
  rcases sum_R (T := T) (c0 := c0) hl h9 h31 _ _ _ _ _ _ _ _ _ _ (by show (1 : Nat) ≠ 7; omega) hp with ⟨ef, tf, kf, f1, f2, f3, ⟨σ2, f4, f5⟩, f6⟩ | ⟨σ2, τ2, t2, k2, s1, s2, s3, ⟨n2, ck2, ca2, ws2, ls2, N2, K2, A2, u1, u2, u3, ⟨u4, u5, u6⟩, u7, u8, u9, u10, u11, u12⟩, s0⟩
  · obtain ⟨σ3, g1, g2⟩ := put_F f5 43
    refine Or.inl ⟨ef, tf, kf, f1, f2, f3, ⟨σ3, ?_, g2⟩, f6⟩
    rw [LW, f4, w_bd, g1, w_bd, bo_0, w_ck, w_bd, Re_clause_60, if_pos rfl]
  have ht2 : t2 ≤ T := u7.2.1
  have hno := nopS_v s0
  have u2 : fl 3 1 ws2 = ([], ls2) := u2
  have hfl2 := fl_len 3 1 ws2
  rw [u2] at hfl2
  have hfl2 : ([] : List (Nat × Nat)).length + ls2.length = ws2.length := hfl2
  rw [List.length_nil] at hfl2
  have u8 : r0 + n2 + ws2.length + 0 ≤ t2 := u8
  by_cases c : kd b nb t2 = 43
  · have ht2T := ((TkC_at u7.1 ht2).2.2 (by omega)).1
    obtain ⟨σ3, p1, p2⟩ := wput_v (k := 43) (a := 0) (w := 43) u7 (by omega) (by unfold aI; rw [if_neg (by omega)]; rfl)
    have e0 : LW σ = Re_clause_60 1 σ3 := by rw [LW, s1, w_bd, p1, w_bd, bo_1, w_ck, w_bd]
    obtain ⟨σ4, q1, q2⟩ := take_v p2 c (by omega)
    have q1 : Re_take 43 σ3 = some (1, σ4) := q1
    obtain ⟨τ3, g1, g2⟩ := G_over u1 c (by omega) (by omega)
    have e1 : fl 1 1 ws2 = ([], ls2) := by
      rw [fl_two (s := 3) (by omega), u2]
      show (([] : List (Nat × Nat)), ls2 ++ []) = _
      rw [List.append_nil]
    rw [e1] at g2
    have g2 : MR b nb r0 (gx_up τ0 109 30 (τ0 109 30 + 1)) τ3 (t2 + 1) [] [] 4 (n2 + ls2.length + 1) (fset (emK n2 ck2 ls2) (n2 + ls2.length) 43) (fset (emA n2 ca2 ls2) (n2 + ls2.length) 0) := g2
    rw [← u4, ← u5, ← u6] at g2
    refine Or.inr ⟨σ4, τ3, t2 + 1, 1 + k2, N2, K2, A2, ?_, fun f => ?_, by omega, by omega, by omega, q2, g2, ?_⟩
    · rw [e0, Re_clause_60, if_neg (show ¬ (1 : Int32) = 0 by decide), q1, w_bd, if_neg (show ¬ (1 : Int32) = 0 by decide)]
    · rw [show f + (1 + k2) = f + 1 + k2 by omega, s2, g1]
    · exact code_R q2.2.2.2.2.2.1 g2.2.2.2.2.2.2.2.2.2.1 (Sg_c u12 (fun j _ h => by rw [fset_n _ _ (by omega)]; exact ⟨rfl, rfl⟩)) (by have := q2.2.2.2.2.1.2; omega) (by omega) (fset_e _ _ _)
  · have hz : ∃ σ3, Te_put 43 σ2 = some ((), σ3) ∧ FC b nb σ0 (Re_take 43 σ3) 1 t2 := by
      by_cases hlt : c0 + N2 < 300
      · obtain ⟨σ3, p1, p2⟩ := wput_v (k := 43) (a := 0) (w := 43) u7 hlt (by unfold aI; rw [if_neg (by omega)]; rfl)
        exact ⟨σ3, p1, take_F p2 (k := 43) c ⟨h100 t2, by omega⟩⟩
      · refine ⟨σ2, ?_, take_F u7 (k := 43) c ⟨h100 t2, by omega⟩⟩
        rw [Te_put, u7.2.2.2.2.1.1, if_pos ((nI_leI (a := 300) (by omega) (by have := u7.2.2.2.2.1.2; omega)).mpr (by omega))]
    obtain ⟨σ3, p1, σ4, q1, q2⟩ := hz
    have e0 : LW σ = Re_clause_60 1 σ3 := by rw [LW, s1, w_bd, p1, w_bd, bo_1, w_ck, w_bd]
    refine Or.inl ⟨1, t2, 2 + k2, by omega, ht2, by omega, ⟨σ4, ?_, q2⟩, fun f => ?_⟩
    · rw [e0, Re_clause_60, if_neg (show ¬ (1 : Int32) = 0 by decide), q1, w_bd, if_pos rfl]
    · rw [show f + (2 + k2) = f + 2 + k2 by omega, s2]
      exact G_err u1 (by show 0 < 39; omega) hno (fun z => by have z : (1 : Nat) = 6 ∧ _ := z; omega) (fun z => by have z : (1 : Nat) = 8 ∧ _ := z; omega) (fun z => by have z : (1 : Nat) = 9 ∧ _ := z; omega) (fun z => by have z : (1 : Nat) = 4 ∧ _ := z; omega) (by show (1 : Nat) ≠ 5; omega) (fun z => c z.2) f
