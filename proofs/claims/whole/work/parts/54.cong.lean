/-! ===== the relations look at their own places alone ===== -/
theorem FolkR_cong {p0 w0 p1 w1 : Int32} {d v m h n z d' v' m' h' n' z' a a' : gx_F} {P W : Nat} (e0 : p1 = p0) (e1 : w1 = w0) (hd : ∀ p, p < 8 → d' p = d p) (hv : ∀ p, p < 8 → v' p = v p) (hm : ∀ p, p < 8 → m' p = m p) (hh : ∀ p, p < 8 → h' p = h p) (hn : ∀ p, p < 6 → n' p = n p) (hz : ∀ p, p < 6 → z' p = z p) (ha : ∀ i, i < 60 → a' i = a i) (r : FolkR p0 w0 d v m h n z a P W) : FolkR p1 w1 d' v' m' h' n' z' a' P W := by
  obtain ⟨⟨hP, hW⟩, ⟨r1, r2, r3, r4⟩, r5, r6, r7, r8⟩ := r
  refine ⟨⟨hP, hW⟩, ⟨e0.trans r1, (ha 0 (by omega)).trans r2, e1.trans r3, (ha 1 (by omega)).trans r4⟩, fun p hp => ?_, fun p hp => ?_, fun p hp => ?_, fun w hw => ?_⟩
  · rw [hd p (by omega), hv p (by omega), ha (10 + p) (by omega), ha (18 + p) (by omega)]; exact r5 p hp
  · rw [hm p hp, ha (26 + p) (by omega)]; exact r6 p hp
  · rw [hh p hp, ha (34 + p) (by omega)]; exact r7 p hp
  · rw [hn w (by omega), hz w (by omega), ha (42 + w) (by omega), ha (48 + w) (by omega)]; exact r8 w hw
theorem NightR_cong {ν ν' s s' nd nd' : gx_F} {P W H : Nat} (hP : P ≤ 8) (h : ∀ i, i < 104 → ν' i = ν i) (h2 : ∀ i, i < 104 → s' i = s i) (h3 : ∀ w, w < 6 → nd' w = nd w) (r : NightR ν s nd P W H) : NightR ν' s' nd' P W H := by
  obtain ⟨r1, r2, r3, r4, r5, ⟨r6, r7, r8⟩, r9, r10, r11, r12, r13⟩ := r
  refine ⟨fun p hp => ?_, fun p hp => ?_, fun p hp hq => ?_, fun q hq => ?_, fun w hw => ?_, ⟨?_, ?_, ?_⟩, ?_, fun p hp => ?_, fun p hp => ?_, fun p q hp hq => ?_, fun w hw => ?_⟩
  · rw [h p (by omega), h (16 + p) (by omega), h (24 + p) (by omega), h2 p (by omega), h2 (16 + p) (by omega), h2 (24 + p) (by omega)]; exact r1 p hp
  · rw [h (8 + p) (by omega), h2 (8 + p) (by omega)]; exact r2 p hp
  · rw [h p (by omega), h (8 + p) (by omega), h (16 + p) (by omega), h (24 + p) (by omega)]; exact r3 p hp hq
  · rw [h (32 + q) (by omega), h2 (38 + q) (by omega)]; exact r4 q hq
  · rw [h (96 + w) (by omega), h2 (32 + w) (by omega)]; exact r5 w hw
  · rw [h 102 (by omega), h2 102 (by omega)]; exact r6
  · rw [h 103 (by omega), h2 103 (by omega)]; exact r7
  · rw [h 102 (by omega)]; exact r8
  · rw [h 103 (by omega)]; exact r9
  · rw [h p (by omega), h (8 + p) (by omega)]; exact r10 p hp
  · rw [h (16 + p) (by omega), h (24 + p) (by omega)]; exact r11 p hp
  · rw [h (32 + (8 * p + q)) (by omega)]; exact r12 p q hp hq
  · rw [h (96 + w) (by omega), h3 w hw]; exact r13 w hw
theorem KeptR_cong {log log' s s' : gx_F} {H : Nat} (h : ∀ i, i < H → log' i = log i) (h2 : ∀ i, 104 ≤ i → i < 284 → s' i = s i) (r : KeptR log s H) : KeptR log' s' H := by
  intro k hk hk2
  have e : k % 60 < 60 := Nat.mod_lt _ (by omega)
  rw [h k hk, h2 _ (by omega) (by omega), h2 _ (by omega) (by omega), h2 _ (by omega) (by omega)]
  exact r k hk hk2
theorem StepsR_cong {rows log nd a rows' log' nd' a' : gx_F} {P W H K O : Nat} (hP : P ≤ 8) (h : ∀ i, i < 3120 → rows' i = rows i) (hl : ∀ i, i < H → log' i = log i) (hn : ∀ w, w < 6 → nd' w = nd w) (ha : ∀ i, 360 ≤ i → i < 8880 → a' i = a i) (r : StepsR rows log nd a P W H K O) : StepsR rows' log' nd' a' P W H K O := by
  obtain ⟨hK, hO, hs, r1, r2⟩ := r
  refine ⟨hK, hO, hs, fun k hk => ?_, r2⟩
  obtain ⟨q1, q2, q3⟩ := r1 k hk
  have e : (O + k) % 30 < 30 := Nat.mod_lt _ (by omega)
  exact ⟨NightR_cong hP (fun i hi => h _ (by omega)) (fun i hi => ha _ (by omega) (by omega)) hn q1, KeptR_cong (fun i hi => hl i (by omega)) (fun i h1 h2 => ha _ (by omega) (by omega)) q2, q3⟩
theorem nuC_i {σ σ' : gx_R} {b b' : Nat} (h : ∀ k, 1 ≤ k → k ≤ 6 → ∀ j, j < (if k = 5 then 64 else if k = 6 then 6 else 8) → σ' (b' + k) j = σ (b + k) j) (h6 : σ' b' 6 = σ b 6) (h7 : σ' b' 7 = σ b 7) {i : Nat} (hi : i < 104) : nuC σ' b' i = nuC σ b i := by
  have q1 := h 1 (by omega) (by omega)
  have q2 := h 2 (by omega) (by omega)
  have q3 := h 3 (by omega) (by omega)
  have q4 := h 4 (by omega) (by omega)
  have q5 := h 5 (by omega) (by omega)
  have q6 := h 6 (by omega) (by omega)
  unfold nuC
  grind
/-- what a public method must do -/
def SimP (f g : gx_R → Option (Int32 × gx_R)) (σ τ : gx_R) : Prop := ∃ v σ' τ', f σ = some (v, σ') ∧ g τ = some (v, τ') ∧ Rel σ' τ' ∧ (∀ k, 109 ≤ k → σ' k = σ k) ∧ ∀ k, k < 109 → τ' k = τ k
theorem SimP_ro {f g : gx_R → Option (Int32 × gx_R)} {σ τ : gx_R} (r : Rel σ τ) (v : Int32) (h1 : f σ = some (v, σ)) (h2 : g τ = some (v, τ)) : SimP f g σ τ := ⟨v, σ, τ, h1, h2, r, fun _ _ => rfl, fun _ _ => rfl⟩
theorem SimP_sc {f g : gx_R → Option (Int32 × gx_R)} {σ τ σ' τ' : gx_R} (r : Rel σ τ) (v : Int32) (h1 : f σ = some (v, σ')) (h2 : g τ = some (v, τ')) (h3 : sc σ σ') (h4 : sm τ τ') : SimP f g σ τ := ⟨v, σ', τ', h1, h2, Rel_fr h3 h4 r, fun k hk => h3 k (by omega), fun k hk => h4.1 k (by omega)⟩
/-! ===== answers that read alone ===== -/
theorem Fo_isWork_v {σ : gx_R} {W : Nat} (h : σ 2 1 = nI W) (hW : W ≤ 6) (a : Int32) : Fo_isWork a σ = some (bI (z_ix a W), σ) := by
  have e := ix_lt (a := a) (n := W) (by omega)
  have h3 : nI W ≤ 6 := by rw [L_6]; exact nI_le hW (by omega)
  grind [Fo_isWork, bI]
theorem Md_isWork_v {τ : gx_R} {W : Nat} (h : τ 110 1 = nI W) (hW : W ≤ 6) (a : Int32) : Md_isWork a τ = some (bI (z_ix a W), τ) := by
  have e := ix_lt (a := a) (n := W) (by omega)
  have h3 : nI W ≤ 6 := by rw [L_6]; exact nI_le hW (by omega)
  have h4 : (0 : Int32) ≤ nI W := nI_pos' (by omega)
  have h5 : (1 : Int32).toNatClampNeg = 1 := rfl
  unfold Md_isWork
  rw [h5, h, Md_in_v, w_bd, bI_bo, w_ck]
  have : decide (¬ a < 0 ∧ ¬ nI W - 1 < a) = z_ix a W := by
    cases hz : z_ix a W <;> rw [hz] at e <;> grind
  rw [this]
theorem S_ofWork {σ τ : gx_R} (r : Rel σ τ) (a1 a2 : Int32) : SimP (Sf_ofWork a1 a2) (Md_ofWork a1 a2) σ τ := by
  obtain ⟨P, W, H, K, T, P', W', H', K', T', ⟨rf, rn, -, -, -, -, -, -, -⟩, -⟩ := id r
  obtain ⟨⟨hP, hW⟩, ⟨f1, f2, f3, f4⟩, -, -, -, f8⟩ := rf
  obtain ⟨-, -, -, -, n5, -⟩ := rn
  cases hz : z_ix a1 W with
  | false =>
    refine SimP_ro r (-1) ?_ ?_
    · rw [Sf_ofWork, Fo_isWork_v f3 hW, hz]; rfl
    · rw [Md_ofWork, Md_isWork_v f4 hW, hz]; rfl
  | true =>
    obtain ⟨w, hw, rfl⟩ := ix_ex hz (by omega)
    obtain ⟨x, y, -, -, -, g1, g2, g3, g4⟩ := f8 w hw
    have g5 := n5 w (by omega)
    have h6 : w < 6 := by omega
    have h7 : 42 + w < 8880 := by omega
    have h8 : 48 + w < 8880 := by omega
    have h9 : 92 + w < 8880 := by omega
    rw [nu_n σ _ h6] at g5
    have g6 : τ 110 (92 + w) = σ 15 w := by rw [← g5]; congr 1; omega
    refine SimP_ro r (if a2 = 0 then nI x else if a2 = 1 then nI y else if a2 = 2 then σ 15 w else -1) ?_ ?_
    · rw [Sf_ofWork, Fo_isWork_v f3 hW, hz]
      simp (disch := omega) only [w_bd, w_ck, bI_0, bI_1, bI_bo, bo_0, bo_1, decide_true, decide_false, if_true, if_false, ite_true, ite_false, not_true_eq_false, not_false_eq_true, Bool.true_eq_false, Bool.false_eq_true, z_c0, z_c1, nI_leI, nI_ltI, nI_eq, ix_n, cl_n, nI_add, pk_mul, nI_1, n_lt0, n_0le, n_le0, n_0lt, n_eq0, n_1le, n_le1, n_lt1, n_1lt, n_eq1, n_m1, n_m1a, L_2, L_3, L_4, L_5, L_6, L_7, L_8, L_9, L_10, L_11, L_12, L_14, L_15, L_16, L_17, L_18, L_20, L_21, L_24, L_26, L_30, L_32, L_34, L_35, L_36, L_37, L_38, L_39, L_40, L_41, L_42, L_43, L_44, L_45, L_46, L_47, L_48, L_57, L_59, L_60, L_61, L_62, L_64, L_65, L_68, L_76, L_80, L_84, L_90, L_92, L_96, L_97, L_98, L_99, L_100, L_104, L_122, L_139, L_140, L_162, L_163, L_164, L_200, L_241, L_255, L_256, L_280, L_284, L_300, L_301, L_303, L_309, L_360, L_400, L_401, L_402, L_403, L_404, L_405, L_406, L_407, L_408, L_999, L_1600, L_3120, L_8596, L_8880, L_9999, L_10000, L_30211, L_99999, L_1000000, bI, h6, show (1 : Nat) + 6 = 7 from rfl] at g1 g3 ⊢
      grind
    · rw [Md_ofWork, Md_isWork_v f4 hW, hz]
      simp (disch := omega) only [w_bd, w_ck, bI_0, bI_1, bI_bo, bo_0, bo_1, decide_true, decide_false, if_true, if_false, ite_true, ite_false, not_true_eq_false, not_false_eq_true, Bool.true_eq_false, Bool.false_eq_true, z_c0, z_c1, nI_leI, nI_ltI, nI_eq, ix_n, cl_n, nI_add, pk_mul, nI_1, n_lt0, n_0le, n_le0, n_0lt, n_eq0, n_1le, n_le1, n_lt1, n_1lt, n_eq1, n_m1, n_m1a, L_2, L_3, L_4, L_5, L_6, L_7, L_8, L_9, L_10, L_11, L_12, L_14, L_15, L_16, L_17, L_18, L_20, L_21, L_24, L_26, L_30, L_32, L_34, L_35, L_36, L_37, L_38, L_39, L_40, L_41, L_42, L_43, L_44, L_45, L_46, L_47, L_48, L_57, L_59, L_60, L_61, L_62, L_64, L_65, L_68, L_76, L_80, L_84, L_90, L_92, L_96, L_97, L_98, L_99, L_100, L_104, L_122, L_139, L_140, L_162, L_163, L_164, L_200, L_241, L_255, L_256, L_280, L_284, L_300, L_301, L_303, L_309, L_360, L_400, L_401, L_402, L_403, L_404, L_405, L_406, L_407, L_408, L_999, L_1600, L_3120, L_8596, L_8880, L_9999, L_10000, L_30211, L_99999, L_1000000, bI, h7, h8, h9]
      grind
