/-! ===== person, work, may, hears ===== -/
theorem Valley_folk {σ σ' : gx_R} {a a' : gx_F} {P W P' W' H K T : Nat} (hf : FolkR (σ' 2 0) (σ' 2 1) (σ' 3) (σ' 4) (σ' 5) (σ' 6) (σ' 7) (σ' 8) a' P' W') (hs : ∀ c, 1 ≤ c → c ≤ 18 → ¬ (2 ≤ c ∧ c ≤ 8) → σ' c = σ c)
    (hn : ∀ o ν h, (o = 60 ∨ ∃ k, k < K ∧ o = 360 + 284 * k) → NightR ν (fun i => a (o + i)) (σ 7) P W h → NightR ν (fun i => a' (o + i)) (σ' 7) P' W' h)
    (hk : ∀ o i, (o = 60 ∨ ∃ k, k < K ∧ o = 360 + 284 * k) → 104 ≤ i → i < 284 → a' (o + i) = a (o + i)) (h2 : a' 2 = a 2 ∧ a' 3 = a 3 ∧ a' 4 = a 4) (r : ValleyR σ 1 a P W H K T) : ValleyR σ' 1 a' P' W' H K T := by
  obtain ⟨r1, r2, r3, r4, ⟨O, r5, r6⟩, ⟨r7, r8⟩, ⟨r9, r10, r11⟩, r12, r13⟩ := r
  refine ⟨hf, ?_, r3, ?_, ⟨O, ?_, ?_⟩, ⟨?_, ?_⟩, ⟨?_, ?_, r11⟩, ?_, ?_⟩
  · show NightR (nuC σ' 9) (fun i => a' (60 + i)) (σ' 7) P' W' H
    rw [nuC_fr (σ := σ) (fun k h1 h2 => hs k (by omega) (by omega) (by omega))]
    exact hn 60 _ H (Or.inl rfl) r2
  · show KeptR (σ' 18) (fun i => a' (60 + i)) H
    rw [hs 18 (by omega) (by omega) (by omega)]
    exact KeptR_cong (fun _ _ => rfl) (fun i h1 h3 => hk 60 i (Or.inl rfl) h1 h3) r4
  · show σ' 16 1 = nI O
    rw [hs 16 (by omega) (by omega) (by omega)]; exact r5
  · show StepsR (σ' 17) (σ' 18) (σ' 7) a' P' W' H K O
    rw [hs 17 (by omega) (by omega) (by omega), hs 18 (by omega) (by omega) (by omega)]
    obtain ⟨k1, k2, hh, k3, k4⟩ := r6
    refine ⟨k1, k2, hh, fun k hk2 => ?_, k4⟩
    obtain ⟨n1, n2, n3⟩ := k3 k hk2
    exact ⟨hn (360 + 284 * k) _ _ (Or.inr ⟨k, hk2, rfl⟩) n1, KeptR_cong (fun _ _ => rfl) (fun i h1 h3 => hk (360 + 284 * k) i (Or.inr ⟨k, hk2, rfl⟩) h1 h3) n2, n3⟩
  · show σ' 16 2 = nI K
    rw [hs 16 (by omega) (by omega) (by omega)]; exact r7
  · rw [h2.2.2]; exact r8
  · rw [hs 1 (by omega) (by omega) (by omega)]; exact r9
  · rw [h2.1]; exact r10
  · rw [h2.2.1, hs 1 (by omega) (by omega) (by omega)]; exact r12
  · rw [hs 1 (by omega) (by omega) (by omega)]; exact r13
theorem FolkR_may {p0 w0 : Int32} {d v m h n z m' a a' : gx_F} {P W p q : Nat} (hp : p < P) (hq : q < P) (hne : p ≠ q) (r : FolkR p0 w0 d v m h n z a P W) (h1 : ∀ j, m' j = if j = p then m p ||| (1 : Int32) <<< (nI q &&& 31) else m j) (h2 : ∀ j, a' j = if j = 26 + p then m p ||| (1 : Int32) <<< (nI q &&& 31) else a j) : FolkR p0 w0 d v m' h n z a' P W := by
  obtain ⟨⟨hP, hW⟩, ⟨r1, r2, r3, r4⟩, r5, r6, r7, r8⟩ := r
  refine ⟨⟨hP, hW⟩, ⟨r1, by rw [h2, if_neg (by omega)]; exact r2, r3, by rw [h2, if_neg (by omega)]; exact r4⟩, fun i hi => ?_, fun i hi => ?_, fun i hi => ?_, fun w hw => ?_⟩
  · rw [h2 (10 + i), h2 (18 + i), if_neg (by omega), if_neg (by omega)]; exact r5 i hi
  · rw [h2 (26 + i), h1 i]
    by_cases e : i = p
    · subst e
      rw [if_pos rfl, if_pos rfl]
      refine ⟨rfl, fun j hj hb => ?_⟩
      rw [b_or, b_bit (by omega) hj, Bool.or_eq_true, decide_eq_true_eq] at hb
      rcases hb with hb | hb
      · exact (r6 i hi).2 j hj hb
      · subst hb; exact ⟨hq, fun z => hne z.symm, hp⟩
    · rw [if_neg (by omega), if_neg e]; exact r6 i hi
  · rw [h2 (34 + i), if_neg (by omega)]; exact r7 i hi
  · rw [h2 (42 + w), h2 (48 + w), if_neg (by omega), if_neg (by omega)]; exact r8 w hw
theorem FolkR_hears {p0 w0 : Int32} {d v m h n z h' a a' : gx_F} {P W p q : Nat} (hp : p < P) (hq : q < P) (hne : p ≠ q) (r : FolkR p0 w0 d v m h n z a P W) (h1 : ∀ j, h' j = if j = p then h p ||| (1 : Int32) <<< (nI q &&& 31) else h j) (h2 : ∀ j, a' j = if j = 34 + p then h p ||| (1 : Int32) <<< (nI q &&& 31) else a j) : FolkR p0 w0 d v m h' n z a' P W := by
  obtain ⟨⟨hP, hW⟩, ⟨r1, r2, r3, r4⟩, r5, r6, r7, r8⟩ := r
  refine ⟨⟨hP, hW⟩, ⟨r1, by rw [h2, if_neg (by omega)]; exact r2, r3, by rw [h2, if_neg (by omega)]; exact r4⟩, fun i hi => ?_, fun i hi => ?_, fun i hi => ?_, fun w hw => ?_⟩
  · rw [h2 (10 + i), h2 (18 + i), if_neg (by omega), if_neg (by omega)]; exact r5 i hi
  · rw [h2 (26 + i), if_neg (by omega)]; exact r6 i hi
  · rw [h2 (34 + i), h1 i]
    by_cases e : i = p
    · subst e
      rw [if_pos rfl, if_pos rfl]
      refine ⟨rfl, fun j hj hb => ?_⟩
      rw [b_or, b_bit (by omega) hj, Bool.or_eq_true, decide_eq_true_eq] at hb
      rcases hb with hb | hb
      · exact (r7 i hi).2 j hj hb
      · subst hb; exact ⟨hq, fun z => hne z.symm, hp⟩
    · rw [if_neg (by omega), if_neg e]; exact r7 i hi
  · rw [h2 (42 + w), h2 (48 + w), if_neg (by omega), if_neg (by omega)]; exact r8 w hw
theorem S_may {σ τ : gx_R} (r : Rel σ τ) (a1 a2 : Int32) : SimP (Sf_may a1 a2) (Md_may a1 a2) σ τ := by
  obtain ⟨P, W, H, K, T, P', W', H', K', T', rr⟩ := id r
  have r1 := rr.1
  have hP := r1.1.1.1
  have p1 : σ 2 0 = nI P := r1.1.2.1.1
  have p2 := r1.1.2.1.2.1
  cases hz : z_ix a1 P with
  | false =>
    refine SimP_ro r 0 ?_ ?_
    · rw [Sf_may, areUnlike_v p1 hP, hz, w_bd, Bool.false_and, Bool.and_false, bI_f, if_pos rfl]
    · rw [Md_may, Md_isPerson_v p2 hP, hz, w_bd, bI_f, if_pos rfl]
  | true =>
    cases hw : z_ix a2 P with
    | false =>
      refine SimP_ro r 0 ?_ ?_
      · rw [Sf_may, areUnlike_v p1 hP, hw, w_bd, Bool.and_false, Bool.and_false, bI_f, if_pos rfl]
      · rw [Md_may, Md_isPerson_v p2 hP, hz, w_bd, bI_t, if_neg (by decide), Md_isPerson_v p2 hP, hw, w_bd, bI_f, if_pos rfl]
    | true =>
      obtain ⟨p, hp, rfl⟩ := ix_ex hz (by omega)
      obtain ⟨q, hq, rfl⟩ := ix_ex hw (by omega)
      by_cases e : p = q
      · refine SimP_ro r 0 ?_ ?_
        · rw [Sf_may, areUnlike_v p1 hP, decide_eq_true (show nI p = nI q by rw [e]), w_bd, if_pos (by rw [Bool.not_true, Bool.false_and, bI_f])]
        · rw [Md_may, Md_isPerson_v p2 hP, hz, w_bd, bI_t, if_neg (by decide), Md_isPerson_v p2 hP, hw, w_bd, bI_t, if_neg (by decide), if_pos (show nI p = nI q by rw [e])]
      · have en : ¬ nI p = nI q := fun z => e ((nI_eq (by omega) (by omega)).mp z)
        have c1 : p < 8 := by omega
        have c2 : 26 + p < 8880 := by omega
        have m1 : τ 110 (26 + p) = σ 5 p := (r1.1.2.2.2.1 p (by omega)).1
        have mda : Md_may (nI p) (nI q) τ = if bI (bt (σ 5 p) q) = 0 then some (1, gx_up τ 110 (26 + p) (σ 5 p ||| (1 : Int32) <<< (nI q &&& 31))) else some (0, τ) := by
          rw [Md_may, Md_isPerson_v p2 hP, hz, w_bd, bI_t, if_neg (by decide), Md_isPerson_v p2 hP, hw, w_bd, bI_t, if_neg (by decide), if_neg en]
          simp (disch := omega) only [z_c0, z_c1, nI_leI, nI_ltI, nI_eq, ix_n, cl_n, nI_add, pk_mul, nI_1, n_lt0, n_0le, n_le0, n_0lt, n_eq0, n_1le, n_le1, n_lt1, n_1lt, n_eq1, n_m1, n_m1a, L_2, L_3, L_4, L_5, L_6, L_7, L_8, L_9, L_10, L_11, L_12, L_14, L_15, L_16, L_17, L_18, L_20, L_21, L_24, L_26, L_30, L_32, L_34, L_35, L_36, L_37, L_38, L_39, L_40, L_41, L_42, L_43, L_44, L_45, L_46, L_47, L_48, L_57, L_59, L_60, L_61, L_62, L_64, L_65, L_68, L_76, L_80, L_84, L_90, L_92, L_96, L_97, L_98, L_99, L_100, L_104, L_122, L_139, L_140, L_162, L_163, L_164, L_200, L_241, L_255, L_256, L_280, L_284, L_300, L_301, L_303, L_309, L_360, L_400, L_401, L_402, L_403, L_404, L_405, L_406, L_407, L_408, L_999, L_1600, L_3120, L_8596, L_8880, L_9999, L_10000, L_30211, L_99999, L_1000000, c2, m1, Md_has_v, w_bd, w_ck, bI_0, bI_1, bI_bo, bo_0, bo_1, decide_true, decide_false, if_true, if_false, ite_true, ite_false, not_true_eq_false, not_false_eq_true, Bool.true_eq_false, Bool.false_eq_true]
        have cla : Sf_may (nI p) (nI q) σ = if bt (σ 5 p) q = true then some (0, σ) else some (1, gx_up σ 5 p (σ 5 p ||| (1 : Int32) <<< (nI q &&& 31))) := by
          rw [Sf_may, areUnlike_v p1 hP, hz, hw, w_bd, decide_eq_false en, if_neg (by decide)]
          simp (disch := omega) only [ix_n, cl_n, c1, h_1, w_bd, w_ck, bI_0, bI_1, bI_bo, bo_0, bo_1, decide_true, decide_false, if_true, if_false, ite_true, ite_false, not_true_eq_false, not_false_eq_true, Bool.true_eq_false, Bool.false_eq_true]
        cases hb : bt (σ 5 p) q with
        | true => exact SimP_ro r 0 (by rw [cla, hb, if_pos rfl]) (by rw [mda, hb, bI_t, if_neg (by decide)])
        | false =>
          refine ⟨1, _, _, by rw [cla, hb, if_neg (by decide)], by rw [mda, hb, bI_f, if_pos rfl], ?_, fun c hc => gx_up_ne (by omega), fun c hc => gx_up_ne (by omega)⟩
          have V : ValleyR (gx_up σ 5 p (σ 5 p ||| (1 : Int32) <<< (nI q &&& 31))) 1 (gx_up τ 110 (26 + p) (σ 5 p ||| (1 : Int32) <<< (nI q &&& 31)) 110) P W H K T := by
            refine Valley_folk ?_ (fun c y1 y2 y3 => gx_up_ne (by omega)) (fun o ν h ho hn => NightR_cong hP (fun _ _ => rfl) (fun i hi => up_p _ _ _ (by omega)) (fun w hw => congrFun (gx_up_ne (by omega)) w) hn) (fun o i ho y1 y2 => up_p _ _ _ (by omega)) ⟨up_p _ _ _ (by omega), up_p _ _ _ (by omega), up_p _ _ _ (by omega)⟩ r1
            rw [gx_up_ne (show (2 : Nat) ≠ 5 by omega), gx_up_ne (show (3 : Nat) ≠ 5 by omega), gx_up_ne (show (4 : Nat) ≠ 5 by omega), gx_up_ne (show (6 : Nat) ≠ 5 by omega), gx_up_ne (show (7 : Nat) ≠ 5 by omega), gx_up_ne (show (8 : Nat) ≠ 5 by omega)]
            exact FolkR_may hp hq e r1.1 (fun j => up_row _ _ _ _ _) (fun j => up_row _ _ _ _ _)
          exact Rel_mk V (fun c y1 y2 => gx_up_ne (by omega)) ⟨fun c y1 => gx_up_ne (by omega), fun j hj => congrFun (gx_up_ne (by omega)) j⟩ rr
theorem S_hears {σ τ : gx_R} (r : Rel σ τ) (a1 a2 : Int32) : SimP (Sf_hears a1 a2) (Md_hears a1 a2) σ τ := by
  obtain ⟨P, W, H, K, T, P', W', H', K', T', rr⟩ := id r
  have r1 := rr.1
  have hP := r1.1.1.1
  have p1 : σ 2 0 = nI P := r1.1.2.1.1
  have p2 := r1.1.2.1.2.1
  cases hz : z_ix a1 P with
  | false =>
    refine SimP_ro r 0 ?_ ?_
    · rw [Sf_hears, areUnlike_v p1 hP, hz, w_bd, Bool.false_and, Bool.and_false, bI_f, if_pos rfl]
    · rw [Md_hears, Md_isPerson_v p2 hP, hz, w_bd, bI_f, if_pos rfl]
  | true =>
    cases hw : z_ix a2 P with
    | false =>
      refine SimP_ro r 0 ?_ ?_
      · rw [Sf_hears, areUnlike_v p1 hP, hw, w_bd, Bool.and_false, Bool.and_false, bI_f, if_pos rfl]
      · rw [Md_hears, Md_isPerson_v p2 hP, hz, w_bd, bI_t, if_neg (by decide), Md_isPerson_v p2 hP, hw, w_bd, bI_f, if_pos rfl]
    | true =>
      obtain ⟨p, hp, rfl⟩ := ix_ex hz (by omega)
      obtain ⟨q, hq, rfl⟩ := ix_ex hw (by omega)
      by_cases e : p = q
      · refine SimP_ro r 0 ?_ ?_
        · rw [Sf_hears, areUnlike_v p1 hP, decide_eq_true (show nI p = nI q by rw [e]), w_bd, if_pos (by rw [Bool.not_true, Bool.false_and, bI_f])]
        · rw [Md_hears, Md_isPerson_v p2 hP, hz, w_bd, bI_t, if_neg (by decide), Md_isPerson_v p2 hP, hw, w_bd, bI_t, if_neg (by decide), if_pos (show nI p = nI q by rw [e])]
      · have en : ¬ nI p = nI q := fun z => e ((nI_eq (by omega) (by omega)).mp z)
        have c1 : p < 8 := by omega
        have c3 : q < 8 := by omega
        have c2 : 34 + p < 8880 := by omega
        have c4 : 34 + q < 8880 := by omega
        have m1 : τ 110 (34 + p) = σ 6 p := (r1.1.2.2.2.2.1 p (by omega)).1
        have m2 : τ 110 (34 + q) = σ 6 q := (r1.1.2.2.2.2.1 q (by omega)).1
        have mda : Md_hears (nI p) (nI q) τ = if bI (bt (σ 6 p) q) = 0 then some (1, gx_up (gx_up τ 110 (34 + p) (σ 6 p ||| (1 : Int32) <<< (nI q &&& 31))) 110 (34 + q) (σ 6 q ||| (1 : Int32) <<< (nI p &&& 31))) else some (0, τ) := by
          rw [Md_hears, Md_isPerson_v p2 hP, hz, w_bd, bI_t, if_neg (by decide), Md_isPerson_v p2 hP, hw, w_bd, bI_t, if_neg (by decide), if_neg en]
          simp (disch := omega) only [z_c0, z_c1, nI_leI, nI_ltI, nI_eq, ix_n, cl_n, nI_add, pk_mul, nI_1, n_lt0, n_0le, n_le0, n_0lt, n_eq0, n_1le, n_le1, n_lt1, n_1lt, n_eq1, n_m1, n_m1a, L_2, L_3, L_4, L_5, L_6, L_7, L_8, L_9, L_10, L_11, L_12, L_14, L_15, L_16, L_17, L_18, L_20, L_21, L_24, L_26, L_30, L_32, L_34, L_35, L_36, L_37, L_38, L_39, L_40, L_41, L_42, L_43, L_44, L_45, L_46, L_47, L_48, L_57, L_59, L_60, L_61, L_62, L_64, L_65, L_68, L_76, L_80, L_84, L_90, L_92, L_96, L_97, L_98, L_99, L_100, L_104, L_122, L_139, L_140, L_162, L_163, L_164, L_200, L_241, L_255, L_256, L_280, L_284, L_300, L_301, L_303, L_309, L_360, L_400, L_401, L_402, L_403, L_404, L_405, L_406, L_407, L_408, L_999, L_1600, L_3120, L_8596, L_8880, L_9999, L_10000, L_30211, L_99999, L_1000000, c2, c4, m1, m2, Md_has_v, up_p, w_bd, w_ck, bI_0, bI_1, bI_bo, bo_0, bo_1, decide_true, decide_false, if_true, if_false, ite_true, ite_false, not_true_eq_false, not_false_eq_true, Bool.true_eq_false, Bool.false_eq_true]
        have cla : Sf_hears (nI p) (nI q) σ = if bt (σ 6 p) q = true then some (0, σ) else some (1, gx_up (gx_up σ 6 p (σ 6 p ||| (1 : Int32) <<< (nI q &&& 31))) 6 q (σ 6 q ||| (1 : Int32) <<< (nI p &&& 31))) := by
          rw [Sf_hears, areUnlike_v p1 hP, hz, hw, w_bd, decide_eq_false en, if_neg (by decide)]
          simp (disch := omega) only [ix_n, cl_n, c1, c3, h_1, up_p, w_bd, w_ck, bI_0, bI_1, bI_bo, bo_0, bo_1, decide_true, decide_false, if_true, if_false, ite_true, ite_false, not_true_eq_false, not_false_eq_true, Bool.true_eq_false, Bool.false_eq_true]
        cases hb : bt (σ 6 p) q with
        | true => exact SimP_ro r 0 (by rw [cla, hb, if_pos rfl]) (by rw [mda, hb, bI_t, if_neg (by decide)])
        | false =>
          refine ⟨1, _, _, by rw [cla, hb, if_neg (by decide)], by rw [mda, hb, bI_f, if_pos rfl], ?_, fun c hc => by rw [gx_up_ne (by omega), gx_up_ne (by omega)], fun c hc => by rw [gx_up_ne (by omega), gx_up_ne (by omega)]⟩
          have V : ValleyR (gx_up (gx_up σ 6 p (σ 6 p ||| (1 : Int32) <<< (nI q &&& 31))) 6 q (σ 6 q ||| (1 : Int32) <<< (nI p &&& 31))) 1 (gx_up (gx_up τ 110 (34 + p) (σ 6 p ||| (1 : Int32) <<< (nI q &&& 31))) 110 (34 + q) (σ 6 q ||| (1 : Int32) <<< (nI p &&& 31)) 110) P W H K T := by
            refine Valley_folk ?_ (fun c y1 y2 y3 => by rw [gx_up_ne (by omega), gx_up_ne (by omega)]) (fun o ν h ho hn => NightR_cong hP (fun _ _ => rfl) (fun i hi => by rw [up_p _ _ _ (by omega), up_p _ _ _ (by omega)]) (fun w hw => by rw [gx_up_ne (by omega), gx_up_ne (by omega)]) hn) (fun o i ho y1 y2 => by rw [up_p _ _ _ (by omega), up_p _ _ _ (by omega)]) ⟨by rw [up_p _ _ _ (by omega), up_p _ _ _ (by omega)], by rw [up_p _ _ _ (by omega), up_p _ _ _ (by omega)], by rw [up_p _ _ _ (by omega), up_p _ _ _ (by omega)]⟩ r1
            rw [gx_up_ne (show (2 : Nat) ≠ 6 by omega), gx_up_ne (show (3 : Nat) ≠ 6 by omega), gx_up_ne (show (4 : Nat) ≠ 6 by omega), gx_up_ne (show (5 : Nat) ≠ 6 by omega), gx_up_ne (show (7 : Nat) ≠ 6 by omega), gx_up_ne (show (8 : Nat) ≠ 6 by omega), gx_up_ne (show (2 : Nat) ≠ 6 by omega), gx_up_ne (show (3 : Nat) ≠ 6 by omega), gx_up_ne (show (4 : Nat) ≠ 6 by omega), gx_up_ne (show (5 : Nat) ≠ 6 by omega), gx_up_ne (show (7 : Nat) ≠ 6 by omega), gx_up_ne (show (8 : Nat) ≠ 6 by omega)]
            have F1 := FolkR_hears (h' := gx_up σ 6 p (σ 6 p ||| (1 : Int32) <<< (nI q &&& 31)) 6) (a' := gx_up τ 110 (34 + p) (σ 6 p ||| (1 : Int32) <<< (nI q &&& 31)) 110) hp hq e r1.1 (fun j => up_row _ _ _ _ _) (fun j => up_row _ _ _ _ _)
            refine FolkR_hears hq hp (fun z => e z.symm) F1 (fun j => ?_) (fun j => ?_)
            · rw [up_row, up_p σ 6 (σ 6 p ||| (1 : Int32) <<< (nI q &&& 31)) (show q ≠ p by omega)]
            · rw [up_row, up_p σ 6 (σ 6 p ||| (1 : Int32) <<< (nI q &&& 31)) (show q ≠ p by omega)]
          exact Rel_mk V (fun c y1 y2 => by rw [gx_up_ne (by omega), gx_up_ne (by omega)]) ⟨fun c y1 => by rw [gx_up_ne (by omega), gx_up_ne (by omega)], fun j hj => by rw [gx_up_ne (by omega), gx_up_ne (by omega)]⟩ rr
theorem NightR_work {ν s nd nd' : gx_F} {P W H : Nat} (hW : W < 6) {x : Nat} (h1 : ∀ w, nd' w = if w = W then nI x else nd w) (hx : x ≤ 99) (r : NightR ν s nd P W H) : NightR ν s nd' P (W + 1) H := by
  obtain ⟨r1, r2, r3, r4, r5, r6, r9, r10, r11, r12, r13⟩ := r
  refine ⟨r1, r2, r3, r4, r5, r6, r9, fun i hi => ?_, r11, r12, fun i hi => ?_⟩
  · rcases r10 i hi with q | ⟨q, w, hw, q2⟩ | q
    · exact Or.inl q
    · exact Or.inr (Or.inl ⟨q, w, by omega, q2⟩)
    · exact Or.inr (Or.inr q)
  · obtain ⟨y, q1, q2, q3, q4⟩ := r13 i hi
    refine ⟨y, q1, q2, fun z => q3 (by omega), fun z => ?_⟩
    rw [h1]
    by_cases e : i = W
    · rw [if_pos e, q3 (by omega), nI_leI (by omega) (by omega)]; omega
    · rw [if_neg e]; exact q4 (by omega)
theorem in_nat {a : Int32} {l u : Nat} (hu : u < 2 ^ 31) (hl : l ≤ u) (h1 : ¬ a < nI l) (h2 : ¬ nI u < a) : ∃ k, l ≤ k ∧ k ≤ u ∧ a = nI k := by
  have h0 : (0 : Int32) ≤ nI l := by rw [← nI_0, nI_leI (by omega) (by omega)]; omega
  obtain ⟨k, hk, rfl⟩ := nI_of (x := a) (by grind)
  rw [nI_ltI (by omega) (by omega)] at h1 h2
  exact ⟨k, by omega, by omega, rfl⟩
theorem Sf_work_v (a1 a2 : Int32) (σ : gx_R) : Sf_work a1 a2 σ = if ¬ a1 < 1 ∧ ¬ (99 : Int32) < a1 ∧ ¬ a2 < 0 ∧ ¬ (9 : Int32) < a2 then Sf_work_18 a1 a2 1 σ else some (-1, σ) := by
  have e : Sf_work_17 Sf_work_18 a1 a2 σ = some (-1, σ) := rfl
  unfold Sf_work
  rw [e]
  by_cases h1 : a1 < 1
  · rw [if_pos h1, if_neg (fun z => z.1 h1)]
  · rw [if_neg h1]
    by_cases h2 : (99 : Int32) < a1
    · rw [if_pos h2, if_neg (fun z => z.2.1 h2)]
    · rw [if_neg h2]
      by_cases h3 : a2 < 0
      · rw [if_pos h3, if_neg (fun z => z.2.2.1 h3)]
      · rw [if_neg h3]
        by_cases h4 : (9 : Int32) < a2
        · rw [if_pos h4, if_neg (fun z => z.2.2.2 h4)]
        · rw [if_neg h4, if_pos ⟨h1, h2, h3, h4⟩]
theorem Sf_person_v (a1 a2 : Int32) (σ : gx_R) : Sf_person a1 a2 σ = if ¬ a1 < 0 ∧ ¬ (9 : Int32) < a1 ∧ ¬ a2 < 0 ∧ ¬ (9 : Int32) < a2 then Sf_person_17 a1 a2 1 σ else some (-1, σ) := by
  have e : Sf_person_16 Sf_person_17 a1 a2 σ = some (-1, σ) := rfl
  unfold Sf_person
  rw [e]
  by_cases h1 : a1 < 0
  · rw [if_pos h1, if_neg (fun z => z.1 h1)]
  · rw [if_neg h1]
    by_cases h2 : (9 : Int32) < a1
    · rw [if_pos h2, if_neg (fun z => z.2.1 h2)]
    · rw [if_neg h2]
      by_cases h3 : a2 < 0
      · rw [if_pos h3, if_neg (fun z => z.2.2.1 h3)]
      · rw [if_neg h3]
        by_cases h4 : (9 : Int32) < a2
        · rw [if_pos h4, if_neg (fun z => z.2.2.2 h4)]
        · rw [if_neg h4, if_pos ⟨h1, h2, h3, h4⟩]
theorem S_work {σ τ : gx_R} (r : Rel σ τ) (a1 a2 : Int32) : SimP (Sf_work a1 a2) (Md_work a1 a2) σ τ := by
  obtain ⟨P, W, H, K, T, P', W', H', K', T', rr⟩ := id r
  have r1 := rr.1
  have hP := r1.1.1.1
  have hW := r1.1.1.2
  have w1 : σ 2 1 = nI W := r1.1.2.1.2.2.1
  have w2 := r1.1.2.1.2.2.2
  by_cases hc : ¬ a1 < 1 ∧ ¬ (99 : Int32) < a1 ∧ ¬ a2 < 0 ∧ ¬ (9 : Int32) < a2
  · obtain ⟨h1, h2, h3, h4⟩ := hc
    have mda : Md_work a1 a2 τ = if τ 110 1 = nI 6 then some (-1, τ) else z_ck (z_ix (nI 42 + τ 110 1) 8880) (z_ck (z_ix (nI 48 + τ 110 1) 8880) (some (τ 110 1, gx_up (gx_up (gx_up τ 110 (nI 42 + τ 110 1).toNatClampNeg a1) 110 (nI 48 + τ 110 1).toNatClampNeg a2) 110 1 ((gx_up (gx_up τ 110 (nI 42 + τ 110 1).toNatClampNeg a1) 110 (nI 48 + τ 110 1).toNatClampNeg a2) 110 1 + 1)))) := by
      rw [Md_work, Md_in_v, w_bd, decide_eq_true ⟨h1, h2⟩, bI_t, if_neg (by decide), Md_in_v, w_bd, decide_eq_true ⟨h3, h4⟩, bI_t, if_neg (by decide)]
      rfl
    have cla : Sf_work a1 a2 σ = Sf_work_18 a1 a2 1 σ := by rw [Sf_work_v, if_pos ⟨h1, h2, h3, h4⟩]
    by_cases e6 : W = 6
    · subst e6
      refine SimP_ro r (-1) ?_ ?_
      · rw [cla, Sf_work_18, if_neg (by decide), w1, if_neg (by decide)]
      · rw [mda, w2, if_pos rfl]
    · have c1 : W < 6 := by omega
      have c2 : 42 + W < 8880 := by omega
      have c3 : 48 + W < 8880 := by omega
      obtain ⟨x, hx, hx2, rfl⟩ := in_nat (l := 1) (u := 99) (by omega) (by omega) h1 h2
      obtain ⟨y, hy, hy2, rfl⟩ := in_nat (l := 0) (u := 9) (by omega) (by omega) h3 h4
      have e1 : nI (W + 1) - 1 = nI W := by rw [show (1 : Int32) = nI 1 from rfl, pk_sub (by omega), Nat.add_sub_cancel]
      have cla2 : Sf_work (nI x) (nI y) σ = some (nI W, gx_up (gx_up (gx_up σ 7 W (nI x)) 8 W (nI y)) 2 1 (nI (W + 1))) := by
        rw [cla, Sf_work_18, if_neg (by decide)]
        simp (disch := omega) only [z_c0, z_c1, nI_leI, nI_ltI, nI_eq, ix_n, cl_n, nI_add, pk_mul, nI_1, n_lt0, n_0le, n_le0, n_0lt, n_eq0, n_1le, n_le1, n_lt1, n_1lt, n_eq1, n_m1, n_m1a, L_2, L_3, L_4, L_5, L_6, L_7, L_8, L_9, L_10, L_11, L_12, L_14, L_15, L_16, L_17, L_18, L_20, L_21, L_24, L_26, L_30, L_32, L_34, L_35, L_36, L_37, L_38, L_39, L_40, L_41, L_42, L_43, L_44, L_45, L_46, L_47, L_48, L_57, L_59, L_60, L_61, L_62, L_64, L_65, L_68, L_76, L_80, L_84, L_90, L_92, L_96, L_97, L_98, L_99, L_100, L_104, L_122, L_139, L_140, L_162, L_163, L_164, L_200, L_241, L_255, L_256, L_280, L_284, L_300, L_301, L_303, L_309, L_360, L_400, L_401, L_402, L_403, L_404, L_405, L_406, L_407, L_408, L_999, L_1600, L_3120, L_8596, L_8880, L_9999, L_10000, L_30211, L_99999, L_1000000, up_c, up_e, w1, c1, e1, w_bd, w_ck, bI_0, bI_1, bI_bo, bo_0, bo_1, decide_true, decide_false, if_true, if_false, ite_true, ite_false, not_true_eq_false, not_false_eq_true, Bool.true_eq_false, Bool.false_eq_true]
      have mda2 : Md_work (nI x) (nI y) τ = some (nI W, gx_up (gx_up (gx_up τ 110 (42 + W) (nI x)) 110 (48 + W) (nI y)) 110 1 (nI (W + 1))) := by
        rw [mda, w2]
        simp (disch := omega) only [z_c0, z_c1, nI_leI, nI_ltI, nI_eq, ix_n, cl_n, nI_add, pk_mul, nI_1, n_lt0, n_0le, n_le0, n_0lt, n_eq0, n_1le, n_le1, n_lt1, n_1lt, n_eq1, n_m1, n_m1a, L_2, L_3, L_4, L_5, L_6, L_7, L_8, L_9, L_10, L_11, L_12, L_14, L_15, L_16, L_17, L_18, L_20, L_21, L_24, L_26, L_30, L_32, L_34, L_35, L_36, L_37, L_38, L_39, L_40, L_41, L_42, L_43, L_44, L_45, L_46, L_47, L_48, L_57, L_59, L_60, L_61, L_62, L_64, L_65, L_68, L_76, L_80, L_84, L_90, L_92, L_96, L_97, L_98, L_99, L_100, L_104, L_122, L_139, L_140, L_162, L_163, L_164, L_200, L_241, L_255, L_256, L_280, L_284, L_300, L_301, L_303, L_309, L_360, L_400, L_401, L_402, L_403, L_404, L_405, L_406, L_407, L_408, L_999, L_1600, L_3120, L_8596, L_8880, L_9999, L_10000, L_30211, L_99999, L_1000000, up_p, w2, c2, c3, show (W = 6) = False from eq_false e6, w_bd, w_ck, bI_0, bI_1, bI_bo, bo_0, bo_1, decide_true, decide_false, if_true, if_false, ite_true, ite_false, not_true_eq_false, not_false_eq_true, Bool.true_eq_false, Bool.false_eq_true]
      refine ⟨nI W, _, _, cla2, mda2, ?_, fun c hc => by rw [gx_up_ne (by omega), gx_up_ne (by omega), gx_up_ne (by omega)], fun c hc => by rw [gx_up_ne (by omega), gx_up_ne (by omega), gx_up_ne (by omega)]⟩
      have V : ValleyR (gx_up (gx_up (gx_up σ 7 W (nI x)) 8 W (nI y)) 2 1 (nI (W + 1))) 1 (gx_up (gx_up (gx_up τ 110 (42 + W) (nI x)) 110 (48 + W) (nI y)) 110 1 (nI (W + 1)) 110) P (W + 1) H K T := by
        refine Valley_folk ?_ (fun c y1 y2 y3 => by rw [gx_up_ne (by omega), gx_up_ne (by omega), gx_up_ne (by omega)]) (fun o ν h ho hn => NightR_cong hP (fun _ _ => rfl) (fun i hi => by rw [up_p _ _ _ (by omega), up_p _ _ _ (by omega), up_p _ _ _ (by omega)]) (fun _ _ => rfl) (NightR_work c1 (fun w => ?_) hx2 hn)) (fun o i ho y1 y2 => by rw [up_p _ _ _ (by omega), up_p _ _ _ (by omega), up_p _ _ _ (by omega)]) ⟨by rw [up_p _ _ _ (by omega), up_p _ _ _ (by omega), up_p _ _ _ (by omega)], by rw [up_p _ _ _ (by omega), up_p _ _ _ (by omega), up_p _ _ _ (by omega)], by rw [up_p _ _ _ (by omega), up_p _ _ _ (by omega), up_p _ _ _ (by omega)]⟩ r1
        · obtain ⟨-, ⟨q1, q2, q3, q4⟩, q5, q6, q7, q8⟩ := r1.1
          refine ⟨⟨hP, by omega⟩, ⟨?_, ?_, up_e _ _ _ _, up_e _ _ _ _⟩, fun p hp => ?_, fun p hp => ?_, fun p hp => ?_, fun w hw => ?_⟩
          · rw [up_p _ _ _ (by omega), up_c _ _ _ _ (by omega), up_c _ _ _ _ (by omega)]; exact q1
          · rw [up_p _ _ _ (by omega), up_p _ _ _ (by omega), up_p _ _ _ (by omega)]; exact q2
          · rw [up_p _ _ _ (by omega), up_p _ _ _ (by omega), up_p _ _ _ (by omega), up_p _ _ _ (by omega), up_p _ _ _ (by omega), up_p _ _ _ (by omega), up_c _ _ _ _ (by omega), up_c _ _ _ _ (by omega), up_c _ _ _ _ (by omega), up_c _ _ _ _ (by omega), up_c _ _ _ _ (by omega), up_c _ _ _ _ (by omega)]; exact q5 p hp
          · rw [up_p _ _ _ (by omega), up_p _ _ _ (by omega), up_p _ _ _ (by omega), gx_up_ne (by omega), gx_up_ne (by omega), gx_up_ne (by omega)]; exact q6 p hp
          · rw [up_p _ _ _ (by omega), up_p _ _ _ (by omega), up_p _ _ _ (by omega), gx_up_ne (by omega), gx_up_ne (by omega), gx_up_ne (by omega)]; exact q7 p hp
          · by_cases ew : w = W
            · subst ew
              refine ⟨x, y, hx, hx2, hy2, ?_, ?_, ?_, ?_⟩
              · rw [up_c _ _ _ _ (by omega), up_c _ _ _ _ (by omega), up_e]
              · rw [up_p _ _ _ (by omega), up_p _ _ _ (by omega), up_e]
              · rw [up_c _ _ _ _ (by omega), up_e]
              · rw [up_p _ _ _ (by omega), up_e]
            · have := q8 w (by omega)
              obtain ⟨x', y', t1, t2, t3, t4, t5, t6, t7⟩ := this
              refine ⟨x', y', t1, t2, t3, ?_, ?_, ?_, ?_⟩
              · rw [up_c _ _ _ _ (by omega), up_c _ _ _ _ (by omega), up_p _ _ _ (by omega)]; exact t4
              · rw [up_p _ _ _ (by omega), up_p _ _ _ (by omega), up_p _ _ _ (by omega)]; exact t5
              · rw [up_c _ _ _ _ (by omega), up_p _ _ _ (by omega), up_c _ _ _ _ (by omega)]; exact t6
              · rw [up_p _ _ _ (by omega), up_p _ _ _ (by omega), up_p _ _ _ (by omega)]; exact t7
        · rw [up_c _ _ _ _ (by omega), up_c _ _ _ _ (by omega)]; exact up_row _ _ _ _ _
      exact Rel_mk V (fun c y1 y2 => by rw [gx_up_ne (by omega), gx_up_ne (by omega), gx_up_ne (by omega)]) ⟨fun c y1 => by rw [gx_up_ne (by omega), gx_up_ne (by omega), gx_up_ne (by omega)], fun j hj => by rw [gx_up_ne (by omega), gx_up_ne (by omega), gx_up_ne (by omega)]⟩ rr
  · refine SimP_ro r (-1) ?_ ?_
    · rw [Sf_work_v, if_neg hc]
    · rw [Md_work, Md_in_v, w_bd]
      by_cases h1 : ¬ a1 < 1 ∧ ¬ (99 : Int32) < a1
      · rw [decide_eq_true h1, bI_t, if_neg (by decide), Md_in_v, w_bd, decide_eq_false (fun z => hc ⟨h1.1, h1.2, z.1, z.2⟩), bI_f, if_pos rfl]
      · rw [decide_eq_false h1, bI_f, if_pos rfl]
