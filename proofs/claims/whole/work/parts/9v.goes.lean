/-! ===== the machine's steps behind a ONE and behind a question ===== -/
theorem A_remark {b : Nat → Nat} {nb r0 : Nat} {τ0 τ : gx_R} {t j m : Nat} {fr ws : List (Nat × Nat)} {st n : Nat} {ck ca : Nat → Nat} (h : MR b nb r0 τ0 τ t ((8, j) :: fr) ws st n ck ca) : MR b nb r0 τ0 (gx_up τ 125 (fr.length + 1) (nI (r0 + m))) t ((8, m) :: fr) ws st n ck ca := by
  obtain ⟨m1, m2, m3, ⟨m4, m5⟩, m6, m7, m8, m9, m10, m11, m12⟩ := h
  have k1 : ∀ c, c ≠ 125 → gx_up τ 125 (fr.length + 1) (nI (r0 + m)) c = τ c := fun c c1 => by rw [gx_up_ne c1]
  exact ⟨m1, m2, LexR_c (fun i _ _ => by rw [k1 109 (by omega)]) m3, ⟨by rw [k1 109 (by omega)]; exact m4, by rw [k1 109 (by omega)]; exact m5⟩, ⟨⟨by rw [k1 121 (by omega)]; exact m6.1.1, by show (8 : Nat) < 100; omega, fun z => by have z : (8 : Nat) = 5 := z; omega, fun _ => up_e _ _ _ _⟩, FrR_c fr (fun i hi => ⟨by rw [k1 121 (by omega)], by rw [k1 122 (by omega)], by rw [up_p _ _ _ (by omega)]⟩) m6.2⟩, by rw [k1 109 (by omega)]; exact m7, WsR_c ws (fun i _ => by rw [k1 123 (by omega), k1 124 (by omega)]; exact ⟨rfl, rfl⟩) m8, by rw [k1 109 (by omega)]; exact m9, by rw [k1 109 (by omega)]; exact m10, fun i hi => by rw [k1 131 (by omega), k1 132 (by omega)]; exact m11 i hi, RdF_u (Or.inr (Or.inl ⟨by omega, by omega⟩)) m12⟩
def isOp (k : Nat) : Bool := decide (37 ≤ k ∧ k ≤ 40)
/-- goesOn, cut at its tests -/
theorem G_pre {b : Nat → Nat} {nb r0 : Nat} {τ0 τ : gx_R} {t : Nat} {fx : Nat × Nat} {fr ws : List (Nat × Nat)} {n : Nat} {ck ca : Nat → Nat} (h : MR b nb r0 τ0 τ t (fx :: fr) ws 2 n ck ca) (hl : fr.length < 39) (f : Nat) : Md_text_44 (f + 1) τ = if isOp (kd b nb t) = true then z_bd (Md_waitsFor (nI (oI (kd b nb t))) τ) (fun _ σ => Md_text_44 f (gx_up σ 109 28 1)) else z_bd (Md_goesOn_31 (nI fx.1) τ) (fun _ σ => Md_text_44 f σ) := by
  have hk := h.2.2.1.2.2.2
  have s37 := kr_s (s := 37) hk (by omega)
  have s38 := kr_s (s := 38) hk (by omega)
  have s39 := kr_s (s := 39) hk (by omega)
  have s40 := kr_s (s := 40) hk (by omega)
  have ekd : (if tkS b nb t = nb then 44 else tkK b nb (tkS b nb t)) = kd b nb t := rfl
  rw [ekd] at s37 s38 s39 s40
  have go : ∀ k, (37 ≤ k ∧ k ≤ 40) → kd b nb t = k → τ 109 18 = nI (sI k) → z_bd (Md_goesOn_23 τ) (fun _ σ => Md_text_44 f σ) = if isOp (kd b nb t) = true then z_bd (Md_waitsFor (nI (oI (kd b nb t))) τ) (fun _ σ => Md_text_44 f (gx_up σ 109 28 1)) else z_bd (Md_goesOn_31 (nI fx.1) τ) (fun _ σ => Md_text_44 f σ) := by
    intro k h1 h2 h3
    have e : oI k = sI k := by
      unfold oI
      rw [if_neg (by omega), if_neg (by omega), if_neg (by omega), if_neg (by omega), if_neg (by omega), if_neg (by omega), if_neg (by omega), if_neg (by omega), if_neg (by omega)]
    rw [h2, if_pos (show isOp k = true from decide_eq_true h1), Md_goesOn_23, h3, e]
    cases Md_waitsFor (nI (sI k)) τ with
    | none => rfl
    | some r => rfl
  have no : isOp (kd b nb t) = false → z_bd (Md_goesOn_31 (nI fx.1) τ) (fun _ σ => Md_text_44 f σ) = if isOp (kd b nb t) = true then z_bd (Md_waitsFor (nI (oI (kd b nb t))) τ) (fun _ σ => Md_text_44 f (gx_up σ 109 28 1)) else z_bd (Md_goesOn_31 (nI fx.1) τ) (fun _ σ => Md_text_44 f σ) := fun hno => by rw [hno, if_neg (by decide)]
  rw [A_loop h (by omega), if_neg (by omega), if_neg (by omega), if_pos rfl, Md_goesOn, A_top h hl, w_bd]
  by_cases c0 : τ 109 17 = 3
  · rw [if_pos c0]
    by_cases c1 : τ 109 18 = 43
    · rw [if_pos c1]; exact go 37 (by omega) (s37.mp ⟨c0, c1⟩) c1
    · rw [if_neg c1]
      by_cases c2 : τ 109 18 = 45
      · rw [if_pos c2]; exact go 38 (by omega) (s38.mp ⟨c0, c2⟩) c2
      · rw [if_neg c2]
        by_cases c3 : τ 109 18 = 42
        · rw [if_pos c3]; exact go 39 (by omega) (s39.mp ⟨c0, c3⟩) c3
        · rw [if_neg c3]
          by_cases c4 : τ 109 18 = 47
          · rw [if_pos c4]; exact go 40 (by omega) (s40.mp ⟨c0, c4⟩) c4
          · rw [if_neg c4]
            refine no (decide_eq_false (fun z => ?_))
            rcases (show kd b nb t = 37 ∨ kd b nb t = 38 ∨ kd b nb t = 39 ∨ kd b nb t = 40 by omega) with e | e | e | e
            · exact c1 (s37.mpr e).2
            · exact c2 (s38.mpr e).2
            · exact c3 (s39.mpr e).2
            · exact c4 (s40.mpr e).2
  · rw [if_neg c0]
    refine no (decide_eq_false (fun z => ?_))
    rcases (show kd b nb t = 37 ∨ kd b nb t = 38 ∨ kd b nb t = 39 ∨ kd b nb t = 40 by omega) with e | e | e | e
    · exact c0 (s37.mpr e).1
    · exact c0 (s38.mpr e).1
    · exact c0 (s39.mpr e).1
    · exact c0 (s40.mpr e).1
theorem fl_len (r F : Nat) : ∀ ws : List (Nat × Nat), (fl r F ws).1.length + (fl r F ws).2.length = ws.length := by
  intro ws
  induction ws with
  | nil => rfl
  | cons w ws ih =>
    rw [fl]
    by_cases c : w.2 = F ∧ r ≤ rk w.1
    · rw [if_pos c]
      show (fl r F ws).1.length + ((fl r F ws).2.length + 1) = ws.length + 1
      omega
    · rw [if_neg c]; rfl
theorem G_op {b : Nat → Nat} {nb r0 : Nat} {τ0 τ : gx_R} {t : Nat} {fx : Nat × Nat} {fr ws : List (Nat × Nat)} {n : Nat} {ck ca : Nat → Nat} (h : MR b nb r0 τ0 τ t (fx :: fr) ws 2 n ck ca) (hl : fr.length < 39) (hk : 37 ≤ kd b nb t ∧ kd b nb t ≤ 40) (hws : ws.length < 80) (hn : r0 + n + ws.length ≤ 400) : ∃ τ', (∀ f, Md_text_44 (f + 1) τ = Md_text_44 f τ') ∧ MR b nb r0 τ0 τ' (t + 1) (fx :: fr) ((kd b nb t, fr.length + 1) :: (fl (rk (kd b nb t)) (fr.length + 1) ws).1) 1 (n + (fl (rk (kd b nb t)) (fr.length + 1) ws).2.length) (emK n ck (fl (rk (kd b nb t)) (fr.length + 1) ws).2) (emA n ca (fl (rk (kd b nb t)) (fr.length + 1) ws).2) := by
  have hfl := fl_len (rk (kd b nb t)) (fr.length + 1) ws
  obtain ⟨τ1, w1, w2⟩ := A_waitsFor (k := kd b nb t) h (by omega) (by rw [List.length_cons]; omega) hws hn (kd_lt h.2.2.1.1 (by omega)) (by rw [List.length_cons]; omega)
  refine ⟨_, fun f => ?_, A_state w2 1⟩
  rw [G_pre h hl, if_pos (show isOp (kd b nb t) = true from decide_eq_true hk), w1, w_bd]; rfl
theorem f_eq {x : Nat} (hx : x < 100) (y : Nat) (hy : y < 100) : nI x = nI y ↔ x = y := nI_eq (by omega) (by omega)
/-- ) -/
theorem G_paren {b : Nat → Nat} {nb r0 : Nat} {τ0 τ : gx_R} {t i : Nat} {fr ws : List (Nat × Nat)} {n : Nat} {ck ca : Nat → Nat} (h : MR b nb r0 τ0 τ t ((6, i) :: fr) ws 2 n ck ca) (hl : fr.length < 39) (hk : kd b nb t = 42) (hws : ws.length < 80) (hn : r0 + n + ws.length ≤ 400) (ho : opN fr < 100) : ∃ τ', (∀ f, Md_text_44 (f + 1) τ = z_bd (Md_oneIsOver τ') (fun _ σ => Md_text_44 f σ)) ∧ MR b nb r0 τ0 τ' (t + 1) fr (fl 3 (fr.length + 1) ws).1 2 (n + (fl 3 (fr.length + 1) ws).2.length) (emK n ck (fl 3 (fr.length + 1) ws).2) (emA n ca (fl 3 (fr.length + 1) ws).2) := by
  obtain ⟨τ1, w1, w2⟩ := A_works (r := 3) (by omega) (show ((6, i) :: fr).length < 100 by rw [List.length_cons]; omega) ws z_FU n ck ca τ (by have := z_FU_ge; omega) hn (by omega) h
  have w1 : Md_works 3 τ = some ((), τ1) := w1
  have w2 : MR b nb r0 τ0 τ1 t ((6, i) :: fr) (fl 3 (fr.length + 1) ws).1 2 (n + (fl 3 (fr.length + 1) ws).2.length) (emK n ck (fl 3 (fr.length + 1) ws).2) (emA n ca (fl 3 (fr.length + 1) ws).2) := w2
  have h22 : τ1 109 22 = nI (fr.length + 1) := w2.2.2.2.1.2
  have h21 : τ1 109 21 = nI (opN fr + 1) := w2.2.2.2.1.1
  obtain ⟨τ2, n1, n2⟩ := A_next (A_pop w2 (by show ¬ ((6 : Nat) = 1 ∨ (6 : Nat) = 4 ∨ (6 : Nat) = 5); omega)) (kd_lt h.2.2.1.1 (by omega))
  refine ⟨τ2, fun f => ?_, n2⟩
  have s := isS_v (s := 42) h.2.2.1 (by omega)
  rw [decide_eq_true hk] at s
  have s : Md_isSign 41 τ = some (1, τ) := s
  rw [G_pre h hl, if_neg (by rw [hk]; decide), Md_goesOn_31, if_pos (show nI (6, i).fst = 6 from rfl), s, w_bd, if_neg (by decide), w1, w_bd, h22, n_sub1 (by omega), show fr.length + 1 - 1 = fr.length by omega, up_p _ _ _ (show (21 : Nat) ≠ 22 by omega), h21, n_sub1 (by omega), show opN fr + 1 - 1 = opN fr by omega, n1, w_bd]
  cases Md_oneIsOver τ2 with
  | none => rfl
  | some r => rfl
/-- neither an operation nor a ) that closes -/
theorem G_58 {b : Nat → Nat} {nb r0 : Nat} {τ0 τ : gx_R} {t : Nat} {fx : Nat × Nat} {fr ws : List (Nat × Nat)} {n : Nat} {ck ca : Nat → Nat} (h : MR b nb r0 τ0 τ t (fx :: fr) ws 2 n ck ca) (hl : fr.length < 39) (ho : ¬ (37 ≤ kd b nb t ∧ kd b nb t ≤ 40)) (hp : ¬ (fx.1 = 6 ∧ kd b nb t = 42)) (f : Nat) : Md_text_44 (f + 1) τ = z_bd (Md_goesOn_58 (nI fx.1) τ) (fun _ σ => Md_text_44 f σ) := by
  have hf100 : fx.1 < 100 := h.2.2.2.2.1.1.2.1
  rw [G_pre h hl, if_neg (show ¬ isOp (kd b nb t) = true by unfold isOp; rw [decide_eq_false ho]; decide), Md_goesOn_31]
  by_cases c : fx.1 = 6
  · have s := isS_v (s := 42) h.2.2.1 (by omega)
    rw [decide_eq_false (fun z => hp ⟨c, z⟩)] at s
    have s : Md_isSign 41 τ = some (0, τ) := s
    rw [if_pos (show nI fx.1 = 6 by rw [c]; rfl), s, w_bd, if_pos rfl]
  · rw [if_neg (show ¬ nI fx.1 = 6 from fun z => c ((f_eq hf100 6 (by omega)).mp z))]
theorem G_110 {b : Nat → Nat} {nb r0 : Nat} {τ0 τ : gx_R} {t : Nat} {fx : Nat × Nat} {fr ws : List (Nat × Nat)} {n : Nat} {ck ca : Nat → Nat} (h : MR b nb r0 τ0 τ t (fx :: fr) ws 2 n ck ca) (hl : fr.length < 39) (ho : ¬ (37 ≤ kd b nb t ∧ kd b nb t ≤ 40)) (hp : ¬ (fx.1 = 6 ∧ kd b nb t = 42)) (h8 : ¬ (fx.1 = 8 ∧ kd b nb t = 16)) (h9 : ¬ (fx.1 = 9 ∧ kd b nb t = 17)) (f : Nat) : Md_text_44 (f + 1) τ = z_bd (Md_goesOn_110 (nI fx.1) τ) (fun _ σ => Md_text_44 f σ) := by
  have hf100 : fx.1 < 100 := h.2.2.2.2.1.1.2.1
  have e73 : Md_goesOn_73 (nI fx.1) τ = Md_goesOn_110 (nI fx.1) τ := by
    rw [Md_goesOn_73]
    by_cases c : fx.1 = 9
    · have s := isW_v (w := 17) h.2.2.1 (by omega)
      rw [decide_eq_false (fun z => h9 ⟨c, z⟩)] at s
      have s : Md_isWord 20 τ = some (0, τ) := s
      rw [if_pos (show nI fx.1 = 9 by rw [c]; rfl), s, w_bd, if_pos rfl]
    · rw [if_neg (show ¬ nI fx.1 = 9 from fun z => c ((f_eq hf100 9 (by omega)).mp z))]
  rw [G_58 h hl ho hp, Md_goesOn_58]
  by_cases c : fx.1 = 8
  · have s := isW_v (w := 16) h.2.2.1 (by omega)
    rw [decide_eq_false (fun z => h8 ⟨c, z⟩)] at s
    have s : Md_isWord 19 τ = some (0, τ) := s
    rw [if_pos (show nI fx.1 = 8 by rw [c]; rfl), s, w_bd, if_pos rfl, e73]
  · rw [if_neg (show ¬ nI fx.1 = 8 from fun z => c ((f_eq hf100 8 (by omega)).mp z)), e73]
theorem isAsk_v {τ : gx_R} {b : Nat → Nat} {nb t : Nat} (h : LexR τ b nb t) (h3 : τ 109 17 = 3) : Md_isAsking (τ 109 18) τ = some (bI (decide (31 ≤ kd b nb t ∧ kd b nb t ≤ 36)), τ) := by
  have e : ∀ s, 31 ≤ s ∧ s ≤ 43 → (τ 109 18 = nI (sI s) ↔ kd b nb t = s) := fun s hs => by
    have := kr_s h.2.2.2 hs
    exact ⟨fun z => this.mp ⟨h3, z⟩, fun z => (this.mpr z).2⟩
  have e31 : τ 109 18 = 60 ↔ kd b nb t = 31 := e 31 (by omega)
  have e33 : τ 109 18 = 62 ↔ kd b nb t = 33 := e 33 (by omega)
  have e35 : τ 109 18 = 61 ↔ kd b nb t = 35 := e 35 (by omega)
  have e36 : τ 109 18 = 35 ↔ kd b nb t = 36 := e 36 (by omega)
  have e32 : τ 109 18 = 300 ↔ kd b nb t = 32 := e 32 (by omega)
  have e34 : τ 109 18 = 301 ↔ kd b nb t = 34 := e 34 (by omega)
  rw [Md_isAsking]
  by_cases c1 : kd b nb t = 31
  · rw [if_pos (e31.mpr c1), decide_eq_true (by omega)]; rfl
  rw [if_neg (fun z => c1 (e31.mp z))]
  by_cases c2 : kd b nb t = 33
  · rw [if_pos (e33.mpr c2), decide_eq_true (by omega)]; rfl
  rw [if_neg (fun z => c2 (e33.mp z))]
  by_cases c3 : kd b nb t = 35
  · rw [if_pos (e35.mpr c3), decide_eq_true (by omega)]; rfl
  rw [if_neg (fun z => c3 (e35.mp z))]
  by_cases c4 : kd b nb t = 36
  · rw [if_pos (e36.mpr c4), decide_eq_true (by omega)]; rfl
  rw [if_neg (fun z => c4 (e36.mp z))]
  by_cases c5 : kd b nb t = 32
  · rw [if_pos (e32.mpr c5), decide_eq_true (by omega)]; rfl
  rw [if_neg (fun z => c5 (e32.mp z))]
  by_cases c6 : kd b nb t = 34
  · rw [if_pos (e34.mpr c6), decide_eq_true (by omega)]; rfl
  rw [if_neg (fun z => c6 (e34.mp z)), decide_eq_false (by omega)]; rfl
/-- the sign of a question -/
theorem G_ask {b : Nat → Nat} {nb r0 : Nat} {τ0 τ : gx_R} {t i : Nat} {fr ws : List (Nat × Nat)} {n : Nat} {ck ca : Nat → Nat} (h : MR b nb r0 τ0 τ t ((4, i) :: fr) ws 2 n ck ca) (hl : fr.length < 39) (hk : 31 ≤ kd b nb t ∧ kd b nb t ≤ 36) (hws : ws.length < 80) (hn : r0 + n + ws.length ≤ 400) : ∃ τ', (∀ f, Md_text_44 (f + 1) τ = Md_text_44 f τ') ∧ MR b nb r0 τ0 τ' (t + 1) ((5, kd b nb t) :: fr) (fl 3 (fr.length + 1) ws).1 1 (n + (fl 3 (fr.length + 1) ws).2.length) (emK n ck (fl 3 (fr.length + 1) ws).2) (emA n ca (fl 3 (fr.length + 1) ws).2) := by
  obtain ⟨τ1, w1, w2⟩ := A_works (r := 3) (by omega) (show ((4, i) :: fr).length < 100 by rw [List.length_cons]; omega) ws z_FU n ck ca τ (by have := z_FU_ge; omega) hn (by omega) h
  have w1 : Md_works 3 τ = some ((), τ1) := w1
  have w2 : MR b nb r0 τ0 τ1 t ((4, i) :: fr) (fl 3 (fr.length + 1) ws).1 2 (n + (fl 3 (fr.length + 1) ws).2.length) (emK n ck (fl 3 (fr.length + 1) ws).2) (emA n ca (fl 3 (fr.length + 1) ws).2) := w2
  have h22 : τ1 109 22 = nI (fr.length + 1) := w2.2.2.2.1.2
  have hs := (kr_s (s := kd b nb t) w2.2.2.1.2.2.2 (by omega)).mpr rfl
  have hs0 := (kr_s (s := kd b nb t) h.2.2.1.2.2.2 (by omega)).mpr rfl
  obtain ⟨τ2, n1, n2⟩ := A_next (A_right (k := kd b nb t) w2 hs.2) (kd_lt h.2.2.1.1 (by omega))
  refine ⟨_, fun f => ?_, A_state n2 1⟩
  have ia := isAsk_v h.2.2.1 hs0.1
  rw [decide_eq_true hk] at ia
  rw [G_110 h hl (by omega) (fun z => by have z : (4 : Nat) = 6 ∧ _ := z; omega) (fun z => by have z : (4 : Nat) = 8 ∧ _ := z; omega) (fun z => by have z : (4 : Nat) = 9 ∧ _ := z; omega), Md_goesOn_110, if_pos (show nI (4, i).fst = 4 from rfl), if_pos hs0.1, ia, w_bd, bI_t, if_neg (by decide), w1, w_bd, h22, ix_n (by omega), decide_eq_true (show fr.length + 1 < 41 by omega), w_ck, cl_n (by omega), up_c _ _ _ _ (show (109 : Nat) ≠ 122 by omega), h22, n_sub1 (by omega), show fr.length + 1 - 1 = fr.length by omega, ix_n (by omega), decide_eq_true (show fr.length < 40 by omega), w_ck, cl_n (by omega), n1, w_bd, w_bd]; rfl
/-- what is left: 5, 1 and what can't stand there -/
theorem G_145 {b : Nat → Nat} {nb r0 : Nat} {τ0 τ : gx_R} {t : Nat} {fx : Nat × Nat} {fr ws : List (Nat × Nat)} {n : Nat} {ck ca : Nat → Nat} (h : MR b nb r0 τ0 τ t (fx :: fr) ws 2 n ck ca) (hl : fr.length < 39) (ho : ¬ (37 ≤ kd b nb t ∧ kd b nb t ≤ 40)) (hp : ¬ (fx.1 = 6 ∧ kd b nb t = 42)) (h8 : ¬ (fx.1 = 8 ∧ kd b nb t = 16)) (h9 : ¬ (fx.1 = 9 ∧ kd b nb t = 17)) (h4 : ¬ (fx.1 = 4 ∧ 31 ≤ kd b nb t ∧ kd b nb t ≤ 36)) (f : Nat) : Md_text_44 (f + 1) τ = z_bd (Md_goesOn_145 (nI fx.1) τ) (fun _ σ => Md_text_44 f σ) := by
  have hf100 : fx.1 < 100 := h.2.2.2.2.1.1.2.1
  rw [G_110 h hl ho hp h8 h9, Md_goesOn_110]
  by_cases c : fx.1 = 4
  · rw [if_pos (show nI fx.1 = 4 by rw [c]; rfl)]
    by_cases c3 : τ 109 17 = 3
    · have ia := isAsk_v h.2.2.1 c3
      rw [decide_eq_false (fun z => h4 ⟨c, z⟩)] at ia
      rw [if_pos c3, ia, w_bd, bI_f, if_pos rfl]
    · rw [if_neg c3]
  · rw [if_neg (show ¬ nI fx.1 = 4 from fun z => c ((f_eq hf100 4 (by omega)).mp z))]
theorem G_err {b : Nat → Nat} {nb r0 : Nat} {τ0 τ : gx_R} {t : Nat} {fx : Nat × Nat} {fr ws : List (Nat × Nat)} {n : Nat} {ck ca : Nat → Nat} (h : MR b nb r0 τ0 τ t (fx :: fr) ws 2 n ck ca) (hl : fr.length < 39) (ho : ¬ (37 ≤ kd b nb t ∧ kd b nb t ≤ 40)) (hp : ¬ (fx.1 = 6 ∧ kd b nb t = 42)) (h8 : ¬ (fx.1 = 8 ∧ kd b nb t = 16)) (h9 : ¬ (fx.1 = 9 ∧ kd b nb t = 17)) (h4 : ¬ (fx.1 = 4 ∧ 31 ≤ kd b nb t ∧ kd b nb t ≤ 36)) (h5 : fx.1 ≠ 5) (h1 : ¬ (fx.1 = 1 ∧ kd b nb t = 43)) (f : Nat) : EndF b nb τ0 (Md_text_44 (f + 2) τ) 1 t := by
  have hf100 : fx.1 < 100 := h.2.2.2.2.1.1.2.1
  obtain ⟨τ1, e1, e2⟩ := A_errs h 1 (by omega)
  have e1 : Md_errs 1 τ = some ((), τ1) := e1
  have e180 : Md_goesOn_180 τ = some ((), τ1) := by rw [Md_goesOn_180, e1, w_bd]
  have e145 : Md_goesOn_145 (nI fx.1) τ = some ((), τ1) := by
    rw [Md_goesOn_145, if_neg (show ¬ nI fx.1 = 5 from fun z => h5 ((f_eq hf100 5 (by omega)).mp z))]
    by_cases c : fx.1 = 1
    · have s := isS_v (s := 43) h.2.2.1 (by omega)
      rw [decide_eq_false (fun z => h1 ⟨c, z⟩)] at s
      have s : Md_isSign 59 τ = some (0, τ) := s
      rw [if_pos (show nI fx.1 = 1 by rw [c]; rfl), s, w_bd, if_pos rfl, e180]
    · rw [if_neg (show ¬ nI fx.1 = 1 from fun z => c ((f_eq hf100 1 (by omega)).mp z)), e180]
  rw [G_145 h hl ho hp h8 h9 h4, e145, w_bd]
  exact e2 f
/-- a question is whole -/
theorem G_right {b : Nat → Nat} {nb r0 : Nat} {τ0 τ : gx_R} {t k : Nat} {fr ws : List (Nat × Nat)} {n : Nat} {ck ca : Nat → Nat} (h : MR b nb r0 τ0 τ t ((5, k) :: fr) ws 2 n ck ca) (hl : fr.length < 39) (ho : ¬ (37 ≤ kd b nb t ∧ kd b nb t ≤ 40)) (hk : 31 ≤ k ∧ k ≤ 36) (hws : ws.length < 80) (hn : r0 + n + ws.length < 400) : ∃ τ', (∀ f, Md_text_44 (f + 1) τ = z_bd (Md_askIsOver τ') (fun _ σ => Md_text_44 f σ)) ∧ MR b nb r0 τ0 τ' t fr (fl 3 (fr.length + 1) ws).1 2 (n + (fl 3 (fr.length + 1) ws).2.length + 1) (fset (emK n ck (fl 3 (fr.length + 1) ws).2) (n + (fl 3 (fr.length + 1) ws).2.length) k) (fset (emA n ca (fl 3 (fr.length + 1) ws).2) (n + (fl 3 (fr.length + 1) ws).2.length) 0) := by
  have hfl := fl_len 3 (fr.length + 1) ws
  obtain ⟨τ1, w1, w2⟩ := A_works (r := 3) (by omega) (show ((5, k) :: fr).length < 100 by rw [List.length_cons]; omega) ws z_FU n ck ca τ (by have := z_FU_ge; omega) (by omega) (by omega) h
  have w1 : Md_works 3 τ = some ((), τ1) := w1
  have w2 : MR b nb r0 τ0 τ1 t ((5, k) :: fr) (fl 3 (fr.length + 1) ws).1 2 (n + (fl 3 (fr.length + 1) ws).2.length) (emK n ck (fl 3 (fr.length + 1) ws).2) (emA n ca (fl 3 (fr.length + 1) ws).2) := w2
  have h22 : τ1 109 22 = nI (fr.length + 1) := w2.2.2.2.1.2
  have h122 : τ1 122 (fr.length + 1) = nI (sI k) := w2.2.2.2.2.1.1.2.2.1 rfl
  have eo : oI k = sI k := by
    unfold oI
    rw [if_neg (by omega), if_neg (by omega), if_neg (by omega), if_neg (by omega), if_neg (by omega), if_neg (by omega), if_neg (by omega), if_neg (by omega), if_neg (by omega)]
  obtain ⟨τ2, e1, e2⟩ := A_emit (k := k) (a := 0) (o := nI (sI k)) (v := 0) (A_popR w2 rfl) (by omega) (by rw [eo]) (by unfold vI; rw [if_neg (by omega), if_neg (by omega)]; rfl)
  refine ⟨τ2, fun f => ?_, e2⟩
  rw [G_145 h hl ho (fun z => by have z : (5 : Nat) = 6 ∧ _ := z; omega) (fun z => by have z : (5 : Nat) = 8 ∧ _ := z; omega) (fun z => by have z : (5 : Nat) = 9 ∧ _ := z; omega) (fun z => by have z : (5 : Nat) = 4 ∧ _ := z; omega), Md_goesOn_145, if_pos (show nI (5, k).fst = 5 from rfl), w1, w_bd, h22, ix_n (by omega), decide_eq_true (show fr.length + 1 < 41 by omega), w_ck, cl_n (by omega), h122, n_sub1 (by omega), show fr.length + 1 - 1 = fr.length by omega, e1, w_bd]
  cases Md_askIsOver τ2 with
  | none => rfl
  | some r => rfl
