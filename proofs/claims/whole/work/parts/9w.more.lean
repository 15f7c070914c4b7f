/-! ===== the machine's steps: ELSE, END, THEN, AND, OR and a clause's end ===== -/
theorem emits_e {τ : gx_R} {m : Nat} {o v : Int32} (h : τ 109 37 = nI m) (hm : m < 400) : Md_emits o v τ = some ((), gx_up (gx_up (gx_up τ 131 m o) 132 m v) 109 37 (nI (m + 1))) := by
  rw [Md_emits, h, ix_n (by omega), decide_eq_true hm, w_ck, cl_n (by omega), up_c _ _ _ _ (show (109 : Nat) ≠ 131 by omega), h, ix_n (by omega), decide_eq_true hm, w_ck, cl_n (by omega), up_c _ _ _ _ (show (109 : Nat) ≠ 132 by omega), up_c _ _ _ _ (show (109 : Nat) ≠ 131 by omega), h, show nI m + 1 = nI (m + 1) from nI_add _ 1]
theorem emits_125 {τ τ' : gx_R} {m : Nat} {o v : Int32} (h : τ 109 37 = nI m) (hm : m < 400) (e : Md_emits o v τ = some ((), τ')) (i : Nat) : τ' 125 i = τ 125 i := by
  rw [emits_e h hm] at e
  injection e with e
  injection e with _ e
  rw [← e, up_c _ _ _ _ (by omega), up_c _ _ _ _ (by omega), up_c _ _ _ _ (by omega)]
theorem emK_lt : ∀ (l : List Nat) n (ck : Nat → Nat) i, i < n → emK n ck l i = ck i := by
  intro l
  induction l with
  | nil => intro n ck i _; rfl
  | cons k l ih =>
    intro n ck i hi
    show emK (n + 1) (fset ck n k) l i = ck i
    rw [ih (n + 1) _ i (by omega), fset_n _ _ (by omega)]
theorem emA_lt : ∀ (l : List Nat) n (ca : Nat → Nat) i, i < n → emA n ca l i = ca i := by
  intro l
  induction l with
  | nil => intro n ca i _; rfl
  | cons k l ih =>
    intro n ca i hi
    show emA (n + 1) (fset ca n 0) l i = ca i
    rw [ih (n + 1) _ i (by omega), fset_n _ _ (by omega)]
theorem MR_125 {b : Nat → Nat} {nb r0 : Nat} {τ0 τ : gx_R} {t x j : Nat} {fr ws : List (Nat × Nat)} {st n : Nat} {ck ca : Nat → Nat} (h : MR b nb r0 τ0 τ t ((x, j) :: fr) ws st n ck ca) (hx : x = 8 ∨ x = 9) : τ 125 (fr.length + 1) = nI (r0 + j) := h.2.2.2.2.1.1.2.2.2 hx
theorem turns_26 {b : Nat → Nat} {nb r0 : Nat} {τ0 τ : gx_R} {t y j : Nat} {f : Nat × Nat} {fr ws : List (Nat × Nat)} {st n : Nat} {ck ca : Nat → Nat} (h : MR b nb r0 τ0 τ t (f :: fr) ws st n ck ca) (hl : fr.length < 39) (hf : ¬ (f.1 = 1 ∨ f.1 = 4 ∨ f.1 = 5)) (hy : y = 8 ∨ y = 9) (h125 : τ 125 (fr.length + 1) = nI (r0 + j)) (ht : tkS b nb t < nb) : ∃ τ', Md_turnsTo_26 (nI y) τ = some ((), τ') ∧ MR b nb r0 τ0 τ' (t + 1) ((y, j) :: fr) ws 1 n ck ca := by
  obtain ⟨τ1, n1, n2⟩ := A_next (A_turn (x := 0) h hf hy h125) ht
  refine ⟨_, ?_, A_state n2 1⟩
  have h22 : τ 109 22 = nI (fr.length + 1) := h.2.2.2.1.2
  rw [Md_turnsTo_26, h22, n_sub1 (by omega), show fr.length + 1 - 1 = fr.length by omega, ix_n (by omega), decide_eq_true (show fr.length < 40 by omega), w_ck, cl_n (by omega), n1, w_bd]; rfl
/-- ELSE -/
theorem G_else {b : Nat → Nat} {nb r0 : Nat} {τ0 τ : gx_R} {t j : Nat} {fr ws : List (Nat × Nat)} {n : Nat} {ck ca : Nat → Nat} (h : MR b nb r0 τ0 τ t ((8, j) :: fr) ws 2 n ck ca) (hl : fr.length < 39) (hk : kd b nb t = 16) (hj : j < n ∧ ck j = 15) (hws : ws.length < 80) (hn : r0 + n + ws.length < 400) : ∃ τ', (∀ f, Md_text_44 (f + 1) τ = Md_text_44 f τ') ∧ MR b nb r0 τ0 τ' (t + 1) ((9, n + (fl 3 (fr.length + 1) ws).2.length) :: fr) (fl 3 (fr.length + 1) ws).1 1 (n + (fl 3 (fr.length + 1) ws).2.length + 1) (fset (emK n ck (fl 3 (fr.length + 1) ws).2) (n + (fl 3 (fr.length + 1) ws).2.length) 16) (fset (fset (emA n ca (fl 3 (fr.length + 1) ws).2) (n + (fl 3 (fr.length + 1) ws).2.length) 0) j (n + (fl 3 (fr.length + 1) ws).2.length + 1)) := by
  have hfl := fl_len 3 (fr.length + 1) ws
  obtain ⟨τ1, w1, w2⟩ := A_works (r := 3) (by omega) (show ((8, j) :: fr).length < 100 by rw [List.length_cons]; omega) ws z_FU n ck ca τ (by have := z_FU_ge; omega) (by omega) (by omega) h
  have w1 : Md_works 3 τ = some ((), τ1) := w1
  have w2 : MR b nb r0 τ0 τ1 t ((8, j) :: fr) (fl 3 (fr.length + 1) ws).1 2 (n + (fl 3 (fr.length + 1) ws).2.length) (emK n ck (fl 3 (fr.length + 1) ws).2) (emA n ca (fl 3 (fr.length + 1) ws).2) := w2
  have h22 : τ1 109 22 = nI (fr.length + 1) := w2.2.2.2.1.2
  have h37 : τ1 109 37 = nI (r0 + (n + (fl 3 (fr.length + 1) ws).2.length)) := w2.2.2.2.2.2.2.2.2.1
  have h125 := MR_125 w2 (Or.inl rfl)
  have r1 := A_remark (m := n + (fl 3 (fr.length + 1) ws).2.length) w2
  obtain ⟨τ2, e1, e2⟩ := A_emit (k := 16) (a := 0) (o := 404) (v := 0) r1 (by omega) rfl rfl
  have h37' : τ2 109 37 = nI (r0 + (n + (fl 3 (fr.length + 1) ws).2.length + 1)) := e2.2.2.2.2.2.2.2.2.1
  have hjk : fset (emK n ck (fl 3 (fr.length + 1) ws).2) (n + (fl 3 (fr.length + 1) ws).2.length) 16 j = 15 := by
    rw [fset_n _ _ (by omega), emK_lt _ _ _ _ hj.1]; exact hj.2
  have p := A_patch (j := j) (a := n + (fl 3 (fr.length + 1) ws).2.length + 1) e2 (Or.inl hjk) (by omega)
  obtain ⟨τ3, t1, t2⟩ := turns_26 (y := 9) p hl (by show ¬ ((8 : Nat) = 1 ∨ (8 : Nat) = 4 ∨ (8 : Nat) = 5); omega) (Or.inr rfl) (MR_125 p (Or.inl rfl)) (kd_lt h.2.2.1.1 (by omega))
  refine ⟨τ3, fun f => ?_, t2⟩
  have s := isW_v (w := 16) h.2.2.1 (by omega)
  rw [decide_eq_true hk] at s
  have s : Md_isWord 19 τ = some (1, τ) := s
  have t1 : Md_turnsTo_26 9 _ = some ((), τ3) := t1
  rw [G_58 h hl (by omega) (fun z => by have z : (8 : Nat) = 6 ∧ _ := z; omega), Md_goesOn_58, if_pos (show nI (8, j).fst = 8 from rfl), s, w_bd, if_neg (by decide), w1, w_bd, Md_turnsTo, h22, ix_n (by omega), decide_eq_true (show fr.length + 1 < 41 by omega), w_ck, w_ck, cl_n (by omega), h37, e1, w_bd, if_pos rfl, h125, ix_n (by omega), decide_eq_true (show r0 + j < 400 by omega), w_ck, cl_n (by omega), h37', t1, w_bd, w_bd]
/-- END -/
theorem G_end {b : Nat → Nat} {nb r0 : Nat} {τ0 τ : gx_R} {t j : Nat} {fr ws : List (Nat × Nat)} {n : Nat} {ck ca : Nat → Nat} (h : MR b nb r0 τ0 τ t ((9, j) :: fr) ws 2 n ck ca) (hl : fr.length < 39) (hk : kd b nb t = 17) (hj : j < n ∧ ck j = 16) (hws : ws.length < 80) (hn : r0 + n + ws.length ≤ 400) (ho : opN fr < 100) : ∃ τ', (∀ f, Md_text_44 (f + 1) τ = z_bd (Md_oneIsOver τ') (fun _ σ => Md_text_44 f σ)) ∧ MR b nb r0 τ0 τ' (t + 1) fr (fl 3 (fr.length + 1) ws).1 2 (n + (fl 3 (fr.length + 1) ws).2.length) (emK n ck (fl 3 (fr.length + 1) ws).2) (fset (emA n ca (fl 3 (fr.length + 1) ws).2) j (n + (fl 3 (fr.length + 1) ws).2.length)) := by
  have hfl := fl_len 3 (fr.length + 1) ws
  obtain ⟨τ1, w1, w2⟩ := A_works (r := 3) (by omega) (show ((9, j) :: fr).length < 100 by rw [List.length_cons]; omega) ws z_FU n ck ca τ (by have := z_FU_ge; omega) (by omega) (by omega) h
  have w1 : Md_works 3 τ = some ((), τ1) := w1
  have w2 : MR b nb r0 τ0 τ1 t ((9, j) :: fr) (fl 3 (fr.length + 1) ws).1 2 (n + (fl 3 (fr.length + 1) ws).2.length) (emK n ck (fl 3 (fr.length + 1) ws).2) (emA n ca (fl 3 (fr.length + 1) ws).2) := w2
  have h22 : τ1 109 22 = nI (fr.length + 1) := w2.2.2.2.1.2
  have h21 : τ1 109 21 = nI (opN fr + 1) := w2.2.2.2.1.1
  have h37 : τ1 109 37 = nI (r0 + (n + (fl 3 (fr.length + 1) ws).2.length)) := w2.2.2.2.2.2.2.2.2.1
  have h125 := MR_125 w2 (Or.inr rfl)
  have hjk : emK n ck (fl 3 (fr.length + 1) ws).2 j = 16 := by
    rw [emK_lt _ _ _ _ hj.1]; exact hj.2
  have p := A_patch (j := j) (a := n + (fl 3 (fr.length + 1) ws).2.length) w2 (Or.inr hjk) (by omega)
  obtain ⟨τ2, n1, n2⟩ := A_next (A_pop p (by show ¬ ((9 : Nat) = 1 ∨ (9 : Nat) = 4 ∨ (9 : Nat) = 5); omega)) (kd_lt h.2.2.1.1 (by omega))
  refine ⟨τ2, fun f => ?_, n2⟩
  have s := isW_v (w := 17) h.2.2.1 (by omega)
  rw [decide_eq_true hk] at s
  have s : Md_isWord 20 τ = some (1, τ) := s
  rw [G_58 h hl (by omega) (fun z => by have z : (9 : Nat) = 6 ∧ _ := z; omega), Md_goesOn_58, if_neg (show ¬ nI (9, j).fst = 8 from fun z => by have := (f_eq (x := 9) (by omega) 8 (by omega)).mp z; omega), Md_goesOn_73, if_pos (show nI (9, j).fst = 9 from rfl), s, w_bd, if_neg (by decide), w1, w_bd, h22, ix_n (by omega), decide_eq_true (show fr.length + 1 < 41 by omega), w_ck, cl_n (by omega), h125, ix_n (by omega), decide_eq_true (show r0 + j < 400 by omega), w_ck, cl_n (by omega), h37, up_c _ _ _ _ (show (109 : Nat) ≠ 132 by omega), h22, n_sub1 (by omega), show fr.length + 1 - 1 = fr.length by omega, up_p _ _ _ (show (21 : Nat) ≠ 22 by omega), up_c _ _ _ _ (show (109 : Nat) ≠ 132 by omega), h21, n_sub1 (by omega), show opN fr + 1 - 1 = opN fr by omega, n1, w_bd]
  cases Md_oneIsOver τ2 with
  | none => rfl
  | some r => rfl
/-! state 3: a question is over -/
theorem T_pre {b : Nat → Nat} {nb r0 : Nat} {τ0 τ : gx_R} {t : Nat} {fr ws : List (Nat × Nat)} {n : Nat} {ck ca : Nat → Nat} (h : MR b nb r0 τ0 τ t fr ws 3 n ck ca) (f : Nat) : Md_text_44 (f + 1) τ = z_bd (Md_asksOn τ) (fun _ σ => Md_text_44 f σ) := by
  rw [A_loop h (by omega), if_neg (by omega), if_neg (by omega), if_neg (by omega)]
theorem T_wait {b : Nat → Nat} {nb r0 : Nat} {τ0 τ : gx_R} {t : Nat} {fr ws : List (Nat × Nat)} {n : Nat} {ck ca : Nat → Nat} (h : MR b nb r0 τ0 τ t fr ws 3 n ck ca) (hl : fr.length < 40) (hk : kd b nb t = 18 ∨ kd b nb t = 19) (hws : ws.length < 80) (hn : r0 + n + ws.length ≤ 400) : ∃ τ', (∀ f, Md_text_44 (f + 1) τ = Md_text_44 f τ') ∧ MR b nb r0 τ0 τ' (t + 1) fr ((kd b nb t, fr.length) :: (fl (rk (kd b nb t)) fr.length ws).1) 0 (n + (fl (rk (kd b nb t)) fr.length ws).2.length) (emK n ck (fl (rk (kd b nb t)) fr.length ws).2) (emA n ca (fl (rk (kd b nb t)) fr.length ws).2) := by
  have hfl := fl_len (rk (kd b nb t)) fr.length ws
  obtain ⟨τ1, w1, w2⟩ := A_waitsFor (k := kd b nb t) h (by omega) hl hws hn (kd_lt h.2.2.1.1 (by omega)) (by omega)
  refine ⟨_, fun f => ?_, A_state w2 0⟩
  have s1 : Md_isWord 14 τ = _ := isW_v (w := 18) h.2.2.1 (by omega)
  have s2 : Md_isWord 15 τ = _ := isW_v (w := 19) h.2.2.1 (by omega)
  rcases hk with e | e
  · rw [decide_eq_true e] at s1
    have s1 : Md_isWord 14 τ = some (1, τ) := s1
    have w1 : Md_waitsFor 407 τ = some ((), τ1) := by rw [e] at w1; exact w1
    rw [T_pre h, Md_asksOn, s1, w_bd, if_neg (by decide), Md_asksOn_8, s1, w_bd, if_neg (by decide), Md_asksOn_16, w1, w_bd, w_bd]; rfl
  · rw [decide_eq_false (by omega)] at s1
    rw [decide_eq_true e] at s2
    have s1 : Md_isWord 14 τ = some (0, τ) := s1
    have s2 : Md_isWord 15 τ = some (1, τ) := s2
    have w1 : Md_waitsFor 406 τ = some ((), τ1) := by rw [e] at w1; exact w1
    rw [T_pre h, Md_asksOn, s1, w_bd, if_pos rfl, s2, w_bd, if_neg (by decide), Md_asksOn_8, s1, w_bd, if_pos rfl, Md_asksOn_16, w1, w_bd, w_bd]; rfl
/-- THEN -/
theorem T_then {b : Nat → Nat} {nb r0 : Nat} {τ0 τ : gx_R} {t i : Nat} {fr ws : List (Nat × Nat)} {n : Nat} {ck ca : Nat → Nat} (h : MR b nb r0 τ0 τ t ((2, i) :: fr) ws 3 n ck ca) (hl : fr.length < 39) (hk : kd b nb t = 15) (hws : ws.length < 80) (hn : r0 + n + ws.length < 400) : ∃ τ', (∀ f, Md_text_44 (f + 1) τ = Md_text_44 f τ') ∧ MR b nb r0 τ0 τ' (t + 1) ((8, n + (fl 1 (fr.length + 1) ws).2.length) :: fr) (fl 1 (fr.length + 1) ws).1 1 (n + (fl 1 (fr.length + 1) ws).2.length + 1) (fset (emK n ck (fl 1 (fr.length + 1) ws).2) (n + (fl 1 (fr.length + 1) ws).2.length) 15) (fset (emA n ca (fl 1 (fr.length + 1) ws).2) (n + (fl 1 (fr.length + 1) ws).2.length) 0) := by
  have hfl := fl_len 1 (fr.length + 1) ws
  obtain ⟨τ1, w1, w2⟩ := A_works (r := 1) (by omega) (show ((2, i) :: fr).length < 100 by rw [List.length_cons]; omega) ws z_FU n ck ca τ (by have := z_FU_ge; omega) (by omega) (by omega) h
  have w1 : Md_works 1 τ = some ((), τ1) := w1
  have w2 : MR b nb r0 τ0 τ1 t ((2, i) :: fr) (fl 1 (fr.length + 1) ws).1 3 (n + (fl 1 (fr.length + 1) ws).2.length) (emK n ck (fl 1 (fr.length + 1) ws).2) (emA n ca (fl 1 (fr.length + 1) ws).2) := w2
  have h22 : τ1 109 22 = nI (fr.length + 1) := w2.2.2.2.1.2
  have h37 : τ1 109 37 = nI (r0 + (n + (fl 1 (fr.length + 1) ws).2.length)) := w2.2.2.2.2.2.2.2.2.1
  have m1 := A_mark (x := nI (r0 + (n + (fl 1 (fr.length + 1) ws).2.length))) w2 (by show ¬ ((2 : Nat) = 8 ∨ (2 : Nat) = 9); omega)
  obtain ⟨τ2, e1, e2⟩ := A_emit (k := 15) (a := 0) (o := 403) (v := 0) m1 (by omega) rfl rfl
  have h125 := emits_125 (m := r0 + (n + (fl 1 (fr.length + 1) ws).2.length)) (by rw [up_c _ _ _ _ (by omega)]; exact h37) (by omega) e1 (fr.length + 1)
  rw [up_e] at h125
  obtain ⟨τ3, t1, t2⟩ := turns_26 (y := 8) e2 hl (by show ¬ ((2 : Nat) = 1 ∨ (2 : Nat) = 4 ∨ (2 : Nat) = 5); omega) (Or.inl rfl) h125 (kd_lt h.2.2.1.1 (by omega))
  refine ⟨τ3, fun f => ?_, t2⟩
  have s1 : Md_isWord 14 τ = _ := isW_v (w := 18) h.2.2.1 (by omega)
  have s2 : Md_isWord 15 τ = _ := isW_v (w := 19) h.2.2.1 (by omega)
  have s3 : Md_isWord 18 τ = _ := isW_v (w := 15) h.2.2.1 (by omega)
  rw [decide_eq_false (by omega)] at s1 s2
  rw [decide_eq_true hk] at s3
  have s1 : Md_isWord 14 τ = some (0, τ) := s1
  have s2 : Md_isWord 15 τ = some (0, τ) := s2
  have s3 : Md_isWord 18 τ = some (1, τ) := s3
  have t1 : Md_turnsTo_26 8 τ2 = some ((), τ3) := t1
  rw [T_pre h, Md_asksOn, s1, w_bd, if_pos rfl, s2, w_bd, if_pos rfl, A_top h hl, w_bd, if_pos (show nI (2, i).fst = 2 from rfl), s3, w_bd, if_neg (by decide), w1, w_bd, Md_turnsTo, h22, ix_n (by omega), decide_eq_true (show fr.length + 1 < 41 by omega), w_ck, w_ck, cl_n (by omega), h37, e1, w_bd, if_neg (by decide), t1, w_bd, w_bd]
theorem T_err {b : Nat → Nat} {nb r0 : Nat} {τ0 τ : gx_R} {t : Nat} {fx : Nat × Nat} {fr ws : List (Nat × Nat)} {n : Nat} {ck ca : Nat → Nat} (h : MR b nb r0 τ0 τ t (fx :: fr) ws 3 n ck ca) (hl : fr.length < 39) (hk : kd b nb t ≠ 18 ∧ kd b nb t ≠ 19 ∧ kd b nb t ≠ 15) (f : Nat) : EndF b nb τ0 (Md_text_44 (f + 2) τ) 1 t := by
  obtain ⟨τ1, e1, e2⟩ := A_errs h 1 (by omega)
  have e1 : Md_errs 1 τ = some ((), τ1) := e1
  have e37 : Md_asksOn_37 τ = some ((), τ1) := by rw [Md_asksOn_37, e1, w_bd]
  have s1 : Md_isWord 14 τ = _ := isW_v (w := 18) h.2.2.1 (by omega)
  have s2 : Md_isWord 15 τ = _ := isW_v (w := 19) h.2.2.1 (by omega)
  have s3 : Md_isWord 18 τ = _ := isW_v (w := 15) h.2.2.1 (by omega)
  rw [decide_eq_false (by omega)] at s1 s2 s3
  have s1 : Md_isWord 14 τ = some (0, τ) := s1
  have s2 : Md_isWord 15 τ = some (0, τ) := s2
  have s3 : Md_isWord 18 τ = some (0, τ) := s3
  have e : Md_asksOn τ = some ((), τ1) := by
    rw [Md_asksOn, s1, w_bd, if_pos rfl, s2, w_bd, if_pos rfl, A_top h hl, w_bd]
    by_cases c : nI fx.1 = 2
    · rw [if_pos c, s3, w_bd, if_pos rfl, e37]
    · rw [if_neg c, e37]
  rw [T_pre h, e, w_bd]
  exact e2 f
/-! a clause is over -/
theorem A_base {b : Nat → Nat} {nb r0 : Nat} {τ0 τ : gx_R} {t : Nat} {fr ws : List (Nat × Nat)} {st n : Nat} {ck ca : Nat → Nat} (h : MR b nb r0 τ0 τ t fr ws st n ck ca) (x : Int32) : MR b nb r0 (gx_up τ0 109 30 x) (gx_up τ 109 30 x) t fr ws st n ck ca := by
  obtain ⟨m1, m2, m3, ⟨m4, m5⟩, m6, m7, m8, m9, m10, m11, m12⟩ := h
  refine ⟨TpM_c (gx_up_ne (by omega)) (up_p _ _ _ (by omega)) m1, ⟨by rw [up_p _ _ _ (by omega)]; exact m2.1, by rw [up_p _ _ _ (by omega)]; exact m2.2⟩, LexR_c (fun j _ _ => up_p _ _ _ (by omega)) m3, ⟨by rw [up_p _ _ _ (by omega)]; exact m4, by rw [up_p _ _ _ (by omega)]; exact m5⟩, FrR_c fr (fun i _ => ⟨up_c _ _ _ _ (by omega), up_c _ _ _ _ (by omega), up_c _ _ _ _ (by omega)⟩) m6, by rw [up_p _ _ _ (by omega)]; exact m7, WsR_c ws (fun i _ => ⟨up_c _ _ _ _ (by omega), up_c _ _ _ _ (by omega)⟩) m8, by rw [up_p _ _ _ (by omega)]; exact m9, by rw [up_p _ _ _ (by omega)]; exact m10, fun i hi => by rw [up_c _ _ _ _ (by omega), up_c _ _ _ _ (by omega)]; exact m11 i hi, fun c c1 c2 c3 c4 => by rw [gx_up_ne c1, gx_up_ne c1]; exact m12.1 c c1 c2 c3 c4, fun i hi => by rw [up_c _ _ _ _ (by omega), up_c _ _ _ _ (by omega), up_c _ _ _ _ (by omega), up_c _ _ _ _ (by omega)]; exact m12.2.1 i hi, fun j j1 j2 j3 j4 j5 j6 => ?_⟩
  by_cases z : j = 30
  · rw [z, up_e, up_e]
  · rw [up_p _ _ _ z, up_p _ _ _ z]; exact m12.2.2 j j1 j2 j3 j4 j5 j6
theorem A_none {b : Nat → Nat} {nb r0 : Nat} {τ0 τ : gx_R} {t i : Nat} {ws : List (Nat × Nat)} {st n : Nat} {ck ca : Nat → Nat} (h : MR b nb r0 τ0 τ t [(1, i)] ws st n ck ca) : MR b nb r0 τ0 (gx_up τ 109 22 0) t [] ws st n ck ca := by
  obtain ⟨m1, m2, m3, ⟨m4, m5⟩, m6, m7, m8, m9, m10, m11, m12⟩ := h
  exact ⟨m1, m2, LexR_c (fun j _ _ => up_p _ _ _ (by omega)) m3, ⟨by rw [up_p _ _ _ (by omega)]; exact m4, up_e _ _ _ _⟩, trivial, by rw [up_p _ _ _ (by omega)]; exact m7, WsR_c ws (fun i _ => ⟨up_c _ _ _ _ (by omega), up_c _ _ _ _ (by omega)⟩) m8, by rw [up_p _ _ _ (by omega)]; exact m9, by rw [up_p _ _ _ (by omega)]; exact m10, fun i hi => by rw [up_c _ _ _ _ (by omega), up_c _ _ _ _ (by omega)]; exact m11 i hi, RdF_u (Or.inl ⟨rfl, by omega⟩) m12⟩
/-- ; behind a law -/
theorem G_over {b : Nat → Nat} {nb r0 : Nat} {τ0 τ : gx_R} {t i : Nat} {ws : List (Nat × Nat)} {n : Nat} {ck ca : Nat → Nat} (h : MR b nb r0 τ0 τ t [(1, i)] ws 2 n ck ca) (hk : kd b nb t = 43) (hws : ws.length < 80) (hn : r0 + n + ws.length < 400) : ∃ τ', (∀ f, Md_text_44 (f + 1) τ = Md_text_44 f τ') ∧ MR b nb r0 (gx_up τ0 109 30 (τ0 109 30 + 1)) τ' (t + 1) [] (fl 1 1 ws).1 4 (n + (fl 1 1 ws).2.length + 1) (fset (emK n ck (fl 1 1 ws).2) (n + (fl 1 1 ws).2.length) 43) (fset (emA n ca (fl 1 1 ws).2) (n + (fl 1 1 ws).2.length) 0) := by
  have hfl := fl_len 1 1 ws
  obtain ⟨τ1, w1, w2⟩ := A_works (r := 1) (by omega) (show [(1, i)].length < 100 by show 1 < 100; omega) ws z_FU n ck ca τ (by have := z_FU_ge; omega) (by omega) (by omega) h
  have w1 : Md_works 1 τ = some ((), τ1) := w1
  have w2 : MR b nb r0 τ0 τ1 t [(1, i)] (fl 1 1 ws).1 2 (n + (fl 1 1 ws).2.length) (emK n ck (fl 1 1 ws).2) (emA n ca (fl 1 1 ws).2) := w2
  obtain ⟨τ2, e1, e2⟩ := A_emit (k := 43) (a := 0) (o := 408) (v := 0) (A_none w2) (by omega) rfl rfl
  have h30 : τ2 109 30 = τ0 109 30 := e2.2.2.2.2.2.2.2.2.2.2.2.2 30 (by omega) (by omega) (by omega) (by omega) (by omega) (by omega)
  obtain ⟨τ3, n1, n2⟩ := A_next (A_base e2 (τ0 109 30 + 1)) (kd_lt h.2.2.1.1 (by omega))
  refine ⟨_, fun f => ?_, A_state n2 4⟩
  have s := isS_v (s := 43) h.2.2.1 (by omega)
  rw [decide_eq_true hk] at s
  have s : Md_isSign 59 τ = some (1, τ) := s
  have go : Md_clauseIsOver τ = some ((), gx_up τ3 109 28 (nI 4)) := by
    rw [Md_clauseIsOver, w1, w_bd, e1, w_bd, h30, n1, w_bd]; rfl
  rw [G_145 h (by show 0 < 39; omega) (by omega) (fun z => by have z : (1 : Nat) = 6 ∧ _ := z; omega) (fun z => by have z : (1 : Nat) = 8 ∧ _ := z; omega) (fun z => by have z : (1 : Nat) = 9 ∧ _ := z; omega) (fun z => by have z : (1 : Nat) = 4 ∧ _ := z; omega), Md_goesOn_145, if_neg (show ¬ nI (1, i).fst = 5 from fun z => by have := (f_eq (x := 1) (by omega) 5 (by omega)).mp z; omega), if_pos (show nI (1, i).fst = 1 from rfl), s, w_bd, if_neg (by decide), go, w_bd, w_bd]
