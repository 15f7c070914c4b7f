/-! ===== the machine's steps ===== -/
def kd (b : Nat → Nat) (nb t : Nat) : Nat := if tkS b nb t = nb then 44 else tkK b nb (tkS b nb t)
def nm (b : Nat → Nat) (nb t : Nat) : Nat := tkN b nb (tkS b nb t)
theorem rI_i : ∀ k, k < 30 → ∀ w, w < 30 → rI k = rI w → k = w := by decide +kernel
theorem rI_b : ∀ k, k < 30 → rI k < 30 := by decide +kernel
theorem sI_i : ∀ k, k < 44 → ∀ s, s < 44 → 31 ≤ k → 31 ≤ s → sI k = sI s → k = s := by decide +kernel
theorem sI_b : ∀ k, k < 44 → 31 ≤ k → sI k < 400 ∧ sI k ≠ 44 := by decide +kernel
theorem kr_w {k num w : Nat} {so is : Int32} (h : KR k num so is) (hw : w < 30) : (so = 1 ∧ is = nI (rI w)) ↔ k = w := by
  have hb := rI_b w hw
  rcases h with ⟨h1, h2, h3⟩ | ⟨h1, h2, h3⟩ | ⟨h1, h1', h2, h3⟩ | ⟨h1, h2⟩ | ⟨h1, h2⟩
  · constructor
    · rintro ⟨-, z⟩
      rw [h3] at z
      have := rI_b k h1
      exact rI_i k h1 w hw ((nI_eq (by omega) (by omega)).mp z)
    · intro z; rw [← z]; exact ⟨h2, h3⟩
  · exact ⟨fun z => by rw [h2] at z; exact absurd z.1 (by decide), fun z => by omega⟩
  · exact ⟨fun z => by rw [h2] at z; exact absurd z.1 (by decide), fun z => by omega⟩
  · exact ⟨fun z => by rw [h2] at z; exact absurd z.1 (by decide), fun z => by omega⟩
  · refine ⟨fun z => ?_, fun z => by omega⟩
    rcases h2 with h2 | ⟨h2, -⟩ <;> rw [h2] at z <;> exact absurd z.1 (by decide)
theorem kr_s {k num s : Nat} {so is : Int32} (h : KR k num so is) (hs : 31 ≤ s ∧ s ≤ 43) : (so = 3 ∧ is = nI (sI s)) ↔ k = s := by
  obtain ⟨hb, h44⟩ := sI_b s (by omega) (by omega)
  rcases h with ⟨h1, h2, h3⟩ | ⟨h1, h2, h3⟩ | ⟨h1, h1', h2, h3⟩ | ⟨h1, h2⟩ | ⟨h1, h2⟩
  · exact ⟨fun z => by rw [h2] at z; exact absurd z.1 (by decide), fun z => by omega⟩
  · exact ⟨fun z => by rw [h2] at z; exact absurd z.1 (by decide), fun z => by omega⟩
  · constructor
    · rintro ⟨-, z⟩
      rw [h3] at z
      have := (sI_b k (by omega) (by omega)).1
      exact sI_i k (by omega) s (by omega) h1 hs.1 ((nI_eq (by omega) (by omega)).mp z)
    · intro z; rw [← z]; exact ⟨h2, h3⟩
  · exact ⟨fun z => by rw [h2] at z; exact absurd z.1 (by decide), fun z => by omega⟩
  · refine ⟨fun z => ?_, fun z => by omega⟩
    rcases h2 with h2 | ⟨h2, h3⟩
    · rw [h2] at z; exact absurd z.1 (by decide)
    · rw [h3] at z
      exact absurd ((nI_eq (a := 44) (by omega) (by omega)).mp z.2).symm h44
theorem kr_n {k num : Nat} {so is : Int32} (h : KR k num so is) : so = 2 ↔ k = 30 := by
  rcases h with ⟨h1, h2, h3⟩ | ⟨h1, h2, h3⟩ | ⟨h1, h1', h2, h3⟩ | ⟨h1, h2⟩ | ⟨h1, h2⟩
  · exact ⟨fun z => by rw [h2] at z; exact absurd z (by decide), fun z => by omega⟩
  · exact ⟨fun _ => h1, fun _ => h2⟩
  · exact ⟨fun z => by rw [h2] at z; exact absurd z (by decide), fun z => by omega⟩
  · exact ⟨fun z => by rw [h2] at z; exact absurd z (by decide), fun z => by omega⟩
  · refine ⟨fun z => ?_, fun z => by omega⟩
    rcases h2 with h2 | ⟨h2, -⟩ <;> rw [h2] at z <;> exact absurd z (by decide)
theorem kr_u {k num : Nat} {so is : Int32} (h : KR k num so is) (hk : k = 30) : ∃ u, is = nI u ∧ u ≤ 1000000 ∧ num = min u 10000 := by
  rcases h with ⟨h1, h2, h3⟩ | ⟨h1, h2, h3⟩ | ⟨h1, h1', h2, h3⟩ | ⟨h1, h2⟩ | ⟨h1, h2⟩
  · omega
  · exact h3
  · omega
  · omega
  · omega
theorem kr_e {k num : Nat} {so is : Int32} (h : KR k num so is) : so = 0 ↔ k = 44 := by
  rcases h with ⟨h1, h2, h3⟩ | ⟨h1, h2, h3⟩ | ⟨h1, h1', h2, h3⟩ | ⟨h1, h2⟩ | ⟨h1, h2⟩
  · exact ⟨fun z => by rw [h2] at z; exact absurd z (by decide), fun z => by omega⟩
  · exact ⟨fun z => by rw [h2] at z; exact absurd z (by decide), fun z => by omega⟩
  · exact ⟨fun z => by rw [h2] at z; exact absurd z (by decide), fun z => by omega⟩
  · exact ⟨fun _ => h1, fun _ => h2⟩
  · refine ⟨fun z => ?_, fun z => by omega⟩
    rcases h2 with h2 | ⟨h2, -⟩ <;> rw [h2] at z <;> exact absurd z (by decide)
/-- the name that a word is, if it is one -/
theorem kr_nm {k num : Nat} {so is : Int32} (h : KR k num so is) : (if so = 1 then (if is ≤ 20 then (-1 : Int32) else is - 20 - 1) else -1) = if 21 ≤ k ∧ k ≤ 29 then nI (k - 21) else -1 := by
  rcases h with ⟨h1, h2, h3⟩ | ⟨h1, h2, h3⟩ | ⟨h1, h1', h2, h3⟩ | ⟨h1, h2⟩ | ⟨h1, h2⟩
  · rw [if_pos h2, h3]
    have : ∀ k, k < 30 → (if nI (rI k) ≤ 20 then (-1 : Int32) else nI (rI k) - 20 - 1) = if 21 ≤ k ∧ k ≤ 29 then nI (k - 21) else -1 := by decide +kernel
    exact this k h1
  · rw [if_neg (by rw [h2]; decide), if_neg (by omega)]
  · rw [if_neg (by rw [h2]; decide), if_neg (by omega)]
  · rw [if_neg (by rw [h2]; decide), if_neg (by omega)]
  · rw [if_neg (fun z => by rcases h2 with h2 | ⟨h2, -⟩ <;> rw [h2] at z <;> exact absurd z (by decide)), if_neg (by omega)]
theorem isW_v {τ : gx_R} {b : Nat → Nat} {nb t w : Nat} (h : LexR τ b nb t) (hw : w < 30) : Md_isWord (nI (rI w)) τ = some (bI (decide (kd b nb t = w)), τ) := by
  have hk := kr_w h.2.2.2 hw
  rw [Md_isWord]
  by_cases c1 : τ 109 17 = 1
  · rw [if_pos c1]
    by_cases c2 : τ 109 18 = nI (rI w)
    · rw [if_pos c2, decide_eq_true (show kd b nb t = w from hk.mp ⟨c1, c2⟩)]; rfl
    · rw [if_neg c2, decide_eq_false (show ¬ kd b nb t = w from fun z => c2 (hk.mpr z).2)]; rfl
  · rw [if_neg c1, decide_eq_false (show ¬ kd b nb t = w from fun z => c1 (hk.mpr z).1)]; rfl
theorem isS_v {τ : gx_R} {b : Nat → Nat} {nb t s : Nat} (h : LexR τ b nb t) (hs : 31 ≤ s ∧ s ≤ 43) : Md_isSign (nI (sI s)) τ = some (bI (decide (kd b nb t = s)), τ) := by
  have hk := kr_s h.2.2.2 hs
  rw [Md_isSign]
  by_cases c1 : τ 109 17 = 3
  · rw [if_pos c1]
    by_cases c2 : τ 109 18 = nI (sI s)
    · rw [if_pos c2, decide_eq_true (show kd b nb t = s from hk.mp ⟨c1, c2⟩)]; rfl
    · rw [if_neg c2, decide_eq_false (show ¬ kd b nb t = s from fun z => c2 (hk.mpr z).2)]; rfl
  · rw [if_neg c1, decide_eq_false (show ¬ kd b nb t = s from fun z => c1 (hk.mpr z).1)]; rfl
theorem kd_lt {b : Nat → Nat} {nb t : Nat} (h : tkS b nb t ≤ nb) (hk : kd b nb t ≠ 44) : tkS b nb t < nb := by
  rcases Nat.lt_or_ge (tkS b nb t) nb with z | z
  · exact z
  · exact absurd (show kd b nb t = 44 by unfold kd; exact if_pos (by omega)) hk
/-- reading has ended with a FAULT -/
def RdG (τ0 τ : gx_R) : Prop := (∀ c, c ≠ 109 → c < 121 → τ c = τ0 c) ∧ ∀ j, j < 15 → τ 109 j = τ0 109 j
def EndF (b : Nat → Nat) (nb : Nat) (τ0 : gx_R) (r : Option (Int32 × gx_R)) (f t : Nat) : Prop := ∃ τ', r = Md_text_72 τ' ∧ (τ' 109 19 = nI f ∧ f ≠ 0 ∧ f < 10) ∧ τ' 109 20 = nI (tkS b nb t) ∧ RdG τ0 τ'
theorem RdF_G {r0 : Nat} {τ0 τ : gx_R} (h : RdF r0 τ0 τ) : RdG τ0 τ := ⟨fun c c1 c2 => h.1 c c1 (by omega) (by omega) (by omega), fun j hj => h.2.2 j (by omega) (by omega) (by omega) (by omega) (by omega) (by omega)⟩
theorem A_errs {b : Nat → Nat} {nb r0 : Nat} {τ0 τ : gx_R} {t : Nat} {fr ws : List (Nat × Nat)} {st n : Nat} {ck ca : Nat → Nat} (h : MR b nb r0 τ0 τ t fr ws st n ck ca) (f : Nat) (hf : f ≠ 0 ∧ f < 10) : ∃ τ', Md_errs (nI f) τ = some ((), τ') ∧ ∀ k, EndF b nb τ0 (Md_text_44 (k + 1) τ') f t := by
  obtain ⟨m1, m2, m3, ⟨m4, m5⟩, m6, m7, m8, m9, m10, m11, m12⟩ := h
  have e19 : τ 109 19 = 0 := by rw [m12.2.2 19 (by omega) (by omega) (by omega) (by omega) (by omega) (by omega)]; exact m2.1
  have g := RdF_G m12
  refine ⟨gx_up (gx_up τ 109 19 (nI f)) 109 20 (nI (tkS b nb t)), ?_, fun k => ⟨gx_up (gx_up τ 109 19 (nI f)) 109 20 (nI (tkS b nb t)), ?_, ⟨by rw [up_p _ _ _ (by omega), up_e], hf⟩, up_e _ _ _ _, fun c c1 c2 => by rw [gx_up_ne c1, gx_up_ne c1]; exact g.1 c c1 c2, fun j hj => by rw [up_p _ _ _ (by omega), up_p _ _ _ (by omega)]; exact g.2 j hj⟩⟩
  · rw [Md_errs, if_pos e19, up_p _ _ _ (show (16 : Nat) ≠ 19 by omega), m3.2.1]
  · rw [Md_text_44, Md_text_44_B, up_p _ _ _ (show (19 : Nat) ≠ 20 by omega), up_e, if_neg (fun z => by have := (n_eq0 (by omega)).mp z; omega)]
/-- one round of the reading -/
theorem A_loop {b : Nat → Nat} {nb r0 : Nat} {τ0 τ : gx_R} {t : Nat} {fr ws : List (Nat × Nat)} {st n : Nat} {ck ca : Nat → Nat} (h : MR b nb r0 τ0 τ t fr ws st n ck ca) (hs : st < 4) (f : Nat) : Md_text_44 (f + 1) τ = if st = 0 then z_bd (Md_asks τ) (fun _ σ => Md_text_44 f σ) else if st = 1 then z_bd (Md_begins τ) (fun _ σ => Md_text_44 f σ) else if st = 2 then z_bd (Md_goesOn τ) (fun _ σ => Md_text_44 f σ) else z_bd (Md_asksOn τ) (fun _ σ => Md_text_44 f σ) := by
  obtain ⟨m1, m2, m3, ⟨m4, m5⟩, m6, m7, m8, m9, m10, m11, m12⟩ := h
  have e19 : τ 109 19 = 0 := by rw [m12.2.2 19 (by omega) (by omega) (by omega) (by omega) (by omega) (by omega)]; exact m2.1
  rw [Md_text_44, Md_text_44_B, if_pos e19, m9, if_neg (show ¬ nI st = 4 from fun z => by have := (nI_eq (b := 4) (by omega) (by omega)).mp z; omega), Md_text_54, m9]
  rcases (show st = 0 ∨ st = 1 ∨ st = 2 ∨ st = 3 by omega) with e | e | e | e <;> subst e <;> rfl
theorem A_opens {b : Nat → Nat} {nb r0 : Nat} {τ0 τ : gx_R} {t : Nat} {fr ws : List (Nat × Nat)} {st n x : Nat} {ck ca : Nat → Nat} (h : MR b nb r0 τ0 τ t fr ws st n ck ca) (hx : x = 2 ∨ x = 3 ∨ x = 6 ∨ x = 7) (hl : fr.length < 39) (ho : opN fr < 8) (ht : tkS b nb t < nb) : ∃ τ', Md_opensSign (nI x) τ = some (1, τ') ∧ MR b nb r0 τ0 τ' (t + 1) ((x, 0) :: fr) ws st n ck ca := by
  obtain ⟨τ1, p1, p2⟩ := A_push (x := x) h hl ⟨by omega, by omega⟩ (Or.inr (by omega))
  obtain ⟨τ2, n1, n2⟩ := A_next p2 ht
  rw [if_neg (show ¬ (x = 1 ∨ x = 4) by omega)] at p1
  refine ⟨τ2, ?_, n2⟩
  have h21 : τ 109 21 = nI (opN fr) := h.2.2.2.1.1
  rw [Md_opensSign, h21, if_neg (show ¬ nI (opN fr) = 8 from fun z => by have := (nI_eq (b := 8) (by omega) (by omega)).mp z; omega), p1, w_bd, n1, w_bd]
theorem A_opens8 {b : Nat → Nat} {nb r0 : Nat} {τ0 τ : gx_R} {t : Nat} {fr ws : List (Nat × Nat)} {st n : Nat} {ck ca : Nat → Nat} {x : Int32} (h : MR b nb r0 τ0 τ t fr ws st n ck ca) (ho : opN fr = 8) : ∃ τ', Md_opensSign x τ = some (0, τ') ∧ ∀ k, EndF b nb τ0 (Md_text_44 (k + 1) τ') 3 t := by
  obtain ⟨τ1, e1, e2⟩ := A_errs h 3 (by omega)
  refine ⟨τ1, ?_, e2⟩
  have h21 : τ 109 21 = nI (opN fr) := h.2.2.2.1.1
  have e1 : Md_errs 3 τ = some ((), τ1) := e1
  rw [Md_opensSign, h21, ho, if_pos (show nI 8 = 8 from rfl), e1, w_bd]
/-! state 0: a question begins -/
theorem Q_not {b : Nat → Nat} {nb r0 : Nat} {τ0 τ : gx_R} {t : Nat} {fr ws : List (Nat × Nat)} {n : Nat} {ck ca : Nat → Nat} (h : MR b nb r0 τ0 τ t fr ws 0 n ck ca) (hk : kd b nb t = 20) (hl : fr.length < 39) (ho : opN fr < 8) : ∃ τ', (∀ f, Md_text_44 (f + 1) τ = Md_text_44 f τ') ∧ MR b nb r0 τ0 τ' (t + 1) ((3, 0) :: fr) ws 0 n ck ca := by
  obtain ⟨τ1, o1, o2⟩ := A_opens (x := 3) h (by omega) hl ho (kd_lt h.2.2.1.1 (by omega))
  refine ⟨τ1, fun f => ?_, o2⟩
  have w := isW_v (w := 20) h.2.2.1 (by omega)
  rw [decide_eq_true hk] at w
  have w : Md_isWord 16 τ = some (1, τ) := w
  have o1 : Md_opensSign 3 τ = some (1, τ1) := o1
  rw [A_loop h (by omega), if_pos rfl, Md_asks, w, w_bd, if_neg (by decide), o1, w_bd, w_bd]
theorem Q_not8 {b : Nat → Nat} {nb r0 : Nat} {τ0 τ : gx_R} {t : Nat} {fr ws : List (Nat × Nat)} {n : Nat} {ck ca : Nat → Nat} (h : MR b nb r0 τ0 τ t fr ws 0 n ck ca) (hk : kd b nb t = 20) (ho : opN fr = 8) (f : Nat) : EndF b nb τ0 (Md_text_44 (f + 2) τ) 3 t := by
  obtain ⟨τ1, o1, o2⟩ := A_opens8 (x := 3) h ho
  have w := isW_v (w := 20) h.2.2.1 (by omega)
  rw [decide_eq_true hk] at w
  have w : Md_isWord 16 τ = some (1, τ) := w
  rw [A_loop h (by omega), if_pos rfl, Md_asks, w, w_bd, if_neg (by decide), o1, w_bd, w_bd]
  exact o2 f
theorem Q_left {b : Nat → Nat} {nb r0 : Nat} {τ0 τ : gx_R} {t : Nat} {fr ws : List (Nat × Nat)} {n : Nat} {ck ca : Nat → Nat} (h : MR b nb r0 τ0 τ t fr ws 0 n ck ca) (hk : kd b nb t ≠ 20) (hl : fr.length < 39) : ∃ τ', (∀ f, Md_text_44 (f + 1) τ = Md_text_44 f τ') ∧ MR b nb r0 τ0 τ' t ((4, 0) :: fr) ws 1 n ck ca := by
  obtain ⟨τ1, p1, p2⟩ := A_push (x := 4) h hl ⟨by omega, by omega⟩ (Or.inl (by omega))
  rw [if_pos (show (4 : Nat) = 1 ∨ (4 : Nat) = 4 by omega)] at p1
  refine ⟨_, fun f => ?_, A_state p2 1⟩
  have w := isW_v (w := 20) h.2.2.1 (by omega)
  rw [decide_eq_false hk] at w
  have w : Md_isWord 16 τ = some (0, τ) := w
  have p1 : Md_opensFrame 4 τ = some ((), τ1) := p1
  rw [A_loop h (by omega), if_pos rfl, Md_asks, w, w_bd, if_pos rfl, p1, w_bd, w_bd]; rfl
/-! state 1: a ONE begins -/
theorem O_pre {b : Nat → Nat} {nb r0 : Nat} {τ0 τ : gx_R} {t : Nat} {fr ws : List (Nat × Nat)} {n : Nat} {ck ca : Nat → Nat} (h : MR b nb r0 τ0 τ t fr ws 1 n ck ca) (f : Nat) : Md_text_44 (f + 1) τ = z_bd (Md_begins τ) (fun _ σ => Md_text_44 f σ) := by
  rw [A_loop h (by omega), if_neg (by omega), if_pos rfl]
theorem nameNow_v {τ : gx_R} {b : Nat → Nat} {nb t : Nat} (h : LexR τ b nb t) : Md_nameNow τ = some (if 21 ≤ kd b nb t ∧ kd b nb t ≤ 29 then nI (kd b nb t - 21) else -1, τ) := by
  have := kr_nm h.2.2.2
  unfold kd
  rw [← this, Md_nameNow]
  by_cases c1 : τ 109 17 = 1
  · rw [if_pos c1, if_pos c1]
    by_cases c2 : τ 109 18 ≤ 20
    · rw [if_pos c2, if_pos c2]
    · rw [if_neg c2, if_neg c2]
  · rw [if_neg c1, if_neg c1]
theorem O_num {b : Nat → Nat} {nb r0 : Nat} {τ0 τ : gx_R} {t : Nat} {fr ws : List (Nat × Nat)} {n : Nat} {ck ca : Nat → Nat} (h : MR b nb r0 τ0 τ t fr ws 1 n ck ca) (hk : kd b nb t = 30) (hv : nm b nb t ≤ 9999) (hn : r0 + n < 400) : ∃ τ', (∀ f, Md_text_44 (f + 1) τ = z_bd (Md_oneIsOver τ') (fun _ σ => Md_text_44 f σ)) ∧ MR b nb r0 τ0 τ' (t + 1) fr ws 1 (n + 1) (fset ck n 30) (fset ca n (nm b nb t)) := by
  obtain ⟨u, u1, u2, u3⟩ := kr_u h.2.2.1.2.2.2 (show (if tkS b nb t = nb then 44 else tkK b nb (tkS b nb t)) = 30 from hk)
  have u4 : nm b nb t = u := by unfold nm at hv ⊢; omega
  obtain ⟨τ1, e1, e2⟩ := A_emit (k := 30) (a := nm b nb t) (o := 400) (v := nI u) h hn rfl (by rw [u4]; rfl)
  obtain ⟨τ2, x1, x2⟩ := A_next e2 (kd_lt h.2.2.1.1 (by omega))
  refine ⟨τ2, fun f => ?_, x2⟩
  have h17 : τ 109 17 = 2 := (kr_n h.2.2.1.2.2.2).mpr hk
  rw [O_pre h, Md_begins, nameNow_v h.2.2.1, w_bd, if_pos h17, u1, if_pos (show nI u ≤ (9999 : Int32) from (nI_leI (b := 9999) (by omega) (by omega)).mpr (by omega)), e1, w_bd, x1, w_bd]
  cases Md_oneIsOver τ2 with
  | none => rfl
  | some r => rfl
theorem O_num2 {b : Nat → Nat} {nb r0 : Nat} {τ0 τ : gx_R} {t : Nat} {fr ws : List (Nat × Nat)} {n : Nat} {ck ca : Nat → Nat} (h : MR b nb r0 τ0 τ t fr ws 1 n ck ca) (hk : kd b nb t = 30) (hv : 9999 < nm b nb t) (f : Nat) : EndF b nb τ0 (Md_text_44 (f + 2) τ) 2 t := by
  obtain ⟨u, u1, u2, u3⟩ := kr_u h.2.2.1.2.2.2 (show (if tkS b nb t = nb then 44 else tkK b nb (tkS b nb t)) = 30 from hk)
  have u4 : 9999 < u := by unfold nm at hv; omega
  obtain ⟨τ1, e1, e2⟩ := A_errs h 2 (by omega)
  have h17 : τ 109 17 = 2 := (kr_n h.2.2.1.2.2.2).mpr hk
  have e1 : Md_errs 2 τ = some ((), τ1) := e1
  rw [O_pre h, Md_begins, nameNow_v h.2.2.1, w_bd, if_pos h17, u1, if_neg (show ¬ nI u ≤ (9999 : Int32) from fun z => by have := (nI_leI (b := 9999) (by omega) (by omega)).mp z; omega), e1, w_bd, w_bd]
  exact e2 f
theorem mayName_v : ∀ q, q < 9 → ∀ l, l < 4 → ∀ τ : gx_R, Md_mayName (nI q) (nI l) τ = some (bI (nmOk l q), τ) := by
  intro q hq l hl τ
  rcases (show q = 0 ∨ q = 1 ∨ q = 2 ∨ q = 3 ∨ q = 4 ∨ q = 5 ∨ q = 6 ∨ q = 7 ∨ q = 8 by omega) with h | h | h | h | h | h | h | h | h <;> subst h <;> rcases (show l = 0 ∨ l = 1 ∨ l = 2 ∨ l = 3 by omega) with e | e | e | e <;> subst e <;> rfl
theorem O_name {b : Nat → Nat} {nb r0 : Nat} {τ0 τ : gx_R} {t l : Nat} {fr ws : List (Nat × Nat)} {n : Nat} {ck ca : Nat → Nat} (h : MR b nb r0 τ0 τ t fr ws 1 n ck ca) (hl : l < 4) (h31 : τ0 109 31 = nI l) (hk : 21 ≤ kd b nb t ∧ kd b nb t ≤ 29) (hv : nmOk l (kd b nb t - 21) = true) (hn : r0 + n < 400) : ∃ τ', (∀ f, Md_text_44 (f + 1) τ = z_bd (Md_oneIsOver τ') (fun _ σ => Md_text_44 f σ)) ∧ MR b nb r0 τ0 τ' (t + 1) fr ws 1 (n + 1) (fset ck n (kd b nb t)) (fset ca n 0) := by
  obtain ⟨τ1, e1, e2⟩ := A_emit (k := kd b nb t) (a := 0) (o := 401) (v := nI (kd b nb t - 21)) h hn (by unfold oI; rw [if_neg (by omega), if_pos hk]; rfl) (by unfold vI; rw [if_pos hk])
  obtain ⟨τ2, x1, x2⟩ := A_next e2 (kd_lt h.2.2.1.1 (by omega))
  refine ⟨τ2, fun f => ?_, x2⟩
  have h17 : ¬ τ 109 17 = 2 := fun z => by have := (kr_n h.2.2.1.2.2.2).mp z; unfold kd at hk; omega
  have e31 : τ 109 31 = nI l := by rw [h.2.2.2.2.2.2.2.2.2.2.2.2 31 (by omega) (by omega) (by omega) (by omega) (by omega) (by omega)]; exact h31
  rw [O_pre h, Md_begins, nameNow_v h.2.2.1, w_bd, if_neg h17, if_pos hk, if_neg (fun z => (n_m1 (by omega)).mp z), e31, mayName_v _ (by omega) l hl, hv, w_bd, bI_t, if_neg (by decide), e1, w_bd, x1, w_bd]
  cases Md_oneIsOver τ2 with
  | none => rfl
  | some r => rfl
theorem O_name5 {b : Nat → Nat} {nb r0 : Nat} {τ0 τ : gx_R} {t l : Nat} {fr ws : List (Nat × Nat)} {n : Nat} {ck ca : Nat → Nat} (h : MR b nb r0 τ0 τ t fr ws 1 n ck ca) (hl : l < 4) (h31 : τ0 109 31 = nI l) (hk : 21 ≤ kd b nb t ∧ kd b nb t ≤ 29) (hv : nmOk l (kd b nb t - 21) = false) (f : Nat) : EndF b nb τ0 (Md_text_44 (f + 2) τ) 5 t := by
  obtain ⟨τ1, e1, e2⟩ := A_errs h 5 (by omega)
  have h17 : ¬ τ 109 17 = 2 := fun z => by have := (kr_n h.2.2.1.2.2.2).mp z; unfold kd at hk; omega
  have e31 : τ 109 31 = nI l := by rw [h.2.2.2.2.2.2.2.2.2.2.2.2 31 (by omega) (by omega) (by omega) (by omega) (by omega) (by omega)]; exact h31
  have e1 : Md_errs 5 τ = some ((), τ1) := e1
  rw [O_pre h, Md_begins, nameNow_v h.2.2.1, w_bd, if_neg h17, if_pos hk, if_neg (fun z => (n_m1 (by omega)).mp z), e31, mayName_v _ (by omega) l hl, hv, w_bd, bI_f, if_pos rfl, e1, w_bd, w_bd]
  exact e2 f
/-- neither a number nor a name -/
theorem O_more {b : Nat → Nat} {nb r0 : Nat} {τ0 τ : gx_R} {t : Nat} {fr ws : List (Nat × Nat)} {n : Nat} {ck ca : Nat → Nat} (h : MR b nb r0 τ0 τ t fr ws 1 n ck ca) (hk : kd b nb t ≠ 30 ∧ ¬ (21 ≤ kd b nb t ∧ kd b nb t ≤ 29)) (f : Nat) : Md_text_44 (f + 1) τ = if kd b nb t = 14 then z_bd (Md_opensSign 2 τ) (fun r40 σ41 => if r40 = 0 then Md_text_44 f σ41 else Md_text_44 f (gx_up σ41 109 28 0)) else if kd b nb t = 41 then z_bd (Md_opensSign 6 τ) (fun _ σ => Md_text_44 f σ) else if kd b nb t = 38 then z_bd (Md_opensSign 7 τ) (fun _ σ => Md_text_44 f σ) else z_bd (Md_errs 1 τ) (fun _ σ => Md_text_44 f σ) := by
  have h17 : ¬ τ 109 17 = 2 := fun z => hk.1 ((kr_n h.2.2.1.2.2.2).mp z)
  have w1 : Md_isWord 17 τ = _ := isW_v (w := 14) h.2.2.1 (by omega)
  have w2 : Md_isSign 40 τ = _ := isS_v (s := 41) h.2.2.1 (by omega)
  have w3 : Md_isSign 45 τ = _ := isS_v (s := 38) h.2.2.1 (by omega)
  rw [O_pre h, Md_begins, nameNow_v h.2.2.1, w_bd, if_neg h17, if_neg hk.2, if_pos rfl, w1, w_bd]
  by_cases c1 : kd b nb t = 14
  · rw [decide_eq_true c1, bI_t, if_neg (by decide), if_pos c1]
    cases Md_opensSign 2 τ with
    | none => rfl
    | some r =>
      obtain ⟨v, σ⟩ := r
      rw [w_bd, w_bd]
      by_cases z : v = 0
      · rw [if_pos z, if_pos z]; rfl
      · rw [if_neg z, if_neg z]; rfl
  · rw [decide_eq_false c1, bI_f, if_pos rfl, if_neg c1, w2, w_bd]
    by_cases c2 : kd b nb t = 41
    · rw [decide_eq_true c2, bI_t, if_neg (by decide), if_pos c2]
      cases Md_opensSign 6 τ with
      | none => rfl
      | some r => rfl
    · rw [decide_eq_false c2, bI_f, if_pos rfl, if_neg c2, w3, w_bd]
      by_cases c3 : kd b nb t = 38
      · rw [decide_eq_true c3, bI_t, if_neg (by decide), if_pos c3]
        cases Md_opensSign 7 τ with
        | none => rfl
        | some r => rfl
      · rw [decide_eq_false c3, bI_f, if_pos rfl, if_neg c3]
        cases Md_errs 1 τ with
        | none => rfl
        | some r => rfl
theorem O_open {b : Nat → Nat} {nb r0 : Nat} {τ0 τ : gx_R} {t x : Nat} {fr ws : List (Nat × Nat)} {n : Nat} {ck ca : Nat → Nat} (h : MR b nb r0 τ0 τ t fr ws 1 n ck ca) (hk : (kd b nb t = 14 ∧ x = 2) ∨ (kd b nb t = 41 ∧ x = 6) ∨ (kd b nb t = 38 ∧ x = 7)) (hl : fr.length < 39) (ho : opN fr < 8) : ∃ τ', (∀ f, Md_text_44 (f + 1) τ = Md_text_44 f τ') ∧ MR b nb r0 τ0 τ' (t + 1) ((x, 0) :: fr) ws (if x = 2 then 0 else 1) n ck ca := by
  obtain ⟨τ1, o1, o2⟩ := A_opens (x := x) h (by omega) hl ho (kd_lt h.2.2.1.1 (by omega))
  rcases hk with ⟨h1, rfl⟩ | ⟨h1, rfl⟩ | ⟨h1, rfl⟩
  · have o1 : Md_opensSign 2 τ = some (1, τ1) := o1
    refine ⟨_, fun f => ?_, A_state o2 0⟩
    rw [O_more h (by omega), if_pos h1, o1, w_bd, if_neg (by decide)]; rfl
  · have o1 : Md_opensSign 6 τ = some (1, τ1) := o1
    refine ⟨τ1, fun f => ?_, o2⟩
    rw [O_more h (by omega), if_neg (by omega), if_pos h1, o1, w_bd]
  · have o1 : Md_opensSign 7 τ = some (1, τ1) := o1
    refine ⟨τ1, fun f => ?_, o2⟩
    rw [O_more h (by omega), if_neg (by omega), if_neg (by omega), if_pos h1, o1, w_bd]
theorem O_open8 {b : Nat → Nat} {nb r0 : Nat} {τ0 τ : gx_R} {t : Nat} {fr ws : List (Nat × Nat)} {n : Nat} {ck ca : Nat → Nat} (h : MR b nb r0 τ0 τ t fr ws 1 n ck ca) (hk : kd b nb t = 14 ∨ kd b nb t = 41 ∨ kd b nb t = 38) (ho : opN fr = 8) (f : Nat) : EndF b nb τ0 (Md_text_44 (f + 2) τ) 3 t := by
  rcases hk with h1 | h1 | h1
  · obtain ⟨τ1, o1, o2⟩ := A_opens8 (x := 2) h ho
    rw [O_more h (by omega), if_pos h1, o1, w_bd, if_pos rfl]; exact o2 f
  · obtain ⟨τ1, o1, o2⟩ := A_opens8 (x := 6) h ho
    rw [O_more h (by omega), if_neg (by omega), if_pos h1, o1, w_bd]; exact o2 f
  · obtain ⟨τ1, o1, o2⟩ := A_opens8 (x := 7) h ho
    rw [O_more h (by omega), if_neg (by omega), if_neg (by omega), if_pos h1, o1, w_bd]; exact o2 f
theorem O_err {b : Nat → Nat} {nb r0 : Nat} {τ0 τ : gx_R} {t : Nat} {fr ws : List (Nat × Nat)} {n : Nat} {ck ca : Nat → Nat} (h : MR b nb r0 τ0 τ t fr ws 1 n ck ca) (hk : kd b nb t ≠ 30 ∧ ¬ (21 ≤ kd b nb t ∧ kd b nb t ≤ 29) ∧ kd b nb t ≠ 14 ∧ kd b nb t ≠ 41 ∧ kd b nb t ≠ 38) (f : Nat) : EndF b nb τ0 (Md_text_44 (f + 2) τ) 1 t := by
  obtain ⟨τ1, e1, e2⟩ := A_errs h 1 (by omega)
  have e1 : Md_errs 1 τ = some ((), τ1) := e1
  rw [O_more h ⟨hk.1, hk.2.1⟩, if_neg hk.2.2.1, if_neg hk.2.2.2.1, if_neg hk.2.2.2.2, e1, w_bd]
  exact e2 f
/-! a ONE, a question is over -/
theorem over_7 {b : Nat → Nat} {nb r0 : Nat} {τ0 τ : gx_R} {t i : Nat} {fr ws : List (Nat × Nat)} {st n : Nat} {ck ca : Nat → Nat} (h : MR b nb r0 τ0 τ t ((7, i) :: fr) ws st n ck ca) (hl : fr.length < 39) (ho : opN fr < 100) (hn : r0 + n < 400) : ∃ τ', (∀ f, Md_oneIsOver_0 (f + 1) τ = Md_oneIsOver_0 f τ') ∧ MR b nb r0 τ0 τ' t fr ws st (n + 1) (fset ck n 46) (fset ca n 0) := by
  obtain ⟨τ1, e1, e2⟩ := A_emit (k := 46) (a := 0) (o := 402) (v := 0) (A_pop h (by show ¬ ((7 : Nat) = 1 ∨ (7 : Nat) = 4 ∨ (7 : Nat) = 5); omega)) hn rfl rfl
  refine ⟨τ1, fun f => ?_, e2⟩
  have h22 : τ 109 22 = nI (fr.length + 1) := h.2.2.2.1.2
  have h21 : τ 109 21 = nI (opN fr + 1) := h.2.2.2.1.1
  rw [Md_oneIsOver_0, Md_oneIsOver_0_B, A_top h hl, w_bd, if_pos (show nI (7, i).fst = 7 from rfl), h22, n_sub1 (by omega), show fr.length + 1 - 1 = fr.length by omega, up_p _ _ _ (show (21 : Nat) ≠ 22 by omega), h21, n_sub1 (by omega), show opN fr + 1 - 1 = opN fr by omega, e1, w_bd]
theorem over_0 {b : Nat → Nat} {nb r0 : Nat} {τ0 τ : gx_R} {t : Nat} {f : Nat × Nat} {fr ws : List (Nat × Nat)} {st n : Nat} {ck ca : Nat → Nat} (h : MR b nb r0 τ0 τ t (f :: fr) ws st n ck ca) (hl : fr.length < 39) (hf : f.1 ≠ 7) : (∀ g, Md_oneIsOver_0 (g + 1) τ = some ((), gx_up τ 109 28 2)) ∧ MR b nb r0 τ0 (gx_up τ 109 28 2) t (f :: fr) ws 2 n ck ca := by
  have hf100 : f.1 < 100 := h.2.2.2.2.1.1.2.1
  refine ⟨fun g => ?_, A_state h 2⟩
  rw [Md_oneIsOver_0, Md_oneIsOver_0_B, A_top h hl, w_bd, if_neg (show ¬ nI f.1 = 7 from fun z => hf ((nI_eq (b := 7) (by omega) (by omega)).mp z)), Md_oneIsOver_21]
theorem ask_3 {b : Nat → Nat} {nb r0 : Nat} {τ0 τ : gx_R} {t i : Nat} {fr ws : List (Nat × Nat)} {st n : Nat} {ck ca : Nat → Nat} (h : MR b nb r0 τ0 τ t ((3, i) :: fr) ws st n ck ca) (hl : fr.length < 39) (ho : opN fr < 100) (hn : r0 + n < 400) : ∃ τ', (∀ f, Md_askIsOver_0 (f + 1) τ = Md_askIsOver_0 f τ') ∧ MR b nb r0 τ0 τ' t fr ws st (n + 1) (fset ck n 20) (fset ca n 0) := by
  obtain ⟨τ1, e1, e2⟩ := A_emit (k := 20) (a := 0) (o := 405) (v := 0) (A_pop h (by show ¬ ((3 : Nat) = 1 ∨ (3 : Nat) = 4 ∨ (3 : Nat) = 5); omega)) hn rfl rfl
  refine ⟨τ1, fun f => ?_, e2⟩
  have h22 : τ 109 22 = nI (fr.length + 1) := h.2.2.2.1.2
  have h21 : τ 109 21 = nI (opN fr + 1) := h.2.2.2.1.1
  rw [Md_askIsOver_0, Md_askIsOver_0_B, A_top h hl, w_bd, if_pos (show nI (3, i).fst = 3 from rfl), h22, n_sub1 (by omega), show fr.length + 1 - 1 = fr.length by omega, up_p _ _ _ (show (21 : Nat) ≠ 22 by omega), h21, n_sub1 (by omega), show opN fr + 1 - 1 = opN fr by omega, e1, w_bd]
theorem ask_0 {b : Nat → Nat} {nb r0 : Nat} {τ0 τ : gx_R} {t : Nat} {f : Nat × Nat} {fr ws : List (Nat × Nat)} {st n : Nat} {ck ca : Nat → Nat} (h : MR b nb r0 τ0 τ t (f :: fr) ws st n ck ca) (hl : fr.length < 39) (hf : f.1 ≠ 3) : (∀ g, Md_askIsOver_0 (g + 1) τ = some ((), gx_up τ 109 28 3)) ∧ MR b nb r0 τ0 (gx_up τ 109 28 3) t (f :: fr) ws 3 n ck ca := by
  have hf100 : f.1 < 100 := h.2.2.2.2.1.1.2.1
  refine ⟨fun g => ?_, A_state h 3⟩
  rw [Md_askIsOver_0, Md_askIsOver_0_B, A_top h hl, w_bd, if_neg (show ¬ nI f.1 = 3 from fun z => hf ((nI_eq (b := 3) (by omega) (by omega)).mp z)), Md_askIsOver_21]
