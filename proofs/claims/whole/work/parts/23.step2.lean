theorem gx_bl {lay : gx_Y} {NC : Nat} {G : Nat → ClassId} {L : Nat → Nat} {D : va_G} {cl : List vw_C} {Ex : State → Heap → Prop} {A : Nat → Prop} {as : List Value} {σ : gx_R} (hEx : gx_X Ex A) : FrameBlind (gx_P lay NC G L D cl Ex as σ) := fun a U g mk q => by
  obtain ⟨q0, qP, qK, qE⟩ := q
  exact ⟨q0, qP, va_K.moved (u := U) (U := U.calling g mk a) (Vm.Alike.refl U.vm) qK, hEx.1 U (U.calling g mk a) _ rfl qE⟩
theorem gx_fl_set (L : Nat → Nat) (σ : gx_R) (k j : Nat) (a : Int32) (fs : List (Option Nat)) (h : gx_nth fs j = some none) : (gx_fl L (σ k) 0 fs).set j (.int a) = gx_fl L (gx_up σ k j a k) 0 fs := by
  apply List.ext_getElem?
  intro q
  rw [List.getElem?_set, gx_fl_at, gx_fl_at, gx_fl_len]
  rw [gx_nth_eq] at h
  have hj := (List.getElem?_eq_some_iff.mp h).1
  by_cases e : j = q
  · subst e
    rw [if_pos rfl, if_pos hj, h]
    simp [gx_up]
  · rw [if_neg e]
    have e2 : ¬ q = j := fun z => e z.symm
    cases fs[q]? with
    | none => rfl
    | some x => cases x <;> simp [gx_up, e2]
theorem gx_tgs_at {T : List gx_I} {pc : Nat} : ∀ {offs : List Int} {tt : List Nat} {j t : Nat}, gx_tgs T pc offs tt = true → tt[j]? = some t → ∃ a, offs[j]? = some a ∧ (pc : Int) + a = (gx_pc T t : Int) := by
  intro offs
  induction offs with
  | nil => intro tt j t h ht; cases tt with
    | nil => simp at ht
    | cons _ _ => simp [gx_tgs] at h
  | cons b u ih =>
    intro tt j t h ht
    cases tt with
    | nil => simp [gx_tgs] at h
    | cons c w =>
      simp only [gx_tgs, Bool.and_eq_true, decide_eq_true_eq] at h
      cases j with
      | zero => simp at ht; subst ht; exact ⟨b, rfl, h.1⟩
      | succ q => exact ih h.2 (by simpa using ht)
/-! ===== one step of the small machine is a walk of the true one ===== -/
set_option maxHeartbeats 8000000 in
set_option maxRecDepth 100000 in
theorem gx_step0 {lay : gx_Y} {NC : Nat} {G : Nat → ClassId} {L : Nat → Nat} {D : va_G} {cl : List vw_C} {Ex : State → Heap → Prop} {A : Nat → Prop} {tb : List Cond} {K : gx_K} {nm : Nat → String} {cn : Nat} {nL : Nat} {cc : ByteArray} {ret : Option FieldType} {T : List gx_I} {p : Program} {l : Launch} {e : Env} {d : Nat} {R : Room} {cs sl : Nat} {Q : State → Prop} {s : State} {m : MethodId} {args : Array Value} {below : List Frame} {meth : Method} {c : Code} {mt : Nat → gx_M} {C : gx_C} {r : Option Value} {σ' : gx_R}
    (hRf : d + 1 + 4 ≤ R.frames) (hRl : 60 * (d + 1) + 200 ≤ R.locals) (hRc : cs ≤ R.cells) (hRs : sl ≤ R.slots) (hAt : gx_At lay NC G L D cl Ex A tb nL (nm cn) cc ret p s m args meth c) (hCl : gx_Cl cl tb) (hKs : gx_Ks cl tb mt nm K) (hg : ∀ w ∈ tb, goodWord w = true) (hlay : ∀ k, (lay k).1 ≤ 4 → k < NC)
    (hC : ∀ mj as σ r1 σ1, mj ≤ 999 → C mj as σ r1 σ1 → Met l (mt mj).1 (gx_wd tb (mt mj)) (gx_rm d) (gx_P lay NC G L D cl Ex as σ) (gx_Q lay NC G L D cl A r1 σ1) 0 0 A)
    {x : gx_I} {o o' : List gx_O} {i : Nat} {ls st : List Value} {σ : gx_R} {P : List Prop} {y : gx_S} (hT : gx_nth T i = some x) (hck : gx_ck K nL cn cc ret T i x = true) (hv0 : ∀ a, x.2.2.1 ≠ Value.retAddr a) (hQ : gx_rt x.2.1 = true → cs = 0 ∧ sl = 0 ∧ Q = MQ below (gx_Q lay NC G L D cl A r σ') args s 0 0 A) (hs : gx_stq lay C x o i ls st σ = some (P, o', y)) (hP : gx_all P)
    (k : gx_nxt (gx_W lay NC G L D cl A nL T p l e R s m args below meth c cs sl Q) r σ' y) : gx_W lay NC G L D cl A nL T p l e R s m args below meth c cs sl Q i ls st σ := by
  obtain ⟨pc, ins, v, tg, ps⟩ := x
  intro H locs lsA hl hW hS
  have hpc : gx_pc T i = pc := by simp only [gx_pc, hT]
  rw [hpc]
  obtain ⟨hx, hb, hml, hown, hts, hK, hD, hr, hlocks, hEx, hE0⟩ := hAt
  have hck : (gx_ckd cc pc ins && gx_ck1 K nL cn ret T (Nat.beq (gx_pc T (i + 1)) (pc + gx_len ins)) pc v tg ps ins) = true := by
    cases v with
    | retAddr a => exact absurd rfl (hv0 a)
    | _ => exact hck
  clear hv0
  simp only [Bool.and_eq_true] at hck
  obtain ⟨hd0, h1⟩ := hck
  obtain ⟨dn, hdg, hdn⟩ := gx_ckd_ok hd0
  clear hd0
  cases ins with
  | iconst n =>
    simp only [gx_stq, gx_go, Option.some.injEq, Prod.mk.injEq] at hs
    simp only [gx_ck1, Bool.and_eq_true, decide_eq_true_eq] at h1
    obtain ⟨rfl, h1⟩ := h1
    obtain ⟨rfl, rfl, rfl⟩ := hs
    obtain rfl := hdn rfl
    have hn := Nat.eq_of_beq_eq_true h1
    have kk := k H locs lsA hl hW hS
    rw [hn] at kk
    exact lv_iconst hx hb hdg rfl kk
  | bipush n =>
    simp only [gx_stq, gx_go, Option.some.injEq, Prod.mk.injEq] at hs
    simp only [gx_ck1, Bool.and_eq_true, decide_eq_true_eq] at h1
    obtain ⟨rfl, h1⟩ := h1
    obtain ⟨rfl, rfl, rfl⟩ := hs
    obtain rfl := hdn rfl
    have hn := Nat.eq_of_beq_eq_true h1
    have kk := k H locs lsA hl hW hS
    rw [hn] at kk
    exact lv_bipush hx hb hdg rfl kk
  | sipush n =>
    simp only [gx_stq, gx_go, Option.some.injEq, Prod.mk.injEq] at hs
    simp only [gx_ck1, Bool.and_eq_true, decide_eq_true_eq] at h1
    obtain ⟨rfl, h1⟩ := h1
    obtain ⟨rfl, rfl, rfl⟩ := hs
    obtain rfl := hdn rfl
    have hn := Nat.eq_of_beq_eq_true h1
    have kk := k H locs lsA hl hW hS
    rw [hn] at kk
    exact lv_sipush hx hb hdg rfl kk
  | lconst n =>
    simp only [gx_stq, gx_go, Option.some.injEq, Prod.mk.injEq] at hs
    simp only [gx_ck1, Bool.and_eq_true, decide_eq_true_eq] at h1
    obtain ⟨rfl, h1⟩ := h1
    obtain ⟨rfl, rfl, rfl⟩ := hs
    obtain rfl := hdn rfl
    have hn := Nat.eq_of_beq_eq_true h1
    have kk := k H locs lsA hl hW hS
    rw [hn] at kk
    exact lv_lconst hx hb hdg rfl kk
  | ldc n =>
    simp only [gx_stq, gx_go, Option.some.injEq, Prod.mk.injEq] at hs
    simp only [gx_ck1] at h1
    split at h1
    · simp only [Bool.and_eq_true] at h1
      obtain ⟨hw, h1⟩ := h1
      have hc := hts _ (hKs.2 _ (gx_lc_mem hw))
      obtain ⟨rfl, rfl, rfl⟩ := hs
      obtain rfl := hdn rfl
      have hn := Nat.eq_of_beq_eq_true h1
      have kk := k H locs lsA hl hW hS
      rw [hn] at kk
      exact lv_ldc hx hb hown hc hdg kk
    · cases h1
  | ldc_w n =>
    simp only [gx_stq, gx_go, Option.some.injEq, Prod.mk.injEq] at hs
    simp only [gx_ck1] at h1
    split at h1
    · simp only [Bool.and_eq_true] at h1
      obtain ⟨hw, h1⟩ := h1
      have hc := hts _ (hKs.2 _ (gx_lc_mem hw))
      obtain ⟨rfl, rfl, rfl⟩ := hs
      obtain rfl := hdn rfl
      have hn := Nat.eq_of_beq_eq_true h1
      have kk := k H locs lsA hl hW hS
      rw [hn] at kk
      exact lv_ldcw hx hb hown hc hdg kk
    · cases h1
  | ldc2_w n =>
    simp only [gx_stq, gx_go, Option.some.injEq, Prod.mk.injEq] at hs
    simp only [gx_ck1] at h1
    split at h1
    · simp only [Bool.and_eq_true] at h1
      obtain ⟨hw, h1⟩ := h1
      have hc := hts _ (hKs.2 _ (gx_lc_mem hw))
      obtain ⟨rfl, rfl, rfl⟩ := hs
      obtain rfl := hdn rfl
      have hn := Nat.eq_of_beq_eq_true h1
      have kk := k H locs lsA hl hW hS
      rw [hn] at kk
      exact lv_ldc2 hx hb hown hc hdg kk
    · cases h1
  | iload_n q =>
    rcases tg with _ | ⟨t, tl⟩
    · simp [gx_stq, gx_ldi] at hs
    · cases hq : gx_nth ls t with
      | none => simp [gx_stq, gx_ldi, hq] at hs
      | some w => cases w with
        | int a =>
          simp only [gx_stq, gx_ldi, hq, Option.some.injEq, Prod.mk.injEq] at hs
          simp only [gx_ck1, Bool.and_eq_true, decide_eq_true_eq, List.cons.injEq] at h1
          obtain ⟨⟨rfl, rfl⟩, h1⟩ := h1
          rw [gx_nth_eq] at hq
          have hz := hl.2.2 _ _ hq (fun z => by cases z)
          obtain ⟨rfl, rfl, rfl⟩ := hs
          obtain rfl := hdn rfl
          have hn := Nat.eq_of_beq_eq_true h1
          have kk := k H locs lsA hl hW hS
          rw [hn] at kk
          exact lv_iload_n hx hb hdg rfl hz kk
        | _ => simp [gx_stq, gx_ldi, hq] at hs
  | lload_n q =>
    rcases tg with _ | ⟨t, tl⟩
    · simp [gx_stq, gx_ldl] at hs
    · cases hq : gx_nth ls t with
      | none => simp [gx_stq, gx_ldl, hq] at hs
      | some w => cases w with
        | long a =>
          simp only [gx_stq, gx_ldl, hq, Option.some.injEq, Prod.mk.injEq] at hs
          simp only [gx_ck1, Bool.and_eq_true, decide_eq_true_eq, List.cons.injEq] at h1
          obtain ⟨⟨rfl, rfl⟩, h1⟩ := h1
          rw [gx_nth_eq] at hq
          have hz := hl.2.2 _ _ hq (fun z => by cases z)
          obtain ⟨rfl, rfl, rfl⟩ := hs
          obtain rfl := hdn rfl
          have hn := Nat.eq_of_beq_eq_true h1
          have kk := k H locs lsA hl hW hS
          rw [hn] at kk
          exact lv_lload_n hx hb hdg rfl hz kk
        | _ => simp [gx_stq, gx_ldl, hq] at hs
  | aload_n q =>
    rcases tg with _ | ⟨t, tl⟩
    · simp [gx_stq, gx_lda] at hs
    · cases hq : gx_nth ls t with
      | none => simp [gx_stq, gx_lda, hq] at hs
      | some w => cases w with
        | ref a =>
          simp only [gx_stq, gx_lda, hq, Option.some.injEq, Prod.mk.injEq] at hs
          simp only [gx_ck1, Bool.and_eq_true, decide_eq_true_eq, List.cons.injEq] at h1
          obtain ⟨⟨rfl, rfl⟩, h1⟩ := h1
          rw [gx_nth_eq] at hq
          have hz := hl.2.2 _ _ hq (fun z => by cases z)
          obtain ⟨rfl, rfl, rfl⟩ := hs
          obtain rfl := hdn rfl
          have hn := Nat.eq_of_beq_eq_true h1
          have kk := k H locs lsA hl hW hS
          rw [hn] at kk
          exact lv_aload_n hx hb hdg rfl hz kk
        | _ => simp [gx_stq, gx_lda, hq] at hs
  | iload q =>
    rcases tg with _ | ⟨t, tl⟩
    · simp [gx_stq, gx_ldi] at hs
    · cases hq : gx_nth ls t with
      | none => simp [gx_stq, gx_ldi, hq] at hs
      | some w => cases w with
        | int a =>
          simp only [gx_stq, gx_ldi, hq, Option.some.injEq, Prod.mk.injEq] at hs
          simp only [gx_ck1, Bool.and_eq_true, decide_eq_true_eq, List.cons.injEq] at h1
          obtain ⟨⟨rfl, rfl⟩, h1⟩ := h1
          rw [gx_nth_eq] at hq
          have hz := hl.2.2 _ _ hq (fun z => by cases z)
          obtain ⟨rfl, rfl, rfl⟩ := hs
          obtain rfl := hdn rfl
          have hn := Nat.eq_of_beq_eq_true h1
          have kk := k H locs lsA hl hW hS
          rw [hn] at kk
          exact lv_iload hx hb hdg hz kk
        | _ => simp [gx_stq, gx_ldi, hq] at hs
  | lload q =>
    rcases tg with _ | ⟨t, tl⟩
    · simp [gx_stq, gx_ldl] at hs
    · cases hq : gx_nth ls t with
      | none => simp [gx_stq, gx_ldl, hq] at hs
      | some w => cases w with
        | long a =>
          simp only [gx_stq, gx_ldl, hq, Option.some.injEq, Prod.mk.injEq] at hs
          simp only [gx_ck1, Bool.and_eq_true, decide_eq_true_eq, List.cons.injEq] at h1
          obtain ⟨⟨rfl, rfl⟩, h1⟩ := h1
          rw [gx_nth_eq] at hq
          have hz := hl.2.2 _ _ hq (fun z => by cases z)
          obtain ⟨rfl, rfl, rfl⟩ := hs
          obtain rfl := hdn rfl
          have hn := Nat.eq_of_beq_eq_true h1
          have kk := k H locs lsA hl hW hS
          rw [hn] at kk
          exact lv_lload hx hb hdg hz kk
        | _ => simp [gx_stq, gx_ldl, hq] at hs
  | aload q =>
    rcases tg with _ | ⟨t, tl⟩
    · simp [gx_stq, gx_lda] at hs
    · cases hq : gx_nth ls t with
      | none => simp [gx_stq, gx_lda, hq] at hs
      | some w => cases w with
        | ref a =>
          simp only [gx_stq, gx_lda, hq, Option.some.injEq, Prod.mk.injEq] at hs
          simp only [gx_ck1, Bool.and_eq_true, decide_eq_true_eq, List.cons.injEq] at h1
          obtain ⟨⟨rfl, rfl⟩, h1⟩ := h1
          rw [gx_nth_eq] at hq
          have hz := hl.2.2 _ _ hq (fun z => by cases z)
          obtain ⟨rfl, rfl, rfl⟩ := hs
          obtain rfl := hdn rfl
          have hn := Nat.eq_of_beq_eq_true h1
          have kk := k H locs lsA hl hW hS
          rw [hn] at kk
          exact lv_aload hx hb hdg hz kk
        | _ => simp [gx_stq, gx_lda, hq] at hs
  | istore_n q =>
    simp only [gx_stq] at hs
    split at hs
    · simp only [gx_go, Option.some.injEq, Prod.mk.injEq] at hs
      simp only [gx_ck1, Bool.and_eq_true, decide_eq_true_eq, List.cons.injEq] at h1
      obtain ⟨⟨⟨rfl, rfl⟩, hn1⟩, h1⟩ := h1
      have hn1 := Nat.le_of_ble_eq_true hn1
      obtain ⟨rfl, rfl, rfl⟩ := hs
      obtain rfl := hdn rfl
      have hn := Nat.eq_of_beq_eq_true h1
      refine lv_istore_n hx hb hdg rfl (gx_lv_has hl) (by omega) rfl (fun ls' h' => ?_)
      have kk := k H locs ls' (gx_lv_st h') hW hS
      rw [hn] at kk
      exact kk
    · cases hs
  | astore_n q =>
    simp only [gx_stq] at hs
    split at hs
    · simp only [gx_go, Option.some.injEq, Prod.mk.injEq] at hs
      simp only [gx_ck1, Bool.and_eq_true, decide_eq_true_eq, List.cons.injEq] at h1
      obtain ⟨⟨⟨rfl, rfl⟩, hn1⟩, h1⟩ := h1
      have hn1 := Nat.le_of_ble_eq_true hn1
      obtain ⟨rfl, rfl, rfl⟩ := hs
      obtain rfl := hdn rfl
      have hn := Nat.eq_of_beq_eq_true h1
      refine lv_astore_n hx hb hdg rfl (gx_lv_has hl) (by omega) rfl (fun ls' h' => ?_)
      have kk := k H locs ls' (gx_lv_st h') hW hS
      rw [hn] at kk
      exact kk
    · cases hs
  | lstore_n q =>
    simp only [gx_stq] at hs
    split at hs
    · simp only [gx_go, Option.some.injEq, Prod.mk.injEq] at hs
      simp only [gx_ck1, Bool.and_eq_true, decide_eq_true_eq, List.cons.injEq] at h1
      obtain ⟨⟨⟨rfl, rfl⟩, hn1⟩, h1⟩ := h1
      have hn1 := Nat.le_of_ble_eq_true hn1
      obtain ⟨rfl, rfl, rfl⟩ := hs
      obtain rfl := hdn rfl
      have hn := Nat.eq_of_beq_eq_true h1
      refine lv_lstore_n hx hb hdg rfl (gx_lv_has hl) (by omega) rfl (fun ls' h' => ?_)
      have kk := k H locs ls' (gx_lv_st2 h') hW hS
      rw [hn] at kk
      exact kk
    · cases hs
  | istore q =>
    simp only [gx_stq] at hs
    split at hs
    · simp only [gx_go, Option.some.injEq, Prod.mk.injEq] at hs
      simp only [gx_ck1, Bool.and_eq_true, decide_eq_true_eq, List.cons.injEq] at h1
      obtain ⟨⟨⟨rfl, rfl⟩, hn1⟩, h1⟩ := h1
      have hn1 := Nat.le_of_ble_eq_true hn1
      obtain ⟨rfl, rfl, rfl⟩ := hs
      obtain rfl := hdn rfl
      have hn := Nat.eq_of_beq_eq_true h1
      refine lv_istore hx hb hdg (gx_lv_has hl) (by omega) rfl (fun ls' h' => ?_)
      have kk := k H locs ls' (gx_lv_st h') hW hS
      rw [hn] at kk
      exact kk
    · cases hs
  | astore q =>
    simp only [gx_stq] at hs
    split at hs
    · simp only [gx_go, Option.some.injEq, Prod.mk.injEq] at hs
      simp only [gx_ck1, Bool.and_eq_true, decide_eq_true_eq, List.cons.injEq] at h1
      obtain ⟨⟨⟨rfl, rfl⟩, hn1⟩, h1⟩ := h1
      have hn1 := Nat.le_of_ble_eq_true hn1
      obtain ⟨rfl, rfl, rfl⟩ := hs
      obtain rfl := hdn rfl
      have hn := Nat.eq_of_beq_eq_true h1
      refine lv_astore hx hb hdg (gx_lv_has hl) (by omega) rfl (fun ls' h' => ?_)
      have kk := k H locs ls' (gx_lv_st h') hW hS
      rw [hn] at kk
      exact kk
    · cases hs
  | lstore q =>
    simp only [gx_stq] at hs
    split at hs
    · simp only [gx_go, Option.some.injEq, Prod.mk.injEq] at hs
      simp only [gx_ck1, Bool.and_eq_true, decide_eq_true_eq, List.cons.injEq] at h1
      obtain ⟨⟨⟨rfl, rfl⟩, hn1⟩, h1⟩ := h1
      have hn1 := Nat.le_of_ble_eq_true hn1
      obtain ⟨rfl, rfl, rfl⟩ := hs
      obtain rfl := hdn rfl
      have hn := Nat.eq_of_beq_eq_true h1
      refine lv_lstore hx hb hdg (gx_lv_has hl) (by omega) rfl (fun ls' h' => ?_)
      have kk := k H locs ls' (gx_lv_st2 h') hW hS
      rw [hn] at kk
      exact kk
    · cases hs
  | iinc q n =>
    rcases tg with _ | ⟨t, tl⟩
    · simp [gx_stq] at hs
    · cases v with
      | int b =>
        cases hq : gx_nth ls t with
        | none => simp [gx_stq, hq] at hs
        | some w => cases w with
          | int a =>
            simp only [gx_stq, hq, gx_go, Option.some.injEq, Prod.mk.injEq] at hs
            simp only [gx_ck1, Bool.and_eq_true, decide_eq_true_eq, List.cons.injEq, Value.int.injEq] at h1
            obtain ⟨⟨⟨⟨rfl, rfl⟩, rfl⟩, hn1⟩, h1⟩ := h1
            have hn1 := Nat.le_of_ble_eq_true hn1
            obtain ⟨rfl, rfl, rfl⟩ := hs
            obtain rfl := hdn rfl
            have hn := Nat.eq_of_beq_eq_true h1
            rw [gx_nth_eq] at hq
            obtain ⟨z, hz⟩ := List.getElem?_of_mem ((gx_lp_mem (L := L) (ls := ls) (q := (t, .int a))).mpr ⟨.int a, hq, fun z => (by cases z), rfl⟩)
            refine lv_iinc hx hb hdg (gx_lv_has hl) hz rfl (by omega) rfl (fun ls' h' => ?_)
            have kk := k H locs ls' (gx_lv_st h') hW hS
            rw [hn] at kk
            exact kk
          | _ => simp [gx_stq, hq] at hs
      | _ => simp [gx_stq] at hs
  | iadd =>
    simp only [gx_stq] at hs
    split at hs
    · simp only [gx_go, gx_wo, Option.some.injEq, Prod.mk.injEq] at hs
      obtain ⟨rfl, rfl, rfl⟩ := hs
      obtain rfl := hdn rfl
      have hn := Nat.eq_of_beq_eq_true h1
      have kk := k H locs lsA hl hW hS
      rw [hn] at kk
      exact lv_iadd hx hb hdg kk
    · cases hs
  | isub =>
    simp only [gx_stq] at hs
    split at hs
    · simp only [gx_go, gx_wo, Option.some.injEq, Prod.mk.injEq] at hs
      obtain ⟨rfl, rfl, rfl⟩ := hs
      obtain rfl := hdn rfl
      have hn := Nat.eq_of_beq_eq_true h1
      have kk := k H locs lsA hl hW hS
      rw [hn] at kk
      exact lv_isub hx hb hdg kk
    · cases hs
  | imul =>
    simp only [gx_stq] at hs
    split at hs
    · simp only [gx_go, gx_wo, Option.some.injEq, Prod.mk.injEq] at hs
      obtain ⟨rfl, rfl, rfl⟩ := hs
      obtain rfl := hdn rfl
      have hn := Nat.eq_of_beq_eq_true h1
      have kk := k H locs lsA hl hW hS
      rw [hn] at kk
      exact lv_imul hx hb hdg kk
    · cases hs
  | iand =>
    simp only [gx_stq] at hs
    split at hs
    · simp only [gx_go, gx_wo, Option.some.injEq, Prod.mk.injEq] at hs
      obtain ⟨rfl, rfl, rfl⟩ := hs
      obtain rfl := hdn rfl
      have hn := Nat.eq_of_beq_eq_true h1
      have kk := k H locs lsA hl hW hS
      rw [hn] at kk
      exact lv_iand hx hb hdg kk
    · cases hs
  | ior =>
    simp only [gx_stq] at hs
    split at hs
    · simp only [gx_go, gx_wo, Option.some.injEq, Prod.mk.injEq] at hs
      obtain ⟨rfl, rfl, rfl⟩ := hs
      obtain rfl := hdn rfl
      have hn := Nat.eq_of_beq_eq_true h1
      have kk := k H locs lsA hl hW hS
      rw [hn] at kk
      exact lv_ior hx hb hdg kk
    · cases hs
  | ixor =>
    simp only [gx_stq] at hs
    split at hs
    · simp only [gx_go, gx_wo, Option.some.injEq, Prod.mk.injEq] at hs
      obtain ⟨rfl, rfl, rfl⟩ := hs
      obtain rfl := hdn rfl
      have hn := Nat.eq_of_beq_eq_true h1
      have kk := k H locs lsA hl hW hS
      rw [hn] at kk
      exact lv_ixor hx hb hdg kk
    · cases hs
  | ishl =>
    simp only [gx_stq] at hs
    split at hs
    · simp only [gx_go, gx_wo, Option.some.injEq, Prod.mk.injEq] at hs
      obtain ⟨rfl, rfl, rfl⟩ := hs
      obtain rfl := hdn rfl
      have hn := Nat.eq_of_beq_eq_true h1
      have kk := k H locs lsA hl hW hS
      rw [hn] at kk
      exact lv_ishl hx hb hdg kk
    · cases hs
  | ishr =>
    simp only [gx_stq] at hs
    split at hs
    · simp only [gx_go, gx_wo, Option.some.injEq, Prod.mk.injEq] at hs
      obtain ⟨rfl, rfl, rfl⟩ := hs
      obtain rfl := hdn rfl
      have hn := Nat.eq_of_beq_eq_true h1
      have kk := k H locs lsA hl hW hS
      rw [hn] at kk
      exact lv_ishr hx hb hdg kk
    · cases hs
  | ladd =>
    simp only [gx_stq] at hs
    split at hs
    · simp only [gx_go, gx_wo, Option.some.injEq, Prod.mk.injEq] at hs
      obtain ⟨rfl, rfl, rfl⟩ := hs
      obtain rfl := hdn rfl
      have hn := Nat.eq_of_beq_eq_true h1
      have kk := k H locs lsA hl hW hS
      rw [hn] at kk
      exact lv_ladd hx hb hdg kk
    · cases hs
  | lsub =>
    simp only [gx_stq] at hs
    split at hs
    · simp only [gx_go, gx_wo, Option.some.injEq, Prod.mk.injEq] at hs
      obtain ⟨rfl, rfl, rfl⟩ := hs
      obtain rfl := hdn rfl
      have hn := Nat.eq_of_beq_eq_true h1
      have kk := k H locs lsA hl hW hS
      rw [hn] at kk
      exact lv_lsub hx hb hdg kk
    · cases hs
  | lmul =>
    simp only [gx_stq] at hs
    split at hs
    · simp only [gx_go, gx_wo, Option.some.injEq, Prod.mk.injEq] at hs
      obtain ⟨rfl, rfl, rfl⟩ := hs
      obtain rfl := hdn rfl
      have hn := Nat.eq_of_beq_eq_true h1
      have kk := k H locs lsA hl hW hS
      rw [hn] at kk
      exact lv_lmul hx hb hdg kk
    · cases hs
  | ineg =>
    simp only [gx_stq] at hs
    split at hs
    · simp only [gx_go, gx_wo, Option.some.injEq, Prod.mk.injEq] at hs
      obtain ⟨rfl, rfl, rfl⟩ := hs
      obtain rfl := hdn rfl
      have hn := Nat.eq_of_beq_eq_true h1
      have kk := k H locs lsA hl hW hS
      rw [hn] at kk
      exact lv_ineg hx hb hdg kk
    · cases hs
  | lneg =>
    simp only [gx_stq] at hs
    split at hs
    · simp only [gx_go, gx_wo, Option.some.injEq, Prod.mk.injEq] at hs
      obtain ⟨rfl, rfl, rfl⟩ := hs
      obtain rfl := hdn rfl
      have hn := Nat.eq_of_beq_eq_true h1
      have kk := k H locs lsA hl hW hS
      rw [hn] at kk
      exact lv_lneg hx hb hdg kk
    · cases hs
  | lcmp =>
    simp only [gx_stq] at hs
    split at hs
    · simp only [gx_go, gx_wo, Option.some.injEq, Prod.mk.injEq] at hs
      obtain ⟨rfl, rfl, rfl⟩ := hs
      obtain rfl := hdn rfl
      have hn := Nat.eq_of_beq_eq_true h1
      have kk := k H locs lsA hl hW hS
      rw [hn] at kk
      exact W.lcmp hx hb hdg kk
    · cases hs
  | iushr =>
    simp only [gx_stq] at hs
    split at hs
    · simp only [gx_go, gx_wo, Option.some.injEq, Prod.mk.injEq] at hs
      obtain ⟨rfl, rfl, rfl⟩ := hs
      obtain rfl := hdn rfl
      have hn := Nat.eq_of_beq_eq_true h1
      have kk := k H locs lsA hl hW hS
      rw [hn] at kk
      exact lv_iushr hx hb hdg rfl kk
    · cases hs
  | i2l =>
    simp only [gx_stq] at hs
    split at hs
    · simp only [gx_go, gx_wo, Option.some.injEq, Prod.mk.injEq] at hs
      obtain ⟨rfl, rfl, rfl⟩ := hs
      obtain rfl := hdn rfl
      have hn := Nat.eq_of_beq_eq_true h1
      have kk := k H locs lsA hl hW hS
      rw [hn] at kk
      exact lv_i2l hx hb hdg rfl kk
    · cases hs
  | l2i =>
    simp only [gx_stq] at hs
    split at hs
    · simp only [gx_go, gx_wo, Option.some.injEq, Prod.mk.injEq] at hs
      obtain ⟨rfl, rfl, rfl⟩ := hs
      obtain rfl := hdn rfl
      have hn := Nat.eq_of_beq_eq_true h1
      have kk := k H locs lsA hl hW hS
      rw [hn] at kk
      exact lv_l2i hx hb hdg rfl kk
    · cases hs
  | i2b =>
    simp only [gx_stq] at hs
    split at hs
    · simp only [gx_go, gx_wo, Option.some.injEq, Prod.mk.injEq] at hs
      obtain ⟨rfl, rfl, rfl⟩ := hs
      obtain rfl := hdn rfl
      have hn := Nat.eq_of_beq_eq_true h1
      have kk := k H locs lsA hl hW hS
      rw [hn] at kk
      exact lv_i2b hx hb hdg rfl kk
    · cases hs
  | idiv =>
    simp only [gx_stq] at hs
    split at hs
    · simp only [gx_go, gx_wo, Option.some.injEq, Prod.mk.injEq] at hs
      obtain ⟨rfl, rfl, rfl⟩ := hs
      obtain rfl := hdn rfl
      have hn := Nat.eq_of_beq_eq_true h1
      have kk := k H locs lsA hl hW hS
      rw [hn] at kk
      exact lv_idiv hx hb hdg hP.1 kk
    · cases hs
  | irem =>
    simp only [gx_stq] at hs
    split at hs
    · simp only [gx_go, gx_wo, Option.some.injEq, Prod.mk.injEq] at hs
      obtain ⟨rfl, rfl, rfl⟩ := hs
      obtain rfl := hdn rfl
      have hn := Nat.eq_of_beq_eq_true h1
      have kk := k H locs lsA hl hW hS
      rw [hn] at kk
      exact lv_irem hx hb hdg hP.1 kk
    · cases hs
  | ldiv =>
    simp only [gx_stq] at hs
    split at hs
    · simp only [gx_go, gx_wo, Option.some.injEq, Prod.mk.injEq] at hs
      obtain ⟨rfl, rfl, rfl⟩ := hs
      obtain rfl := hdn rfl
      have hn := Nat.eq_of_beq_eq_true h1
      have kk := k H locs lsA hl hW hS
      rw [hn] at kk
      exact lv_ldiv hx hb hdg hP.1 kk
    · cases hs
  | lrem =>
    simp only [gx_stq] at hs
    split at hs
    · simp only [gx_go, gx_wo, Option.some.injEq, Prod.mk.injEq] at hs
      obtain ⟨rfl, rfl, rfl⟩ := hs
      obtain rfl := hdn rfl
      have hn := Nat.eq_of_beq_eq_true h1
      have kk := k H locs lsA hl hW hS
      rw [hn] at kk
      exact lv_lrem hx hb hdg hP.1 kk
    · cases hs
  | dup =>
    simp only [gx_stq] at hs
    split at hs
    · simp only [gx_go, gx_wo, Option.some.injEq, Prod.mk.injEq] at hs
      obtain ⟨rfl, rfl, rfl⟩ := hs
      obtain rfl := hdn rfl
      have hn := Nat.eq_of_beq_eq_true h1
      have kk := k H locs lsA hl hW hS
      rw [hn] at kk
      exact lv_dup hx hb hdg rfl kk
    · simp only [gx_go, gx_wo, Option.some.injEq, Prod.mk.injEq] at hs
      obtain ⟨rfl, rfl, rfl⟩ := hs
      obtain rfl := hdn rfl
      have hn := Nat.eq_of_beq_eq_true h1
      have kk := k H locs lsA hl hW hS
      rw [hn] at kk
      exact lv_dup hx hb hdg rfl kk
    · cases hs
  | dup2 =>
    simp only [gx_stq] at hs
    split at hs
    · simp only [gx_go, gx_wo, Option.some.injEq, Prod.mk.injEq] at hs
      obtain ⟨rfl, rfl, rfl⟩ := hs
      obtain rfl := hdn rfl
      have hn := Nat.eq_of_beq_eq_true h1
      have kk := k H locs lsA hl hW hS
      rw [hn] at kk
      exact lv_dup2_11 hx hb hdg rfl rfl kk
    · simp only [gx_go, gx_wo, Option.some.injEq, Prod.mk.injEq] at hs
      obtain ⟨rfl, rfl, rfl⟩ := hs
      obtain rfl := hdn rfl
      have hn := Nat.eq_of_beq_eq_true h1
      have kk := k H locs lsA hl hW hS
      rw [hn] at kk
      exact lv_dup2_11 hx hb hdg rfl rfl kk
    · cases hs
  | pop =>
    simp only [gx_stq] at hs
    split at hs
    · simp only [gx_go, gx_wo, Option.some.injEq, Prod.mk.injEq] at hs
      obtain ⟨rfl, rfl, rfl⟩ := hs
      obtain rfl := hdn rfl
      have hn := Nat.eq_of_beq_eq_true h1
      have kk := k H locs lsA hl hW hS
      rw [hn] at kk
      exact lv_pop hx hb hdg rfl kk
    · cases hs
  | goto a =>
    simp only [gx_stq] at hs
    split at hs
    · simp only [gx_go, Option.some.injEq, Prod.mk.injEq] at hs
      simp only [gx_ck1] at h1
      split at h1
      · rename_i hz
        cases hz
        simp only [decide_eq_true_eq] at h1
        obtain ⟨rfl, rfl, rfl⟩ := hs
        obtain rfl := hdn rfl
        exact lv_goto hx hb hdg h1 (k H locs lsA hl hW hS)
      · cases h1
    · cases hs
  | ifCond cd a =>
    simp only [gx_stq] at hs
    split at hs
    · simp only [gx_ck1] at h1
      split at h1
      · simp only [Bool.and_eq_true, decide_eq_true_eq] at h1
        obtain ⟨h1, h2⟩ := h1
        have hn := Nat.eq_of_beq_eq_true h2
        obtain rfl := hdn rfl
        cases cd with
        | eq =>
          simp only [gx_br] at hs
          split at hs
          · simp only [Option.some.injEq, Prod.mk.injEq] at hs
            obtain ⟨rfl, rfl, rfl⟩ := hs
            have kk := k H locs lsA hl hW hS
            rw [hn] at kk
            exact lv_if_eq hx hb hdg h1 (fun h => absurd h hP.1) (fun _ => kk)
          · simp only [Option.some.injEq, Prod.mk.injEq] at hs
            obtain ⟨rfl, rfl, rfl⟩ := hs
            have kk := k H locs lsA hl hW hS
            exact lv_if_eq hx hb hdg h1 (fun _ => kk) (fun h => absurd hP.1 h)
          · cases hs
        | ne =>
          simp only [gx_br] at hs
          split at hs
          · simp only [Option.some.injEq, Prod.mk.injEq] at hs
            obtain ⟨rfl, rfl, rfl⟩ := hs
            have kk := k H locs lsA hl hW hS
            rw [hn] at kk
            exact lv_if_ne hx hb hdg h1 (fun h => absurd h hP.1) (fun _ => kk)
          · simp only [Option.some.injEq, Prod.mk.injEq] at hs
            obtain ⟨rfl, rfl, rfl⟩ := hs
            have kk := k H locs lsA hl hW hS
            exact lv_if_ne hx hb hdg h1 (fun _ => kk) (fun h => absurd h hP.1)
          · cases hs
        | lt =>
          simp only [gx_br] at hs
          split at hs
          · simp only [Option.some.injEq, Prod.mk.injEq] at hs
            obtain ⟨rfl, rfl, rfl⟩ := hs
            have kk := k H locs lsA hl hW hS
            rw [hn] at kk
            exact lv_if_lt hx hb hdg h1 (fun h => absurd h hP.1) (fun _ => kk)
          · simp only [Option.some.injEq, Prod.mk.injEq] at hs
            obtain ⟨rfl, rfl, rfl⟩ := hs
            have kk := k H locs lsA hl hW hS
            exact lv_if_lt hx hb hdg h1 (fun _ => kk) (fun h => absurd hP.1 h)
          · cases hs
        | ge =>
          simp only [gx_br] at hs
          split at hs
          · simp only [Option.some.injEq, Prod.mk.injEq] at hs
            obtain ⟨rfl, rfl, rfl⟩ := hs
            have kk := k H locs lsA hl hW hS
            rw [hn] at kk
            exact lv_if_ge hx hb hdg h1 (fun h => absurd h hP.1) (fun _ => kk)
          · simp only [Option.some.injEq, Prod.mk.injEq] at hs
            obtain ⟨rfl, rfl, rfl⟩ := hs
            have kk := k H locs lsA hl hW hS
            exact lv_if_ge hx hb hdg h1 (fun _ => kk) (fun h => absurd hP.1 h)
          · cases hs
        | gt =>
          simp only [gx_br] at hs
          split at hs
          · simp only [Option.some.injEq, Prod.mk.injEq] at hs
            obtain ⟨rfl, rfl, rfl⟩ := hs
            have kk := k H locs lsA hl hW hS
            rw [hn] at kk
            exact lv_if_gt hx hb hdg h1 (fun h => absurd h hP.1) (fun _ => kk)
          · simp only [Option.some.injEq, Prod.mk.injEq] at hs
            obtain ⟨rfl, rfl, rfl⟩ := hs
            have kk := k H locs lsA hl hW hS
            exact lv_if_gt hx hb hdg h1 (fun _ => kk) (fun h => absurd hP.1 h)
          · cases hs
        | le =>
          simp only [gx_br] at hs
          split at hs
          · simp only [Option.some.injEq, Prod.mk.injEq] at hs
            obtain ⟨rfl, rfl, rfl⟩ := hs
            have kk := k H locs lsA hl hW hS
            rw [hn] at kk
            exact lv_if_le hx hb hdg h1 (fun h => absurd h hP.1) (fun _ => kk)
          · simp only [Option.some.injEq, Prod.mk.injEq] at hs
            obtain ⟨rfl, rfl, rfl⟩ := hs
            have kk := k H locs lsA hl hW hS
            exact lv_if_le hx hb hdg h1 (fun _ => kk) (fun h => absurd hP.1 h)
          · cases hs
      · cases h1
    · cases hs
  | if_icmp cd a =>
    simp only [gx_stq] at hs
    split at hs
    · simp only [gx_ck1] at h1
      split at h1
      · simp only [Bool.and_eq_true, decide_eq_true_eq] at h1
        obtain ⟨h1, h2⟩ := h1
        have hn := Nat.eq_of_beq_eq_true h2
        obtain rfl := hdn rfl
        cases cd with
        | eq =>
          simp only [gx_br] at hs
          split at hs
          · simp only [Option.some.injEq, Prod.mk.injEq] at hs
            obtain ⟨rfl, rfl, rfl⟩ := hs
            have kk := k H locs lsA hl hW hS
            rw [hn] at kk
            exact lv_icmp_eq hx hb hdg h1 (fun h => absurd h hP.1) (fun _ => kk)
          · simp only [Option.some.injEq, Prod.mk.injEq] at hs
            obtain ⟨rfl, rfl, rfl⟩ := hs
            have kk := k H locs lsA hl hW hS
            exact lv_icmp_eq hx hb hdg h1 (fun _ => kk) (fun h => absurd hP.1 h)
          · cases hs
        | ne =>
          simp only [gx_br] at hs
          split at hs
          · simp only [Option.some.injEq, Prod.mk.injEq] at hs
            obtain ⟨rfl, rfl, rfl⟩ := hs
            have kk := k H locs lsA hl hW hS
            rw [hn] at kk
            exact lv_icmp_ne hx hb hdg h1 (fun h => absurd h hP.1) (fun _ => kk)
          · simp only [Option.some.injEq, Prod.mk.injEq] at hs
            obtain ⟨rfl, rfl, rfl⟩ := hs
            have kk := k H locs lsA hl hW hS
            exact lv_icmp_ne hx hb hdg h1 (fun _ => kk) (fun h => absurd h hP.1)
          · cases hs
        | lt =>
          simp only [gx_br] at hs
          split at hs
          · simp only [Option.some.injEq, Prod.mk.injEq] at hs
            obtain ⟨rfl, rfl, rfl⟩ := hs
            have kk := k H locs lsA hl hW hS
            rw [hn] at kk
            exact lv_icmp_lt hx hb hdg h1 (fun h => absurd h hP.1) (fun _ => kk)
          · simp only [Option.some.injEq, Prod.mk.injEq] at hs
            obtain ⟨rfl, rfl, rfl⟩ := hs
            have kk := k H locs lsA hl hW hS
            exact lv_icmp_lt hx hb hdg h1 (fun _ => kk) (fun h => absurd hP.1 h)
          · cases hs
        | ge =>
          simp only [gx_br] at hs
          split at hs
          · simp only [Option.some.injEq, Prod.mk.injEq] at hs
            obtain ⟨rfl, rfl, rfl⟩ := hs
            have kk := k H locs lsA hl hW hS
            rw [hn] at kk
            exact lv_icmp_ge hx hb hdg h1 (fun h => absurd h hP.1) (fun _ => kk)
          · simp only [Option.some.injEq, Prod.mk.injEq] at hs
            obtain ⟨rfl, rfl, rfl⟩ := hs
            have kk := k H locs lsA hl hW hS
            exact lv_icmp_ge hx hb hdg h1 (fun _ => kk) (fun h => absurd hP.1 h)
          · cases hs
        | gt =>
          simp only [gx_br] at hs
          split at hs
          · simp only [Option.some.injEq, Prod.mk.injEq] at hs
            obtain ⟨rfl, rfl, rfl⟩ := hs
            have kk := k H locs lsA hl hW hS
            rw [hn] at kk
            exact lv_icmp_gt hx hb hdg h1 (fun h => absurd h hP.1) (fun _ => kk)
          · simp only [Option.some.injEq, Prod.mk.injEq] at hs
            obtain ⟨rfl, rfl, rfl⟩ := hs
            have kk := k H locs lsA hl hW hS
            exact lv_icmp_gt hx hb hdg h1 (fun _ => kk) (fun h => absurd hP.1 h)
          · cases hs
        | le =>
          simp only [gx_br] at hs
          split at hs
          · simp only [Option.some.injEq, Prod.mk.injEq] at hs
            obtain ⟨rfl, rfl, rfl⟩ := hs
            have kk := k H locs lsA hl hW hS
            rw [hn] at kk
            exact lv_icmp_le hx hb hdg h1 (fun h => absurd h hP.1) (fun _ => kk)
          · simp only [Option.some.injEq, Prod.mk.injEq] at hs
            obtain ⟨rfl, rfl, rfl⟩ := hs
            have kk := k H locs lsA hl hW hS
            exact lv_icmp_le hx hb hdg h1 (fun _ => kk) (fun h => absurd hP.1 h)
          · cases hs
      · cases h1
    · cases hs
  | tableswitch df lo hi offs =>
    rcases tg with _ | ⟨t, tt⟩
    · simp [gx_ck1] at h1
    · simp only [gx_ck1, Bool.and_eq_true, decide_eq_true_eq] at h1
      obtain ⟨⟨h1, h2⟩, h3⟩ := h1
      rcases st with _ | ⟨w, st'⟩
      · simp [gx_stq] at hs
      · cases w with
        | int x =>
          rcases o with _ | ⟨w, o1⟩
          · simp [gx_stq] at hs
          · rcases w with j | w
            · cases j with
              | zero =>
                simp only [gx_stq, gx_wo, Option.some.injEq, Prod.mk.injEq] at hs
                obtain ⟨rfl, rfl, rfl⟩ := hs
                exact lv_tableOut hx hb hdg hP.1 h1 (k H locs lsA hl hW hS)
              | succ j =>
                cases ht : gx_nth tt j with
                | none => simp [gx_stq, ht] at hs
                | some u =>
                  simp only [gx_stq, ht, gx_wo, Option.some.injEq, Prod.mk.injEq] at hs
                  obtain ⟨rfl, rfl, rfl⟩ := hs
                  rw [gx_nth_eq] at ht
                  obtain ⟨z2, z1, z3⟩ := gx_tgs_at h2 ht
                  have hq := hP.1
                  have hlt : j < offs.size := by simpa using (List.getElem?_eq_some_iff.mp z1).1
                  refine lv_tableIn hx hb hdg (by omega) (by omega) (off := z2) ?_ z3 (k H locs lsA hl hW hS)
                  rw [hq, show (lo + (j : Int) - lo).toNat = j by omega]
                  simpa using z1
            · simp [gx_stq] at hs
        | _ => simp [gx_stq] at hs
  | lookupswitch df pr =>
    simp only [gx_ck1, Bool.and_eq_true] at h1
    obtain ⟨h1, h2⟩ := h1
    rcases st with _ | ⟨w, st'⟩
    · simp [gx_stq] at hs
    · cases w with
      | int x =>
        rcases o with _ | ⟨w, o1⟩
        · simp [gx_stq] at hs
        · rcases w with j | w
          · cases ht : gx_nth tg j with
            | none => simp [gx_stq, ht] at hs
            | some u =>
              cases ha : gx_nth (df :: pr.toList.map (fun q => q.2)) j with
              | none => simp only [gx_stq, ht, ha] at hs; cases hs
              | some z =>
                simp only [gx_stq, ht, ha, gx_wo, Option.some.injEq, Prod.mk.injEq] at hs
                obtain ⟨rfl, rfl, rfl⟩ := hs
                rw [gx_nth_eq] at ht ha
                obtain ⟨z2, z1, z3⟩ := gx_tgs_at h1 ht
                rw [ha] at z1
                obtain rfl := Option.some.inj z1
                exact lv_lookup hx hb hdg h2 hP.1 z3 (k H locs lsA hl hW hS)
          · simp [gx_stq] at hs
      | _ => simp [gx_stq] at hs
  | getfield n =>
    rcases tg with _ | ⟨ci, _ | ⟨j, _ | ⟨_, _⟩⟩⟩
    · simp [gx_ck1] at h1
    · simp [gx_ck1] at h1
    · simp only [gx_ck1, Bool.and_eq_true] at h1
      obtain ⟨hw, h1⟩ := h1
      have hLe := hKs.1 _ (gx_lk_mem hw)
      obtain ⟨CC, F, N, hcl, hj, hF, hwm⟩ := hLe
      have hc := hts _ hwm
      obtain ⟨c1, -, -⟩ := hCl _ _ _ _ hcl
      obtain rfl := hdn rfl
      have hn := Nat.eq_of_beq_eq_true h1
      rcases st with _ | ⟨w, st'⟩
      · simp [gx_stq] at hs
      · cases w with
        | ref kq =>
          rcases hk : lay kq with ⟨kd, cj, fs⟩
          obtain rfl | hkd : kd = 4 ∨ kd ≠ 4 := by omega
          · cases hcj : Nat.beq ci cj with
            | false => simp [gx_stq, hk, hcj] at hs
            | true =>
              obtain rfl := Nat.eq_of_beq_eq_true hcj
              have hkn := hlay kq (by rw [hk]; exact Nat.le_refl 4)
              have ha := gx_ws_at (lay := lay) (G := G) (L := L) (σ := σ) hkn
              rw [gx_E, hk] at ha
              cases hq : gx_nth fs j with
              | none => simp [gx_stq, hk, hcj, hq] at hs
              | some z => cases z with
                | some t =>
                  simp only [gx_stq, hk, hcj, hq, cond_true, gx_go, Option.some.injEq, Prod.mk.injEq] at hs
                  obtain ⟨rfl, rfl, rfl⟩ := hs
                  have kk := k H locs lsA hl hW hS
                  rw [hn] at kk
                  exact va_get hx hb hts c1 hown hK hW _ ha hcl _ hj hc (fun x h => hF ▸ h) (by rw [gx_fl_at, ← gx_nth_eq, hq]; rfl) hdg kk
                | none =>
                  simp only [gx_stq, hk, hcj, hq, cond_true, gx_go, Option.some.injEq, Prod.mk.injEq] at hs
                  obtain ⟨rfl, rfl, rfl⟩ := hs
                  have kk := k H locs lsA hl hW hS
                  rw [hn] at kk
                  exact va_get hx hb hts c1 hown hK hW _ ha hcl _ hj hc (fun x h => hF ▸ h) (by rw [gx_fl_at, ← gx_nth_eq, hq]; simp only [Option.map_some, Nat.zero_add]; rfl) hdg kk
          · simp [gx_stq, hk, hkd] at hs
        | _ => simp [gx_stq] at hs
    · simp [gx_ck1] at h1
  | putfield n =>
    rcases tg with _ | ⟨ci, _ | ⟨j, _ | ⟨_, _⟩⟩⟩
    · simp [gx_ck1] at h1
    · simp [gx_ck1] at h1
    · simp only [gx_ck1, Bool.and_eq_true] at h1
      obtain ⟨hw, h1⟩ := h1
      have hLe := hKs.1 _ (gx_lk_mem hw)
      obtain ⟨CC, F, N, hcl, hj, hF, hfi, hI, hwm⟩ := hLe
      have hc := hts _ hwm
      obtain ⟨c1, ⟨ty0, c2⟩, c3⟩ := hCl _ _ _ _ hcl
      obtain rfl := hdn rfl
      have hn := Nat.eq_of_beq_eq_true h1
      rcases st with _ | ⟨w, _ | ⟨w2, st'⟩⟩
      · simp [gx_stq] at hs
      · simp [gx_stq] at hs
      · cases w with
        | int a => cases w2 with
          | ref kq =>
            rcases hk : lay kq with ⟨kd, cj, fs⟩
            obtain rfl | hkd : kd = 4 ∨ kd ≠ 4 := by omega
            · cases hcj : Nat.beq ci cj with
              | false => simp [gx_stq, hk, hcj] at hs
              | true =>
                obtain rfl := Nat.eq_of_beq_eq_true hcj
                have hkn := hlay kq (by rw [hk]; exact Nat.le_refl 4)
                have ha := gx_ws_at (lay := lay) (G := G) (L := L) (σ := σ) hkn
                rw [gx_E, hk] at ha
                cases hq : gx_nth fs j with
                | none => simp [gx_stq, hk, hcj, hq] at hs
                | some z => cases z with
                  | none =>
                    simp only [gx_stq, hk, hcj, hq, cond_true, gx_go, Option.some.injEq, Prod.mk.injEq] at hs
                    obtain ⟨rfl, rfl, rfl⟩ := hs
                    refine va_put (ty := .int) hx hb hts c1 ty0 c2 c3 hown hK hW (hD σ) hS _ ha hcl _ hj hc (fun x h => hF ▸ h) hfi (by rw [hI]; rfl) rfl rfl (by rw [gx_fl_len]; rw [gx_nth_eq] at hq; exact (List.getElem?_eq_some_iff.mp hq).1) hdg (fun H1 locs1 hP1 hD1 hS1 => ?_)
                    rw [gx_ws_set (σ' := gx_up σ kq j a) (by rw [gx_E, hk]; exact congrArg (fun z => Sum.inr (_, z)) (gx_fl_set L σ kq j a fs hq)) (fun k' hk' => gx_up_ne hk')] at hP1
                    have kk := k H1 locs1 lsA hl hP1 hS1
                    rw [hn] at kk
                    exact kk
                  | some t => simp [gx_stq, hk, hcj, hq] at hs
            · simp [gx_stq, hk, hkd] at hs
          | _ => simp [gx_stq] at hs
        | _ => simp [gx_stq] at hs
    · simp [gx_ck1] at h1
  | iaload =>
    rcases st with _ | ⟨w, _ | ⟨w2, st'⟩⟩
    · simp [gx_stq] at hs
    · simp [gx_stq] at hs
    · cases w with
      | int j => cases w2 with
        | ref kq =>
          rcases hk : lay kq with ⟨kd, n, fs⟩
          obtain rfl | hkd : kd = 0 ∨ kd ≠ 0 := by omega
          · simp only [gx_stq, hk, gx_wo, Option.some.injEq, Prod.mk.injEq] at hs
            obtain ⟨rfl, rfl, rfl⟩ := hs
            obtain rfl := hdn rfl
            have hn := Nat.eq_of_beq_eq_true h1
            have hkn := hlay kq (by rw [hk]; exact Nat.le_of_ble_eq_true rfl)
            have ha := gx_ws_at (lay := lay) (G := G) (L := L) (σ := σ) hkn
            rw [gx_E, hk] at ha
            have kk := k H locs lsA hl hW hS
            rw [hn] at kk
            exact va_iald hx hb hK hW _ 0 ha rfl hP.1 hdg kk
          · simp [gx_stq, hk, hkd] at hs
        | _ => simp [gx_stq] at hs
      | _ => simp [gx_stq] at hs
  | baload =>
    rcases st with _ | ⟨w, _ | ⟨w2, st'⟩⟩
    · simp [gx_stq] at hs
    · simp [gx_stq] at hs
    · cases w with
      | int j => cases w2 with
        | ref kq =>
          rcases hk : lay kq with ⟨kd, n, fs⟩
          obtain rfl | hkd : kd = 1 ∨ kd ≠ 1 := by omega
          · simp only [gx_stq, hk, gx_wo, Option.some.injEq, Prod.mk.injEq] at hs
            obtain ⟨rfl, rfl, rfl⟩ := hs
            obtain rfl := hdn rfl
            have hn := Nat.eq_of_beq_eq_true h1
            have hkn := hlay kq (by rw [hk]; exact Nat.le_of_ble_eq_true rfl)
            have ha := gx_ws_at (lay := lay) (G := G) (L := L) (σ := σ) hkn
            rw [gx_E, hk] at ha
            have kk := k H locs lsA hl hW hS
            rw [hn] at kk
            exact va_bald hx hb hK hW _ 1 ha rfl hP.1 hdg kk
          · simp [gx_stq, hk, hkd] at hs
        | _ => simp [gx_stq] at hs
      | _ => simp [gx_stq] at hs
  | laload =>
    rcases st with _ | ⟨w, _ | ⟨w2, st'⟩⟩
    · simp [gx_stq] at hs
    · simp [gx_stq] at hs
    · cases w with
      | int j => cases w2 with
        | ref kq =>
          rcases hk : lay kq with ⟨kd, n, fs⟩
          obtain rfl | hkd : kd = 2 ∨ kd ≠ 2 := by omega
          · simp only [gx_stq, hk, gx_wo, Option.some.injEq, Prod.mk.injEq] at hs
            obtain ⟨rfl, rfl, rfl⟩ := hs
            obtain rfl := hdn rfl
            have hn := Nat.eq_of_beq_eq_true h1
            have hkn := hlay kq (by rw [hk]; exact Nat.le_of_ble_eq_true rfl)
            have ha := gx_ws_at (lay := lay) (G := G) (L := L) (σ := σ) hkn
            rw [gx_E, hk] at ha
            have kk := k H locs lsA hl hW hS
            rw [hn] at kk
            exact va_lald hx hb hK hW _ 2 ha rfl hP.1 hdg kk
          · simp [gx_stq, hk, hkd] at hs
        | _ => simp [gx_stq] at hs
      | _ => simp [gx_stq] at hs
  | iastore =>
    rcases st with _ | ⟨w, _ | ⟨w2, _ | ⟨w3, st'⟩⟩⟩
    · simp [gx_stq] at hs
    · simp [gx_stq] at hs
    · simp [gx_stq] at hs
    · cases w with
      | int a => cases w2 with
        | int j => cases w3 with
          | ref kq =>
            rcases hk : lay kq with ⟨kd, n, fs⟩
            obtain rfl | hkd : kd = 0 ∨ kd ≠ 0 := by omega
            · simp only [gx_stq, hk, gx_wo, Option.some.injEq, Prod.mk.injEq] at hs
              obtain ⟨rfl, rfl, rfl⟩ := hs
              obtain rfl := hdn rfl
              have hn := Nat.eq_of_beq_eq_true h1
              have hkn := hlay kq (by rw [hk]; exact Nat.le_of_ble_eq_true rfl)
              have ha := gx_ws_at (lay := lay) (G := G) (L := L) (σ := σ) hkn
              rw [gx_E, hk] at ha
              refine va_iast hx hb hK hW (hD σ) hS _ 0 ha rfl hP.1 hdg (fun H1 locs1 hP1 hD1 hS1 => ?_)
              rw [gx_ws_set (σ' := gx_up σ kq j.toNatClampNeg a) (by rw [gx_E, hk]; simp only [gx_up_row]) (fun k' hk' => gx_up_ne hk')] at hP1
              have kk := k H1 locs1 lsA hl hP1 hS1
              rw [hn] at kk
              exact kk
            · simp [gx_stq, hk, hkd] at hs
          | _ => simp [gx_stq] at hs
        | _ => simp [gx_stq] at hs
      | _ => simp [gx_stq] at hs
  | bastore =>
    rcases st with _ | ⟨w, _ | ⟨w2, _ | ⟨w3, st'⟩⟩⟩
    · simp [gx_stq] at hs
    · simp [gx_stq] at hs
    · simp [gx_stq] at hs
    · cases w with
      | int a => cases w2 with
        | int j => cases w3 with
          | ref kq =>
            rcases hk : lay kq with ⟨kd, n, fs⟩
            obtain rfl | hkd : kd = 1 ∨ kd ≠ 1 := by omega
            · simp only [gx_stq, hk, gx_wo, Option.some.injEq, Prod.mk.injEq] at hs
              obtain ⟨rfl, rfl, rfl⟩ := hs
              obtain rfl := hdn rfl
              have hn := Nat.eq_of_beq_eq_true h1
              have hkn := hlay kq (by rw [hk]; exact Nat.le_of_ble_eq_true rfl)
              have ha := gx_ws_at (lay := lay) (G := G) (L := L) (σ := σ) hkn
              rw [gx_E, hk] at ha
              refine va_bast hx hb hK hW (hD σ) hS _ 1 ha rfl hP.1 hdg (fun H1 locs1 hP1 hD1 hS1 => ?_)
              rw [gx_ws_set (σ' := gx_up σ kq j.toNatClampNeg (vp_nar .byte a)) (by rw [gx_E, hk]; simp only [gx_up_row]) (fun k' hk' => gx_up_ne hk')] at hP1
              have kk := k H1 locs1 lsA hl hP1 hS1
              rw [hn] at kk
              exact kk
            · simp [gx_stq, hk, hkd] at hs
          | _ => simp [gx_stq] at hs
        | _ => simp [gx_stq] at hs
      | _ => simp [gx_stq] at hs
  | lastore =>
    rcases st with _ | ⟨w, _ | ⟨w2, _ | ⟨w3, st'⟩⟩⟩
    · simp [gx_stq] at hs
    · simp [gx_stq] at hs
    · simp [gx_stq] at hs
    · cases w with
      | long a => cases w2 with
        | int j => cases w3 with
          | ref kq =>
            rcases hk : lay kq with ⟨kd, n, fs⟩
            obtain rfl | hkd : kd = 2 ∨ kd ≠ 2 := by omega
            · simp only [gx_stq, hk, gx_wo, Option.some.injEq, Prod.mk.injEq] at hs
              obtain ⟨rfl, rfl, rfl⟩ := hs
              obtain rfl := hdn rfl
              have hn := Nat.eq_of_beq_eq_true h1
              have hkn := hlay kq (by rw [hk]; exact Nat.le_of_ble_eq_true rfl)
              have ha := gx_ws_at (lay := lay) (G := G) (L := L) (σ := σ) hkn
              rw [gx_E, hk] at ha
              refine va_last hx hb hK hW (hD σ) hS _ 2 ha rfl hP.1 hdg (fun H1 locs1 hP1 hD1 hS1 => ?_)
              rw [gx_ws_set (σ' := gx_upl σ kq j.toNatClampNeg a) (by rw [gx_E, hk]; simp only [gx_l_up]) (fun k' hk' => gx_upl_ne hk')] at hP1
              have kk := k H1 locs1 lsA hl hP1 hS1
              rw [hn] at kk
              exact kk
            · simp [gx_stq, hk, hkd] at hs
          | _ => simp [gx_stq] at hs
        | _ => simp [gx_stq] at hs
      | _ => simp [gx_stq] at hs
  | aaload =>
    rcases st with _ | ⟨w, _ | ⟨w2, st'⟩⟩
    · simp [gx_stq] at hs
    · simp [gx_stq] at hs
    · cases w with
      | int j => cases w2 with
        | ref kq =>
          rcases o with _ | ⟨w, o1⟩
          · simp [gx_stq] at hs
          · rcases w with q | w
            · rcases hk : lay kq with ⟨kd, n, fs⟩
              obtain rfl | hkd : kd = 3 ∨ kd ≠ 3 := by omega
              · cases hq : gx_nth fs q with
                | none => simp [gx_stq, hk, hq] at hs
                | some z => cases z with
                  | none => simp [gx_stq, hk, hq] at hs
                  | some t =>
                    simp only [gx_stq, hk, hq, gx_wo, Option.some.injEq, Prod.mk.injEq] at hs
                    obtain ⟨rfl, rfl, rfl⟩ := hs
                    obtain rfl := hdn rfl
                    have hn := Nat.eq_of_beq_eq_true h1
                    have hkn := hlay kq (by rw [hk]; exact Nat.le_of_ble_eq_true rfl)
                    have ha := gx_ws_at (lay := lay) (G := G) (L := L) (σ := σ) hkn
                    rw [gx_E, hk] at ha
                    have kk := k H locs lsA hl hW hS
                    rw [hn] at kk
                    obtain ⟨⟨rfl, hlt, hsm⟩, -⟩ := hP
                    refine va_aldq hx hb hK hW _ 3 ha rfl (vp_in_nI hlt hsm) hdg ?_
                    rw [nI_clamp (Nat.lt_trans hlt hsm), hq]
                    exact kk
              · simp [gx_stq, hk, hkd] at hs
            · simp [gx_stq] at hs
        | _ => simp [gx_stq] at hs
      | _ => simp [gx_stq] at hs
  | arraylength =>
    rcases st with _ | ⟨w, st'⟩
    · simp [gx_stq] at hs
    · cases w with
      | ref kq =>
        rcases hk : lay kq with ⟨kd, n, fs⟩
        obtain rfl | hkd : kd = 0 ∨ kd ≠ 0 := by omega
        · skip
          simp only [gx_stq, hk, gx_go, Option.some.injEq, Prod.mk.injEq] at hs
          obtain ⟨rfl, rfl, rfl⟩ := hs
          obtain rfl := hdn rfl
          have hn := Nat.eq_of_beq_eq_true h1
          have hkn := hlay kq (by rw [hk]; exact Nat.le_of_ble_eq_true rfl)
          have ha := gx_ws_at (lay := lay) (G := G) (L := L) (σ := σ) hkn
          rw [gx_E, hk] at ha
          have kk := k H locs lsA hl hW hS
          rw [hn] at kk
          exact va_alen hx hb hK hW _ 0 ha rfl rfl hdg kk
        · obtain rfl | hkd3 : kd = 3 ∨ kd ≠ 3 := by omega
          · skip
            simp only [gx_stq, hk, gx_go, Option.some.injEq, Prod.mk.injEq] at hs
            obtain ⟨rfl, rfl, rfl⟩ := hs
            obtain rfl := hdn rfl
            have hn := Nat.eq_of_beq_eq_true h1
            have hkn := hlay kq (by rw [hk]; exact Nat.le_of_ble_eq_true rfl)
            have ha := gx_ws_at (lay := lay) (G := G) (L := L) (σ := σ) hkn
            rw [gx_E, hk] at ha
            have kk := k H locs lsA hl hW hS
            rw [hn] at kk
            exact va_alen hx hb hK hW _ 3 ha rfl rfl hdg kk
          · simp [gx_stq, hk, hkd, hkd3] at hs
      | _ => simp [gx_stq] at hs
  | invokevirtual n =>
    rcases tg with _ | ⟨mj, _ | ⟨na, _ | ⟨q, _ | ⟨ci, _ | ⟨_, _⟩⟩⟩⟩⟩
    · simp [gx_ck1] at h1
    · simp [gx_ck1] at h1
    · simp [gx_ck1] at h1
    · simp [gx_ck1] at h1
    · obtain rfl | hq1 : q = 1 ∨ q ≠ 1 := by omega
      · rcases hm : mt mj with ⟨yy, bb, mL, rt⟩
        simp only [gx_ck1, Bool.and_eq_true] at h1
        obtain ⟨hw, h1⟩ := h1
        have hLe := hKs.1 _ (gx_lk_mem hw)
        · obtain ⟨na', e7, ⟨g0, g3, g4, g5, g2⟩, ⟨CC, F, N, hcl, g1⟩, m1, m2, m3, m4, m5⟩ := hLe
          simp only [hm] at g3 g4 g5 g2 g1 m1 m2 m3 m4 m5
          obtain rfl := hdn rfl
          have hn := Nat.eq_of_beq_eq_true h1
          rcases o with _ | ⟨w, o1⟩
          · simp [gx_stq, gx_cl] at hs
          · rcases w with w | ⟨r1, σ1⟩
            · simp [gx_stq, gx_cl] at hs
            · cases hb8 : (Nat.ble na st.length && gx_ok8 (st.drop na)) with
              | false => simp only [gx_stq, gx_cl, hb8, cond_false] at hs; cases hs
              | true =>
                cases has : (st.take na).reverse with
                | nil => simp only [gx_stq, gx_cl, hb8, cond_true, has] at hs; cases hs
                | cons w as =>
                  cases w with
                  | ref kq =>
                    cases hkq : (Nat.beq (lay kq).1 4 && Nat.beq (lay kq).2.1 ci) with
                    | false => simp only [gx_stq, gx_cl, hb8, cond_true, has, hkq, cond_false] at hs; cases hs
                    | true =>
                      simp only [gx_stq, gx_cl, hb8, cond_true, has, hkq, Option.some.injEq, Prod.mk.injEq] at hs
                      obtain ⟨rfl, rfl, rfl⟩ := hs
                      simp only [Bool.and_eq_true] at hkq hb8
                      have e4 := Nat.eq_of_beq_eq_true hkq.1
                      have e5 := Nat.eq_of_beq_eq_true hkq.2
                      have hna := Nat.le_of_ble_eq_true hb8.1
                      have h8 := Nat.le_of_ble_eq_true hb8.2
                      have hkn := hlay kq (by omega)
                      have ha := gx_ws_at (lay := lay) (G := G) (L := L) (σ := σ) hkn
                      rcases hk : lay kq with ⟨kd, cj, fs⟩
                      rw [hk] at e4 e5
                      obtain rfl : kd = 4 := e4
                      obtain rfl : cj = ci := e5
                      rw [gx_E, hk] at ha
                      have hMet := hC mj _ σ r1 σ1 g0 hP.1
                      rw [hm] at hMet
                      have hst : st.map (gx_v L) = (as.map (gx_v L)).reverse ++ .ref (L kq) :: (st.drop na).map (gx_v L) := by
                        have e1 : st = (st.take na) ++ st.drop na := (List.take_append_drop na st).symm
                        have e2 : st.take na = (.ref kq :: as).reverse := by rw [← has, List.reverse_reverse]
                        conv => lhs; rw [e1, e2]
                        simp [gx_v]
                      have hlen : as.length + 1 = na := by
                        have e3 := congrArg List.length has
                        simp only [List.length_reverse, List.length_take, List.length_cons] at e3
                        omega
                      have gd : (parseMethodDescriptor yy.desc).map (fun d => d.parameters.length) = some as.length := by
                        rw [g2]
                        exact congrArg some (by omega)
                      rw [hst]
                      refine gx_call (va_runV (As := as.map (gx_v L)) (rest := (st.drop na).map (gx_v L)) (C := yy.cls) (b := L kq) ⟨hx, hb, hml, hown, hts⟩ hMet
                        ⟨callB_of (Ts := tb) as.length hts (fun w hwc => ?_) rfl rfl rfl (hts _ m4) (hts _ m1) ⟨g4, g5, gd⟩ ⟨by show d + 4 + 1 ≤ R.frames; omega, by show 8 + (mL + 11) + (60 * d + 200) ≤ R.locals; omega⟩, hts _ m2, hts _ m3⟩
                        ⟨gx_bl hEx, ?_, fun U hU hWm => ⟨by simp [gx_v], by rw [hU]; exact hW, va_K.moved hWm.alike hK, by rw [hU]; exact hEx.2 s U s.heap H hWm hS.1 hS.2.1 hE0⟩⟩ rfl (by simp) (hl.1) rfl (lv_room (by simpa [List.map_map, Function.comp_def, gx_v_cat] using h8)) hdg ⟨hRc, hRs⟩) hS (fun H1 locs1 hP1 hS1 => ?_)
                      · rcases List.mem_cons.mp hwc with rfl | hwc
                        · exact ⟨m5, good_of_word (hg _ m5)⟩
                        · exact ⟨hwc, good_of_word (hg _ hwc)⟩
                      · obtain ⟨cell, z1, z2, z3⟩ := va_recv hK hW hcl ha
                        exact ⟨cell, z1, z2, by rw [g1]; exact z3⟩
                      · have kk := k H1 locs1 lsA hl hP1 hS1
                        rw [hn] at kk
                        cases r1 with
                        | none => exact kk
                        | some w => exact kk
                  | _ => simp only [gx_stq, gx_cl, hb8, cond_true, has] at hs; cases hs
      · simp [gx_ck1, hq1] at h1
    · simp [gx_ck1] at h1
  | invokestatic n =>
    rcases tg with _ | ⟨mj, _ | ⟨na, _ | ⟨q, _ | ⟨ci, _ | ⟨_, _⟩⟩⟩⟩⟩
    · simp [gx_ck1] at h1
    · rcases mj with _ | _ | _ | mj
      · simp only [gx_ck1, Bool.and_eq_true] at h1
        obtain ⟨hw, h1⟩ := h1
        obtain rfl := hdn rfl
        have hn := Nat.eq_of_beq_eq_true h1
        obtain ⟨m1, m2, m3, m4⟩ := hKs.1 _ (gx_lk_mem hw)
        rcases st with _ | ⟨w1, _ | ⟨w2, _ | ⟨w3, _ | ⟨w4, _ | ⟨w5, st'⟩⟩⟩⟩⟩
        · simp [gx_stq] at hs
        · simp [gx_stq] at hs
        · simp [gx_stq] at hs
        · simp [gx_stq] at hs
        · simp [gx_stq] at hs
        · cases w1 with
          | int n1 => cases w2 with
            | int dp => cases w3 with
              | ref k1 => cases w4 with
                | int sp => cases w5 with
                  | ref k0 =>
                    rcases hk0 : lay k0 with ⟨kd0, n0, fs0⟩
                    rcases hk1 : lay k1 with ⟨kd1, n1', fs1⟩
                    obtain rfl | hkd : kd0 = 0 ∨ kd0 ≠ 0 := by omega
                    · obtain rfl | hkd : kd1 = 0 ∨ kd1 ≠ 0 := by omega
                      · cases h8 : gx_ok8 st' with
                        | false => simp [gx_stq, hk0, hk1, h8] at hs
                        | true =>
                          simp only [gx_stq, hk0, hk1, h8, cond_true, gx_wo, Option.some.injEq, Prod.mk.injEq] at hs
                          obtain ⟨rfl, rfl, rfl⟩ := hs
                          have h8 := Nat.le_of_ble_eq_true h8
                          have hkn0 := hlay k0 (by rw [hk0]; exact Nat.zero_le _)
                          have hkn1 := hlay k1 (by rw [hk1]; exact Nat.zero_le _)
                          have ha0 := gx_ws_at (lay := lay) (G := G) (L := L) (σ := σ) hkn0
                          have ha1 := gx_ws_at (lay := lay) (G := G) (L := L) (σ := σ) hkn1
                          rw [gx_E, hk0] at ha0
                          rw [gx_E, hk1] at ha1
                          obtain ⟨⟨p1, p2, p3, p4, p5⟩, -⟩ := hP
                          refine va_copyi (ty := .int) hx hb (hml.trans hl.1.symm) hown (hts _ m1) (hts _ m2) (hts _ m3) (hts _ m4) hK hW (hD σ) hS _ _ 0 0 ha0 ha1 rfl rfl rfl p1 p2 p3 p4 p5 (fun i hi => rfl) (by omega) ?_ hdg (fun H1 locs1 hP1 hD1 hS1 => ?_)
                          · refine Nat.le_trans ?_ hRl
                            have e9 : ((st'.map (gx_v L)).map fun v => v.category).sum = (st'.map Value.category).sum := by simp [List.map_map, Function.comp_def, gx_v_cat]
                            rw [e9]
                            have e10 : nativeFrameWords "java/lang/System" "arraycopy" 5 = 7 := by decide
                            rw [e10]
                            omega
                          · rw [gx_ws_set (σ' := gx_cp σ k0 k1 sp.toNatClampNeg dp.toNatClampNeg n1.toNatClampNeg) (by rw [gx_E, hk1]; simp only [gx_cp_row]) (fun k' hk' => gx_cp_ne hk')] at hP1
                            have kk := k H1 locs1 lsA hl hP1 hS1
                            rw [hn] at kk
                            exact kk
                      · simp [gx_stq, hk0, hk1, hkd] at hs
                    · simp [gx_stq, hk0, hk1, hkd] at hs
                  | _ => simp [gx_stq] at hs
                | _ => simp [gx_stq] at hs
              | _ => simp [gx_stq] at hs
            | _ => simp [gx_stq] at hs
          | _ => simp [gx_stq] at hs
      · simp only [gx_ck1, Bool.and_eq_true] at h1
        obtain ⟨hw, h1⟩ := h1
        obtain rfl := hdn rfl
        have hn := Nat.eq_of_beq_eq_true h1
        obtain ⟨m1, m2, m3, m4⟩ := hKs.1 _ (gx_lk_mem hw)
        rcases st with _ | ⟨w1, _ | ⟨w2, st'⟩⟩
        · simp [gx_stq] at hs
        · simp [gx_stq] at hs
        · cases w1 with
          | int y1 => cases w2 with
            | int x1 =>
              cases h8 : gx_ok8 st' with
              | false => simp [gx_stq, h8] at hs
              | true =>
                simp only [gx_stq, h8, cond_true, gx_go, Option.some.injEq, Prod.mk.injEq] at hs
                obtain ⟨rfl, rfl, rfl⟩ := hs
                have h8 := Nat.le_of_ble_eq_true h8
                have kk := k H locs lsA hl hW hS
                rw [hn] at kk
                refine va_mmax hx hb (hml.trans hl.1.symm) hown (hts _ m1) (hts _ m2) (hts _ m3) (hts _ m4) (by omega) ?_ hRc hRs hdg kk
                refine Nat.le_trans ?_ hRl
                have e9 : ((st'.map (gx_v L)).map fun v => v.category).sum = (st'.map Value.category).sum := by simp [List.map_map, Function.comp_def, gx_v_cat]
                rw [e9]
                omega
            | _ => simp [gx_stq] at hs
          | _ => simp [gx_stq] at hs
      · simp only [gx_ck1, Bool.and_eq_true] at h1
        obtain ⟨hw, h1⟩ := h1
        obtain rfl := hdn rfl
        have hn := Nat.eq_of_beq_eq_true h1
        obtain ⟨m1, m2, m3, m4⟩ := hKs.1 _ (gx_lk_mem hw)
        rcases st with _ | ⟨w1, _ | ⟨w2, st'⟩⟩
        · simp [gx_stq] at hs
        · simp [gx_stq] at hs
        · cases w1 with
          | int y1 => cases w2 with
            | int x1 =>
              cases h8 : gx_ok8 st' with
              | false => simp [gx_stq, h8] at hs
              | true =>
                simp only [gx_stq, h8, cond_true, gx_go, Option.some.injEq, Prod.mk.injEq] at hs
                obtain ⟨rfl, rfl, rfl⟩ := hs
                have h8 := Nat.le_of_ble_eq_true h8
                have kk := k H locs lsA hl hW hS
                rw [hn] at kk
                refine va_mmin hx hb (hml.trans hl.1.symm) hown (hts _ m1) (hts _ m2) (hts _ m3) (hts _ m4) (by omega) ?_ hRc hRs hdg kk
                refine Nat.le_trans ?_ hRl
                have e9 : ((st'.map (gx_v L)).map fun v => v.category).sum = (st'.map Value.category).sum := by simp [List.map_map, Function.comp_def, gx_v_cat]
                rw [e9]
                omega
            | _ => simp [gx_stq] at hs
          | _ => simp [gx_stq] at hs
      · simp [gx_ck1] at h1
    · simp [gx_ck1] at h1
    · simp [gx_ck1] at h1
    · obtain rfl | hq1 : q = 0 ∨ q ≠ 0 := by omega
      · rcases hm : mt mj with ⟨yy, bb, mL, rt⟩
        simp only [gx_ck1, Bool.and_eq_true] at h1
        obtain ⟨hw, h1⟩ := h1
        obtain ⟨⟨g0, g3, g4, g5, g2⟩, m1, m2, m3, m5⟩ := hKs.1 _ (gx_lk_mem hw)
        simp only [hm] at g3 g4 g5 g2 m1 m2 m3 m5
        obtain rfl := hdn rfl
        have hn := Nat.eq_of_beq_eq_true h1
        rcases o with _ | ⟨w, o1⟩
        · simp [gx_stq, gx_cl] at hs
        · rcases w with w | ⟨r1, σ1⟩
          · simp [gx_stq, gx_cl] at hs
          · cases hb8 : (Nat.ble na st.length && gx_ok8 (st.drop na)) with
            | false => simp only [gx_stq, gx_cl, hb8, cond_false] at hs; cases hs
            | true =>
              simp only [gx_stq, gx_cl, hb8, cond_true, Option.some.injEq, Prod.mk.injEq] at hs
              obtain ⟨rfl, rfl, rfl⟩ := hs
              simp only [Bool.and_eq_true] at hb8
              have hna := Nat.le_of_ble_eq_true hb8.1
              have h8 := Nat.le_of_ble_eq_true hb8.2
              have hMet := hC mj _ σ r1 σ1 g0 hP.1
              rw [hm] at hMet
              have hst : st.map (gx_v L) = (((st.take na).reverse).map (gx_v L)).reverse ++ (st.drop na).map (gx_v L) := by
                rw [List.map_reverse, List.reverse_reverse, ← List.map_append, List.take_append_drop]
              rw [hst]
              refine gx_call (va_runS (As := ((st.take na).reverse).map (gx_v L)) (rest := (st.drop na).map (gx_v L)) ⟨hx, hb, hml, hown, hts⟩ hMet
                ⟨callB_of (Ts := tb) na hts (fun w hwc => ?_) rfl rfl rfl (hts _ m3) (hts _ m1) ⟨g4, g5, g2⟩ ⟨by show d + 4 + 1 ≤ R.frames; omega, by show 8 + (mL + 11) + (60 * d + 200) ≤ R.locals; omega⟩, hts _ m2⟩
                ⟨gx_bl hEx, fun U hU hWm => ⟨rfl, by rw [hU]; exact hW, va_K.moved hWm.alike hK, by rw [hU]; exact hEx.2 s U s.heap H hWm hS.1 hS.2.1 hE0⟩⟩ rfl (by simp; omega) (hl.1) rfl (lv_room (by simpa [List.map_map, Function.comp_def, gx_v_cat] using h8)) hdg ⟨hRc, hRs⟩) hS (fun H1 locs1 hP1 hS1 => ?_)
              · rcases List.mem_cons.mp hwc with rfl | hwc
                · exact ⟨m5, good_of_word (hg _ m5)⟩
                · exact ⟨hwc, good_of_word (hg _ hwc)⟩
              · have kk := k H1 locs1 lsA hl hP1 hS1
                rw [hn] at kk
                cases r1 with
                | none => exact kk
                | some w => exact kk
      · simp [gx_ck1, hq1] at h1
    · simp [gx_ck1] at h1
  | ireturn =>
    simp only [gx_stq] at hs
    split at hs
    · simp only [Option.some.injEq, Prod.mk.injEq] at hs
      obtain ⟨rfl, rfl, rfl⟩ := hs
      obtain ⟨rfl, rfl⟩ := k
      obtain ⟨rfl, rfl, rfl⟩ := hQ rfl
      obtain rfl := hdn rfl
      simp only [gx_ck1, decide_eq_true_eq] at h1
      exact W.iret hx hb (hr.trans h1) (fun t ht hw => ⟨⟨rfl, by rw [ht]; exact hW⟩, hS.F ht⟩) hS.2.2 hdg
    · simp only [Option.some.injEq, Prod.mk.injEq] at hs
      obtain ⟨rfl, rfl, rfl⟩ := hs
      obtain ⟨rfl, rfl⟩ := k
      obtain ⟨rfl, rfl, rfl⟩ := hQ rfl
      obtain rfl := hdn rfl
      simp only [gx_ck1, decide_eq_true_eq] at h1
      exact W.zret hx hb (hr.trans h1) (congrArg Value.int hP.1) (fun t ht hw => ⟨⟨rfl, by rw [ht]; exact hW⟩, hS.F ht⟩) hS.2.2 hdg
    · cases hs
  | lreturn =>
    simp only [gx_stq] at hs
    split at hs
    · simp only [Option.some.injEq, Prod.mk.injEq] at hs
      obtain ⟨rfl, rfl, rfl⟩ := hs
      obtain ⟨rfl, rfl⟩ := k
      obtain ⟨rfl, rfl, rfl⟩ := hQ rfl
      obtain rfl := hdn rfl
      simp only [gx_ck1, decide_eq_true_eq] at h1
      exact W.lret hx hb (hr.trans h1) (fun t ht hw => ⟨⟨rfl, by rw [ht]; exact hW⟩, hS.F ht⟩) hS.2.2 hdg
    · cases hs
  | return_ =>
    simp only [gx_stq] at hs
    split at hs
    · simp only [Option.some.injEq, Prod.mk.injEq] at hs
      obtain ⟨rfl, rfl, rfl⟩ := hs
      obtain ⟨rfl, rfl⟩ := k
      obtain ⟨rfl, rfl, rfl⟩ := hQ rfl
      obtain rfl := hdn rfl
      simp only [gx_ck1, decide_eq_true_eq] at h1
      exact W.vret hx hb (hr.trans h1) (fun t ht hw => ⟨⟨rfl, by rw [ht]; exact hW⟩, hS.F ht⟩) hS.2.2 hdg
    · cases hs
  | _ => simp [gx_stq] at hs
theorem gx_step {lay : gx_Y} {NC : Nat} {G : Nat → ClassId} {L : Nat → Nat} {D : va_G} {cl : List vw_C} {Ex : State → Heap → Prop} {A : Nat → Prop} {tb : List Cond} {K : gx_K} {nm : Nat → String} {cn : Nat} {nL : Nat} {cc : ByteArray} {ret : Option FieldType} {T : List gx_I} {p : Program} {l : Launch} {e : Env} {d : Nat} {R : Room} {cs sl : Nat} {Q : State → Prop} {s : State} {m : MethodId} {args : Array Value} {below : List Frame} {meth : Method} {c : Code} {mt : Nat → gx_M} {C : gx_C} {r : Option Value} {σ' : gx_R}
    (hRf : d + 1 + 4 ≤ R.frames) (hRl : 60 * (d + 1) + 200 ≤ R.locals) (hRc : cs ≤ R.cells) (hRs : sl ≤ R.slots) (hAt : gx_At lay NC G L D cl Ex A tb nL (nm cn) cc ret p s m args meth c) (hCl : gx_Cl cl tb) (hKs : gx_Ks cl tb mt nm K) (hg : ∀ w ∈ tb, goodWord w = true) (hlay : ∀ k, (lay k).1 ≤ 4 → k < NC)
    (hC : ∀ mj as σ r1 σ1, mj ≤ 999 → C mj as σ r1 σ1 → Met l (mt mj).1 (gx_wd tb (mt mj)) (gx_rm d) (gx_P lay NC G L D cl Ex as σ) (gx_Q lay NC G L D cl A r1 σ1) 0 0 A)
    (hXt : ∀ pc ins a tg ps o o' i ls st σ P y, gx_nth T i = some (pc, ins, Value.retAddr a, tg, ps) → gx_mk C tg o i ls st σ = some (P, o', y) → gx_all P → gx_nxt (gx_W lay NC G L D cl A nL T p l e R s m args below meth c cs sl Q) r σ' y → gx_W lay NC G L D cl A nL T p l e R s m args below meth c cs sl Q i ls st σ)
    {x : gx_I} {o o' : List gx_O} {i : Nat} {ls st : List Value} {σ : gx_R} {P : List Prop} {y : gx_S} (hT : gx_nth T i = some x) (hck : gx_ck K nL cn cc ret T i x = true) (hQ : gx_rt x.2.1 = true → cs = 0 ∧ sl = 0 ∧ Q = MQ below (gx_Q lay NC G L D cl A r σ') args s 0 0 A) (hs : gx_stp lay C x o i ls st σ = some (P, o', y)) (hP : gx_all P)
    (k : gx_nxt (gx_W lay NC G L D cl A nL T p l e R s m args below meth c cs sl Q) r σ' y) : gx_W lay NC G L D cl A nL T p l e R s m args below meth c cs sl Q i ls st σ := by
  rcases x with ⟨pc, ins, v, tg, ps⟩
  cases v with
  | retAddr a => exact hXt pc ins a tg ps o o' i ls st σ P y hT hs hP k
  | _ => exact gx_step0 hRf hRl hRc hRs hAt hCl hKs hg hlay hC hT hck (fun a h => by cases h) hQ hs hP k
