/-! ===== a method: from the small machine's end to its contract ===== -/
def gx_en0 : List Value → List Value
  | [] => []
  | .long x :: t => .long x :: .null :: gx_en0 t
  | .double x :: t => .double x :: .null :: gx_en0 t
  | v :: t => v :: gx_en0 t
def gx_en (as : List Value) (nL : Nat) : List Value := gx_en0 as ++ List.replicate (nL - (gx_en0 as).length) .null
theorem gx_en0_len (L : Nat → Nat) (as : List Value) : (lg_sl (as.map (gx_v L))).length = (gx_en0 as).length := by
  induction as with
  | nil => rfl
  | cons v t ih =>
    have e : lg_sl ((v :: t).map (gx_v L)) = (if v.category = 2 then [Slot.val (gx_v L v), .second] else [.val (gx_v L v)]) ++ lg_sl (t.map (gx_v L)) := by
      simp [lg_sl, gx_v_cat]
    rw [e, List.length_append, ih]
    cases v <;> simp [gx_en0, Value.category] <;> omega
theorem gx_en0_at (L : Nat → Nat) (as : List Value) : ∀ (b i : Nat) (v : Value), (gx_en0 as)[i]? = some v → v ≠ .null → (b + i, gx_v L v) ∈ lv_args b (as.map (gx_v L)) := by
  induction as with
  | nil => intro b i v h _; simp [gx_en0] at h
  | cons w t ih =>
    intro b i v h hv
    by_cases hc : w.category = 2
    · have e : gx_en0 (w :: t) = w :: .null :: gx_en0 t := by cases w <;> first | rfl | (simp [Value.category] at hc)
      rw [e] at h
      simp only [List.map_cons, lv_args, gx_v_cat, hc, if_pos]
      rcases i with _ | _ | i
      · simp at h; subst h; exact List.mem_cons_self
      · simp at h; exact absurd h.symm hv
      · have h2 := ih (b + 2) i v (by simpa using h) hv
        rw [show b + 2 + i = b + (i + 1 + 1) by omega] at h2
        exact List.mem_cons_of_mem _ h2
    · have e : gx_en0 (w :: t) = w :: gx_en0 t := by cases w <;> first | rfl | (simp [Value.category] at hc)
      rw [e] at h
      simp only [List.map_cons, lv_args, gx_v_cat, hc, if_false]
      rcases i with _ | i
      · simp at h; subst h; exact List.mem_cons_self
      · have h2 := ih (b + 1) i v (by simpa using h) hv
        rw [show b + 1 + i = b + (i + 1) by omega] at h2
        exact List.mem_cons_of_mem _ h2
theorem gx_en_lv (L : Nat → Nat) (as : List Value) {nL : Nat} (h : (gx_en0 as).length ≤ nL) : gx_lv L ((lg_sl (as.map (gx_v L)) ++ List.replicate (nL - (lg_sl (as.map (gx_v L))).length) Slot.unset).toArray) nL (gx_en as nL) := by
  obtain ⟨h1, h2, h3⟩ := lv_entry (as.map (gx_v L)) (n := nL) (by rw [gx_en0_len]; exact h)
  refine ⟨h1, h2, fun i v hi hv => ?_⟩
  have hz : (gx_en0 as)[i]? = some v := by
    rw [gx_en] at hi
    by_cases hlt : i < (gx_en0 as).length
    · rwa [List.getElem?_append_left hlt] at hi
    · rw [List.getElem?_append_right (by omega), List.getElem?_replicate] at hi
      split at hi
      · cases hi; exact absurd rfl hv
      · cases hi
  have h4 := gx_en0_at L as 0 i v hz hv
  rw [Nat.zero_add] at h4
  exact h3 _ h4
theorem gx_okl_at {K : gx_K} {nL cn : Nat} {cc : ByteArray} {ret : Option FieldType} {T : List gx_I} : ∀ {u : List gx_I} {b i : Nat} {x : gx_I}, gx_okl K nL cn cc ret T b u = true → u[i]? = some x → gx_ck K nL cn cc ret T (b + i) x = true := by
  intro u
  induction u with
  | nil => intro b i x _ h; simp at h
  | cons a t ih =>
    intro b i x h hi
    simp only [gx_okl, Bool.and_eq_true] at h
    cases i with
    | zero => simp at hi; subst hi; exact h.1
    | succ j =>
      have h2 := ih h.2 (i := j) (by simpa using hi)
      rwa [show b + 1 + j = b + (j + 1) by omega] at h2
def gx_Em (lay : gx_Y) (TT : Nat → List gx_I) (mt : Nat → gx_M) (Sp : gx_C) : Nat → gx_C
  | 0 => fun _ _ _ _ _ => False
  | d + 1 => fun mi as σ r σ' => ((gx_en0 as).length ≤ (mt mi).2.2.1 ∧ gx_Ev lay (gx_Em lay TT mt Sp d) (TT mi) r σ' 0 (gx_en as (mt mi).2.2.1) [] σ) ∨ Sp mi as σ r σ'
/-- the marked rows of the methods are walks of the true machine -/
def gx_Xt (lay : gx_Y) (NC : Nat) (G : Nat → ClassId) (L : Nat → Nat) (D : va_G) (cl : List vw_C) (Ex : State → Heap → Prop) (A : Nat → Prop) (tb : List Cond) (TT : Nat → List gx_I) (mt : Nat → gx_M) (Sp : gx_C) (l : Launch) : Prop :=
  ∀ d mi p e s m args below meth c (Q : State → Prop) r σ', gx_At lay NC G L D cl Ex A tb (mt mi).2.2.1 (mt mi).1.cls (mt mi).2.1 (mt mi).2.2.2 p s m args meth c →
    (∀ mj as σ r1 σ1, mj ≤ 999 → gx_Em lay TT mt Sp d mj as σ r1 σ1 → Met l (mt mj).1 (gx_wd tb (mt mj)) (gx_rm d) (gx_P lay NC G L D cl Ex as σ) (gx_Q lay NC G L D cl A r1 σ1) 0 0 A) →
    ∀ pc ins a tg ps o o' i ls st σ P y, gx_nth (TT mi) i = some (pc, ins, Value.retAddr a, tg, ps) → gx_mk (gx_Em lay TT mt Sp d) tg o i ls st σ = some (P, o', y) → gx_all P → gx_nxt (gx_W lay NC G L D cl A (mt mi).2.2.1 (TT mi) p l e (gx_rm (d + 1)) s m args below meth c 0 0 Q) r σ' y → gx_W lay NC G L D cl A (mt mi).2.2.1 (TT mi) p l e (gx_rm (d + 1)) s m args below meth c 0 0 Q i ls st σ
theorem gx_met {lay : gx_Y} {NC : Nat} {G : Nat → ClassId} {L : Nat → Nat} {D : va_G} {cl : List vw_C} {Ex : State → Heap → Prop} {A : Nat → Prop} {tb : List Cond} {K : gx_K} {nm : Nat → String} {TT : Nat → List gx_I} {mt : Nat → gx_M} {Sp : gx_C} {l : Launch}
    (hCl : gx_Cl cl tb) (hKs : gx_Ks cl tb mt nm K) (hg : ∀ w ∈ tb, goodWord w = true) (hlay : ∀ k, (lay k).1 ≤ 4 → k < NC) (hD : ∀ σ, va_D A (gx_ws lay NC G L σ)) (hEx : gx_X Ex A) (hok : ∀ mi, gx_okm K nm (TT mi) (mt mi)) (hXt : gx_Xt lay NC G L D cl Ex A tb TT mt Sp l)
    (hSp : ∀ mi as σ r σ', Sp mi as σ r σ' → 1000 ≤ mi) :
    ∀ d mi as σ r σ', mi ≤ 999 → gx_Em lay TT mt Sp d mi as σ r σ' → Met l (mt mi).1 (gx_wd tb (mt mi)) (gx_rm d) (gx_P lay NC G L D cl Ex as σ) (gx_Q lay NC G L D cl A r σ') 0 0 A := by
  intro d
  induction d with
  | zero => intro mi as σ r σ' _ h; exact h.elim
  | succ d ih =>
    intro mi as σ r σ' hmi h
    rcases h with ⟨hfit, h⟩ | h
    · rcases hT : TT mi with _ | ⟨x0, t0⟩
      · rw [hT] at h
        exact (h (fun _ _ _ _ => False) (fun i ls st σ x o P o' y hx => by rw [gx_nth_eq] at hx; simp at hx) (fun _ _ _ _ _ _ z => z)).elim
      · have hm := hok mi
        rw [hT] at hm
        rcases hq : mt mi with ⟨y, b, mL, rt⟩
        have hX := hXt d mi
        rw [hq, hT] at hX
        rw [hq] at hm hfit h
        rcases hm with hm | ⟨cn, hnm, hp0, hpl, hck⟩
        · cases hm
        rw [hT] at h
        simp only at hnm hpl hck
        refine Met.ofW (cc := b) (maxL := mL) (ret := rt) hpl rfl ?_
        intro p e s m args below meth c s₁ B hml hv
        obtain ⟨rfl, hP, hK, hE⟩ := hv
        have hts := atoms_spec (ws := gx_wd tb (y, b, mL, rt)) B.pre
        have hown : s.vm.findClass y.cls = some m.cls := findClass_of_methodNamed B.named
        rw [lg_entry_eq]
        have hAt : gx_At lay NC G L D cl Ex A tb mL (nm cn) b rt p s m (as.map (gx_v L)).toArray meth c := ⟨B.exec, B.bytes, hml, by rw [hnm]; exact hown, fun w hw => hts w (List.mem_cons_of_mem _ hw), hK, hD, B.returns, B.notSynchronized, hEx, hE⟩
        have hz := h (gx_W lay NC G L D cl A mL (x0 :: t0) p l e (gx_rm (d + 1)) s m (as.map (gx_v L)).toArray below meth c 0 0 (MQ below (gx_Q lay NC G L D cl A r σ') (as.map (gx_v L)).toArray s 0 0 A))
          (fun i ls st σ x o P o' yy hx hs hPP hk => gx_step (Nat.le_refl _) (Nat.le_refl _) (Nat.zero_le _) (Nat.zero_le _) hAt hCl hKs hg hlay (fun mj as σ r1 σ1 hmj hc => ih mj as σ r1 σ1 hmj hc) (hX p e s m _ below meth c _ r σ' (by rw [hnm] at hAt; exact hAt) (fun mj as σ r1 σ1 hmj hc => ih mj as σ r1 σ1 hmj hc)) hx (by
            have h9 := gx_okl_at hck (i := i) (x := x) (by rw [← gx_nth_eq]; exact hx)
            rwa [Nat.zero_add] at h9) (fun _ => ⟨rfl, rfl, rfl⟩) hs hPP hk)
          (fun i ls ls' st σ hfg hz H locs lsA hl => hz H locs lsA ⟨hl.1, hl.2.1, fun j v hj hv => hl.2.2 j v (gx_fg_at hfg hj hv) hv⟩)
        have hw := hz s.heap [] _ (gx_en_lv L as hfit) hP va_S.rf
        rw [hp0] at hw
        exact hw
    · exact absurd (hSp mi as σ r σ' h) (by omega)
