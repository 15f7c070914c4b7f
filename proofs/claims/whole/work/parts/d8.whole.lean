/-! THE CLAIM OUT OF ONE WALK OF THE LAW'S BODY. Your part is whole_start (and what it stands on); all else here is the same for every law, but numbers. -/
def R_law : String := "SleptForLaw"
def lw_P (b : Addr) (xs : List Int32) (args : Array Value) (s : State) : Prop := args = #[.ref b] ∧ s.IntsAt b xs ∧ xs.length ≤ 3072 ∧ (Jvm.Cond.and given_1 narrow_1).before args s = true
def lw_Q (_ : Array Value) (s : State) (o : Outcome) (t : State) : Prop := o = .returned (some (.int 1)) ∧ Framed s o t [] 600000 7302250
def lw_Z (below : List Frame) (a : Array Value) (s : State) : State → Prop := fun t => ∃ o, t.status = .running ∧ Ended t below o ∧ lw_Q a s o t
/-- the law's own end, with 1 on the stack, nothing written that was there before, its room as the claim has it -/
theorem lw_ret {p : Program} {l : Launch} {e : Env} {s : State} {m : MethodId} {below : List Frame} {meth : Method} {c : Code} {b : Nat} (hx : p.tables.exec = Jvm.exec) (hb : c.code = code) (hr : meth.sig.returnType = ret) (hlocks : meth.locks = false) {pc : Nat} {H : Heap} {ls : Array Slot} (hdg : decode code pc = .ok (.ireturn, 1)) : W p l e room_1 s m #[Value.ref b] below meth c H [] 600000 7302250 (lw_Z below #[Value.ref b] s) (F0 m pc ls [.int 1]) := by
  intro T hT X
  obtain ⟨fs, hret, hrun, hended, hW, hframe⟩ := X.leave (v := some (.int 1)) (hlocks := hlocks) (fun h => by rw [hr] at h; cases h)
  have hmeth' : T.vm.method? m = some meth := X.method'
  refine ⟨T.setFrames fs, ?_, .returned (some (.int 1)), hrun, hended, rfl, ⟨_, rfl⟩, hW, hframe⟩
  jvm_step X.here [X.here.top, hx, hb, hdg, hmeth', hr, ret, narrow_b1]
  (try refine ⟨rfl, ?_⟩); (try refine ⟨rfl, ?_⟩)
  first | (intro acts; rw [hret _ acts rfl rfl rfl]) | rw [hret _ _ rfl rfl rfl]
  exact Steps.refl _
/-- what holds at the law's entry: the machine, the code, the tables' words (any of lw_tbl by 'hts w (by decide +kernel)'), the script of L ints xs at the cell b, what the Statement gives of the start (any of its parts by flat_of_before) -/
def lw_At (p : Program) (s : State) (m : MethodId) (meth : Method) (c : Code) (b L : Nat) (xs : Nat → Int32) : Prop :=
  p.tables.exec = Jvm.exec ∧ c.code = code ∧ meth.sig.returnType = ret ∧ c.maxLocals = 4 ∧ s.vm.findClass R_law = some m.cls ∧ (∀ w ∈ lw_tbl, w.before #[Value.ref b] s = true) ∧ va_X b L xs s s.heap ∧ b < s.heap.size ∧ meth.locks = false ∧ (Jvm.Cond.and given_1 narrow_1).before #[Value.ref b] s = true
set_option maxHeartbeats 8000000 in
set_option maxRecDepth 100000 in
theorem whole_start {p : Program} {e : Env} {s : State} {m : MethodId} {below : List Frame} {meth : Method} {c : Code} (l : Launch) (hflags : l.flags = flags0) {b L : Nat} {xs : Nat → Int32} (hL : L ≤ 3072) (C0 : lw_At p s m meth c b L xs) : W p l e room_1 s m #[Value.ref b] below meth c s.heap [] 0 0 (lw_Z below #[Value.ref b] s) (entryFrame m ([Value.ref b] : List Value).toArray 4) := by
  obtain ⟨hx, hb, hr, hml, hown, hts0, hX, hbl, hlocks, hgv⟩ := id C0
  have hts : ∀ w ∈ tbG, w.before #[Value.ref b] s = true := fun w hw => hts0 w (tbG_in w hw)
  obtain ⟨D, G, hK⟩ := world_0 hts (hts0 _ (lw_tbs_in _ ao_in)) m.cls
  obtain ⟨A, hAd⟩ : ∃ A : Nat → Prop, A = fun q => s.heap.size ≤ q := ⟨_, rfl⟩
  have hA : ∀ q : Nat, s.heap.size ≤ q → A q := fun q h => by rw [hAd]; exact h
  have hbA : ¬ A b := by rw [hAd]; exact Nat.not_le.mpr hbl
  obtain ⟨t, a, v, hE⟩ := start_E (A := A) hts0 hgv (fun q hq => by rw [hAd]; exact Nat.not_le.mpr hq)
  have B : bc_At G D cl0 tbG A "SleptForLaw" code 4 p s m #[Value.ref b] meth c := ⟨hx, hb, hml, hown, hts, hK, hA, hE.1⟩
  have hl := lv_entry ([.ref b]) (n := 4) (Nat.le_of_ble_eq_true rfl)
  rw [lg_entry_eq]
  generalize (lg_sl ([.ref b]) ++ List.replicate (4 - (lg_sl ([.ref b])).length) Slot.unset).toArray = ls at hl ⊢
  have hl : lv_has ls 4 [(0, .ref b)] := hl
  refine (?_ : bc_W D cl0 A p l e room_1 s m #[Value.ref b] below meth c (lw_Z below #[Value.ref b] s) ls 0 0 [] 0 []) s.heap [] (fun k q h => by simp at h) ⟨fun i j p q h => by simp at h, fun k q h => by simp at h⟩ va_S.rf
  refine bc_nw B cl0_ok (idx := 7) (ci := 11) (C := cn_11) (F := cf_11) (N := 12) (fs := [.null, .null, .null, .null, .int 0, .null, .null, .null, .null, .null, .null, .null]) (ty := cy_11) rfl cz_11 (fun j hj => by rcases (show j = 0 ∨ j = 1 ∨ j = 2 ∨ j = 3 ∨ j = 4 ∨ j = 5 ∨ j = 6 ∨ j = 7 ∨ j = 8 ∨ j = 9 ∨ j = 10 ∨ j = 11 by omega) with rfl | rfl | rfl | rfl | rfl | rfl | rfl | rfl | rfl | rfl | rfl | rfl <;> rfl) (tb_m (i := 1) (j := 21) rfl rfl rfl) (tb_m (i := 1) (j := 22) rfl rfl rfl) (tb_m (i := 1) (j := 1) rfl rfl rfl) (by decide) (by decide) (by decide +kernel) (fun q0 => ?_)
  refine bc_dup B rfl (by decide +kernel) ?_
  refine bc_call (ws0 := []) (index := 9) (As := []) (rest := [.ref q0]) B (ct_Top l G D q0) tbG_good (tb_m (i := 1) (j := 1) rfl rfl rfl) (tb_m (i := 1) (j := 23) rfl rfl rfl) (tb_m (i := 1) (j := 24) rfl rfl rfl) (tb_m (i := 1) (j := 25) rfl rfl rfl) rfl ⟨nh_11.1, nh_11.2, (show (parseMethodDescriptor "()V").map (fun d => d.parameters.length) = some 0 by decide +kernel)⟩ ⟨by decide, by decide⟩ (by decide) (by decide) hl.1 rfl (Nat.le_of_ble_eq_true rfl) (by decide +kernel) (fun U hU => ?_)
  have hU : U 0 0 = q0 := hU
  subst hU
  refine bc_ast B (k := 1) (i := 1) (lv' := [(1, .ref (U 0 0)), (0, .ref b)]) (by decide +kernel) rfl hl (by decide) rfl (fun ls1 hl1 => ?_)
  refine bc_nw B cl0_ok (idx := 10) (ci := 12) (C := cn_12) (F := cf_12) (N := 66) (fs := [.null, .null, .null, .int 0, .int 0, .int 0, .null, .null, .null, .null, .null, .null, .null, .null, .int 0, .int 0, .int 0, .int 0, .int 0, .int 0, .int 0, .int 0, .int 0, .null, .null, .int 0, .null, .null, .int 0, .null, .int 0, .int 0, .null, .null, .null, .null, .null, .int 0, .null, .null, .null, .null, .int 0, .int 0, .null, .null, .null, .null, .null, .null, .int 0, .int 0, .int 0, .null, .null, .null, .null, .null, .int 0, .int 0, .null, .null, .null, .null, .null, .null]) (ty := cy_12) rfl cz_12 (fun j hj => by rcases (show j = 0 ∨ j = 1 ∨ j = 2 ∨ j = 3 ∨ j = 4 ∨ j = 5 ∨ j = 6 ∨ j = 7 ∨ j = 8 ∨ j = 9 ∨ j = 10 ∨ j = 11 ∨ j = 12 ∨ j = 13 ∨ j = 14 ∨ j = 15 ∨ j = 16 ∨ j = 17 ∨ j = 18 ∨ j = 19 ∨ j = 20 ∨ j = 21 ∨ j = 22 ∨ j = 23 ∨ j = 24 ∨ j = 25 ∨ j = 26 ∨ j = 27 ∨ j = 28 ∨ j = 29 ∨ j = 30 ∨ j = 31 ∨ j = 32 ∨ j = 33 ∨ j = 34 ∨ j = 35 ∨ j = 36 ∨ j = 37 ∨ j = 38 ∨ j = 39 ∨ j = 40 ∨ j = 41 ∨ j = 42 ∨ j = 43 ∨ j = 44 ∨ j = 45 ∨ j = 46 ∨ j = 47 ∨ j = 48 ∨ j = 49 ∨ j = 50 ∨ j = 51 ∨ j = 52 ∨ j = 53 ∨ j = 54 ∨ j = 55 ∨ j = 56 ∨ j = 57 ∨ j = 58 ∨ j = 59 ∨ j = 60 ∨ j = 61 ∨ j = 62 ∨ j = 63 ∨ j = 64 ∨ j = 65 by omega) with rfl | rfl | rfl | rfl | rfl | rfl | rfl | rfl | rfl | rfl | rfl | rfl | rfl | rfl | rfl | rfl | rfl | rfl | rfl | rfl | rfl | rfl | rfl | rfl | rfl | rfl | rfl | rfl | rfl | rfl | rfl | rfl | rfl | rfl | rfl | rfl | rfl | rfl | rfl | rfl | rfl | rfl | rfl | rfl | rfl | rfl | rfl | rfl | rfl | rfl | rfl | rfl | rfl | rfl | rfl | rfl | rfl | rfl | rfl | rfl | rfl | rfl | rfl | rfl | rfl | rfl <;> rfl) (tb_m (i := 5) (j := 205) rfl rfl rfl) (tb_m (i := 5) (j := 206) rfl rfl rfl) (tb_m (i := 1) (j := 13) rfl rfl rfl) (by decide) (by decide) (by decide +kernel) (fun q1 => ?_)
  refine bc_dup B rfl (by decide +kernel) ?_
  refine bc_eq (ws' := cw_Top G U ++ [(q1, .inr (12, [.null, .null, .null, .int 0, .int 0, .int 0, .null, .null, .null, .null, .null, .null, .null, .null, .int 0, .int 0, .int 0, .int 0, .int 0, .int 0, .int 0, .int 0, .int 0, .null, .null, .int 0, .null, .null, .int 0, .null, .int 0, .int 0, .null, .null, .null, .null, .null, .int 0, .null, .null, .null, .null, .int 0, .int 0, .null, .null, .null, .null, .null, .null, .int 0, .int 0, .int 0, .null, .null, .null, .null, .null, .int 0, .int 0, .null, .null, .null, .null, .null, .null]))]) rfl ?_
  intro H locs hP hD hS
  have pe : List.Perm (cw_Top G U ++ [(q1, .inr (12, [.null, .null, .null, .int 0, .int 0, .int 0, .null, .null, .null, .null, .null, .null, .null, .null, .int 0, .int 0, .int 0, .int 0, .int 0, .int 0, .int 0, .int 0, .int 0, .null, .null, .int 0, .null, .null, .int 0, .null, .int 0, .int 0, .null, .null, .null, .null, .null, .int 0, .null, .null, .null, .null, .int 0, .int 0, .null, .null, .null, .null, .null, .null, .int 0, .int 0, .int 0, .null, .null, .null, .null, .null, .int 0, .int 0, .null, .null, .null, .null, .null, .null]))]) ((q1, .inr (12, [.null, .null, .null, .int 0, .int 0, .int 0, .null, .null, .null, .null, .null, .null, .null, .null, .int 0, .int 0, .int 0, .int 0, .int 0, .int 0, .int 0, .int 0, .int 0, .null, .null, .int 0, .null, .null, .int 0, .null, .int 0, .int 0, .null, .null, .null, .null, .null, .int 0, .null, .null, .null, .null, .int 0, .int 0, .null, .null, .null, .null, .null, .null, .int 0, .int 0, .int 0, .null, .null, .null, .null, .null, .int 0, .int 0, .null, .null, .null, .null, .null, .null])) :: cw_Top G U) := List.perm_append_singleton _ _
  have hP := va_Pp pe hP
  have hD := va_Dp pe hD
  have hA1 : ∀ q, va_A ((q1, .inr (12, [.null, .null, .null, .int 0, .int 0, .int 0, .null, .null, .null, .null, .null, .null, .null, .null, .int 0, .int 0, .int 0, .int 0, .int 0, .int 0, .int 0, .int 0, .int 0, .null, .null, .int 0, .null, .null, .int 0, .null, .int 0, .int 0, .null, .null, .null, .null, .null, .int 0, .null, .null, .null, .null, .int 0, .int 0, .null, .null, .null, .null, .null, .null, .int 0, .int 0, .int 0, .null, .null, .null, .null, .null, .int 0, .int 0, .null, .null, .null, .null, .null, .null])) :: cw_Top G U) H.size q → A q := fun q h => by
    rcases h with ⟨k, e, h⟩ | h
    · exact hD.2 k _ h
    · exact hA q (Nat.le_trans hS.1 h)
  refine va_callv (va_runI (As := []) (rest := [.ref q1]) ⟨hx, hb, hml, hown, hts⟩ (ct_Mod l G D (t := t) (a := a) (v := v) (b := b) A U q1 H.size hA1 (hD.weaken (fun _ _ _ _ => trivial))) (cwI 0 hts (jd_good (tb_m (i := 5) (j := 209) rfl rfl rfl)) rfl rfl rfl (hts _ (tb_m (i := 1) (j := 13) rfl rfl rfl)) (hts _ (tb_m (i := 5) (j := 207) rfl rfl rfl)) (hts _ (tb_m (i := 5) (j := 208) rfl rfl rfl)) rfl ⟨nh_12.1, nh_12.2, by decide +kernel⟩ ⟨by decide, by decide⟩) ⟨fun a U g mk q => by obtain ⟨w0, w1, wP, wK, wN, wE⟩ := q; exact ⟨w0, w1, wP, va_K.moved (u := U) (U := U.calling g mk a) (Vm.Alike.refl U.vm) wK, bc_N_same (u := U) (U := U.calling g mk a) rfl wN, (exE_X _ _ _ _).1 U (U.calling g mk a) _ rfl wE⟩, fun X hX hWm => ⟨rfl, by rw [hX], by rw [hX]; exact hP, va_K.moved hWm.alike hK, bc_N_warm hWm hE.1, by rw [hX]; exact (exE_X t a v A).2 s X s.heap H hWm hS.1 hS.2.1 hE⟩⟩ rfl rfl hl1.1 rfl (lv_room (Nat.le_of_ble_eq_true rfl)) (show decode code 12 = .ok (.invokespecial 12, 3) by decide +kernel) ⟨by decide, by decide⟩) hS (fun q _ h => hA1 q h) hA1 (fun V X H1 locs1 ht hvm hV hB hz1 hk1 hS1 => ?_)
  obtain ⟨sg2, hcp, hP1, hD1⟩ := hB
  rw [ht] at hP1
  have hV : V 0 = q1 := hV
  subst hV
  obtain ⟨Lk, hLk⟩ : ∃ Lk, Lk = cwL U V t a b := ⟨_, rfl⟩
  rw [← hLk] at hP1 hD1
  have hDA : ∀ σ, va_D A (gx_ws lay0 NC0 G Lk σ) := fun σ => ws_D (σ := sg2) (hD1.weaken (fun _ _ _ h => hA1 _ h))
  refine lv_astore_n hx hb (k := 2) (i := 2) (lv' := [(2, .ref (V 0)), (1, .ref (U 0 0)), (0, .ref b)]) (by decide +kernel) rfl hl1 (by decide) rfl (fun ls2 hl2 => ?_)
  refine lv_iconst hx hb (n := 0) (v := nI 0) (by decide +kernel) (by decide +kernel) ?_
  refine lv_istore_n hx hb (k := 3) (i := 3) (lv' := [(3, .int (nI 0)), (2, .ref (V 0)), (1, .ref (U 0 0)), (0, .ref b)]) (by decide +kernel) rfl hl2 (by decide) rfl (fun ls3 hl3 => ?_)
  refine W.widen (k := 600000) (n := 7302250) (by decide) (by decide) ?_
  have hr0 : Rel sg2 sg2 := by
    obtain ⟨sg3, c1, c2, c3⟩ := cps_x
    have := hcp.symm.trans c1
    cases this
    exact Rel_0 c2 c3
  have hAt : gx_At lay0 NC0 G Lk D cl0 (exE t a v A) A tbG 4 (nm1 14) code ret p s m #[Value.ref b] meth c := ⟨hx, hb, hml, hown, hts, hK, hDA, hr, hlocks, exE_X t a v A, hE⟩
  have hcz := lw_step (cs := 600000) (sl := 7302250) (Q := lw_Z below #[Value.ref b] s) (below := below) (e := e) (l := l) (by rw [hLk]; rfl) (by rw [hLk]; rfl) (by rw [hLk]; rfl) (Nat.le_refl _) (Nat.le_refl _) hAt hX hbl hbA hL
  have hend := lw_lp hcz hL (fun i σ => ?_) (L + 6) 0 sg2 (by omega) (by omega) hr0
  · refine hend H1 locs1 ls3 ⟨hl3.1, hl3.2.1, fun i w hi hw => ?_⟩ hP1 hS1
    have e0 : Lk 0 = U 0 0 := by rw [hLk]; rfl
    have e109 : Lk 109 = V 0 := by rw [hLk]; rfl
    have e202 : Lk 202 = b := by rw [hLk]; rfl
    rcases i with _ | _ | _ | _ | i
    · simp at hi; subst hi; show ls3[0]? = some (.val (.ref (Lk 202))); rw [e202]; exact lv_at hl3 3 rfl
    · simp at hi; subst hi; show ls3[1]? = some (.val (.ref (Lk 0))); rw [e0]; exact lv_at hl3 2 rfl
    · simp at hi; subst hi; show ls3[2]? = some (.val (.ref (Lk 109))); rw [e109]; exact lv_at hl3 1 rfl
    · simp at hi; subst hi; exact lv_at hl3 0 rfl
    · simp at hi
  · intro H2 locs2 lsA hlA hW2 hS2
    refine va_forget (fun q hq => ?_) ?_
    · have := hS2.2.2 q hq
      rw [hAd] at this
      exact this
    · have e1 : gx_pc TL 1021 = 1477 := rfl
      rw [e1]
      refine lv_iconst hx hb (n := 1) (v := 1) (by decide +kernel) (by decide +kernel) ?_
      exact lw_ret hx hb hr hlocks (by decide +kernel)
